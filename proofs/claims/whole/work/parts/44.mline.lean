-- ===== the model: lines =====
theorem m96 {sc : XT} (N : TN) (L : TL) (c n f u : Nat) (hc : c < 144) (hn : n < 2 ^ 31) (h9 : N 34 0 c ≤ 9) (hl : 0 < N 34 0 c → 1 ≤ N 23 0 14) (hl2 : N 23 0 14 < 2 ^ 30) : Sem sc 96 0 [(0, aR 23 0), (1, aN c), (2, aN n), (3, aN f), (4, aN u)] [] (wd N L) 0 0 (QP none (upN (upN (upN (upN N 23 0 14 (N 23 0 14 + (if n = 0 then 0 else 1) - (if N 34 0 c = 0 then 0 else 1))) 34 0 c n) 35 0 c f) 36 0 c u) L) := by
  refine Sem.seg [(.aload_n 0, 0, 0), (.aload_n 0, 0, 0), (.getfield 109, 5, 14), (.iload_n 2, 0, 0)] ⟨⟨d96_0, trivial⟩, ⟨d96_1, trivial⟩, ⟨d96_2, gf5_109⟩, ⟨d96_5, trivial⟩, trivial⟩ (lv' := [(0, aR 23 0), (1, aN c), (2, aN n), (3, aN f), (4, aN u)]) (st' := [aN n, aN (N 23 0 14), aR 23 0]) (w' := wd N L) (P := [vld NN 23 0]) rfl (vN (t := 23) (i := 0) (by decide)) (pc' := 6) rfl ?_
  refine Sem.ifN (tgt := 13) d96_6 (by decide) (show n < 2 ^ 31 by omega) (fun b1 => ?_) (fun b1 => ?_)
  · have b1_ : n ≤ 0 := b1
    refine Sem.seg [(.iconst 0, 0, 0), (.iadd, 0, 0), (.aload_n 0, 0, 0), (.getfield 40, 5, 11), (.iload_n 1, 0, 0), (.iaload, 0, 0)] ⟨⟨d96_13, trivial⟩, ⟨d96_14, trivial⟩, ⟨d96_15, trivial⟩, ⟨d96_16, gf5_40⟩, ⟨d96_19, trivial⟩, ⟨d96_20, trivial⟩, trivial⟩ (lv' := [(0, aR 23 0), (1, aN c), (2, aN n), (3, aN f), (4, aN u)]) (st' := [aN (N 34 0 c), aN ((N 23 0 14) + 0), aR 23 0]) (w' := wd N L) (P := [vld NN 23 0, vld NN 34 0, c < 144]) rfl (⟨vN (t := 23) (i := 0) (by decide), vN (t := 34) (i := 0) (by decide), (show c < 144 by omega)⟩) (pc' := 21) rfl ?_
    refine Sem.ifN (tgt := 28) d96_21 (by decide) (show N 34 0 c < 2 ^ 31 by omega) (fun b2 => ?_) (fun b2 => ?_)
    · have b2_ : N 34 0 c ≤ 0 := b2
      refine Sem.seg [(.iconst 0, 0, 0), (.isub, 0, 0)] ⟨⟨d96_28, trivial⟩, ⟨d96_29, trivial⟩, trivial⟩ (lv' := [(0, aR 23 0), (1, aN c), (2, aN n), (3, aN f), (4, aN u)]) (st' := [aI ((nI ((N 23 0 14) + 0)) - (nI 0)), aR 23 0]) (w' := wd N L) (P := []) rfl (trivial) (pc' := 30) rfl ?_
      refine Sem.topN (show (nI ((N 23 0 14) + 0)) - (nI 0) = nI (N 23 0 14 + (if n = 0 then 0 else 1) - (if N 34 0 c = 0 then 0 else 1)) from by rw [nI_sub (by omega)]; congr 1; (repeat' split) <;> omega) ?_
      refine Sem.seg [(.putfield 109, 5, 14), (.aload_n 0, 0, 0), (.getfield 40, 5, 11), (.iload_n 1, 0, 0), (.iload_n 2, 0, 0), (.iastore, 0, 0), (.aload_n 0, 0, 0), (.getfield 43, 5, 12), (.iload_n 1, 0, 0)] ⟨⟨d96_30, gf5_109⟩, ⟨d96_33, trivial⟩, ⟨d96_34, gf5_40⟩, ⟨d96_37, trivial⟩, ⟨d96_38, trivial⟩, ⟨d96_39, trivial⟩, ⟨d96_40, trivial⟩, ⟨d96_41, gf5_43⟩, ⟨d96_44, trivial⟩, trivial⟩ (lv' := [(0, aR 23 0), (1, aN c), (2, aN n), (3, aN f), (4, aN u)]) (st' := [aN c, aR 35 0]) (w' := wd (upN (upN N 23 0 14 (N 23 0 14 + (if n = 0 then 0 else 1) - (if N 34 0 c = 0 then 0 else 1))) 34 0 c n) L) (P := [vld NN 23 0, vld NN 23 0, vld NN 34 0, c < 144, vld NN 23 0]) rfl (⟨vN (t := 23) (i := 0) (by decide), vN (t := 23) (i := 0) (by decide), vN (t := 34) (i := 0) (by decide), (show c < 144 by omega), vN (t := 23) (i := 0) (by decide)⟩) (pc' := 45) rfl ?_
      refine Sem.seg [(.iload_n 3, 0, 0), (.iastore, 0, 0), (.aload_n 0, 0, 0), (.getfield 46, 5, 13), (.iload_n 1, 0, 0), (.iload 4, 0, 0), (.iastore, 0, 0)] ⟨⟨d96_45, trivial⟩, ⟨d96_46, trivial⟩, ⟨d96_47, trivial⟩, ⟨d96_48, gf5_46⟩, ⟨d96_51, trivial⟩, ⟨d96_52, trivial⟩, ⟨d96_54, trivial⟩, trivial⟩ (lv' := [(0, aR 23 0), (1, aN c), (2, aN n), (3, aN f), (4, aN u)]) (st' := []) (w' := wd (upN (upN (upN (upN N 23 0 14 (N 23 0 14 + (if n = 0 then 0 else 1) - (if N 34 0 c = 0 then 0 else 1))) 34 0 c n) 35 0 c f) 36 0 c u) L) (P := [vld NN 35 0, c < 144, vld NN 23 0, vld NN 36 0, c < 144]) rfl (⟨vN (t := 35) (i := 0) (by decide), (show c < 144 by omega), vN (t := 23) (i := 0) (by decide), vN (t := 36) (i := 0) (by decide), (show c < 144 by omega)⟩) (pc' := 55) rfl ?_
      exact Sem.vret d96_55 rfl (by decide) (by decide) hzW ⟨rfl, rfl⟩
    · have b2_ : ¬ (N 34 0 c ≤ 0) := b2
      refine Sem.seg [(.iconst 1, 0, 0)] ⟨⟨d96_24, trivial⟩, trivial⟩ (lv' := [(0, aR 23 0), (1, aN c), (2, aN n), (3, aN f), (4, aN u)]) (st' := [aN 1, aN ((N 23 0 14) + 0), aR 23 0]) (w' := wd N L) (P := []) rfl (trivial) (pc' := 25) rfl ?_
      refine Sem.goto (tgt := 29) d96_25 (by decide) ?_
      refine Sem.seg [(.isub, 0, 0)] ⟨⟨d96_29, trivial⟩, trivial⟩ (lv' := [(0, aR 23 0), (1, aN c), (2, aN n), (3, aN f), (4, aN u)]) (st' := [aI ((nI ((N 23 0 14) + 0)) - (nI 1)), aR 23 0]) (w' := wd N L) (P := []) rfl (trivial) (pc' := 30) rfl ?_
      refine Sem.topN (show (nI ((N 23 0 14) + 0)) - (nI 1) = nI (N 23 0 14 + (if n = 0 then 0 else 1) - (if N 34 0 c = 0 then 0 else 1)) from by rw [nI_sub (by omega)]; congr 1; (repeat' split) <;> omega) ?_
      refine Sem.seg [(.putfield 109, 5, 14), (.aload_n 0, 0, 0), (.getfield 40, 5, 11), (.iload_n 1, 0, 0), (.iload_n 2, 0, 0), (.iastore, 0, 0), (.aload_n 0, 0, 0), (.getfield 43, 5, 12), (.iload_n 1, 0, 0)] ⟨⟨d96_30, gf5_109⟩, ⟨d96_33, trivial⟩, ⟨d96_34, gf5_40⟩, ⟨d96_37, trivial⟩, ⟨d96_38, trivial⟩, ⟨d96_39, trivial⟩, ⟨d96_40, trivial⟩, ⟨d96_41, gf5_43⟩, ⟨d96_44, trivial⟩, trivial⟩ (lv' := [(0, aR 23 0), (1, aN c), (2, aN n), (3, aN f), (4, aN u)]) (st' := [aN c, aR 35 0]) (w' := wd (upN (upN N 23 0 14 (N 23 0 14 + (if n = 0 then 0 else 1) - (if N 34 0 c = 0 then 0 else 1))) 34 0 c n) L) (P := [vld NN 23 0, vld NN 23 0, vld NN 34 0, c < 144, vld NN 23 0]) rfl (⟨vN (t := 23) (i := 0) (by decide), vN (t := 23) (i := 0) (by decide), vN (t := 34) (i := 0) (by decide), (show c < 144 by omega), vN (t := 23) (i := 0) (by decide)⟩) (pc' := 45) rfl ?_
      refine Sem.seg [(.iload_n 3, 0, 0), (.iastore, 0, 0), (.aload_n 0, 0, 0), (.getfield 46, 5, 13), (.iload_n 1, 0, 0), (.iload 4, 0, 0), (.iastore, 0, 0)] ⟨⟨d96_45, trivial⟩, ⟨d96_46, trivial⟩, ⟨d96_47, trivial⟩, ⟨d96_48, gf5_46⟩, ⟨d96_51, trivial⟩, ⟨d96_52, trivial⟩, ⟨d96_54, trivial⟩, trivial⟩ (lv' := [(0, aR 23 0), (1, aN c), (2, aN n), (3, aN f), (4, aN u)]) (st' := []) (w' := wd (upN (upN (upN (upN N 23 0 14 (N 23 0 14 + (if n = 0 then 0 else 1) - (if N 34 0 c = 0 then 0 else 1))) 34 0 c n) 35 0 c f) 36 0 c u) L) (P := [vld NN 35 0, c < 144, vld NN 23 0, vld NN 36 0, c < 144]) rfl (⟨vN (t := 35) (i := 0) (by decide), (show c < 144 by omega), vN (t := 23) (i := 0) (by decide), vN (t := 36) (i := 0) (by decide), (show c < 144 by omega)⟩) (pc' := 55) rfl ?_
      exact Sem.vret d96_55 rfl (by decide) (by decide) hzW ⟨rfl, rfl⟩
  · have b1_ : ¬ (n ≤ 0) := b1
    refine Sem.seg [(.iconst 1, 0, 0)] ⟨⟨d96_9, trivial⟩, trivial⟩ (lv' := [(0, aR 23 0), (1, aN c), (2, aN n), (3, aN f), (4, aN u)]) (st' := [aN 1, aN (N 23 0 14), aR 23 0]) (w' := wd N L) (P := []) rfl (trivial) (pc' := 10) rfl ?_
    refine Sem.goto (tgt := 14) d96_10 (by decide) ?_
    refine Sem.seg [(.iadd, 0, 0), (.aload_n 0, 0, 0), (.getfield 40, 5, 11), (.iload_n 1, 0, 0), (.iaload, 0, 0)] ⟨⟨d96_14, trivial⟩, ⟨d96_15, trivial⟩, ⟨d96_16, gf5_40⟩, ⟨d96_19, trivial⟩, ⟨d96_20, trivial⟩, trivial⟩ (lv' := [(0, aR 23 0), (1, aN c), (2, aN n), (3, aN f), (4, aN u)]) (st' := [aN (N 34 0 c), aN ((N 23 0 14) + 1), aR 23 0]) (w' := wd N L) (P := [vld NN 23 0, vld NN 34 0, c < 144]) rfl (⟨vN (t := 23) (i := 0) (by decide), vN (t := 34) (i := 0) (by decide), (show c < 144 by omega)⟩) (pc' := 21) rfl ?_
    refine Sem.ifN (tgt := 28) d96_21 (by decide) (show N 34 0 c < 2 ^ 31 by omega) (fun b3 => ?_) (fun b3 => ?_)
    · have b3_ : N 34 0 c ≤ 0 := b3
      refine Sem.seg [(.iconst 0, 0, 0), (.isub, 0, 0)] ⟨⟨d96_28, trivial⟩, ⟨d96_29, trivial⟩, trivial⟩ (lv' := [(0, aR 23 0), (1, aN c), (2, aN n), (3, aN f), (4, aN u)]) (st' := [aI ((nI ((N 23 0 14) + 1)) - (nI 0)), aR 23 0]) (w' := wd N L) (P := []) rfl (trivial) (pc' := 30) rfl ?_
      refine Sem.topN (show (nI ((N 23 0 14) + 1)) - (nI 0) = nI (N 23 0 14 + (if n = 0 then 0 else 1) - (if N 34 0 c = 0 then 0 else 1)) from by rw [nI_sub (by omega)]; congr 1; (repeat' split) <;> omega) ?_
      refine Sem.seg [(.putfield 109, 5, 14), (.aload_n 0, 0, 0), (.getfield 40, 5, 11), (.iload_n 1, 0, 0), (.iload_n 2, 0, 0), (.iastore, 0, 0), (.aload_n 0, 0, 0), (.getfield 43, 5, 12), (.iload_n 1, 0, 0)] ⟨⟨d96_30, gf5_109⟩, ⟨d96_33, trivial⟩, ⟨d96_34, gf5_40⟩, ⟨d96_37, trivial⟩, ⟨d96_38, trivial⟩, ⟨d96_39, trivial⟩, ⟨d96_40, trivial⟩, ⟨d96_41, gf5_43⟩, ⟨d96_44, trivial⟩, trivial⟩ (lv' := [(0, aR 23 0), (1, aN c), (2, aN n), (3, aN f), (4, aN u)]) (st' := [aN c, aR 35 0]) (w' := wd (upN (upN N 23 0 14 (N 23 0 14 + (if n = 0 then 0 else 1) - (if N 34 0 c = 0 then 0 else 1))) 34 0 c n) L) (P := [vld NN 23 0, vld NN 23 0, vld NN 34 0, c < 144, vld NN 23 0]) rfl (⟨vN (t := 23) (i := 0) (by decide), vN (t := 23) (i := 0) (by decide), vN (t := 34) (i := 0) (by decide), (show c < 144 by omega), vN (t := 23) (i := 0) (by decide)⟩) (pc' := 45) rfl ?_
      refine Sem.seg [(.iload_n 3, 0, 0), (.iastore, 0, 0), (.aload_n 0, 0, 0), (.getfield 46, 5, 13), (.iload_n 1, 0, 0), (.iload 4, 0, 0), (.iastore, 0, 0)] ⟨⟨d96_45, trivial⟩, ⟨d96_46, trivial⟩, ⟨d96_47, trivial⟩, ⟨d96_48, gf5_46⟩, ⟨d96_51, trivial⟩, ⟨d96_52, trivial⟩, ⟨d96_54, trivial⟩, trivial⟩ (lv' := [(0, aR 23 0), (1, aN c), (2, aN n), (3, aN f), (4, aN u)]) (st' := []) (w' := wd (upN (upN (upN (upN N 23 0 14 (N 23 0 14 + (if n = 0 then 0 else 1) - (if N 34 0 c = 0 then 0 else 1))) 34 0 c n) 35 0 c f) 36 0 c u) L) (P := [vld NN 35 0, c < 144, vld NN 23 0, vld NN 36 0, c < 144]) rfl (⟨vN (t := 35) (i := 0) (by decide), (show c < 144 by omega), vN (t := 23) (i := 0) (by decide), vN (t := 36) (i := 0) (by decide), (show c < 144 by omega)⟩) (pc' := 55) rfl ?_
      exact Sem.vret d96_55 rfl (by decide) (by decide) hzW ⟨rfl, rfl⟩
    · have b3_ : ¬ (N 34 0 c ≤ 0) := b3
      refine Sem.seg [(.iconst 1, 0, 0)] ⟨⟨d96_24, trivial⟩, trivial⟩ (lv' := [(0, aR 23 0), (1, aN c), (2, aN n), (3, aN f), (4, aN u)]) (st' := [aN 1, aN ((N 23 0 14) + 1), aR 23 0]) (w' := wd N L) (P := []) rfl (trivial) (pc' := 25) rfl ?_
      refine Sem.goto (tgt := 29) d96_25 (by decide) ?_
      refine Sem.seg [(.isub, 0, 0)] ⟨⟨d96_29, trivial⟩, trivial⟩ (lv' := [(0, aR 23 0), (1, aN c), (2, aN n), (3, aN f), (4, aN u)]) (st' := [aI ((nI ((N 23 0 14) + 1)) - (nI 1)), aR 23 0]) (w' := wd N L) (P := []) rfl (trivial) (pc' := 30) rfl ?_
      refine Sem.topN (show (nI ((N 23 0 14) + 1)) - (nI 1) = nI (N 23 0 14 + (if n = 0 then 0 else 1) - (if N 34 0 c = 0 then 0 else 1)) from by rw [nI_sub (by omega)]; congr 1; (repeat' split) <;> omega) ?_
      refine Sem.seg [(.putfield 109, 5, 14), (.aload_n 0, 0, 0), (.getfield 40, 5, 11), (.iload_n 1, 0, 0), (.iload_n 2, 0, 0), (.iastore, 0, 0), (.aload_n 0, 0, 0), (.getfield 43, 5, 12), (.iload_n 1, 0, 0)] ⟨⟨d96_30, gf5_109⟩, ⟨d96_33, trivial⟩, ⟨d96_34, gf5_40⟩, ⟨d96_37, trivial⟩, ⟨d96_38, trivial⟩, ⟨d96_39, trivial⟩, ⟨d96_40, trivial⟩, ⟨d96_41, gf5_43⟩, ⟨d96_44, trivial⟩, trivial⟩ (lv' := [(0, aR 23 0), (1, aN c), (2, aN n), (3, aN f), (4, aN u)]) (st' := [aN c, aR 35 0]) (w' := wd (upN (upN N 23 0 14 (N 23 0 14 + (if n = 0 then 0 else 1) - (if N 34 0 c = 0 then 0 else 1))) 34 0 c n) L) (P := [vld NN 23 0, vld NN 23 0, vld NN 34 0, c < 144, vld NN 23 0]) rfl (⟨vN (t := 23) (i := 0) (by decide), vN (t := 23) (i := 0) (by decide), vN (t := 34) (i := 0) (by decide), (show c < 144 by omega), vN (t := 23) (i := 0) (by decide)⟩) (pc' := 45) rfl ?_
      refine Sem.seg [(.iload_n 3, 0, 0), (.iastore, 0, 0), (.aload_n 0, 0, 0), (.getfield 46, 5, 13), (.iload_n 1, 0, 0), (.iload 4, 0, 0), (.iastore, 0, 0)] ⟨⟨d96_45, trivial⟩, ⟨d96_46, trivial⟩, ⟨d96_47, trivial⟩, ⟨d96_48, gf5_46⟩, ⟨d96_51, trivial⟩, ⟨d96_52, trivial⟩, ⟨d96_54, trivial⟩, trivial⟩ (lv' := [(0, aR 23 0), (1, aN c), (2, aN n), (3, aN f), (4, aN u)]) (st' := []) (w' := wd (upN (upN (upN (upN N 23 0 14 (N 23 0 14 + (if n = 0 then 0 else 1) - (if N 34 0 c = 0 then 0 else 1))) 34 0 c n) 35 0 c f) 36 0 c u) L) (P := [vld NN 35 0, c < 144, vld NN 23 0, vld NN 36 0, c < 144]) rfl (⟨vN (t := 35) (i := 0) (by decide), (show c < 144 by omega), vN (t := 23) (i := 0) (by decide), vN (t := 36) (i := 0) (by decide), (show c < 144 by omega)⟩) (pc' := 55) rfl ?_
      exact Sem.vret d96_55 rfl (by decide) (by decide) hzW ⟨rfl, rfl⟩

theorem sl_sn {N N1 : TN} {c n : Nat} (h1 : ∀ j, N1 34 0 j = if j = c then n else N 34 0 j) (hsn : SN (eg (mN N))) (h24 : ¬ n = 0 → N 34 0 c = 0 → N 23 0 14 < 24) : SN (eg (mN N1)) ↔ (n = 0 ∨ fitP (mN N) c) := by
  have e1 : ∀ a b, eg (mN N1) a b ↔ 0 < (if a * 12 + b = c then n else N 34 0 (a * 12 + b)) := fun a b => by
    show 0 < N1 34 0 (a * 12 + b) ↔ _
    rw [h1]
  have e2 : ∀ a b, eg (mN N) a b ↔ 0 < N 34 0 (a * 12 + b) := fun a b => Iff.rfl
  have e3 : ∀ a b, edm (mN N) (c : Int) a b ↔ ((c : Int) = ((a * 12 + b : Nat) : Int) ∨ 0 < N 34 0 (a * 12 + b)) := fun a b => Iff.rfl
  constructor
  · intro h
    by_cases hn : n = 0
    · exact Or.inl hn
    · right
      by_cases hp : N 34 0 c = 0
      · refine Or.inr ⟨h24 hn hp, fun i hi w => h i hi (wk_mono (fun a b _ _ q => ?_) hi w)⟩
        rw [e1]
        rw [e3] at q
        split
        · omega
        · rename_i z
          rcases q with q | q
          · exact absurd (by omega) z
          · exact q
      · exact Or.inl (show 0 < N 34 0 c by omega)
  · rintro (hn | hf)
    · intro i hi w
      refine hsn i hi (wk_mono (fun a b _ _ q => ?_) hi w)
      rw [e1] at q
      rw [e2]
      split at q
      · omega
      · exact q
    · rcases hf with hf | ⟨_, hf⟩
      · have hf : 0 < N 34 0 c := hf
        intro i hi w
        refine hsn i hi (wk_mono (fun a b _ _ q => ?_) hi w)
        rw [e1] at q
        rw [e2]
        split at q
        · rename_i z; rw [z]; exact hf
        · exact q
      · intro i hi w
        refine hf i hi (wk_mono (fun a b _ _ q => ?_) hi w)
        rw [e1] at q
        rw [e3]
        split at q
        · rename_i z; exact Or.inl (by omega)
        · exact Or.inr q
theorem sl_back {N : TN} {c n f u l l' : Nat} (hl : l' = N 23 0 14) : upN (upN (upN (upN (upN (upN (upN (upN (upN (upN (upN N 23 0 0 0) 23 0 0 0) 23 0 14 l) 34 0 c n) 35 0 c f) 36 0 c u) 23 0 14 l') 34 0 c (N 34 0 c)) 35 0 c (N 35 0 c)) 36 0 c (N 36 0 c)) 23 0 0 3 = upN N 23 0 0 3 := by
  subst hl
  funext t a b
  simp only [upN]
  by_cases h1 : t = 23 ∧ a = 0 ∧ b = 0
  · simp [h1]
  · by_cases h2 : t = 36 ∧ a = 0 ∧ b = c
    · obtain ⟨rfl, rfl, rfl⟩ := h2; simp
    · by_cases h3 : t = 35 ∧ a = 0 ∧ b = c
      · obtain ⟨rfl, rfl, rfl⟩ := h3; simp
      · by_cases h4 : t = 34 ∧ a = 0 ∧ b = c
        · obtain ⟨rfl, rfl, rfl⟩ := h4; simp
        · by_cases h5 : t = 23 ∧ a = 0 ∧ b = 14
          · obtain ⟨rfl, rfl, rfl⟩ := h5; simp
          · simp only [h1, h2, h3, h4, h5, if_false]

theorem m96b {sc : XT} (N : TN) (L : TL) (c m n f u : Nat) (hc : c < 144) (hn : n < 2 ^ 31) (e34 : N 34 0 c = m) (h9 : m ≤ 9) {l : Nat} (el : N 23 0 14 = l) (hl : 1 ≤ l + (if m = 0 then 1 else 0)) (hl2 : l < 2 ^ 30) : Sem sc 96 0 [(0, aR 23 0), (1, aN c), (2, aN n), (3, aN f), (4, aN u)] [] (wd N L) 0 0 (QP none (upN (upN (upN (upN N 23 0 14 (l + (if n = 0 then 0 else 1) - (if m = 0 then 0 else 1))) 34 0 c n) 35 0 c f) 36 0 c u) L) := by
  subst e34 el
  exact m96 N L c n f u hc hn h9 (fun q => by rw [if_neg (by omega)] at hl; omega) hl2

theorem m95 {sc : XT} (N : TN) (L : TL) (p c n f u : Int32) (h9 : ∀ c, c < 144 → N 34 0 c ≤ 9) (hl0 : N 23 0 14 ≤ 24) (hl1 : ∀ c, c < 144 → 0 < N 34 0 c → 1 ≤ N 23 0 14) (hsn : SN (eg (mN N))) : Sem sc 95 0 [(0, aR 23 0), (1, aI p), (2, aI c), (3, aI n), (4, aI f), (5, aI u)] [] (wd N L) 0 0 (Q0 fun N' L' => L = L' ∧ (cLine (mN N) p c n f u = 0 → N' = upN (upN (upN (upN (upN (upN (upN (upN N 23 0 0 0) 23 0 0 0) 23 0 14 (N 23 0 14 + (if n.toInt.toNat = 0 then 0 else 1) - (if N 34 0 (p.toInt.toNat * 12 + c.toInt.toNat) = 0 then 0 else 1))) 34 0 (p.toInt.toNat * 12 + c.toInt.toNat) n.toInt.toNat) 35 0 (p.toInt.toNat * 12 + c.toInt.toNat) (tn f)) 36 0 (p.toInt.toNat * 12 + c.toInt.toNat) (tn u)) 41 0 c.toInt.toNat 1) 23 0 20 1) ∧ (¬ cLine (mN N) p c n f u = 0 → N' = upN N 23 0 0 (cLine (mN N) p c n f u))) := by
  refine Sem.seg [(.iload_n 3, 0, 0)] ⟨⟨d95_0, trivial⟩, trivial⟩ (lv' := [(0, aR 23 0), (1, aI p), (2, aI c), (3, aI n), (4, aI f), (5, aI u)]) (st' := [aI n]) (w' := wd N L) (P := []) rfl (trivial) (pc' := 1) rfl ?_
  refine Sem.ifc (tgt := 27) d95_1 (by decide) rfl (fun b1 => ?_) (fun b1 => ?_)
  · have b1_ : n.toInt = 0 := bT rfl rfl b1
    refine Sem.seg [(.iconst 1, 0, 0)] ⟨⟨d95_27, trivial⟩, trivial⟩ (lv' := [(0, aR 23 0), (1, aI p), (2, aI c), (3, aI n), (4, aI f), (5, aI u)]) (st' := [aN 1]) (w' := wd N L) (P := []) rfl (trivial) (pc' := 28) rfl ?_
    refine Sem.goto (tgt := 32) d95_28 (by decide) ?_
    refine Sem.seg [(.istore 6, 0, 0), (.aload_n 0, 0, 0), (.iload_n 1, 0, 0)] ⟨⟨d95_32, trivial⟩, ⟨d95_34, trivial⟩, ⟨d95_35, trivial⟩, trivial⟩ (lv' := [(6, aN 1), (0, aR 23 0), (1, aI p), (2, aI c), (3, aI n), (4, aI f), (5, aI u)]) (st' := [aI p, aR 23 0]) (w' := wd N L) (P := []) rfl (trivial) (pc' := 36) rfl ?_
    by_cases h2 : 0 ≤ p.toInt ∧ p.toInt < 12
    case pos =>
      refine Sem.cSp1 (as := [aI p]) (rst := [aR 23 0]) (c' := 0) (s' := 0) d95_36 mk90 rfl co90 lk5_93 ss90 (show 1 ≤ mL 90 by decide) rfl (show 1 ≤ 8 by decide) (by decide) (by decide) rfl rfl (by decide) (by decide) (m90 (N) L p) ?_
      refine Sem.topNN (if_pos h2) ?_
      refine Sem.ifN (tgt := 49) d95_39 (by decide) (by decide) (fun b3 => ?_) (fun b3 => ?_)
      · exact absurd (show 1 = 0 from b3) (by decide)
      refine Sem.seg [(.iload_n 2, 0, 0)] ⟨⟨d95_42, trivial⟩, trivial⟩ (lv' := [(6, aN 1), (0, aR 23 0), (1, aI p), (2, aI c), (3, aI n), (4, aI f), (5, aI u)]) (st' := [aI c, aR 23 0]) (w' := wd N L) (P := []) rfl (trivial) (pc' := 43) rfl ?_
      by_cases h4 : 0 ≤ c.toInt ∧ c.toInt < 12
      case pos =>
        refine Sem.cSp1 (as := [aI c]) (rst := [aR 23 0]) (c' := 0) (s' := 0) d95_43 mk90 rfl co90 lk5_93 ss90 (show 1 ≤ mL 90 by decide) rfl (show 1 ≤ 8 by decide) (by decide) (by decide) rfl rfl (by decide) (by decide) (m90 (N) L c) ?_
        refine Sem.topNN (if_pos h4) ?_
        refine Sem.ifN (tgt := 53) d95_46 (by decide) (by decide) (fun b5 => ?_) (fun b5 => ?_)
        rotate_left
        · exact absurd (show ¬ 1 = 0 from by decide) b5
        refine Sem.seg [(.iload_n 3, 0, 0), (.iconst 0, 0, 0), (.bipush 9, 0, 0)] ⟨⟨d95_53, trivial⟩, ⟨d95_54, trivial⟩, ⟨d95_55, trivial⟩, trivial⟩ (lv' := [(6, aN 1), (0, aR 23 0), (1, aI p), (2, aI c), (3, aI n), (4, aI f), (5, aI u)]) (st' := [aN 9, aN 0, aI n, aR 23 0]) (w' := wd N L) (P := []) rfl (trivial) (pc' := 57) rfl ?_
        by_cases h6 : ((0 : Nat) : Int) ≤ n.toInt ∧ n.toInt ≤ ((9 : Nat) : Int)
        case pos =>
          refine Sem.cSp1 (as := [aI n, aN 0, aN 9]) (rst := [aR 23 0]) (c' := 0) (s' := 0) d95_57 mk89 rfl co89 lk5_89 ss89 (show 3 ≤ mL 89 by decide) rfl (show 1 ≤ 8 by decide) (by decide) (by decide) rfl rfl (by decide) (by decide) (m89 (N) L n 0 9 (by decide) (by decide)) ?_
          refine Sem.topNN (if_pos h6) ?_
          refine Sem.ifN (tgt := 68) d95_60 (by decide) (by decide) (fun b7 => ?_) (fun b7 => ?_)
          · exact absurd (show 1 = 0 from b7) (by decide)
          refine Sem.seg [(.iload 6, 0, 0)] ⟨⟨d95_63, trivial⟩, trivial⟩ (lv' := [(6, aN 1), (0, aR 23 0), (1, aI p), (2, aI c), (3, aI n), (4, aI f), (5, aI u)]) (st' := [aN 1, aR 23 0]) (w' := wd N L) (P := []) rfl (trivial) (pc' := 65) rfl ?_
          refine Sem.ifN (tgt := 72) d95_65 (by decide) (by decide) (fun b8 => ?_) (fun b8 => ?_)
          rotate_left
          · exact absurd (show ¬ 1 = 0 from by decide) b8
          refine Sem.seg [(.iconst 0, 0, 0)] ⟨⟨d95_72, trivial⟩, trivial⟩ (lv' := [(6, aN 1), (0, aR 23 0), (1, aI p), (2, aI c), (3, aI n), (4, aI f), (5, aI u)]) (st' := [aN 0, aR 23 0]) (w' := wd N L) (P := []) rfl (trivial) (pc' := 73) rfl ?_
          refine Sem.cVp1 (t := 23) (i := 0) (as := [aN 0]) (rst := []) (c' := 0) (s' := 0) d95_73 mk91 rfl co91 lk5_97 im91 se91 rfl (vN (t := 23) (i := 0) (by decide)) (show 2 ≤ mL 91 by decide) rfl (show 0 ≤ 8 by decide) (by decide) (by decide) rfl rfl (by decide) (by decide) (m91 (N) L 0 (by decide)) ?_
          refine Sem.topNN (show (if 0 < 0 then 1 else 0) = 0 from rfl) ?_
          refine Sem.ifN (tgt := 80) d95_76 (by decide) (by decide) (fun b9 => ?_) (fun b9 => ?_)
          rotate_left
          · exact absurd (show 0 = 0 from by decide) b9
          refine Sem.pick [2, 0, 1, 3, 4, 5, 6] (lv' := [(1, aI p), (6, aN 1), (0, aR 23 0), (2, aI c), (3, aI n), (4, aI f), (5, aI u)]) rfl ?_
          refine Sem.loc0 (show p = nI p.toInt.toNat from i_nI2 (by omega)) ?_
          refine Sem.pick [3, 0, 1, 2, 4, 5, 6] (lv' := [(2, aI c), (1, aN p.toInt.toNat), (6, aN 1), (0, aR 23 0), (3, aI n), (4, aI f), (5, aI u)]) rfl ?_
          refine Sem.loc0 (show c = nI c.toInt.toNat from i_nI2 (by omega)) ?_
          refine Sem.pick [4, 0, 1, 2, 3, 5, 6] (lv' := [(3, aI n), (2, aN c.toInt.toNat), (1, aN p.toInt.toNat), (6, aN 1), (0, aR 23 0), (4, aI f), (5, aI u)]) rfl ?_
          refine Sem.loc0 (show n = nI n.toInt.toNat from i_nI2 (by omega)) ?_
          refine Sem.pick [5, 0, 1, 2, 3, 4, 6] (lv' := [(4, aI f), (3, aN n.toInt.toNat), (2, aN c.toInt.toNat), (1, aN p.toInt.toNat), (6, aN 1), (0, aR 23 0), (5, aI u)]) rfl ?_
          refine Sem.loc0 (show f = nI (tn f) from (nI_tn f).symm) ?_
          refine Sem.pick [6, 0, 1, 2, 3, 4, 5] (lv' := [(5, aI u), (4, aN (tn f)), (3, aN n.toInt.toNat), (2, aN c.toInt.toNat), (1, aN p.toInt.toNat), (6, aN 1), (0, aR 23 0)]) rfl ?_
          refine Sem.loc0 (show u = nI (tn u) from (nI_tn u).symm) ?_
          have e9 := h9 (p.toInt.toNat * 12 + c.toInt.toNat) (by omega)
          have hl1 := hl1 (p.toInt.toNat * 12 + c.toInt.toNat) (by omega)
          refine Sem.seg [(.bipush 12, 0, 0), (.iload_n 1, 0, 0), (.imul, 0, 0), (.iload_n 2, 0, 0), (.iadd, 0, 0)] ⟨⟨d95_80, trivial⟩, ⟨d95_82, trivial⟩, ⟨d95_83, trivial⟩, ⟨d95_84, trivial⟩, ⟨d95_85, trivial⟩, trivial⟩ (lv' := [(5, aN (tn u)), (4, aN (tn f)), (3, aN n.toInt.toNat), (2, aN c.toInt.toNat), (1, aN p.toInt.toNat), (6, aN 1), (0, aR 23 0)]) (st' := [aN ((12 * p.toInt.toNat) + c.toInt.toNat)]) (w' := wd (upN N 23 0 0 0) L) (P := []) rfl (trivial) (pc' := 86) rfl ?_
          refine Sem.topNN (show (12 * p.toInt.toNat) + c.toInt.toNat = p.toInt.toNat * 12 + c.toInt.toNat from by omega) ?_
          refine Sem.seg [(.istore 7, 0, 0), (.aload_n 0, 0, 0), (.getfield 40, 5, 11), (.iload 7, 0, 0), (.iaload, 0, 0), (.istore 8, 0, 0), (.aload_n 0, 0, 0), (.getfield 43, 5, 12), (.iload 7, 0, 0)] ⟨⟨d95_86, trivial⟩, ⟨d95_88, trivial⟩, ⟨d95_89, gf5_40⟩, ⟨d95_92, trivial⟩, ⟨d95_94, trivial⟩, ⟨d95_95, trivial⟩, ⟨d95_97, trivial⟩, ⟨d95_98, gf5_43⟩, ⟨d95_101, trivial⟩, trivial⟩ (lv' := [(8, aN (N 34 0 (p.toInt.toNat * 12 + c.toInt.toNat))), (7, aN (p.toInt.toNat * 12 + c.toInt.toNat)), (5, aN (tn u)), (4, aN (tn f)), (3, aN n.toInt.toNat), (2, aN c.toInt.toNat), (1, aN p.toInt.toNat), (6, aN 1), (0, aR 23 0)]) (st' := [aN (p.toInt.toNat * 12 + c.toInt.toNat), aR 35 0]) (w' := wd (upN N 23 0 0 0) L) (P := [vld NN 23 0, vld NN 34 0, p.toInt.toNat * 12 + c.toInt.toNat < 144, vld NN 23 0]) rfl (⟨vN (t := 23) (i := 0) (by decide), vN (t := 34) (i := 0) (by decide), (show p.toInt.toNat * 12 + c.toInt.toNat < 144 by omega), vN (t := 23) (i := 0) (by decide)⟩) (pc' := 103) rfl ?_
          refine Sem.seg [(.iaload, 0, 0), (.istore 9, 0, 0), (.aload_n 0, 0, 0), (.getfield 46, 5, 13), (.iload 7, 0, 0), (.iaload, 0, 0), (.istore 10, 0, 0), (.aload_n 0, 0, 0), (.iload_n 3, 0, 0)] ⟨⟨d95_103, trivial⟩, ⟨d95_104, trivial⟩, ⟨d95_106, trivial⟩, ⟨d95_107, gf5_46⟩, ⟨d95_110, trivial⟩, ⟨d95_112, trivial⟩, ⟨d95_113, trivial⟩, ⟨d95_115, trivial⟩, ⟨d95_116, trivial⟩, trivial⟩ (lv' := [(10, aN (N 36 0 (p.toInt.toNat * 12 + c.toInt.toNat))), (9, aN (N 35 0 (p.toInt.toNat * 12 + c.toInt.toNat))), (8, aN (N 34 0 (p.toInt.toNat * 12 + c.toInt.toNat))), (7, aN (p.toInt.toNat * 12 + c.toInt.toNat)), (5, aN (tn u)), (4, aN (tn f)), (3, aN n.toInt.toNat), (2, aN c.toInt.toNat), (1, aN p.toInt.toNat), (6, aN 1), (0, aR 23 0)]) (st' := [aN n.toInt.toNat, aR 23 0]) (w' := wd (upN N 23 0 0 0) L) (P := [vld NN 35 0, p.toInt.toNat * 12 + c.toInt.toNat < 144, vld NN 23 0, vld NN 36 0, p.toInt.toNat * 12 + c.toInt.toNat < 144]) rfl (⟨vN (t := 35) (i := 0) (by decide), (show p.toInt.toNat * 12 + c.toInt.toNat < 144 by omega), vN (t := 23) (i := 0) (by decide), vN (t := 36) (i := 0) (by decide), (show p.toInt.toNat * 12 + c.toInt.toNat < 144 by omega)⟩) (pc' := 117) rfl ?_
          refine Sem.ifN (tgt := 138) d95_117 (by decide) (show n.toInt.toNat < 2 ^ 31 by omega) (fun b10 => ?_) (fun b10 => ?_)
          · have b10_ : n.toInt.toNat ≤ 0 := b10
            refine Sem.seg [(.iconst 0, 0, 0)] ⟨⟨d95_138, trivial⟩, trivial⟩ (lv' := [(10, aN (N 36 0 (p.toInt.toNat * 12 + c.toInt.toNat))), (9, aN (N 35 0 (p.toInt.toNat * 12 + c.toInt.toNat))), (8, aN (N 34 0 (p.toInt.toNat * 12 + c.toInt.toNat))), (7, aN (p.toInt.toNat * 12 + c.toInt.toNat)), (5, aN (tn u)), (4, aN (tn f)), (3, aN n.toInt.toNat), (2, aN c.toInt.toNat), (1, aN p.toInt.toNat), (6, aN 1), (0, aR 23 0)]) (st' := [aN 0, aR 23 0]) (w' := wd (upN N 23 0 0 0) L) (P := []) rfl (trivial) (pc' := 139) rfl ?_
            refine Sem.cVp1 (t := 23) (i := 0) (as := [aN 0]) (rst := []) (c' := 0) (s' := 0) d95_139 mk91 rfl co91 lk5_97 im91 se91 rfl (vN (t := 23) (i := 0) (by decide)) (show 2 ≤ mL 91 by decide) rfl (show 0 ≤ 8 by decide) (by decide) (by decide) rfl rfl (by decide) (by decide) (m91 (upN N 23 0 0 0) L 0 (by decide)) ?_
            refine Sem.topNN (show (if 0 < 0 then 1 else 0) = 0 from rfl) ?_
            refine Sem.ifN (tgt := 146) d95_142 (by decide) (by decide) (fun b11 => ?_) (fun b11 => ?_)
            rotate_left
            · exact absurd (show 0 = 0 from by decide) b11
            refine Sem.seg [(.aload_n 0, 0, 0), (.iload 7, 0, 0), (.iload_n 3, 0, 0), (.iload 4, 0, 0), (.iload 5, 0, 0)] ⟨⟨d95_146, trivial⟩, ⟨d95_147, trivial⟩, ⟨d95_149, trivial⟩, ⟨d95_150, trivial⟩, ⟨d95_152, trivial⟩, trivial⟩ (lv' := [(10, aN (N 36 0 (p.toInt.toNat * 12 + c.toInt.toNat))), (9, aN (N 35 0 (p.toInt.toNat * 12 + c.toInt.toNat))), (8, aN (N 34 0 (p.toInt.toNat * 12 + c.toInt.toNat))), (7, aN (p.toInt.toNat * 12 + c.toInt.toNat)), (5, aN (tn u)), (4, aN (tn f)), (3, aN n.toInt.toNat), (2, aN c.toInt.toNat), (1, aN p.toInt.toNat), (6, aN 1), (0, aR 23 0)]) (st' := [aN (tn u), aN (tn f), aN n.toInt.toNat, aN (p.toInt.toNat * 12 + c.toInt.toNat), aR 23 0]) (w' := wd (upN (upN N 23 0 0 0) 23 0 0 0) L) (P := []) rfl (trivial) (pc' := 154) rfl ?_
            refine Sem.cVp0 (t := 23) (i := 0) (as := [aN (p.toInt.toNat * 12 + c.toInt.toNat), aN n.toInt.toNat, aN (tn f), aN (tn u)]) (rst := []) (c' := 0) (s' := 0) d95_154 mk96 rfl co96 lk5_112 im96 se96 rfl (vN (t := 23) (i := 0) (by decide)) (show 5 ≤ mL 96 by decide) rfl (show 0 ≤ 8 by decide) (by decide) (by decide) rfl rfl (by decide) (by decide) (m96 (upN (upN N 23 0 0 0) 23 0 0 0) L (p.toInt.toNat * 12 + c.toInt.toNat) n.toInt.toNat (tn f) (tn u) (by omega) (by omega) (show N 34 0 (p.toInt.toNat * 12 + c.toInt.toNat) ≤ 9 by omega) (show 0 < N 34 0 (p.toInt.toNat * 12 + c.toInt.toNat) → 1 ≤ N 23 0 14 from hl1) (show N 23 0 14 < 2 ^ 30 by omega)) ?_
            have g34 : ∀ j, (upN (upN (upN (upN (upN (upN N 23 0 0 0) 23 0 0 0) 23 0 14 (N 23 0 14 + (if n.toInt.toNat = 0 then 0 else 1) - (if N 34 0 (p.toInt.toNat * 12 + c.toInt.toNat) = 0 then 0 else 1))) 34 0 (p.toInt.toNat * 12 + c.toInt.toNat) n.toInt.toNat) 35 0 (p.toInt.toNat * 12 + c.toInt.toNat) (tn f)) 36 0 (p.toInt.toNat * 12 + c.toInt.toNat) (tn u)) 34 0 j = if j = (p.toInt.toNat * 12 + c.toInt.toNat) then n.toInt.toNat else N 34 0 j := fun j => by simp [upN]
            have e34 : (upN (upN (upN (upN (upN (upN N 23 0 0 0) 23 0 0 0) 23 0 14 (N 23 0 14 + (if n.toInt.toNat = 0 then 0 else 1) - (if N 34 0 (p.toInt.toNat * 12 + c.toInt.toNat) = 0 then 0 else 1))) 34 0 (p.toInt.toNat * 12 + c.toInt.toNat) n.toInt.toNat) 35 0 (p.toInt.toNat * 12 + c.toInt.toNat) (tn f)) 36 0 (p.toInt.toNat * 12 + c.toInt.toNat) (tn u)) 34 0 (p.toInt.toNat * 12 + c.toInt.toNat) = n.toInt.toNat := by rw [g34, if_pos rfl]
            have e14 : (upN (upN (upN (upN (upN (upN N 23 0 0 0) 23 0 0 0) 23 0 14 (N 23 0 14 + (if n.toInt.toNat = 0 then 0 else 1) - (if N 34 0 (p.toInt.toNat * 12 + c.toInt.toNat) = 0 then 0 else 1))) 34 0 (p.toInt.toNat * 12 + c.toInt.toNat) n.toInt.toNat) 35 0 (p.toInt.toNat * 12 + c.toInt.toNat) (tn f)) 36 0 (p.toInt.toNat * 12 + c.toInt.toNat) (tn u)) 23 0 14 = N 23 0 14 + (if n.toInt.toNat = 0 then 0 else 1) - (if N 34 0 (p.toInt.toNat * 12 + c.toInt.toNat) = 0 then 0 else 1) := by simp [upN]
            have hss := sl_sn (N := N) g34 hsn (fun q1 q2 => by omega)
            refine Sem.seg [(.aload_n 0, 0, 0)] ⟨⟨d95_157, trivial⟩, trivial⟩ (lv' := [(10, aN (N 36 0 (p.toInt.toNat * 12 + c.toInt.toNat))), (9, aN (N 35 0 (p.toInt.toNat * 12 + c.toInt.toNat))), (8, aN (N 34 0 (p.toInt.toNat * 12 + c.toInt.toNat))), (7, aN (p.toInt.toNat * 12 + c.toInt.toNat)), (5, aN (tn u)), (4, aN (tn f)), (3, aN n.toInt.toNat), (2, aN c.toInt.toNat), (1, aN p.toInt.toNat), (6, aN 1), (0, aR 23 0)]) (st' := [aR 23 0]) (w' := wd (upN (upN (upN (upN (upN (upN N 23 0 0 0) 23 0 0 0) 23 0 14 (N 23 0 14 + (if n.toInt.toNat = 0 then 0 else 1) - (if N 34 0 (p.toInt.toNat * 12 + c.toInt.toNat) = 0 then 0 else 1))) 34 0 (p.toInt.toNat * 12 + c.toInt.toNat) n.toInt.toNat) 35 0 (p.toInt.toNat * 12 + c.toInt.toNat) (tn f)) 36 0 (p.toInt.toNat * 12 + c.toInt.toNat) (tn u)) L) (P := []) rfl (trivial) (pc' := 158) rfl ?_
            by_cases h12 : SN (eg (mN (upN (upN (upN (upN (upN (upN N 23 0 0 0) 23 0 0 0) 23 0 14 (N 23 0 14 + (if n.toInt.toNat = 0 then 0 else 1) - (if N 34 0 (p.toInt.toNat * 12 + c.toInt.toNat) = 0 then 0 else 1))) 34 0 (p.toInt.toNat * 12 + c.toInt.toNat) n.toInt.toNat) 35 0 (p.toInt.toNat * 12 + c.toInt.toNat) (tn f)) 36 0 (p.toInt.toNat * 12 + c.toInt.toNat) (tn u))))
            case pos =>
              refine Sem.cVp1 (t := 23) (i := 0) (as := []) (rst := []) (c' := 0) (s' := 0) d95_158 mk97 rfl co97 lk5_116 im97 se97 rfl (vN (t := 23) (i := 0) (by decide)) (show 1 ≤ mL 97 by decide) rfl (show 0 ≤ 8 by decide) (by decide) (by decide) rfl rfl (by decide) (by decide) (m97 (upN (upN (upN (upN (upN (upN N 23 0 0 0) 23 0 0 0) 23 0 14 (N 23 0 14 + (if n.toInt.toNat = 0 then 0 else 1) - (if N 34 0 (p.toInt.toNat * 12 + c.toInt.toNat) = 0 then 0 else 1))) 34 0 (p.toInt.toNat * 12 + c.toInt.toNat) n.toInt.toNat) 35 0 (p.toInt.toNat * 12 + c.toInt.toNat) (tn f)) 36 0 (p.toInt.toNat * 12 + c.toInt.toNat) (tn u)) L (fun j hj => by rw [g34]; split <;> first | omega | exact h9 j hj)) ?_
              refine Sem.topNN (bo_t h12) ?_
              have hS := h12
              refine Sem.ifN (tgt := 182) d95_161 (by decide) (by decide) (fun b13 => ?_) (fun b13 => ?_)
              rotate_left
              · exact absurd (show ¬ 1 = 0 from by decide) b13
              refine Sem.seg [(.aload_n 0, 0, 0), (.iload_n 2, 0, 0)] ⟨⟨d95_182, trivial⟩, ⟨d95_183, trivial⟩, trivial⟩ (lv' := [(10, aN (N 36 0 (p.toInt.toNat * 12 + c.toInt.toNat))), (9, aN (N 35 0 (p.toInt.toNat * 12 + c.toInt.toNat))), (8, aN (N 34 0 (p.toInt.toNat * 12 + c.toInt.toNat))), (7, aN (p.toInt.toNat * 12 + c.toInt.toNat)), (5, aN (tn u)), (4, aN (tn f)), (3, aN n.toInt.toNat), (2, aN c.toInt.toNat), (1, aN p.toInt.toNat), (6, aN 1), (0, aR 23 0)]) (st' := [aN c.toInt.toNat, aR 23 0]) (w' := wd (upN (upN (upN (upN (upN (upN N 23 0 0 0) 23 0 0 0) 23 0 14 (N 23 0 14 + (if n.toInt.toNat = 0 then 0 else 1) - (if N 34 0 (p.toInt.toNat * 12 + c.toInt.toNat) = 0 then 0 else 1))) 34 0 (p.toInt.toNat * 12 + c.toInt.toNat) n.toInt.toNat) 35 0 (p.toInt.toNat * 12 + c.toInt.toNat) (tn f)) 36 0 (p.toInt.toNat * 12 + c.toInt.toNat) (tn u)) L) (P := []) rfl (trivial) (pc' := 184) rfl ?_
              refine Sem.cVp0 (t := 23) (i := 0) (as := [aN c.toInt.toNat]) (rst := []) (c' := 0) (s' := 0) d95_184 mk92 rfl co92 lk5_100 im92 se92 rfl (vN (t := 23) (i := 0) (by decide)) (show 2 ≤ mL 92 by decide) rfl (show 0 ≤ 8 by decide) (by decide) (by decide) rfl rfl (by decide) (by decide) (m92 (upN (upN (upN (upN (upN (upN N 23 0 0 0) 23 0 0 0) 23 0 14 (N 23 0 14 + (if n.toInt.toNat = 0 then 0 else 1) - (if N 34 0 (p.toInt.toNat * 12 + c.toInt.toNat) = 0 then 0 else 1))) 34 0 (p.toInt.toNat * 12 + c.toInt.toNat) n.toInt.toNat) 35 0 (p.toInt.toNat * 12 + c.toInt.toNat) (tn f)) 36 0 (p.toInt.toNat * 12 + c.toInt.toNat) (tn u)) L c.toInt.toNat (by first | omega | assumption)) ?_
              refine Sem.vret d95_187 rfl (by decide) (by decide) hzW ⟨rfl, _, _, rfl, ?_⟩
              have hb : n.toInt.toNat = 0 ∨ bo (fitP (mN N) (p.toInt.toNat * 12 + c.toInt.toNat)) = 1 := by
                rcases hss.mp hS with q | q
                · exact Or.inl q
                · exact Or.inr (bo_t q)
              have hcode : cLine (mN N) p c n f u = 0 := by unfold cLine; (repeat' split) <;> omega
              exact ⟨rfl, fun _ => rfl, fun q => absurd hcode q⟩
            case neg =>
              refine Sem.cVp1 (t := 23) (i := 0) (as := []) (rst := []) (c' := 0) (s' := 0) d95_158 mk97 rfl co97 lk5_116 im97 se97 rfl (vN (t := 23) (i := 0) (by decide)) (show 1 ≤ mL 97 by decide) rfl (show 0 ≤ 8 by decide) (by decide) (by decide) rfl rfl (by decide) (by decide) (m97 (upN (upN (upN (upN (upN (upN N 23 0 0 0) 23 0 0 0) 23 0 14 (N 23 0 14 + (if n.toInt.toNat = 0 then 0 else 1) - (if N 34 0 (p.toInt.toNat * 12 + c.toInt.toNat) = 0 then 0 else 1))) 34 0 (p.toInt.toNat * 12 + c.toInt.toNat) n.toInt.toNat) 35 0 (p.toInt.toNat * 12 + c.toInt.toNat) (tn f)) 36 0 (p.toInt.toNat * 12 + c.toInt.toNat) (tn u)) L (fun j hj => by rw [g34]; split <;> first | omega | exact h9 j hj)) ?_
              refine Sem.topNN (bo_f h12) ?_
              have hS := h12
              refine Sem.ifN (tgt := 182) d95_161 (by decide) (by decide) (fun b14 => ?_) (fun b14 => ?_)
              · exact absurd (show ¬ 0 = 0 from b14) (by decide)
              refine Sem.seg [(.aload_n 0, 0, 0), (.iload 7, 0, 0), (.iload 8, 0, 0), (.iload 9, 0, 0), (.iload 10, 0, 0)] ⟨⟨d95_164, trivial⟩, ⟨d95_165, trivial⟩, ⟨d95_167, trivial⟩, ⟨d95_169, trivial⟩, ⟨d95_171, trivial⟩, trivial⟩ (lv' := [(10, aN (N 36 0 (p.toInt.toNat * 12 + c.toInt.toNat))), (9, aN (N 35 0 (p.toInt.toNat * 12 + c.toInt.toNat))), (8, aN (N 34 0 (p.toInt.toNat * 12 + c.toInt.toNat))), (7, aN (p.toInt.toNat * 12 + c.toInt.toNat)), (5, aN (tn u)), (4, aN (tn f)), (3, aN n.toInt.toNat), (2, aN c.toInt.toNat), (1, aN p.toInt.toNat), (6, aN 1), (0, aR 23 0)]) (st' := [aN (N 36 0 (p.toInt.toNat * 12 + c.toInt.toNat)), aN (N 35 0 (p.toInt.toNat * 12 + c.toInt.toNat)), aN (N 34 0 (p.toInt.toNat * 12 + c.toInt.toNat)), aN (p.toInt.toNat * 12 + c.toInt.toNat), aR 23 0]) (w' := wd (upN (upN (upN (upN (upN (upN N 23 0 0 0) 23 0 0 0) 23 0 14 (N 23 0 14 + (if n.toInt.toNat = 0 then 0 else 1) - (if N 34 0 (p.toInt.toNat * 12 + c.toInt.toNat) = 0 then 0 else 1))) 34 0 (p.toInt.toNat * 12 + c.toInt.toNat) n.toInt.toNat) 35 0 (p.toInt.toNat * 12 + c.toInt.toNat) (tn f)) 36 0 (p.toInt.toNat * 12 + c.toInt.toNat) (tn u)) L) (P := []) rfl (trivial) (pc' := 173) rfl ?_
              refine Sem.cVp0 (t := 23) (i := 0) (as := [aN (p.toInt.toNat * 12 + c.toInt.toNat), aN (N 34 0 (p.toInt.toNat * 12 + c.toInt.toNat)), aN (N 35 0 (p.toInt.toNat * 12 + c.toInt.toNat)), aN (N 36 0 (p.toInt.toNat * 12 + c.toInt.toNat))]) (rst := []) (c' := 0) (s' := 0) d95_173 mk96 rfl co96 lk5_112 im96 se96 rfl (vN (t := 23) (i := 0) (by decide)) (show 5 ≤ mL 96 by decide) rfl (show 0 ≤ 8 by decide) (by decide) (by decide) rfl rfl (by decide) (by decide) (m96b (upN (upN (upN (upN (upN (upN N 23 0 0 0) 23 0 0 0) 23 0 14 (N 23 0 14 + (if n.toInt.toNat = 0 then 0 else 1) - (if N 34 0 (p.toInt.toNat * 12 + c.toInt.toNat) = 0 then 0 else 1))) 34 0 (p.toInt.toNat * 12 + c.toInt.toNat) n.toInt.toNat) 35 0 (p.toInt.toNat * 12 + c.toInt.toNat) (tn f)) 36 0 (p.toInt.toNat * 12 + c.toInt.toNat) (tn u)) L (p.toInt.toNat * 12 + c.toInt.toNat) n.toInt.toNat (N 34 0 (p.toInt.toNat * 12 + c.toInt.toNat)) (N 35 0 (p.toInt.toNat * 12 + c.toInt.toNat)) (N 36 0 (p.toInt.toNat * 12 + c.toInt.toNat)) (by omega) (by omega) e34 (by omega) e14 (by (repeat' split) <;> omega) (by (repeat' split) <;> omega)) ?_
              refine Sem.seg [(.aload_n 0, 0, 0), (.iconst 3, 0, 0), (.putfield 85, 5, 0)] ⟨⟨d95_176, trivial⟩, ⟨d95_177, trivial⟩, ⟨d95_178, gf5_85⟩, trivial⟩ (lv' := [(10, aN (N 36 0 (p.toInt.toNat * 12 + c.toInt.toNat))), (9, aN (N 35 0 (p.toInt.toNat * 12 + c.toInt.toNat))), (8, aN (N 34 0 (p.toInt.toNat * 12 + c.toInt.toNat))), (7, aN (p.toInt.toNat * 12 + c.toInt.toNat)), (5, aN (tn u)), (4, aN (tn f)), (3, aN n.toInt.toNat), (2, aN c.toInt.toNat), (1, aN p.toInt.toNat), (6, aN 1), (0, aR 23 0)]) (st' := []) (w' := wd (upN (upN (upN (upN (upN (upN (upN (upN (upN (upN (upN N 23 0 0 0) 23 0 0 0) 23 0 14 (N 23 0 14 + (if n.toInt.toNat = 0 then 0 else 1) - (if N 34 0 (p.toInt.toNat * 12 + c.toInt.toNat) = 0 then 0 else 1))) 34 0 (p.toInt.toNat * 12 + c.toInt.toNat) n.toInt.toNat) 35 0 (p.toInt.toNat * 12 + c.toInt.toNat) (tn f)) 36 0 (p.toInt.toNat * 12 + c.toInt.toNat) (tn u)) 23 0 14 ((N 23 0 14 + (if n.toInt.toNat = 0 then 0 else 1) - (if N 34 0 (p.toInt.toNat * 12 + c.toInt.toNat) = 0 then 0 else 1)) + (if N 34 0 (p.toInt.toNat * 12 + c.toInt.toNat) = 0 then 0 else 1) - (if n.toInt.toNat = 0 then 0 else 1))) 34 0 (p.toInt.toNat * 12 + c.toInt.toNat) (N 34 0 (p.toInt.toNat * 12 + c.toInt.toNat))) 35 0 (p.toInt.toNat * 12 + c.toInt.toNat) (N 35 0 (p.toInt.toNat * 12 + c.toInt.toNat))) 36 0 (p.toInt.toNat * 12 + c.toInt.toNat) (N 36 0 (p.toInt.toNat * 12 + c.toInt.toNat))) 23 0 0 3) L) (P := [vld NN 23 0]) rfl (vN (t := 23) (i := 0) (by decide)) (pc' := 181) rfl ?_
              refine Sem.vret d95_181 rfl (by decide) (by decide) hzW ⟨rfl, _, _, rfl, ?_⟩
              have hb : ¬ n.toInt.toNat = 0 ∧ bo (fitP (mN N) (p.toInt.toNat * 12 + c.toInt.toNat)) = 0 := by
                refine ⟨fun q => hS (hss.mpr (Or.inl q)), bo_f (fun q => hS (hss.mpr (Or.inr q)))⟩
              have hcode : cLine (mN N) p c n f u = 3 := by unfold cLine; (repeat' split) <;> omega
              exact ⟨rfl, fun q => absurd (hcode.symm.trans q) (by decide), fun _ => by rw [hcode]; exact sl_back (by rw [if_neg hb.1]; (repeat' split) <;> omega)⟩
          · have b10_ : ¬ (n.toInt.toNat ≤ 0) := b10
            refine Sem.seg [(.iload 8, 0, 0)] ⟨⟨d95_120, trivial⟩, trivial⟩ (lv' := [(10, aN (N 36 0 (p.toInt.toNat * 12 + c.toInt.toNat))), (9, aN (N 35 0 (p.toInt.toNat * 12 + c.toInt.toNat))), (8, aN (N 34 0 (p.toInt.toNat * 12 + c.toInt.toNat))), (7, aN (p.toInt.toNat * 12 + c.toInt.toNat)), (5, aN (tn u)), (4, aN (tn f)), (3, aN n.toInt.toNat), (2, aN c.toInt.toNat), (1, aN p.toInt.toNat), (6, aN 1), (0, aR 23 0)]) (st' := [aN (N 34 0 (p.toInt.toNat * 12 + c.toInt.toNat)), aR 23 0]) (w' := wd (upN N 23 0 0 0) L) (P := []) rfl (trivial) (pc' := 122) rfl ?_
            refine Sem.ifN (tgt := 138) d95_122 (by decide) (show N 34 0 (p.toInt.toNat * 12 + c.toInt.toNat) < 2 ^ 31 by omega) (fun b15 => ?_) (fun b15 => ?_)
            · have b15_ : ¬ N 34 0 (p.toInt.toNat * 12 + c.toInt.toNat) = 0 := b15
              refine Sem.seg [(.iconst 0, 0, 0)] ⟨⟨d95_138, trivial⟩, trivial⟩ (lv' := [(10, aN (N 36 0 (p.toInt.toNat * 12 + c.toInt.toNat))), (9, aN (N 35 0 (p.toInt.toNat * 12 + c.toInt.toNat))), (8, aN (N 34 0 (p.toInt.toNat * 12 + c.toInt.toNat))), (7, aN (p.toInt.toNat * 12 + c.toInt.toNat)), (5, aN (tn u)), (4, aN (tn f)), (3, aN n.toInt.toNat), (2, aN c.toInt.toNat), (1, aN p.toInt.toNat), (6, aN 1), (0, aR 23 0)]) (st' := [aN 0, aR 23 0]) (w' := wd (upN N 23 0 0 0) L) (P := []) rfl (trivial) (pc' := 139) rfl ?_
              refine Sem.cVp1 (t := 23) (i := 0) (as := [aN 0]) (rst := []) (c' := 0) (s' := 0) d95_139 mk91 rfl co91 lk5_97 im91 se91 rfl (vN (t := 23) (i := 0) (by decide)) (show 2 ≤ mL 91 by decide) rfl (show 0 ≤ 8 by decide) (by decide) (by decide) rfl rfl (by decide) (by decide) (m91 (upN N 23 0 0 0) L 0 (by decide)) ?_
              refine Sem.topNN (show (if 0 < 0 then 1 else 0) = 0 from rfl) ?_
              refine Sem.ifN (tgt := 146) d95_142 (by decide) (by decide) (fun b16 => ?_) (fun b16 => ?_)
              rotate_left
              · exact absurd (show 0 = 0 from by decide) b16
              refine Sem.seg [(.aload_n 0, 0, 0), (.iload 7, 0, 0), (.iload_n 3, 0, 0), (.iload 4, 0, 0), (.iload 5, 0, 0)] ⟨⟨d95_146, trivial⟩, ⟨d95_147, trivial⟩, ⟨d95_149, trivial⟩, ⟨d95_150, trivial⟩, ⟨d95_152, trivial⟩, trivial⟩ (lv' := [(10, aN (N 36 0 (p.toInt.toNat * 12 + c.toInt.toNat))), (9, aN (N 35 0 (p.toInt.toNat * 12 + c.toInt.toNat))), (8, aN (N 34 0 (p.toInt.toNat * 12 + c.toInt.toNat))), (7, aN (p.toInt.toNat * 12 + c.toInt.toNat)), (5, aN (tn u)), (4, aN (tn f)), (3, aN n.toInt.toNat), (2, aN c.toInt.toNat), (1, aN p.toInt.toNat), (6, aN 1), (0, aR 23 0)]) (st' := [aN (tn u), aN (tn f), aN n.toInt.toNat, aN (p.toInt.toNat * 12 + c.toInt.toNat), aR 23 0]) (w' := wd (upN (upN N 23 0 0 0) 23 0 0 0) L) (P := []) rfl (trivial) (pc' := 154) rfl ?_
              refine Sem.cVp0 (t := 23) (i := 0) (as := [aN (p.toInt.toNat * 12 + c.toInt.toNat), aN n.toInt.toNat, aN (tn f), aN (tn u)]) (rst := []) (c' := 0) (s' := 0) d95_154 mk96 rfl co96 lk5_112 im96 se96 rfl (vN (t := 23) (i := 0) (by decide)) (show 5 ≤ mL 96 by decide) rfl (show 0 ≤ 8 by decide) (by decide) (by decide) rfl rfl (by decide) (by decide) (m96 (upN (upN N 23 0 0 0) 23 0 0 0) L (p.toInt.toNat * 12 + c.toInt.toNat) n.toInt.toNat (tn f) (tn u) (by omega) (by omega) (show N 34 0 (p.toInt.toNat * 12 + c.toInt.toNat) ≤ 9 by omega) (show 0 < N 34 0 (p.toInt.toNat * 12 + c.toInt.toNat) → 1 ≤ N 23 0 14 from hl1) (show N 23 0 14 < 2 ^ 30 by omega)) ?_
              have g34 : ∀ j, (upN (upN (upN (upN (upN (upN N 23 0 0 0) 23 0 0 0) 23 0 14 (N 23 0 14 + (if n.toInt.toNat = 0 then 0 else 1) - (if N 34 0 (p.toInt.toNat * 12 + c.toInt.toNat) = 0 then 0 else 1))) 34 0 (p.toInt.toNat * 12 + c.toInt.toNat) n.toInt.toNat) 35 0 (p.toInt.toNat * 12 + c.toInt.toNat) (tn f)) 36 0 (p.toInt.toNat * 12 + c.toInt.toNat) (tn u)) 34 0 j = if j = (p.toInt.toNat * 12 + c.toInt.toNat) then n.toInt.toNat else N 34 0 j := fun j => by simp [upN]
              have e34 : (upN (upN (upN (upN (upN (upN N 23 0 0 0) 23 0 0 0) 23 0 14 (N 23 0 14 + (if n.toInt.toNat = 0 then 0 else 1) - (if N 34 0 (p.toInt.toNat * 12 + c.toInt.toNat) = 0 then 0 else 1))) 34 0 (p.toInt.toNat * 12 + c.toInt.toNat) n.toInt.toNat) 35 0 (p.toInt.toNat * 12 + c.toInt.toNat) (tn f)) 36 0 (p.toInt.toNat * 12 + c.toInt.toNat) (tn u)) 34 0 (p.toInt.toNat * 12 + c.toInt.toNat) = n.toInt.toNat := by rw [g34, if_pos rfl]
              have e14 : (upN (upN (upN (upN (upN (upN N 23 0 0 0) 23 0 0 0) 23 0 14 (N 23 0 14 + (if n.toInt.toNat = 0 then 0 else 1) - (if N 34 0 (p.toInt.toNat * 12 + c.toInt.toNat) = 0 then 0 else 1))) 34 0 (p.toInt.toNat * 12 + c.toInt.toNat) n.toInt.toNat) 35 0 (p.toInt.toNat * 12 + c.toInt.toNat) (tn f)) 36 0 (p.toInt.toNat * 12 + c.toInt.toNat) (tn u)) 23 0 14 = N 23 0 14 + (if n.toInt.toNat = 0 then 0 else 1) - (if N 34 0 (p.toInt.toNat * 12 + c.toInt.toNat) = 0 then 0 else 1) := by simp [upN]
              have hss := sl_sn (N := N) g34 hsn (fun q1 q2 => by omega)
              refine Sem.seg [(.aload_n 0, 0, 0)] ⟨⟨d95_157, trivial⟩, trivial⟩ (lv' := [(10, aN (N 36 0 (p.toInt.toNat * 12 + c.toInt.toNat))), (9, aN (N 35 0 (p.toInt.toNat * 12 + c.toInt.toNat))), (8, aN (N 34 0 (p.toInt.toNat * 12 + c.toInt.toNat))), (7, aN (p.toInt.toNat * 12 + c.toInt.toNat)), (5, aN (tn u)), (4, aN (tn f)), (3, aN n.toInt.toNat), (2, aN c.toInt.toNat), (1, aN p.toInt.toNat), (6, aN 1), (0, aR 23 0)]) (st' := [aR 23 0]) (w' := wd (upN (upN (upN (upN (upN (upN N 23 0 0 0) 23 0 0 0) 23 0 14 (N 23 0 14 + (if n.toInt.toNat = 0 then 0 else 1) - (if N 34 0 (p.toInt.toNat * 12 + c.toInt.toNat) = 0 then 0 else 1))) 34 0 (p.toInt.toNat * 12 + c.toInt.toNat) n.toInt.toNat) 35 0 (p.toInt.toNat * 12 + c.toInt.toNat) (tn f)) 36 0 (p.toInt.toNat * 12 + c.toInt.toNat) (tn u)) L) (P := []) rfl (trivial) (pc' := 158) rfl ?_
              by_cases h17 : SN (eg (mN (upN (upN (upN (upN (upN (upN N 23 0 0 0) 23 0 0 0) 23 0 14 (N 23 0 14 + (if n.toInt.toNat = 0 then 0 else 1) - (if N 34 0 (p.toInt.toNat * 12 + c.toInt.toNat) = 0 then 0 else 1))) 34 0 (p.toInt.toNat * 12 + c.toInt.toNat) n.toInt.toNat) 35 0 (p.toInt.toNat * 12 + c.toInt.toNat) (tn f)) 36 0 (p.toInt.toNat * 12 + c.toInt.toNat) (tn u))))
              case pos =>
                refine Sem.cVp1 (t := 23) (i := 0) (as := []) (rst := []) (c' := 0) (s' := 0) d95_158 mk97 rfl co97 lk5_116 im97 se97 rfl (vN (t := 23) (i := 0) (by decide)) (show 1 ≤ mL 97 by decide) rfl (show 0 ≤ 8 by decide) (by decide) (by decide) rfl rfl (by decide) (by decide) (m97 (upN (upN (upN (upN (upN (upN N 23 0 0 0) 23 0 0 0) 23 0 14 (N 23 0 14 + (if n.toInt.toNat = 0 then 0 else 1) - (if N 34 0 (p.toInt.toNat * 12 + c.toInt.toNat) = 0 then 0 else 1))) 34 0 (p.toInt.toNat * 12 + c.toInt.toNat) n.toInt.toNat) 35 0 (p.toInt.toNat * 12 + c.toInt.toNat) (tn f)) 36 0 (p.toInt.toNat * 12 + c.toInt.toNat) (tn u)) L (fun j hj => by rw [g34]; split <;> first | omega | exact h9 j hj)) ?_
                refine Sem.topNN (bo_t h17) ?_
                have hS := h17
                refine Sem.ifN (tgt := 182) d95_161 (by decide) (by decide) (fun b18 => ?_) (fun b18 => ?_)
                rotate_left
                · exact absurd (show ¬ 1 = 0 from by decide) b18
                refine Sem.seg [(.aload_n 0, 0, 0), (.iload_n 2, 0, 0)] ⟨⟨d95_182, trivial⟩, ⟨d95_183, trivial⟩, trivial⟩ (lv' := [(10, aN (N 36 0 (p.toInt.toNat * 12 + c.toInt.toNat))), (9, aN (N 35 0 (p.toInt.toNat * 12 + c.toInt.toNat))), (8, aN (N 34 0 (p.toInt.toNat * 12 + c.toInt.toNat))), (7, aN (p.toInt.toNat * 12 + c.toInt.toNat)), (5, aN (tn u)), (4, aN (tn f)), (3, aN n.toInt.toNat), (2, aN c.toInt.toNat), (1, aN p.toInt.toNat), (6, aN 1), (0, aR 23 0)]) (st' := [aN c.toInt.toNat, aR 23 0]) (w' := wd (upN (upN (upN (upN (upN (upN N 23 0 0 0) 23 0 0 0) 23 0 14 (N 23 0 14 + (if n.toInt.toNat = 0 then 0 else 1) - (if N 34 0 (p.toInt.toNat * 12 + c.toInt.toNat) = 0 then 0 else 1))) 34 0 (p.toInt.toNat * 12 + c.toInt.toNat) n.toInt.toNat) 35 0 (p.toInt.toNat * 12 + c.toInt.toNat) (tn f)) 36 0 (p.toInt.toNat * 12 + c.toInt.toNat) (tn u)) L) (P := []) rfl (trivial) (pc' := 184) rfl ?_
                refine Sem.cVp0 (t := 23) (i := 0) (as := [aN c.toInt.toNat]) (rst := []) (c' := 0) (s' := 0) d95_184 mk92 rfl co92 lk5_100 im92 se92 rfl (vN (t := 23) (i := 0) (by decide)) (show 2 ≤ mL 92 by decide) rfl (show 0 ≤ 8 by decide) (by decide) (by decide) rfl rfl (by decide) (by decide) (m92 (upN (upN (upN (upN (upN (upN N 23 0 0 0) 23 0 0 0) 23 0 14 (N 23 0 14 + (if n.toInt.toNat = 0 then 0 else 1) - (if N 34 0 (p.toInt.toNat * 12 + c.toInt.toNat) = 0 then 0 else 1))) 34 0 (p.toInt.toNat * 12 + c.toInt.toNat) n.toInt.toNat) 35 0 (p.toInt.toNat * 12 + c.toInt.toNat) (tn f)) 36 0 (p.toInt.toNat * 12 + c.toInt.toNat) (tn u)) L c.toInt.toNat (by first | omega | assumption)) ?_
                refine Sem.vret d95_187 rfl (by decide) (by decide) hzW ⟨rfl, _, _, rfl, ?_⟩
                have hb : n.toInt.toNat = 0 ∨ bo (fitP (mN N) (p.toInt.toNat * 12 + c.toInt.toNat)) = 1 := by
                  rcases hss.mp hS with q | q
                  · exact Or.inl q
                  · exact Or.inr (bo_t q)
                have hcode : cLine (mN N) p c n f u = 0 := by unfold cLine; (repeat' split) <;> omega
                exact ⟨rfl, fun _ => rfl, fun q => absurd hcode q⟩
              case neg =>
                refine Sem.cVp1 (t := 23) (i := 0) (as := []) (rst := []) (c' := 0) (s' := 0) d95_158 mk97 rfl co97 lk5_116 im97 se97 rfl (vN (t := 23) (i := 0) (by decide)) (show 1 ≤ mL 97 by decide) rfl (show 0 ≤ 8 by decide) (by decide) (by decide) rfl rfl (by decide) (by decide) (m97 (upN (upN (upN (upN (upN (upN N 23 0 0 0) 23 0 0 0) 23 0 14 (N 23 0 14 + (if n.toInt.toNat = 0 then 0 else 1) - (if N 34 0 (p.toInt.toNat * 12 + c.toInt.toNat) = 0 then 0 else 1))) 34 0 (p.toInt.toNat * 12 + c.toInt.toNat) n.toInt.toNat) 35 0 (p.toInt.toNat * 12 + c.toInt.toNat) (tn f)) 36 0 (p.toInt.toNat * 12 + c.toInt.toNat) (tn u)) L (fun j hj => by rw [g34]; split <;> first | omega | exact h9 j hj)) ?_
                refine Sem.topNN (bo_f h17) ?_
                have hS := h17
                refine Sem.ifN (tgt := 182) d95_161 (by decide) (by decide) (fun b19 => ?_) (fun b19 => ?_)
                · exact absurd (show ¬ 0 = 0 from b19) (by decide)
                refine Sem.seg [(.aload_n 0, 0, 0), (.iload 7, 0, 0), (.iload 8, 0, 0), (.iload 9, 0, 0), (.iload 10, 0, 0)] ⟨⟨d95_164, trivial⟩, ⟨d95_165, trivial⟩, ⟨d95_167, trivial⟩, ⟨d95_169, trivial⟩, ⟨d95_171, trivial⟩, trivial⟩ (lv' := [(10, aN (N 36 0 (p.toInt.toNat * 12 + c.toInt.toNat))), (9, aN (N 35 0 (p.toInt.toNat * 12 + c.toInt.toNat))), (8, aN (N 34 0 (p.toInt.toNat * 12 + c.toInt.toNat))), (7, aN (p.toInt.toNat * 12 + c.toInt.toNat)), (5, aN (tn u)), (4, aN (tn f)), (3, aN n.toInt.toNat), (2, aN c.toInt.toNat), (1, aN p.toInt.toNat), (6, aN 1), (0, aR 23 0)]) (st' := [aN (N 36 0 (p.toInt.toNat * 12 + c.toInt.toNat)), aN (N 35 0 (p.toInt.toNat * 12 + c.toInt.toNat)), aN (N 34 0 (p.toInt.toNat * 12 + c.toInt.toNat)), aN (p.toInt.toNat * 12 + c.toInt.toNat), aR 23 0]) (w' := wd (upN (upN (upN (upN (upN (upN N 23 0 0 0) 23 0 0 0) 23 0 14 (N 23 0 14 + (if n.toInt.toNat = 0 then 0 else 1) - (if N 34 0 (p.toInt.toNat * 12 + c.toInt.toNat) = 0 then 0 else 1))) 34 0 (p.toInt.toNat * 12 + c.toInt.toNat) n.toInt.toNat) 35 0 (p.toInt.toNat * 12 + c.toInt.toNat) (tn f)) 36 0 (p.toInt.toNat * 12 + c.toInt.toNat) (tn u)) L) (P := []) rfl (trivial) (pc' := 173) rfl ?_
                refine Sem.cVp0 (t := 23) (i := 0) (as := [aN (p.toInt.toNat * 12 + c.toInt.toNat), aN (N 34 0 (p.toInt.toNat * 12 + c.toInt.toNat)), aN (N 35 0 (p.toInt.toNat * 12 + c.toInt.toNat)), aN (N 36 0 (p.toInt.toNat * 12 + c.toInt.toNat))]) (rst := []) (c' := 0) (s' := 0) d95_173 mk96 rfl co96 lk5_112 im96 se96 rfl (vN (t := 23) (i := 0) (by decide)) (show 5 ≤ mL 96 by decide) rfl (show 0 ≤ 8 by decide) (by decide) (by decide) rfl rfl (by decide) (by decide) (m96b (upN (upN (upN (upN (upN (upN N 23 0 0 0) 23 0 0 0) 23 0 14 (N 23 0 14 + (if n.toInt.toNat = 0 then 0 else 1) - (if N 34 0 (p.toInt.toNat * 12 + c.toInt.toNat) = 0 then 0 else 1))) 34 0 (p.toInt.toNat * 12 + c.toInt.toNat) n.toInt.toNat) 35 0 (p.toInt.toNat * 12 + c.toInt.toNat) (tn f)) 36 0 (p.toInt.toNat * 12 + c.toInt.toNat) (tn u)) L (p.toInt.toNat * 12 + c.toInt.toNat) n.toInt.toNat (N 34 0 (p.toInt.toNat * 12 + c.toInt.toNat)) (N 35 0 (p.toInt.toNat * 12 + c.toInt.toNat)) (N 36 0 (p.toInt.toNat * 12 + c.toInt.toNat)) (by omega) (by omega) e34 (by omega) e14 (by (repeat' split) <;> omega) (by (repeat' split) <;> omega)) ?_
                refine Sem.seg [(.aload_n 0, 0, 0), (.iconst 3, 0, 0), (.putfield 85, 5, 0)] ⟨⟨d95_176, trivial⟩, ⟨d95_177, trivial⟩, ⟨d95_178, gf5_85⟩, trivial⟩ (lv' := [(10, aN (N 36 0 (p.toInt.toNat * 12 + c.toInt.toNat))), (9, aN (N 35 0 (p.toInt.toNat * 12 + c.toInt.toNat))), (8, aN (N 34 0 (p.toInt.toNat * 12 + c.toInt.toNat))), (7, aN (p.toInt.toNat * 12 + c.toInt.toNat)), (5, aN (tn u)), (4, aN (tn f)), (3, aN n.toInt.toNat), (2, aN c.toInt.toNat), (1, aN p.toInt.toNat), (6, aN 1), (0, aR 23 0)]) (st' := []) (w' := wd (upN (upN (upN (upN (upN (upN (upN (upN (upN (upN (upN N 23 0 0 0) 23 0 0 0) 23 0 14 (N 23 0 14 + (if n.toInt.toNat = 0 then 0 else 1) - (if N 34 0 (p.toInt.toNat * 12 + c.toInt.toNat) = 0 then 0 else 1))) 34 0 (p.toInt.toNat * 12 + c.toInt.toNat) n.toInt.toNat) 35 0 (p.toInt.toNat * 12 + c.toInt.toNat) (tn f)) 36 0 (p.toInt.toNat * 12 + c.toInt.toNat) (tn u)) 23 0 14 ((N 23 0 14 + (if n.toInt.toNat = 0 then 0 else 1) - (if N 34 0 (p.toInt.toNat * 12 + c.toInt.toNat) = 0 then 0 else 1)) + (if N 34 0 (p.toInt.toNat * 12 + c.toInt.toNat) = 0 then 0 else 1) - (if n.toInt.toNat = 0 then 0 else 1))) 34 0 (p.toInt.toNat * 12 + c.toInt.toNat) (N 34 0 (p.toInt.toNat * 12 + c.toInt.toNat))) 35 0 (p.toInt.toNat * 12 + c.toInt.toNat) (N 35 0 (p.toInt.toNat * 12 + c.toInt.toNat))) 36 0 (p.toInt.toNat * 12 + c.toInt.toNat) (N 36 0 (p.toInt.toNat * 12 + c.toInt.toNat))) 23 0 0 3) L) (P := [vld NN 23 0]) rfl (vN (t := 23) (i := 0) (by decide)) (pc' := 181) rfl ?_
                refine Sem.vret d95_181 rfl (by decide) (by decide) hzW ⟨rfl, _, _, rfl, ?_⟩
                have hb : ¬ n.toInt.toNat = 0 ∧ bo (fitP (mN N) (p.toInt.toNat * 12 + c.toInt.toNat)) = 0 := by
                  refine ⟨fun q => hS (hss.mpr (Or.inl q)), bo_f (fun q => hS (hss.mpr (Or.inr q)))⟩
                have hcode : cLine (mN N) p c n f u = 3 := by unfold cLine; (repeat' split) <;> omega
                exact ⟨rfl, fun q => absurd (hcode.symm.trans q) (by decide), fun _ => by rw [hcode]; exact sl_back (by rw [if_neg hb.1]; (repeat' split) <;> omega)⟩
            · have b15_ : ¬ (¬ N 34 0 (p.toInt.toNat * 12 + c.toInt.toNat) = 0) := b15
              refine Sem.seg [(.aload_n 0, 0, 0), (.getfield 109, 5, 14), (.bipush 24, 0, 0)] ⟨⟨d95_125, trivial⟩, ⟨d95_126, gf5_109⟩, ⟨d95_129, trivial⟩, trivial⟩ (lv' := [(10, aN (N 36 0 (p.toInt.toNat * 12 + c.toInt.toNat))), (9, aN (N 35 0 (p.toInt.toNat * 12 + c.toInt.toNat))), (8, aN (N 34 0 (p.toInt.toNat * 12 + c.toInt.toNat))), (7, aN (p.toInt.toNat * 12 + c.toInt.toNat)), (5, aN (tn u)), (4, aN (tn f)), (3, aN n.toInt.toNat), (2, aN c.toInt.toNat), (1, aN p.toInt.toNat), (6, aN 1), (0, aR 23 0)]) (st' := [aN 24, aN (N 23 0 14), aR 23 0]) (w' := wd (upN N 23 0 0 0) L) (P := [vld NN 23 0]) rfl (vN (t := 23) (i := 0) (by decide)) (pc' := 131) rfl ?_
              refine Sem.icmpN (tgt := 138) d95_131 (by decide) (show N 23 0 14 < 2 ^ 31 by omega) (by decide) (fun b20 => ?_) (fun b20 => ?_)
              · have b20_ : ¬ N 23 0 14 = 24 := b20
                refine Sem.seg [(.iconst 0, 0, 0)] ⟨⟨d95_138, trivial⟩, trivial⟩ (lv' := [(10, aN (N 36 0 (p.toInt.toNat * 12 + c.toInt.toNat))), (9, aN (N 35 0 (p.toInt.toNat * 12 + c.toInt.toNat))), (8, aN (N 34 0 (p.toInt.toNat * 12 + c.toInt.toNat))), (7, aN (p.toInt.toNat * 12 + c.toInt.toNat)), (5, aN (tn u)), (4, aN (tn f)), (3, aN n.toInt.toNat), (2, aN c.toInt.toNat), (1, aN p.toInt.toNat), (6, aN 1), (0, aR 23 0)]) (st' := [aN 0, aR 23 0]) (w' := wd (upN N 23 0 0 0) L) (P := []) rfl (trivial) (pc' := 139) rfl ?_
                refine Sem.cVp1 (t := 23) (i := 0) (as := [aN 0]) (rst := []) (c' := 0) (s' := 0) d95_139 mk91 rfl co91 lk5_97 im91 se91 rfl (vN (t := 23) (i := 0) (by decide)) (show 2 ≤ mL 91 by decide) rfl (show 0 ≤ 8 by decide) (by decide) (by decide) rfl rfl (by decide) (by decide) (m91 (upN N 23 0 0 0) L 0 (by decide)) ?_
                refine Sem.topNN (show (if 0 < 0 then 1 else 0) = 0 from rfl) ?_
                refine Sem.ifN (tgt := 146) d95_142 (by decide) (by decide) (fun b21 => ?_) (fun b21 => ?_)
                rotate_left
                · exact absurd (show 0 = 0 from by decide) b21
                refine Sem.seg [(.aload_n 0, 0, 0), (.iload 7, 0, 0), (.iload_n 3, 0, 0), (.iload 4, 0, 0), (.iload 5, 0, 0)] ⟨⟨d95_146, trivial⟩, ⟨d95_147, trivial⟩, ⟨d95_149, trivial⟩, ⟨d95_150, trivial⟩, ⟨d95_152, trivial⟩, trivial⟩ (lv' := [(10, aN (N 36 0 (p.toInt.toNat * 12 + c.toInt.toNat))), (9, aN (N 35 0 (p.toInt.toNat * 12 + c.toInt.toNat))), (8, aN (N 34 0 (p.toInt.toNat * 12 + c.toInt.toNat))), (7, aN (p.toInt.toNat * 12 + c.toInt.toNat)), (5, aN (tn u)), (4, aN (tn f)), (3, aN n.toInt.toNat), (2, aN c.toInt.toNat), (1, aN p.toInt.toNat), (6, aN 1), (0, aR 23 0)]) (st' := [aN (tn u), aN (tn f), aN n.toInt.toNat, aN (p.toInt.toNat * 12 + c.toInt.toNat), aR 23 0]) (w' := wd (upN (upN N 23 0 0 0) 23 0 0 0) L) (P := []) rfl (trivial) (pc' := 154) rfl ?_
                refine Sem.cVp0 (t := 23) (i := 0) (as := [aN (p.toInt.toNat * 12 + c.toInt.toNat), aN n.toInt.toNat, aN (tn f), aN (tn u)]) (rst := []) (c' := 0) (s' := 0) d95_154 mk96 rfl co96 lk5_112 im96 se96 rfl (vN (t := 23) (i := 0) (by decide)) (show 5 ≤ mL 96 by decide) rfl (show 0 ≤ 8 by decide) (by decide) (by decide) rfl rfl (by decide) (by decide) (m96 (upN (upN N 23 0 0 0) 23 0 0 0) L (p.toInt.toNat * 12 + c.toInt.toNat) n.toInt.toNat (tn f) (tn u) (by omega) (by omega) (show N 34 0 (p.toInt.toNat * 12 + c.toInt.toNat) ≤ 9 by omega) (show 0 < N 34 0 (p.toInt.toNat * 12 + c.toInt.toNat) → 1 ≤ N 23 0 14 from hl1) (show N 23 0 14 < 2 ^ 30 by omega)) ?_
                have g34 : ∀ j, (upN (upN (upN (upN (upN (upN N 23 0 0 0) 23 0 0 0) 23 0 14 (N 23 0 14 + (if n.toInt.toNat = 0 then 0 else 1) - (if N 34 0 (p.toInt.toNat * 12 + c.toInt.toNat) = 0 then 0 else 1))) 34 0 (p.toInt.toNat * 12 + c.toInt.toNat) n.toInt.toNat) 35 0 (p.toInt.toNat * 12 + c.toInt.toNat) (tn f)) 36 0 (p.toInt.toNat * 12 + c.toInt.toNat) (tn u)) 34 0 j = if j = (p.toInt.toNat * 12 + c.toInt.toNat) then n.toInt.toNat else N 34 0 j := fun j => by simp [upN]
                have e34 : (upN (upN (upN (upN (upN (upN N 23 0 0 0) 23 0 0 0) 23 0 14 (N 23 0 14 + (if n.toInt.toNat = 0 then 0 else 1) - (if N 34 0 (p.toInt.toNat * 12 + c.toInt.toNat) = 0 then 0 else 1))) 34 0 (p.toInt.toNat * 12 + c.toInt.toNat) n.toInt.toNat) 35 0 (p.toInt.toNat * 12 + c.toInt.toNat) (tn f)) 36 0 (p.toInt.toNat * 12 + c.toInt.toNat) (tn u)) 34 0 (p.toInt.toNat * 12 + c.toInt.toNat) = n.toInt.toNat := by rw [g34, if_pos rfl]
                have e14 : (upN (upN (upN (upN (upN (upN N 23 0 0 0) 23 0 0 0) 23 0 14 (N 23 0 14 + (if n.toInt.toNat = 0 then 0 else 1) - (if N 34 0 (p.toInt.toNat * 12 + c.toInt.toNat) = 0 then 0 else 1))) 34 0 (p.toInt.toNat * 12 + c.toInt.toNat) n.toInt.toNat) 35 0 (p.toInt.toNat * 12 + c.toInt.toNat) (tn f)) 36 0 (p.toInt.toNat * 12 + c.toInt.toNat) (tn u)) 23 0 14 = N 23 0 14 + (if n.toInt.toNat = 0 then 0 else 1) - (if N 34 0 (p.toInt.toNat * 12 + c.toInt.toNat) = 0 then 0 else 1) := by simp [upN]
                have hss := sl_sn (N := N) g34 hsn (fun q1 q2 => by omega)
                refine Sem.seg [(.aload_n 0, 0, 0)] ⟨⟨d95_157, trivial⟩, trivial⟩ (lv' := [(10, aN (N 36 0 (p.toInt.toNat * 12 + c.toInt.toNat))), (9, aN (N 35 0 (p.toInt.toNat * 12 + c.toInt.toNat))), (8, aN (N 34 0 (p.toInt.toNat * 12 + c.toInt.toNat))), (7, aN (p.toInt.toNat * 12 + c.toInt.toNat)), (5, aN (tn u)), (4, aN (tn f)), (3, aN n.toInt.toNat), (2, aN c.toInt.toNat), (1, aN p.toInt.toNat), (6, aN 1), (0, aR 23 0)]) (st' := [aR 23 0]) (w' := wd (upN (upN (upN (upN (upN (upN N 23 0 0 0) 23 0 0 0) 23 0 14 (N 23 0 14 + (if n.toInt.toNat = 0 then 0 else 1) - (if N 34 0 (p.toInt.toNat * 12 + c.toInt.toNat) = 0 then 0 else 1))) 34 0 (p.toInt.toNat * 12 + c.toInt.toNat) n.toInt.toNat) 35 0 (p.toInt.toNat * 12 + c.toInt.toNat) (tn f)) 36 0 (p.toInt.toNat * 12 + c.toInt.toNat) (tn u)) L) (P := []) rfl (trivial) (pc' := 158) rfl ?_
                by_cases h22 : SN (eg (mN (upN (upN (upN (upN (upN (upN N 23 0 0 0) 23 0 0 0) 23 0 14 (N 23 0 14 + (if n.toInt.toNat = 0 then 0 else 1) - (if N 34 0 (p.toInt.toNat * 12 + c.toInt.toNat) = 0 then 0 else 1))) 34 0 (p.toInt.toNat * 12 + c.toInt.toNat) n.toInt.toNat) 35 0 (p.toInt.toNat * 12 + c.toInt.toNat) (tn f)) 36 0 (p.toInt.toNat * 12 + c.toInt.toNat) (tn u))))
                case pos =>
                  refine Sem.cVp1 (t := 23) (i := 0) (as := []) (rst := []) (c' := 0) (s' := 0) d95_158 mk97 rfl co97 lk5_116 im97 se97 rfl (vN (t := 23) (i := 0) (by decide)) (show 1 ≤ mL 97 by decide) rfl (show 0 ≤ 8 by decide) (by decide) (by decide) rfl rfl (by decide) (by decide) (m97 (upN (upN (upN (upN (upN (upN N 23 0 0 0) 23 0 0 0) 23 0 14 (N 23 0 14 + (if n.toInt.toNat = 0 then 0 else 1) - (if N 34 0 (p.toInt.toNat * 12 + c.toInt.toNat) = 0 then 0 else 1))) 34 0 (p.toInt.toNat * 12 + c.toInt.toNat) n.toInt.toNat) 35 0 (p.toInt.toNat * 12 + c.toInt.toNat) (tn f)) 36 0 (p.toInt.toNat * 12 + c.toInt.toNat) (tn u)) L (fun j hj => by rw [g34]; split <;> first | omega | exact h9 j hj)) ?_
                  refine Sem.topNN (bo_t h22) ?_
                  have hS := h22
                  refine Sem.ifN (tgt := 182) d95_161 (by decide) (by decide) (fun b23 => ?_) (fun b23 => ?_)
                  rotate_left
                  · exact absurd (show ¬ 1 = 0 from by decide) b23
                  refine Sem.seg [(.aload_n 0, 0, 0), (.iload_n 2, 0, 0)] ⟨⟨d95_182, trivial⟩, ⟨d95_183, trivial⟩, trivial⟩ (lv' := [(10, aN (N 36 0 (p.toInt.toNat * 12 + c.toInt.toNat))), (9, aN (N 35 0 (p.toInt.toNat * 12 + c.toInt.toNat))), (8, aN (N 34 0 (p.toInt.toNat * 12 + c.toInt.toNat))), (7, aN (p.toInt.toNat * 12 + c.toInt.toNat)), (5, aN (tn u)), (4, aN (tn f)), (3, aN n.toInt.toNat), (2, aN c.toInt.toNat), (1, aN p.toInt.toNat), (6, aN 1), (0, aR 23 0)]) (st' := [aN c.toInt.toNat, aR 23 0]) (w' := wd (upN (upN (upN (upN (upN (upN N 23 0 0 0) 23 0 0 0) 23 0 14 (N 23 0 14 + (if n.toInt.toNat = 0 then 0 else 1) - (if N 34 0 (p.toInt.toNat * 12 + c.toInt.toNat) = 0 then 0 else 1))) 34 0 (p.toInt.toNat * 12 + c.toInt.toNat) n.toInt.toNat) 35 0 (p.toInt.toNat * 12 + c.toInt.toNat) (tn f)) 36 0 (p.toInt.toNat * 12 + c.toInt.toNat) (tn u)) L) (P := []) rfl (trivial) (pc' := 184) rfl ?_
                  refine Sem.cVp0 (t := 23) (i := 0) (as := [aN c.toInt.toNat]) (rst := []) (c' := 0) (s' := 0) d95_184 mk92 rfl co92 lk5_100 im92 se92 rfl (vN (t := 23) (i := 0) (by decide)) (show 2 ≤ mL 92 by decide) rfl (show 0 ≤ 8 by decide) (by decide) (by decide) rfl rfl (by decide) (by decide) (m92 (upN (upN (upN (upN (upN (upN N 23 0 0 0) 23 0 0 0) 23 0 14 (N 23 0 14 + (if n.toInt.toNat = 0 then 0 else 1) - (if N 34 0 (p.toInt.toNat * 12 + c.toInt.toNat) = 0 then 0 else 1))) 34 0 (p.toInt.toNat * 12 + c.toInt.toNat) n.toInt.toNat) 35 0 (p.toInt.toNat * 12 + c.toInt.toNat) (tn f)) 36 0 (p.toInt.toNat * 12 + c.toInt.toNat) (tn u)) L c.toInt.toNat (by first | omega | assumption)) ?_
                  refine Sem.vret d95_187 rfl (by decide) (by decide) hzW ⟨rfl, _, _, rfl, ?_⟩
                  have hb : n.toInt.toNat = 0 ∨ bo (fitP (mN N) (p.toInt.toNat * 12 + c.toInt.toNat)) = 1 := by
                    rcases hss.mp hS with q | q
                    · exact Or.inl q
                    · exact Or.inr (bo_t q)
                  have hcode : cLine (mN N) p c n f u = 0 := by unfold cLine; (repeat' split) <;> omega
                  exact ⟨rfl, fun _ => rfl, fun q => absurd hcode q⟩
                case neg =>
                  refine Sem.cVp1 (t := 23) (i := 0) (as := []) (rst := []) (c' := 0) (s' := 0) d95_158 mk97 rfl co97 lk5_116 im97 se97 rfl (vN (t := 23) (i := 0) (by decide)) (show 1 ≤ mL 97 by decide) rfl (show 0 ≤ 8 by decide) (by decide) (by decide) rfl rfl (by decide) (by decide) (m97 (upN (upN (upN (upN (upN (upN N 23 0 0 0) 23 0 0 0) 23 0 14 (N 23 0 14 + (if n.toInt.toNat = 0 then 0 else 1) - (if N 34 0 (p.toInt.toNat * 12 + c.toInt.toNat) = 0 then 0 else 1))) 34 0 (p.toInt.toNat * 12 + c.toInt.toNat) n.toInt.toNat) 35 0 (p.toInt.toNat * 12 + c.toInt.toNat) (tn f)) 36 0 (p.toInt.toNat * 12 + c.toInt.toNat) (tn u)) L (fun j hj => by rw [g34]; split <;> first | omega | exact h9 j hj)) ?_
                  refine Sem.topNN (bo_f h22) ?_
                  have hS := h22
                  refine Sem.ifN (tgt := 182) d95_161 (by decide) (by decide) (fun b24 => ?_) (fun b24 => ?_)
                  · exact absurd (show ¬ 0 = 0 from b24) (by decide)
                  refine Sem.seg [(.aload_n 0, 0, 0), (.iload 7, 0, 0), (.iload 8, 0, 0), (.iload 9, 0, 0), (.iload 10, 0, 0)] ⟨⟨d95_164, trivial⟩, ⟨d95_165, trivial⟩, ⟨d95_167, trivial⟩, ⟨d95_169, trivial⟩, ⟨d95_171, trivial⟩, trivial⟩ (lv' := [(10, aN (N 36 0 (p.toInt.toNat * 12 + c.toInt.toNat))), (9, aN (N 35 0 (p.toInt.toNat * 12 + c.toInt.toNat))), (8, aN (N 34 0 (p.toInt.toNat * 12 + c.toInt.toNat))), (7, aN (p.toInt.toNat * 12 + c.toInt.toNat)), (5, aN (tn u)), (4, aN (tn f)), (3, aN n.toInt.toNat), (2, aN c.toInt.toNat), (1, aN p.toInt.toNat), (6, aN 1), (0, aR 23 0)]) (st' := [aN (N 36 0 (p.toInt.toNat * 12 + c.toInt.toNat)), aN (N 35 0 (p.toInt.toNat * 12 + c.toInt.toNat)), aN (N 34 0 (p.toInt.toNat * 12 + c.toInt.toNat)), aN (p.toInt.toNat * 12 + c.toInt.toNat), aR 23 0]) (w' := wd (upN (upN (upN (upN (upN (upN N 23 0 0 0) 23 0 0 0) 23 0 14 (N 23 0 14 + (if n.toInt.toNat = 0 then 0 else 1) - (if N 34 0 (p.toInt.toNat * 12 + c.toInt.toNat) = 0 then 0 else 1))) 34 0 (p.toInt.toNat * 12 + c.toInt.toNat) n.toInt.toNat) 35 0 (p.toInt.toNat * 12 + c.toInt.toNat) (tn f)) 36 0 (p.toInt.toNat * 12 + c.toInt.toNat) (tn u)) L) (P := []) rfl (trivial) (pc' := 173) rfl ?_
                  refine Sem.cVp0 (t := 23) (i := 0) (as := [aN (p.toInt.toNat * 12 + c.toInt.toNat), aN (N 34 0 (p.toInt.toNat * 12 + c.toInt.toNat)), aN (N 35 0 (p.toInt.toNat * 12 + c.toInt.toNat)), aN (N 36 0 (p.toInt.toNat * 12 + c.toInt.toNat))]) (rst := []) (c' := 0) (s' := 0) d95_173 mk96 rfl co96 lk5_112 im96 se96 rfl (vN (t := 23) (i := 0) (by decide)) (show 5 ≤ mL 96 by decide) rfl (show 0 ≤ 8 by decide) (by decide) (by decide) rfl rfl (by decide) (by decide) (m96b (upN (upN (upN (upN (upN (upN N 23 0 0 0) 23 0 0 0) 23 0 14 (N 23 0 14 + (if n.toInt.toNat = 0 then 0 else 1) - (if N 34 0 (p.toInt.toNat * 12 + c.toInt.toNat) = 0 then 0 else 1))) 34 0 (p.toInt.toNat * 12 + c.toInt.toNat) n.toInt.toNat) 35 0 (p.toInt.toNat * 12 + c.toInt.toNat) (tn f)) 36 0 (p.toInt.toNat * 12 + c.toInt.toNat) (tn u)) L (p.toInt.toNat * 12 + c.toInt.toNat) n.toInt.toNat (N 34 0 (p.toInt.toNat * 12 + c.toInt.toNat)) (N 35 0 (p.toInt.toNat * 12 + c.toInt.toNat)) (N 36 0 (p.toInt.toNat * 12 + c.toInt.toNat)) (by omega) (by omega) e34 (by omega) e14 (by (repeat' split) <;> omega) (by (repeat' split) <;> omega)) ?_
                  refine Sem.seg [(.aload_n 0, 0, 0), (.iconst 3, 0, 0), (.putfield 85, 5, 0)] ⟨⟨d95_176, trivial⟩, ⟨d95_177, trivial⟩, ⟨d95_178, gf5_85⟩, trivial⟩ (lv' := [(10, aN (N 36 0 (p.toInt.toNat * 12 + c.toInt.toNat))), (9, aN (N 35 0 (p.toInt.toNat * 12 + c.toInt.toNat))), (8, aN (N 34 0 (p.toInt.toNat * 12 + c.toInt.toNat))), (7, aN (p.toInt.toNat * 12 + c.toInt.toNat)), (5, aN (tn u)), (4, aN (tn f)), (3, aN n.toInt.toNat), (2, aN c.toInt.toNat), (1, aN p.toInt.toNat), (6, aN 1), (0, aR 23 0)]) (st' := []) (w' := wd (upN (upN (upN (upN (upN (upN (upN (upN (upN (upN (upN N 23 0 0 0) 23 0 0 0) 23 0 14 (N 23 0 14 + (if n.toInt.toNat = 0 then 0 else 1) - (if N 34 0 (p.toInt.toNat * 12 + c.toInt.toNat) = 0 then 0 else 1))) 34 0 (p.toInt.toNat * 12 + c.toInt.toNat) n.toInt.toNat) 35 0 (p.toInt.toNat * 12 + c.toInt.toNat) (tn f)) 36 0 (p.toInt.toNat * 12 + c.toInt.toNat) (tn u)) 23 0 14 ((N 23 0 14 + (if n.toInt.toNat = 0 then 0 else 1) - (if N 34 0 (p.toInt.toNat * 12 + c.toInt.toNat) = 0 then 0 else 1)) + (if N 34 0 (p.toInt.toNat * 12 + c.toInt.toNat) = 0 then 0 else 1) - (if n.toInt.toNat = 0 then 0 else 1))) 34 0 (p.toInt.toNat * 12 + c.toInt.toNat) (N 34 0 (p.toInt.toNat * 12 + c.toInt.toNat))) 35 0 (p.toInt.toNat * 12 + c.toInt.toNat) (N 35 0 (p.toInt.toNat * 12 + c.toInt.toNat))) 36 0 (p.toInt.toNat * 12 + c.toInt.toNat) (N 36 0 (p.toInt.toNat * 12 + c.toInt.toNat))) 23 0 0 3) L) (P := [vld NN 23 0]) rfl (vN (t := 23) (i := 0) (by decide)) (pc' := 181) rfl ?_
                  refine Sem.vret d95_181 rfl (by decide) (by decide) hzW ⟨rfl, _, _, rfl, ?_⟩
                  have hb : ¬ n.toInt.toNat = 0 ∧ bo (fitP (mN N) (p.toInt.toNat * 12 + c.toInt.toNat)) = 0 := by
                    refine ⟨fun q => hS (hss.mpr (Or.inl q)), bo_f (fun q => hS (hss.mpr (Or.inr q)))⟩
                  have hcode : cLine (mN N) p c n f u = 3 := by unfold cLine; (repeat' split) <;> omega
                  exact ⟨rfl, fun q => absurd (hcode.symm.trans q) (by decide), fun _ => by rw [hcode]; exact sl_back (by rw [if_neg hb.1]; (repeat' split) <;> omega)⟩
              · have b20_ : ¬ (¬ N 23 0 14 = 24) := b20
                refine Sem.seg [(.iconst 3, 0, 0)] ⟨⟨d95_134, trivial⟩, trivial⟩ (lv' := [(10, aN (N 36 0 (p.toInt.toNat * 12 + c.toInt.toNat))), (9, aN (N 35 0 (p.toInt.toNat * 12 + c.toInt.toNat))), (8, aN (N 34 0 (p.toInt.toNat * 12 + c.toInt.toNat))), (7, aN (p.toInt.toNat * 12 + c.toInt.toNat)), (5, aN (tn u)), (4, aN (tn f)), (3, aN n.toInt.toNat), (2, aN c.toInt.toNat), (1, aN p.toInt.toNat), (6, aN 1), (0, aR 23 0)]) (st' := [aN 3, aR 23 0]) (w' := wd (upN N 23 0 0 0) L) (P := []) rfl (trivial) (pc' := 135) rfl ?_
                refine Sem.goto (tgt := 139) d95_135 (by decide) ?_
                refine Sem.cVp1 (t := 23) (i := 0) (as := [aN 3]) (rst := []) (c' := 0) (s' := 0) d95_139 mk91 rfl co91 lk5_97 im91 se91 rfl (vN (t := 23) (i := 0) (by decide)) (show 2 ≤ mL 91 by decide) rfl (show 0 ≤ 8 by decide) (by decide) (by decide) rfl rfl (by decide) (by decide) (m91 (upN N 23 0 0 0) L 3 (by decide)) ?_
                refine Sem.topNN (show (if 0 < 3 then 1 else 0) = 1 from rfl) ?_
                refine Sem.ifN (tgt := 146) d95_142 (by decide) (by decide) (fun b25 => ?_) (fun b25 => ?_)
                · exact absurd (show 1 = 0 from b25) (by decide)
                refine Sem.vret d95_145 rfl (by decide) (by decide) hzW ⟨rfl, _, _, rfl, ?_⟩
                have hb : bo (fitP (mN N) (p.toInt.toNat * 12 + c.toInt.toNat)) = 0 := bo_f (fun q => by
                  rcases q with q | q
                  · have q : 0 < N 34 0 (p.toInt.toNat * 12 + c.toInt.toNat) := q
                    omega
                  · have q : N 23 0 14 < 24 := q.1
                    omega)
                have hcode : cLine (mN N) p c n f u = 3 := by unfold cLine; (repeat' split) <;> omega
                exact ⟨rfl, fun q => absurd (hcode.symm.trans q) (by decide), fun _ => by rw [hcode]; exact upN_2⟩
        case neg =>
          refine Sem.cSp1 (as := [aI n, aN 0, aN 9]) (rst := [aR 23 0]) (c' := 0) (s' := 0) d95_57 mk89 rfl co89 lk5_89 ss89 (show 3 ≤ mL 89 by decide) rfl (show 1 ≤ 8 by decide) (by decide) (by decide) rfl rfl (by decide) (by decide) (m89 (N) L n 0 9 (by decide) (by decide)) ?_
          refine Sem.topNN (if_neg h6) ?_
          refine Sem.ifN (tgt := 68) d95_60 (by decide) (by decide) (fun b26 => ?_) (fun b26 => ?_)
          rotate_left
          · exact absurd (show 0 = 0 from by decide) b26
          refine Sem.seg [(.iconst 2, 0, 0)] ⟨⟨d95_68, trivial⟩, trivial⟩ (lv' := [(6, aN 1), (0, aR 23 0), (1, aI p), (2, aI c), (3, aI n), (4, aI f), (5, aI u)]) (st' := [aN 2, aR 23 0]) (w' := wd N L) (P := []) rfl (trivial) (pc' := 69) rfl ?_
          refine Sem.goto (tgt := 73) d95_69 (by decide) ?_
          refine Sem.cVp1 (t := 23) (i := 0) (as := [aN 2]) (rst := []) (c' := 0) (s' := 0) d95_73 mk91 rfl co91 lk5_97 im91 se91 rfl (vN (t := 23) (i := 0) (by decide)) (show 2 ≤ mL 91 by decide) rfl (show 0 ≤ 8 by decide) (by decide) (by decide) rfl rfl (by decide) (by decide) (m91 (N) L 2 (by decide)) ?_
          refine Sem.topNN (show (if 0 < 2 then 1 else 0) = 1 from rfl) ?_
          refine Sem.ifN (tgt := 80) d95_76 (by decide) (by decide) (fun b27 => ?_) (fun b27 => ?_)
          · exact absurd (show 1 = 0 from b27) (by decide)
          refine Sem.vret d95_79 rfl (by decide) (by decide) hzW ⟨rfl, _, _, rfl, ?_⟩
          have hb := bo_le (fitP (mN N) (p.toInt.toNat * 12 + c.toInt.toNat))
          have hcode : cLine (mN N) p c n f u = 2 := by unfold cLine; (repeat' split) <;> omega
          exact ⟨rfl, fun q => absurd (hcode.symm.trans q) (by decide), fun _ => by rw [hcode]⟩
      case neg =>
        refine Sem.cSp1 (as := [aI c]) (rst := [aR 23 0]) (c' := 0) (s' := 0) d95_43 mk90 rfl co90 lk5_93 ss90 (show 1 ≤ mL 90 by decide) rfl (show 1 ≤ 8 by decide) (by decide) (by decide) rfl rfl (by decide) (by decide) (m90 (N) L c) ?_
        refine Sem.topNN (if_neg h4) ?_
        refine Sem.ifN (tgt := 53) d95_46 (by decide) (by decide) (fun b28 => ?_) (fun b28 => ?_)
        · exact absurd (show ¬ 0 = 0 from b28) (by decide)
        refine Sem.seg [(.iconst 1, 0, 0)] ⟨⟨d95_49, trivial⟩, trivial⟩ (lv' := [(6, aN 1), (0, aR 23 0), (1, aI p), (2, aI c), (3, aI n), (4, aI f), (5, aI u)]) (st' := [aN 1, aR 23 0]) (w' := wd N L) (P := []) rfl (trivial) (pc' := 50) rfl ?_
        refine Sem.goto (tgt := 73) d95_50 (by decide) ?_
        refine Sem.cVp1 (t := 23) (i := 0) (as := [aN 1]) (rst := []) (c' := 0) (s' := 0) d95_73 mk91 rfl co91 lk5_97 im91 se91 rfl (vN (t := 23) (i := 0) (by decide)) (show 2 ≤ mL 91 by decide) rfl (show 0 ≤ 8 by decide) (by decide) (by decide) rfl rfl (by decide) (by decide) (m91 (N) L 1 (by decide)) ?_
        refine Sem.topNN (show (if 0 < 1 then 1 else 0) = 1 from rfl) ?_
        refine Sem.ifN (tgt := 80) d95_76 (by decide) (by decide) (fun b29 => ?_) (fun b29 => ?_)
        · exact absurd (show 1 = 0 from b29) (by decide)
        refine Sem.vret d95_79 rfl (by decide) (by decide) hzW ⟨rfl, _, _, rfl, ?_⟩
        have hb := bo_le (fitP (mN N) (p.toInt.toNat * 12 + c.toInt.toNat))
        have hcode : cLine (mN N) p c n f u = 1 := by unfold cLine; (repeat' split) <;> omega
        exact ⟨rfl, fun q => absurd (hcode.symm.trans q) (by decide), fun _ => by rw [hcode]⟩
    case neg =>
      refine Sem.cSp1 (as := [aI p]) (rst := [aR 23 0]) (c' := 0) (s' := 0) d95_36 mk90 rfl co90 lk5_93 ss90 (show 1 ≤ mL 90 by decide) rfl (show 1 ≤ 8 by decide) (by decide) (by decide) rfl rfl (by decide) (by decide) (m90 (N) L p) ?_
      refine Sem.topNN (if_neg h2) ?_
      refine Sem.ifN (tgt := 49) d95_39 (by decide) (by decide) (fun b30 => ?_) (fun b30 => ?_)
      rotate_left
      · exact absurd (show 0 = 0 from by decide) b30
      refine Sem.seg [(.iconst 1, 0, 0)] ⟨⟨d95_49, trivial⟩, trivial⟩ (lv' := [(6, aN 1), (0, aR 23 0), (1, aI p), (2, aI c), (3, aI n), (4, aI f), (5, aI u)]) (st' := [aN 1, aR 23 0]) (w' := wd N L) (P := []) rfl (trivial) (pc' := 50) rfl ?_
      refine Sem.goto (tgt := 73) d95_50 (by decide) ?_
      refine Sem.cVp1 (t := 23) (i := 0) (as := [aN 1]) (rst := []) (c' := 0) (s' := 0) d95_73 mk91 rfl co91 lk5_97 im91 se91 rfl (vN (t := 23) (i := 0) (by decide)) (show 2 ≤ mL 91 by decide) rfl (show 0 ≤ 8 by decide) (by decide) (by decide) rfl rfl (by decide) (by decide) (m91 (N) L 1 (by decide)) ?_
      refine Sem.topNN (show (if 0 < 1 then 1 else 0) = 1 from rfl) ?_
      refine Sem.ifN (tgt := 80) d95_76 (by decide) (by decide) (fun b31 => ?_) (fun b31 => ?_)
      · exact absurd (show 1 = 0 from b31) (by decide)
      refine Sem.vret d95_79 rfl (by decide) (by decide) hzW ⟨rfl, _, _, rfl, ?_⟩
      have hb := bo_le (fitP (mN N) (p.toInt.toNat * 12 + c.toInt.toNat))
      have hcode : cLine (mN N) p c n f u = 1 := by unfold cLine; (repeat' split) <;> omega
      exact ⟨rfl, fun q => absurd (hcode.symm.trans q) (by decide), fun _ => by rw [hcode]⟩
  · have b1_ : ¬ (n.toInt = 0) := bF rfl rfl b1
    refine Sem.seg [(.iload 4, 0, 0)] ⟨⟨d95_4, trivial⟩, trivial⟩ (lv' := [(0, aR 23 0), (1, aI p), (2, aI c), (3, aI n), (4, aI f), (5, aI u)]) (st' := [aI f]) (w' := wd N L) (P := []) rfl (trivial) (pc' := 6) rfl ?_
    by_cases h32 : 0 ≤ f.toInt ∧ f.toInt < 12
    case pos =>
      refine Sem.cSp1 (as := [aI f]) (rst := []) (c' := 0) (s' := 0) d95_6 mk90 rfl co90 lk5_93 ss90 (show 1 ≤ mL 90 by decide) rfl (show 0 ≤ 8 by decide) (by decide) (by decide) rfl rfl (by decide) (by decide) (m90 (N) L f) ?_
      refine Sem.topNN (if_pos h32) ?_
      refine Sem.ifN (tgt := 31) d95_9 (by decide) (by decide) (fun b33 => ?_) (fun b33 => ?_)
      · exact absurd (show 1 = 0 from b33) (by decide)
      refine Sem.seg [(.iload 5, 0, 0)] ⟨⟨d95_12, trivial⟩, trivial⟩ (lv' := [(0, aR 23 0), (1, aI p), (2, aI c), (3, aI n), (4, aI f), (5, aI u)]) (st' := [aI u]) (w' := wd N L) (P := []) rfl (trivial) (pc' := 14) rfl ?_
      by_cases h34 : 0 ≤ u.toInt ∧ u.toInt < 12
      case pos =>
        refine Sem.cSp1 (as := [aI u]) (rst := []) (c' := 0) (s' := 0) d95_14 mk90 rfl co90 lk5_93 ss90 (show 1 ≤ mL 90 by decide) rfl (show 0 ≤ 8 by decide) (by decide) (by decide) rfl rfl (by decide) (by decide) (m90 (N) L u) ?_
        refine Sem.topNN (if_pos h34) ?_
        refine Sem.ifN (tgt := 31) d95_17 (by decide) (by decide) (fun b35 => ?_) (fun b35 => ?_)
        · exact absurd (show 1 = 0 from b35) (by decide)
        refine Sem.seg [(.iload 4, 0, 0), (.iload 5, 0, 0)] ⟨⟨d95_20, trivial⟩, ⟨d95_22, trivial⟩, trivial⟩ (lv' := [(0, aR 23 0), (1, aI p), (2, aI c), (3, aI n), (4, aI f), (5, aI u)]) (st' := [aI u, aI f]) (w' := wd N L) (P := []) rfl (trivial) (pc' := 24) rfl ?_
        refine Sem.icmp (tgt := 31) d95_24 (by decide) rfl rfl (fun b36 => ?_) (fun b36 => ?_)
        · have b36_ : u.toInt < f.toInt := bT rfl rfl b36
          refine Sem.seg [(.iconst 0, 0, 0), (.istore 6, 0, 0), (.aload_n 0, 0, 0), (.iload_n 1, 0, 0)] ⟨⟨d95_31, trivial⟩, ⟨d95_32, trivial⟩, ⟨d95_34, trivial⟩, ⟨d95_35, trivial⟩, trivial⟩ (lv' := [(6, aN 0), (0, aR 23 0), (1, aI p), (2, aI c), (3, aI n), (4, aI f), (5, aI u)]) (st' := [aI p, aR 23 0]) (w' := wd N L) (P := []) rfl (trivial) (pc' := 36) rfl ?_
          by_cases h37 : 0 ≤ p.toInt ∧ p.toInt < 12
          case pos =>
            refine Sem.cSp1 (as := [aI p]) (rst := [aR 23 0]) (c' := 0) (s' := 0) d95_36 mk90 rfl co90 lk5_93 ss90 (show 1 ≤ mL 90 by decide) rfl (show 1 ≤ 8 by decide) (by decide) (by decide) rfl rfl (by decide) (by decide) (m90 (N) L p) ?_
            refine Sem.topNN (if_pos h37) ?_
            refine Sem.ifN (tgt := 49) d95_39 (by decide) (by decide) (fun b38 => ?_) (fun b38 => ?_)
            · exact absurd (show 1 = 0 from b38) (by decide)
            refine Sem.seg [(.iload_n 2, 0, 0)] ⟨⟨d95_42, trivial⟩, trivial⟩ (lv' := [(6, aN 0), (0, aR 23 0), (1, aI p), (2, aI c), (3, aI n), (4, aI f), (5, aI u)]) (st' := [aI c, aR 23 0]) (w' := wd N L) (P := []) rfl (trivial) (pc' := 43) rfl ?_
            by_cases h39 : 0 ≤ c.toInt ∧ c.toInt < 12
            case pos =>
              refine Sem.cSp1 (as := [aI c]) (rst := [aR 23 0]) (c' := 0) (s' := 0) d95_43 mk90 rfl co90 lk5_93 ss90 (show 1 ≤ mL 90 by decide) rfl (show 1 ≤ 8 by decide) (by decide) (by decide) rfl rfl (by decide) (by decide) (m90 (N) L c) ?_
              refine Sem.topNN (if_pos h39) ?_
              refine Sem.ifN (tgt := 53) d95_46 (by decide) (by decide) (fun b40 => ?_) (fun b40 => ?_)
              rotate_left
              · exact absurd (show ¬ 1 = 0 from by decide) b40
              refine Sem.seg [(.iload_n 3, 0, 0), (.iconst 0, 0, 0), (.bipush 9, 0, 0)] ⟨⟨d95_53, trivial⟩, ⟨d95_54, trivial⟩, ⟨d95_55, trivial⟩, trivial⟩ (lv' := [(6, aN 0), (0, aR 23 0), (1, aI p), (2, aI c), (3, aI n), (4, aI f), (5, aI u)]) (st' := [aN 9, aN 0, aI n, aR 23 0]) (w' := wd N L) (P := []) rfl (trivial) (pc' := 57) rfl ?_
              by_cases h41 : ((0 : Nat) : Int) ≤ n.toInt ∧ n.toInt ≤ ((9 : Nat) : Int)
              case pos =>
                refine Sem.cSp1 (as := [aI n, aN 0, aN 9]) (rst := [aR 23 0]) (c' := 0) (s' := 0) d95_57 mk89 rfl co89 lk5_89 ss89 (show 3 ≤ mL 89 by decide) rfl (show 1 ≤ 8 by decide) (by decide) (by decide) rfl rfl (by decide) (by decide) (m89 (N) L n 0 9 (by decide) (by decide)) ?_
                refine Sem.topNN (if_pos h41) ?_
                refine Sem.ifN (tgt := 68) d95_60 (by decide) (by decide) (fun b42 => ?_) (fun b42 => ?_)
                · exact absurd (show 1 = 0 from b42) (by decide)
                refine Sem.seg [(.iload 6, 0, 0)] ⟨⟨d95_63, trivial⟩, trivial⟩ (lv' := [(6, aN 0), (0, aR 23 0), (1, aI p), (2, aI c), (3, aI n), (4, aI f), (5, aI u)]) (st' := [aN 0, aR 23 0]) (w' := wd N L) (P := []) rfl (trivial) (pc' := 65) rfl ?_
                refine Sem.ifN (tgt := 72) d95_65 (by decide) (by decide) (fun b43 => ?_) (fun b43 => ?_)
                · exact absurd (show ¬ 0 = 0 from b43) (by decide)
                refine Sem.seg [(.iconst 2, 0, 0)] ⟨⟨d95_68, trivial⟩, trivial⟩ (lv' := [(6, aN 0), (0, aR 23 0), (1, aI p), (2, aI c), (3, aI n), (4, aI f), (5, aI u)]) (st' := [aN 2, aR 23 0]) (w' := wd N L) (P := []) rfl (trivial) (pc' := 69) rfl ?_
                refine Sem.goto (tgt := 73) d95_69 (by decide) ?_
                refine Sem.cVp1 (t := 23) (i := 0) (as := [aN 2]) (rst := []) (c' := 0) (s' := 0) d95_73 mk91 rfl co91 lk5_97 im91 se91 rfl (vN (t := 23) (i := 0) (by decide)) (show 2 ≤ mL 91 by decide) rfl (show 0 ≤ 8 by decide) (by decide) (by decide) rfl rfl (by decide) (by decide) (m91 (N) L 2 (by decide)) ?_
                refine Sem.topNN (show (if 0 < 2 then 1 else 0) = 1 from rfl) ?_
                refine Sem.ifN (tgt := 80) d95_76 (by decide) (by decide) (fun b44 => ?_) (fun b44 => ?_)
                · exact absurd (show 1 = 0 from b44) (by decide)
                refine Sem.vret d95_79 rfl (by decide) (by decide) hzW ⟨rfl, _, _, rfl, ?_⟩
                have hb := bo_le (fitP (mN N) (p.toInt.toNat * 12 + c.toInt.toNat))
                have hcode : cLine (mN N) p c n f u = 2 := by unfold cLine; (repeat' split) <;> omega
                exact ⟨rfl, fun q => absurd (hcode.symm.trans q) (by decide), fun _ => by rw [hcode]⟩
              case neg =>
                refine Sem.cSp1 (as := [aI n, aN 0, aN 9]) (rst := [aR 23 0]) (c' := 0) (s' := 0) d95_57 mk89 rfl co89 lk5_89 ss89 (show 3 ≤ mL 89 by decide) rfl (show 1 ≤ 8 by decide) (by decide) (by decide) rfl rfl (by decide) (by decide) (m89 (N) L n 0 9 (by decide) (by decide)) ?_
                refine Sem.topNN (if_neg h41) ?_
                refine Sem.ifN (tgt := 68) d95_60 (by decide) (by decide) (fun b45 => ?_) (fun b45 => ?_)
                rotate_left
                · exact absurd (show 0 = 0 from by decide) b45
                refine Sem.seg [(.iconst 2, 0, 0)] ⟨⟨d95_68, trivial⟩, trivial⟩ (lv' := [(6, aN 0), (0, aR 23 0), (1, aI p), (2, aI c), (3, aI n), (4, aI f), (5, aI u)]) (st' := [aN 2, aR 23 0]) (w' := wd N L) (P := []) rfl (trivial) (pc' := 69) rfl ?_
                refine Sem.goto (tgt := 73) d95_69 (by decide) ?_
                refine Sem.cVp1 (t := 23) (i := 0) (as := [aN 2]) (rst := []) (c' := 0) (s' := 0) d95_73 mk91 rfl co91 lk5_97 im91 se91 rfl (vN (t := 23) (i := 0) (by decide)) (show 2 ≤ mL 91 by decide) rfl (show 0 ≤ 8 by decide) (by decide) (by decide) rfl rfl (by decide) (by decide) (m91 (N) L 2 (by decide)) ?_
                refine Sem.topNN (show (if 0 < 2 then 1 else 0) = 1 from rfl) ?_
                refine Sem.ifN (tgt := 80) d95_76 (by decide) (by decide) (fun b46 => ?_) (fun b46 => ?_)
                · exact absurd (show 1 = 0 from b46) (by decide)
                refine Sem.vret d95_79 rfl (by decide) (by decide) hzW ⟨rfl, _, _, rfl, ?_⟩
                have hb := bo_le (fitP (mN N) (p.toInt.toNat * 12 + c.toInt.toNat))
                have hcode : cLine (mN N) p c n f u = 2 := by unfold cLine; (repeat' split) <;> omega
                exact ⟨rfl, fun q => absurd (hcode.symm.trans q) (by decide), fun _ => by rw [hcode]⟩
            case neg =>
              refine Sem.cSp1 (as := [aI c]) (rst := [aR 23 0]) (c' := 0) (s' := 0) d95_43 mk90 rfl co90 lk5_93 ss90 (show 1 ≤ mL 90 by decide) rfl (show 1 ≤ 8 by decide) (by decide) (by decide) rfl rfl (by decide) (by decide) (m90 (N) L c) ?_
              refine Sem.topNN (if_neg h39) ?_
              refine Sem.ifN (tgt := 53) d95_46 (by decide) (by decide) (fun b47 => ?_) (fun b47 => ?_)
              · exact absurd (show ¬ 0 = 0 from b47) (by decide)
              refine Sem.seg [(.iconst 1, 0, 0)] ⟨⟨d95_49, trivial⟩, trivial⟩ (lv' := [(6, aN 0), (0, aR 23 0), (1, aI p), (2, aI c), (3, aI n), (4, aI f), (5, aI u)]) (st' := [aN 1, aR 23 0]) (w' := wd N L) (P := []) rfl (trivial) (pc' := 50) rfl ?_
              refine Sem.goto (tgt := 73) d95_50 (by decide) ?_
              refine Sem.cVp1 (t := 23) (i := 0) (as := [aN 1]) (rst := []) (c' := 0) (s' := 0) d95_73 mk91 rfl co91 lk5_97 im91 se91 rfl (vN (t := 23) (i := 0) (by decide)) (show 2 ≤ mL 91 by decide) rfl (show 0 ≤ 8 by decide) (by decide) (by decide) rfl rfl (by decide) (by decide) (m91 (N) L 1 (by decide)) ?_
              refine Sem.topNN (show (if 0 < 1 then 1 else 0) = 1 from rfl) ?_
              refine Sem.ifN (tgt := 80) d95_76 (by decide) (by decide) (fun b48 => ?_) (fun b48 => ?_)
              · exact absurd (show 1 = 0 from b48) (by decide)
              refine Sem.vret d95_79 rfl (by decide) (by decide) hzW ⟨rfl, _, _, rfl, ?_⟩
              have hb := bo_le (fitP (mN N) (p.toInt.toNat * 12 + c.toInt.toNat))
              have hcode : cLine (mN N) p c n f u = 1 := by unfold cLine; (repeat' split) <;> omega
              exact ⟨rfl, fun q => absurd (hcode.symm.trans q) (by decide), fun _ => by rw [hcode]⟩
          case neg =>
            refine Sem.cSp1 (as := [aI p]) (rst := [aR 23 0]) (c' := 0) (s' := 0) d95_36 mk90 rfl co90 lk5_93 ss90 (show 1 ≤ mL 90 by decide) rfl (show 1 ≤ 8 by decide) (by decide) (by decide) rfl rfl (by decide) (by decide) (m90 (N) L p) ?_
            refine Sem.topNN (if_neg h37) ?_
            refine Sem.ifN (tgt := 49) d95_39 (by decide) (by decide) (fun b49 => ?_) (fun b49 => ?_)
            rotate_left
            · exact absurd (show 0 = 0 from by decide) b49
            refine Sem.seg [(.iconst 1, 0, 0)] ⟨⟨d95_49, trivial⟩, trivial⟩ (lv' := [(6, aN 0), (0, aR 23 0), (1, aI p), (2, aI c), (3, aI n), (4, aI f), (5, aI u)]) (st' := [aN 1, aR 23 0]) (w' := wd N L) (P := []) rfl (trivial) (pc' := 50) rfl ?_
            refine Sem.goto (tgt := 73) d95_50 (by decide) ?_
            refine Sem.cVp1 (t := 23) (i := 0) (as := [aN 1]) (rst := []) (c' := 0) (s' := 0) d95_73 mk91 rfl co91 lk5_97 im91 se91 rfl (vN (t := 23) (i := 0) (by decide)) (show 2 ≤ mL 91 by decide) rfl (show 0 ≤ 8 by decide) (by decide) (by decide) rfl rfl (by decide) (by decide) (m91 (N) L 1 (by decide)) ?_
            refine Sem.topNN (show (if 0 < 1 then 1 else 0) = 1 from rfl) ?_
            refine Sem.ifN (tgt := 80) d95_76 (by decide) (by decide) (fun b50 => ?_) (fun b50 => ?_)
            · exact absurd (show 1 = 0 from b50) (by decide)
            refine Sem.vret d95_79 rfl (by decide) (by decide) hzW ⟨rfl, _, _, rfl, ?_⟩
            have hb := bo_le (fitP (mN N) (p.toInt.toNat * 12 + c.toInt.toNat))
            have hcode : cLine (mN N) p c n f u = 1 := by unfold cLine; (repeat' split) <;> omega
            exact ⟨rfl, fun q => absurd (hcode.symm.trans q) (by decide), fun _ => by rw [hcode]⟩
        · have b36_ : ¬ (u.toInt < f.toInt) := bF rfl rfl b36
          refine Sem.seg [(.iconst 1, 0, 0)] ⟨⟨d95_27, trivial⟩, trivial⟩ (lv' := [(0, aR 23 0), (1, aI p), (2, aI c), (3, aI n), (4, aI f), (5, aI u)]) (st' := [aN 1]) (w' := wd N L) (P := []) rfl (trivial) (pc' := 28) rfl ?_
          refine Sem.goto (tgt := 32) d95_28 (by decide) ?_
          refine Sem.seg [(.istore 6, 0, 0), (.aload_n 0, 0, 0), (.iload_n 1, 0, 0)] ⟨⟨d95_32, trivial⟩, ⟨d95_34, trivial⟩, ⟨d95_35, trivial⟩, trivial⟩ (lv' := [(6, aN 1), (0, aR 23 0), (1, aI p), (2, aI c), (3, aI n), (4, aI f), (5, aI u)]) (st' := [aI p, aR 23 0]) (w' := wd N L) (P := []) rfl (trivial) (pc' := 36) rfl ?_
          by_cases h51 : 0 ≤ p.toInt ∧ p.toInt < 12
          case pos =>
            refine Sem.cSp1 (as := [aI p]) (rst := [aR 23 0]) (c' := 0) (s' := 0) d95_36 mk90 rfl co90 lk5_93 ss90 (show 1 ≤ mL 90 by decide) rfl (show 1 ≤ 8 by decide) (by decide) (by decide) rfl rfl (by decide) (by decide) (m90 (N) L p) ?_
            refine Sem.topNN (if_pos h51) ?_
            refine Sem.ifN (tgt := 49) d95_39 (by decide) (by decide) (fun b52 => ?_) (fun b52 => ?_)
            · exact absurd (show 1 = 0 from b52) (by decide)
            refine Sem.seg [(.iload_n 2, 0, 0)] ⟨⟨d95_42, trivial⟩, trivial⟩ (lv' := [(6, aN 1), (0, aR 23 0), (1, aI p), (2, aI c), (3, aI n), (4, aI f), (5, aI u)]) (st' := [aI c, aR 23 0]) (w' := wd N L) (P := []) rfl (trivial) (pc' := 43) rfl ?_
            by_cases h53 : 0 ≤ c.toInt ∧ c.toInt < 12
            case pos =>
              refine Sem.cSp1 (as := [aI c]) (rst := [aR 23 0]) (c' := 0) (s' := 0) d95_43 mk90 rfl co90 lk5_93 ss90 (show 1 ≤ mL 90 by decide) rfl (show 1 ≤ 8 by decide) (by decide) (by decide) rfl rfl (by decide) (by decide) (m90 (N) L c) ?_
              refine Sem.topNN (if_pos h53) ?_
              refine Sem.ifN (tgt := 53) d95_46 (by decide) (by decide) (fun b54 => ?_) (fun b54 => ?_)
              rotate_left
              · exact absurd (show ¬ 1 = 0 from by decide) b54
              refine Sem.seg [(.iload_n 3, 0, 0), (.iconst 0, 0, 0), (.bipush 9, 0, 0)] ⟨⟨d95_53, trivial⟩, ⟨d95_54, trivial⟩, ⟨d95_55, trivial⟩, trivial⟩ (lv' := [(6, aN 1), (0, aR 23 0), (1, aI p), (2, aI c), (3, aI n), (4, aI f), (5, aI u)]) (st' := [aN 9, aN 0, aI n, aR 23 0]) (w' := wd N L) (P := []) rfl (trivial) (pc' := 57) rfl ?_
              by_cases h55 : ((0 : Nat) : Int) ≤ n.toInt ∧ n.toInt ≤ ((9 : Nat) : Int)
              case pos =>
                refine Sem.cSp1 (as := [aI n, aN 0, aN 9]) (rst := [aR 23 0]) (c' := 0) (s' := 0) d95_57 mk89 rfl co89 lk5_89 ss89 (show 3 ≤ mL 89 by decide) rfl (show 1 ≤ 8 by decide) (by decide) (by decide) rfl rfl (by decide) (by decide) (m89 (N) L n 0 9 (by decide) (by decide)) ?_
                refine Sem.topNN (if_pos h55) ?_
                refine Sem.ifN (tgt := 68) d95_60 (by decide) (by decide) (fun b56 => ?_) (fun b56 => ?_)
                · exact absurd (show 1 = 0 from b56) (by decide)
                refine Sem.seg [(.iload 6, 0, 0)] ⟨⟨d95_63, trivial⟩, trivial⟩ (lv' := [(6, aN 1), (0, aR 23 0), (1, aI p), (2, aI c), (3, aI n), (4, aI f), (5, aI u)]) (st' := [aN 1, aR 23 0]) (w' := wd N L) (P := []) rfl (trivial) (pc' := 65) rfl ?_
                refine Sem.ifN (tgt := 72) d95_65 (by decide) (by decide) (fun b57 => ?_) (fun b57 => ?_)
                rotate_left
                · exact absurd (show ¬ 1 = 0 from by decide) b57
                refine Sem.seg [(.iconst 0, 0, 0)] ⟨⟨d95_72, trivial⟩, trivial⟩ (lv' := [(6, aN 1), (0, aR 23 0), (1, aI p), (2, aI c), (3, aI n), (4, aI f), (5, aI u)]) (st' := [aN 0, aR 23 0]) (w' := wd N L) (P := []) rfl (trivial) (pc' := 73) rfl ?_
                refine Sem.cVp1 (t := 23) (i := 0) (as := [aN 0]) (rst := []) (c' := 0) (s' := 0) d95_73 mk91 rfl co91 lk5_97 im91 se91 rfl (vN (t := 23) (i := 0) (by decide)) (show 2 ≤ mL 91 by decide) rfl (show 0 ≤ 8 by decide) (by decide) (by decide) rfl rfl (by decide) (by decide) (m91 (N) L 0 (by decide)) ?_
                refine Sem.topNN (show (if 0 < 0 then 1 else 0) = 0 from rfl) ?_
                refine Sem.ifN (tgt := 80) d95_76 (by decide) (by decide) (fun b58 => ?_) (fun b58 => ?_)
                rotate_left
                · exact absurd (show 0 = 0 from by decide) b58
                refine Sem.pick [2, 0, 1, 3, 4, 5, 6] (lv' := [(1, aI p), (6, aN 1), (0, aR 23 0), (2, aI c), (3, aI n), (4, aI f), (5, aI u)]) rfl ?_
                refine Sem.loc0 (show p = nI p.toInt.toNat from i_nI2 (by omega)) ?_
                refine Sem.pick [3, 0, 1, 2, 4, 5, 6] (lv' := [(2, aI c), (1, aN p.toInt.toNat), (6, aN 1), (0, aR 23 0), (3, aI n), (4, aI f), (5, aI u)]) rfl ?_
                refine Sem.loc0 (show c = nI c.toInt.toNat from i_nI2 (by omega)) ?_
                refine Sem.pick [4, 0, 1, 2, 3, 5, 6] (lv' := [(3, aI n), (2, aN c.toInt.toNat), (1, aN p.toInt.toNat), (6, aN 1), (0, aR 23 0), (4, aI f), (5, aI u)]) rfl ?_
                refine Sem.loc0 (show n = nI n.toInt.toNat from i_nI2 (by omega)) ?_
                refine Sem.pick [5, 0, 1, 2, 3, 4, 6] (lv' := [(4, aI f), (3, aN n.toInt.toNat), (2, aN c.toInt.toNat), (1, aN p.toInt.toNat), (6, aN 1), (0, aR 23 0), (5, aI u)]) rfl ?_
                refine Sem.loc0 (show f = nI (tn f) from (nI_tn f).symm) ?_
                refine Sem.pick [6, 0, 1, 2, 3, 4, 5] (lv' := [(5, aI u), (4, aN (tn f)), (3, aN n.toInt.toNat), (2, aN c.toInt.toNat), (1, aN p.toInt.toNat), (6, aN 1), (0, aR 23 0)]) rfl ?_
                refine Sem.loc0 (show u = nI (tn u) from (nI_tn u).symm) ?_
                have e9 := h9 (p.toInt.toNat * 12 + c.toInt.toNat) (by omega)
                have hl1 := hl1 (p.toInt.toNat * 12 + c.toInt.toNat) (by omega)
                refine Sem.seg [(.bipush 12, 0, 0), (.iload_n 1, 0, 0), (.imul, 0, 0), (.iload_n 2, 0, 0), (.iadd, 0, 0)] ⟨⟨d95_80, trivial⟩, ⟨d95_82, trivial⟩, ⟨d95_83, trivial⟩, ⟨d95_84, trivial⟩, ⟨d95_85, trivial⟩, trivial⟩ (lv' := [(5, aN (tn u)), (4, aN (tn f)), (3, aN n.toInt.toNat), (2, aN c.toInt.toNat), (1, aN p.toInt.toNat), (6, aN 1), (0, aR 23 0)]) (st' := [aN ((12 * p.toInt.toNat) + c.toInt.toNat)]) (w' := wd (upN N 23 0 0 0) L) (P := []) rfl (trivial) (pc' := 86) rfl ?_
                refine Sem.topNN (show (12 * p.toInt.toNat) + c.toInt.toNat = p.toInt.toNat * 12 + c.toInt.toNat from by omega) ?_
                refine Sem.seg [(.istore 7, 0, 0), (.aload_n 0, 0, 0), (.getfield 40, 5, 11), (.iload 7, 0, 0), (.iaload, 0, 0), (.istore 8, 0, 0), (.aload_n 0, 0, 0), (.getfield 43, 5, 12), (.iload 7, 0, 0)] ⟨⟨d95_86, trivial⟩, ⟨d95_88, trivial⟩, ⟨d95_89, gf5_40⟩, ⟨d95_92, trivial⟩, ⟨d95_94, trivial⟩, ⟨d95_95, trivial⟩, ⟨d95_97, trivial⟩, ⟨d95_98, gf5_43⟩, ⟨d95_101, trivial⟩, trivial⟩ (lv' := [(8, aN (N 34 0 (p.toInt.toNat * 12 + c.toInt.toNat))), (7, aN (p.toInt.toNat * 12 + c.toInt.toNat)), (5, aN (tn u)), (4, aN (tn f)), (3, aN n.toInt.toNat), (2, aN c.toInt.toNat), (1, aN p.toInt.toNat), (6, aN 1), (0, aR 23 0)]) (st' := [aN (p.toInt.toNat * 12 + c.toInt.toNat), aR 35 0]) (w' := wd (upN N 23 0 0 0) L) (P := [vld NN 23 0, vld NN 34 0, p.toInt.toNat * 12 + c.toInt.toNat < 144, vld NN 23 0]) rfl (⟨vN (t := 23) (i := 0) (by decide), vN (t := 34) (i := 0) (by decide), (show p.toInt.toNat * 12 + c.toInt.toNat < 144 by omega), vN (t := 23) (i := 0) (by decide)⟩) (pc' := 103) rfl ?_
                refine Sem.seg [(.iaload, 0, 0), (.istore 9, 0, 0), (.aload_n 0, 0, 0), (.getfield 46, 5, 13), (.iload 7, 0, 0), (.iaload, 0, 0), (.istore 10, 0, 0), (.aload_n 0, 0, 0), (.iload_n 3, 0, 0)] ⟨⟨d95_103, trivial⟩, ⟨d95_104, trivial⟩, ⟨d95_106, trivial⟩, ⟨d95_107, gf5_46⟩, ⟨d95_110, trivial⟩, ⟨d95_112, trivial⟩, ⟨d95_113, trivial⟩, ⟨d95_115, trivial⟩, ⟨d95_116, trivial⟩, trivial⟩ (lv' := [(10, aN (N 36 0 (p.toInt.toNat * 12 + c.toInt.toNat))), (9, aN (N 35 0 (p.toInt.toNat * 12 + c.toInt.toNat))), (8, aN (N 34 0 (p.toInt.toNat * 12 + c.toInt.toNat))), (7, aN (p.toInt.toNat * 12 + c.toInt.toNat)), (5, aN (tn u)), (4, aN (tn f)), (3, aN n.toInt.toNat), (2, aN c.toInt.toNat), (1, aN p.toInt.toNat), (6, aN 1), (0, aR 23 0)]) (st' := [aN n.toInt.toNat, aR 23 0]) (w' := wd (upN N 23 0 0 0) L) (P := [vld NN 35 0, p.toInt.toNat * 12 + c.toInt.toNat < 144, vld NN 23 0, vld NN 36 0, p.toInt.toNat * 12 + c.toInt.toNat < 144]) rfl (⟨vN (t := 35) (i := 0) (by decide), (show p.toInt.toNat * 12 + c.toInt.toNat < 144 by omega), vN (t := 23) (i := 0) (by decide), vN (t := 36) (i := 0) (by decide), (show p.toInt.toNat * 12 + c.toInt.toNat < 144 by omega)⟩) (pc' := 117) rfl ?_
                refine Sem.ifN (tgt := 138) d95_117 (by decide) (show n.toInt.toNat < 2 ^ 31 by omega) (fun b59 => ?_) (fun b59 => ?_)
                · have b59_ : n.toInt.toNat ≤ 0 := b59
                  refine Sem.seg [(.iconst 0, 0, 0)] ⟨⟨d95_138, trivial⟩, trivial⟩ (lv' := [(10, aN (N 36 0 (p.toInt.toNat * 12 + c.toInt.toNat))), (9, aN (N 35 0 (p.toInt.toNat * 12 + c.toInt.toNat))), (8, aN (N 34 0 (p.toInt.toNat * 12 + c.toInt.toNat))), (7, aN (p.toInt.toNat * 12 + c.toInt.toNat)), (5, aN (tn u)), (4, aN (tn f)), (3, aN n.toInt.toNat), (2, aN c.toInt.toNat), (1, aN p.toInt.toNat), (6, aN 1), (0, aR 23 0)]) (st' := [aN 0, aR 23 0]) (w' := wd (upN N 23 0 0 0) L) (P := []) rfl (trivial) (pc' := 139) rfl ?_
                  refine Sem.cVp1 (t := 23) (i := 0) (as := [aN 0]) (rst := []) (c' := 0) (s' := 0) d95_139 mk91 rfl co91 lk5_97 im91 se91 rfl (vN (t := 23) (i := 0) (by decide)) (show 2 ≤ mL 91 by decide) rfl (show 0 ≤ 8 by decide) (by decide) (by decide) rfl rfl (by decide) (by decide) (m91 (upN N 23 0 0 0) L 0 (by decide)) ?_
                  refine Sem.topNN (show (if 0 < 0 then 1 else 0) = 0 from rfl) ?_
                  refine Sem.ifN (tgt := 146) d95_142 (by decide) (by decide) (fun b60 => ?_) (fun b60 => ?_)
                  rotate_left
                  · exact absurd (show 0 = 0 from by decide) b60
                  refine Sem.seg [(.aload_n 0, 0, 0), (.iload 7, 0, 0), (.iload_n 3, 0, 0), (.iload 4, 0, 0), (.iload 5, 0, 0)] ⟨⟨d95_146, trivial⟩, ⟨d95_147, trivial⟩, ⟨d95_149, trivial⟩, ⟨d95_150, trivial⟩, ⟨d95_152, trivial⟩, trivial⟩ (lv' := [(10, aN (N 36 0 (p.toInt.toNat * 12 + c.toInt.toNat))), (9, aN (N 35 0 (p.toInt.toNat * 12 + c.toInt.toNat))), (8, aN (N 34 0 (p.toInt.toNat * 12 + c.toInt.toNat))), (7, aN (p.toInt.toNat * 12 + c.toInt.toNat)), (5, aN (tn u)), (4, aN (tn f)), (3, aN n.toInt.toNat), (2, aN c.toInt.toNat), (1, aN p.toInt.toNat), (6, aN 1), (0, aR 23 0)]) (st' := [aN (tn u), aN (tn f), aN n.toInt.toNat, aN (p.toInt.toNat * 12 + c.toInt.toNat), aR 23 0]) (w' := wd (upN (upN N 23 0 0 0) 23 0 0 0) L) (P := []) rfl (trivial) (pc' := 154) rfl ?_
                  refine Sem.cVp0 (t := 23) (i := 0) (as := [aN (p.toInt.toNat * 12 + c.toInt.toNat), aN n.toInt.toNat, aN (tn f), aN (tn u)]) (rst := []) (c' := 0) (s' := 0) d95_154 mk96 rfl co96 lk5_112 im96 se96 rfl (vN (t := 23) (i := 0) (by decide)) (show 5 ≤ mL 96 by decide) rfl (show 0 ≤ 8 by decide) (by decide) (by decide) rfl rfl (by decide) (by decide) (m96 (upN (upN N 23 0 0 0) 23 0 0 0) L (p.toInt.toNat * 12 + c.toInt.toNat) n.toInt.toNat (tn f) (tn u) (by omega) (by omega) (show N 34 0 (p.toInt.toNat * 12 + c.toInt.toNat) ≤ 9 by omega) (show 0 < N 34 0 (p.toInt.toNat * 12 + c.toInt.toNat) → 1 ≤ N 23 0 14 from hl1) (show N 23 0 14 < 2 ^ 30 by omega)) ?_
                  have g34 : ∀ j, (upN (upN (upN (upN (upN (upN N 23 0 0 0) 23 0 0 0) 23 0 14 (N 23 0 14 + (if n.toInt.toNat = 0 then 0 else 1) - (if N 34 0 (p.toInt.toNat * 12 + c.toInt.toNat) = 0 then 0 else 1))) 34 0 (p.toInt.toNat * 12 + c.toInt.toNat) n.toInt.toNat) 35 0 (p.toInt.toNat * 12 + c.toInt.toNat) (tn f)) 36 0 (p.toInt.toNat * 12 + c.toInt.toNat) (tn u)) 34 0 j = if j = (p.toInt.toNat * 12 + c.toInt.toNat) then n.toInt.toNat else N 34 0 j := fun j => by simp [upN]
                  have e34 : (upN (upN (upN (upN (upN (upN N 23 0 0 0) 23 0 0 0) 23 0 14 (N 23 0 14 + (if n.toInt.toNat = 0 then 0 else 1) - (if N 34 0 (p.toInt.toNat * 12 + c.toInt.toNat) = 0 then 0 else 1))) 34 0 (p.toInt.toNat * 12 + c.toInt.toNat) n.toInt.toNat) 35 0 (p.toInt.toNat * 12 + c.toInt.toNat) (tn f)) 36 0 (p.toInt.toNat * 12 + c.toInt.toNat) (tn u)) 34 0 (p.toInt.toNat * 12 + c.toInt.toNat) = n.toInt.toNat := by rw [g34, if_pos rfl]
                  have e14 : (upN (upN (upN (upN (upN (upN N 23 0 0 0) 23 0 0 0) 23 0 14 (N 23 0 14 + (if n.toInt.toNat = 0 then 0 else 1) - (if N 34 0 (p.toInt.toNat * 12 + c.toInt.toNat) = 0 then 0 else 1))) 34 0 (p.toInt.toNat * 12 + c.toInt.toNat) n.toInt.toNat) 35 0 (p.toInt.toNat * 12 + c.toInt.toNat) (tn f)) 36 0 (p.toInt.toNat * 12 + c.toInt.toNat) (tn u)) 23 0 14 = N 23 0 14 + (if n.toInt.toNat = 0 then 0 else 1) - (if N 34 0 (p.toInt.toNat * 12 + c.toInt.toNat) = 0 then 0 else 1) := by simp [upN]
                  have hss := sl_sn (N := N) g34 hsn (fun q1 q2 => by omega)
                  refine Sem.seg [(.aload_n 0, 0, 0)] ⟨⟨d95_157, trivial⟩, trivial⟩ (lv' := [(10, aN (N 36 0 (p.toInt.toNat * 12 + c.toInt.toNat))), (9, aN (N 35 0 (p.toInt.toNat * 12 + c.toInt.toNat))), (8, aN (N 34 0 (p.toInt.toNat * 12 + c.toInt.toNat))), (7, aN (p.toInt.toNat * 12 + c.toInt.toNat)), (5, aN (tn u)), (4, aN (tn f)), (3, aN n.toInt.toNat), (2, aN c.toInt.toNat), (1, aN p.toInt.toNat), (6, aN 1), (0, aR 23 0)]) (st' := [aR 23 0]) (w' := wd (upN (upN (upN (upN (upN (upN N 23 0 0 0) 23 0 0 0) 23 0 14 (N 23 0 14 + (if n.toInt.toNat = 0 then 0 else 1) - (if N 34 0 (p.toInt.toNat * 12 + c.toInt.toNat) = 0 then 0 else 1))) 34 0 (p.toInt.toNat * 12 + c.toInt.toNat) n.toInt.toNat) 35 0 (p.toInt.toNat * 12 + c.toInt.toNat) (tn f)) 36 0 (p.toInt.toNat * 12 + c.toInt.toNat) (tn u)) L) (P := []) rfl (trivial) (pc' := 158) rfl ?_
                  by_cases h61 : SN (eg (mN (upN (upN (upN (upN (upN (upN N 23 0 0 0) 23 0 0 0) 23 0 14 (N 23 0 14 + (if n.toInt.toNat = 0 then 0 else 1) - (if N 34 0 (p.toInt.toNat * 12 + c.toInt.toNat) = 0 then 0 else 1))) 34 0 (p.toInt.toNat * 12 + c.toInt.toNat) n.toInt.toNat) 35 0 (p.toInt.toNat * 12 + c.toInt.toNat) (tn f)) 36 0 (p.toInt.toNat * 12 + c.toInt.toNat) (tn u))))
                  case pos =>
                    refine Sem.cVp1 (t := 23) (i := 0) (as := []) (rst := []) (c' := 0) (s' := 0) d95_158 mk97 rfl co97 lk5_116 im97 se97 rfl (vN (t := 23) (i := 0) (by decide)) (show 1 ≤ mL 97 by decide) rfl (show 0 ≤ 8 by decide) (by decide) (by decide) rfl rfl (by decide) (by decide) (m97 (upN (upN (upN (upN (upN (upN N 23 0 0 0) 23 0 0 0) 23 0 14 (N 23 0 14 + (if n.toInt.toNat = 0 then 0 else 1) - (if N 34 0 (p.toInt.toNat * 12 + c.toInt.toNat) = 0 then 0 else 1))) 34 0 (p.toInt.toNat * 12 + c.toInt.toNat) n.toInt.toNat) 35 0 (p.toInt.toNat * 12 + c.toInt.toNat) (tn f)) 36 0 (p.toInt.toNat * 12 + c.toInt.toNat) (tn u)) L (fun j hj => by rw [g34]; split <;> first | omega | exact h9 j hj)) ?_
                    refine Sem.topNN (bo_t h61) ?_
                    have hS := h61
                    refine Sem.ifN (tgt := 182) d95_161 (by decide) (by decide) (fun b62 => ?_) (fun b62 => ?_)
                    rotate_left
                    · exact absurd (show ¬ 1 = 0 from by decide) b62
                    refine Sem.seg [(.aload_n 0, 0, 0), (.iload_n 2, 0, 0)] ⟨⟨d95_182, trivial⟩, ⟨d95_183, trivial⟩, trivial⟩ (lv' := [(10, aN (N 36 0 (p.toInt.toNat * 12 + c.toInt.toNat))), (9, aN (N 35 0 (p.toInt.toNat * 12 + c.toInt.toNat))), (8, aN (N 34 0 (p.toInt.toNat * 12 + c.toInt.toNat))), (7, aN (p.toInt.toNat * 12 + c.toInt.toNat)), (5, aN (tn u)), (4, aN (tn f)), (3, aN n.toInt.toNat), (2, aN c.toInt.toNat), (1, aN p.toInt.toNat), (6, aN 1), (0, aR 23 0)]) (st' := [aN c.toInt.toNat, aR 23 0]) (w' := wd (upN (upN (upN (upN (upN (upN N 23 0 0 0) 23 0 0 0) 23 0 14 (N 23 0 14 + (if n.toInt.toNat = 0 then 0 else 1) - (if N 34 0 (p.toInt.toNat * 12 + c.toInt.toNat) = 0 then 0 else 1))) 34 0 (p.toInt.toNat * 12 + c.toInt.toNat) n.toInt.toNat) 35 0 (p.toInt.toNat * 12 + c.toInt.toNat) (tn f)) 36 0 (p.toInt.toNat * 12 + c.toInt.toNat) (tn u)) L) (P := []) rfl (trivial) (pc' := 184) rfl ?_
                    refine Sem.cVp0 (t := 23) (i := 0) (as := [aN c.toInt.toNat]) (rst := []) (c' := 0) (s' := 0) d95_184 mk92 rfl co92 lk5_100 im92 se92 rfl (vN (t := 23) (i := 0) (by decide)) (show 2 ≤ mL 92 by decide) rfl (show 0 ≤ 8 by decide) (by decide) (by decide) rfl rfl (by decide) (by decide) (m92 (upN (upN (upN (upN (upN (upN N 23 0 0 0) 23 0 0 0) 23 0 14 (N 23 0 14 + (if n.toInt.toNat = 0 then 0 else 1) - (if N 34 0 (p.toInt.toNat * 12 + c.toInt.toNat) = 0 then 0 else 1))) 34 0 (p.toInt.toNat * 12 + c.toInt.toNat) n.toInt.toNat) 35 0 (p.toInt.toNat * 12 + c.toInt.toNat) (tn f)) 36 0 (p.toInt.toNat * 12 + c.toInt.toNat) (tn u)) L c.toInt.toNat (by first | omega | assumption)) ?_
                    refine Sem.vret d95_187 rfl (by decide) (by decide) hzW ⟨rfl, _, _, rfl, ?_⟩
                    have hb : n.toInt.toNat = 0 ∨ bo (fitP (mN N) (p.toInt.toNat * 12 + c.toInt.toNat)) = 1 := by
                      rcases hss.mp hS with q | q
                      · exact Or.inl q
                      · exact Or.inr (bo_t q)
                    have hcode : cLine (mN N) p c n f u = 0 := by unfold cLine; (repeat' split) <;> omega
                    exact ⟨rfl, fun _ => rfl, fun q => absurd hcode q⟩
                  case neg =>
                    refine Sem.cVp1 (t := 23) (i := 0) (as := []) (rst := []) (c' := 0) (s' := 0) d95_158 mk97 rfl co97 lk5_116 im97 se97 rfl (vN (t := 23) (i := 0) (by decide)) (show 1 ≤ mL 97 by decide) rfl (show 0 ≤ 8 by decide) (by decide) (by decide) rfl rfl (by decide) (by decide) (m97 (upN (upN (upN (upN (upN (upN N 23 0 0 0) 23 0 0 0) 23 0 14 (N 23 0 14 + (if n.toInt.toNat = 0 then 0 else 1) - (if N 34 0 (p.toInt.toNat * 12 + c.toInt.toNat) = 0 then 0 else 1))) 34 0 (p.toInt.toNat * 12 + c.toInt.toNat) n.toInt.toNat) 35 0 (p.toInt.toNat * 12 + c.toInt.toNat) (tn f)) 36 0 (p.toInt.toNat * 12 + c.toInt.toNat) (tn u)) L (fun j hj => by rw [g34]; split <;> first | omega | exact h9 j hj)) ?_
                    refine Sem.topNN (bo_f h61) ?_
                    have hS := h61
                    refine Sem.ifN (tgt := 182) d95_161 (by decide) (by decide) (fun b63 => ?_) (fun b63 => ?_)
                    · exact absurd (show ¬ 0 = 0 from b63) (by decide)
                    refine Sem.seg [(.aload_n 0, 0, 0), (.iload 7, 0, 0), (.iload 8, 0, 0), (.iload 9, 0, 0), (.iload 10, 0, 0)] ⟨⟨d95_164, trivial⟩, ⟨d95_165, trivial⟩, ⟨d95_167, trivial⟩, ⟨d95_169, trivial⟩, ⟨d95_171, trivial⟩, trivial⟩ (lv' := [(10, aN (N 36 0 (p.toInt.toNat * 12 + c.toInt.toNat))), (9, aN (N 35 0 (p.toInt.toNat * 12 + c.toInt.toNat))), (8, aN (N 34 0 (p.toInt.toNat * 12 + c.toInt.toNat))), (7, aN (p.toInt.toNat * 12 + c.toInt.toNat)), (5, aN (tn u)), (4, aN (tn f)), (3, aN n.toInt.toNat), (2, aN c.toInt.toNat), (1, aN p.toInt.toNat), (6, aN 1), (0, aR 23 0)]) (st' := [aN (N 36 0 (p.toInt.toNat * 12 + c.toInt.toNat)), aN (N 35 0 (p.toInt.toNat * 12 + c.toInt.toNat)), aN (N 34 0 (p.toInt.toNat * 12 + c.toInt.toNat)), aN (p.toInt.toNat * 12 + c.toInt.toNat), aR 23 0]) (w' := wd (upN (upN (upN (upN (upN (upN N 23 0 0 0) 23 0 0 0) 23 0 14 (N 23 0 14 + (if n.toInt.toNat = 0 then 0 else 1) - (if N 34 0 (p.toInt.toNat * 12 + c.toInt.toNat) = 0 then 0 else 1))) 34 0 (p.toInt.toNat * 12 + c.toInt.toNat) n.toInt.toNat) 35 0 (p.toInt.toNat * 12 + c.toInt.toNat) (tn f)) 36 0 (p.toInt.toNat * 12 + c.toInt.toNat) (tn u)) L) (P := []) rfl (trivial) (pc' := 173) rfl ?_
                    refine Sem.cVp0 (t := 23) (i := 0) (as := [aN (p.toInt.toNat * 12 + c.toInt.toNat), aN (N 34 0 (p.toInt.toNat * 12 + c.toInt.toNat)), aN (N 35 0 (p.toInt.toNat * 12 + c.toInt.toNat)), aN (N 36 0 (p.toInt.toNat * 12 + c.toInt.toNat))]) (rst := []) (c' := 0) (s' := 0) d95_173 mk96 rfl co96 lk5_112 im96 se96 rfl (vN (t := 23) (i := 0) (by decide)) (show 5 ≤ mL 96 by decide) rfl (show 0 ≤ 8 by decide) (by decide) (by decide) rfl rfl (by decide) (by decide) (m96b (upN (upN (upN (upN (upN (upN N 23 0 0 0) 23 0 0 0) 23 0 14 (N 23 0 14 + (if n.toInt.toNat = 0 then 0 else 1) - (if N 34 0 (p.toInt.toNat * 12 + c.toInt.toNat) = 0 then 0 else 1))) 34 0 (p.toInt.toNat * 12 + c.toInt.toNat) n.toInt.toNat) 35 0 (p.toInt.toNat * 12 + c.toInt.toNat) (tn f)) 36 0 (p.toInt.toNat * 12 + c.toInt.toNat) (tn u)) L (p.toInt.toNat * 12 + c.toInt.toNat) n.toInt.toNat (N 34 0 (p.toInt.toNat * 12 + c.toInt.toNat)) (N 35 0 (p.toInt.toNat * 12 + c.toInt.toNat)) (N 36 0 (p.toInt.toNat * 12 + c.toInt.toNat)) (by omega) (by omega) e34 (by omega) e14 (by (repeat' split) <;> omega) (by (repeat' split) <;> omega)) ?_
                    refine Sem.seg [(.aload_n 0, 0, 0), (.iconst 3, 0, 0), (.putfield 85, 5, 0)] ⟨⟨d95_176, trivial⟩, ⟨d95_177, trivial⟩, ⟨d95_178, gf5_85⟩, trivial⟩ (lv' := [(10, aN (N 36 0 (p.toInt.toNat * 12 + c.toInt.toNat))), (9, aN (N 35 0 (p.toInt.toNat * 12 + c.toInt.toNat))), (8, aN (N 34 0 (p.toInt.toNat * 12 + c.toInt.toNat))), (7, aN (p.toInt.toNat * 12 + c.toInt.toNat)), (5, aN (tn u)), (4, aN (tn f)), (3, aN n.toInt.toNat), (2, aN c.toInt.toNat), (1, aN p.toInt.toNat), (6, aN 1), (0, aR 23 0)]) (st' := []) (w' := wd (upN (upN (upN (upN (upN (upN (upN (upN (upN (upN (upN N 23 0 0 0) 23 0 0 0) 23 0 14 (N 23 0 14 + (if n.toInt.toNat = 0 then 0 else 1) - (if N 34 0 (p.toInt.toNat * 12 + c.toInt.toNat) = 0 then 0 else 1))) 34 0 (p.toInt.toNat * 12 + c.toInt.toNat) n.toInt.toNat) 35 0 (p.toInt.toNat * 12 + c.toInt.toNat) (tn f)) 36 0 (p.toInt.toNat * 12 + c.toInt.toNat) (tn u)) 23 0 14 ((N 23 0 14 + (if n.toInt.toNat = 0 then 0 else 1) - (if N 34 0 (p.toInt.toNat * 12 + c.toInt.toNat) = 0 then 0 else 1)) + (if N 34 0 (p.toInt.toNat * 12 + c.toInt.toNat) = 0 then 0 else 1) - (if n.toInt.toNat = 0 then 0 else 1))) 34 0 (p.toInt.toNat * 12 + c.toInt.toNat) (N 34 0 (p.toInt.toNat * 12 + c.toInt.toNat))) 35 0 (p.toInt.toNat * 12 + c.toInt.toNat) (N 35 0 (p.toInt.toNat * 12 + c.toInt.toNat))) 36 0 (p.toInt.toNat * 12 + c.toInt.toNat) (N 36 0 (p.toInt.toNat * 12 + c.toInt.toNat))) 23 0 0 3) L) (P := [vld NN 23 0]) rfl (vN (t := 23) (i := 0) (by decide)) (pc' := 181) rfl ?_
                    refine Sem.vret d95_181 rfl (by decide) (by decide) hzW ⟨rfl, _, _, rfl, ?_⟩
                    have hb : ¬ n.toInt.toNat = 0 ∧ bo (fitP (mN N) (p.toInt.toNat * 12 + c.toInt.toNat)) = 0 := by
                      refine ⟨fun q => hS (hss.mpr (Or.inl q)), bo_f (fun q => hS (hss.mpr (Or.inr q)))⟩
                    have hcode : cLine (mN N) p c n f u = 3 := by unfold cLine; (repeat' split) <;> omega
                    exact ⟨rfl, fun q => absurd (hcode.symm.trans q) (by decide), fun _ => by rw [hcode]; exact sl_back (by rw [if_neg hb.1]; (repeat' split) <;> omega)⟩
                · have b59_ : ¬ (n.toInt.toNat ≤ 0) := b59
                  refine Sem.seg [(.iload 8, 0, 0)] ⟨⟨d95_120, trivial⟩, trivial⟩ (lv' := [(10, aN (N 36 0 (p.toInt.toNat * 12 + c.toInt.toNat))), (9, aN (N 35 0 (p.toInt.toNat * 12 + c.toInt.toNat))), (8, aN (N 34 0 (p.toInt.toNat * 12 + c.toInt.toNat))), (7, aN (p.toInt.toNat * 12 + c.toInt.toNat)), (5, aN (tn u)), (4, aN (tn f)), (3, aN n.toInt.toNat), (2, aN c.toInt.toNat), (1, aN p.toInt.toNat), (6, aN 1), (0, aR 23 0)]) (st' := [aN (N 34 0 (p.toInt.toNat * 12 + c.toInt.toNat)), aR 23 0]) (w' := wd (upN N 23 0 0 0) L) (P := []) rfl (trivial) (pc' := 122) rfl ?_
                  refine Sem.ifN (tgt := 138) d95_122 (by decide) (show N 34 0 (p.toInt.toNat * 12 + c.toInt.toNat) < 2 ^ 31 by omega) (fun b64 => ?_) (fun b64 => ?_)
                  · have b64_ : ¬ N 34 0 (p.toInt.toNat * 12 + c.toInt.toNat) = 0 := b64
                    refine Sem.seg [(.iconst 0, 0, 0)] ⟨⟨d95_138, trivial⟩, trivial⟩ (lv' := [(10, aN (N 36 0 (p.toInt.toNat * 12 + c.toInt.toNat))), (9, aN (N 35 0 (p.toInt.toNat * 12 + c.toInt.toNat))), (8, aN (N 34 0 (p.toInt.toNat * 12 + c.toInt.toNat))), (7, aN (p.toInt.toNat * 12 + c.toInt.toNat)), (5, aN (tn u)), (4, aN (tn f)), (3, aN n.toInt.toNat), (2, aN c.toInt.toNat), (1, aN p.toInt.toNat), (6, aN 1), (0, aR 23 0)]) (st' := [aN 0, aR 23 0]) (w' := wd (upN N 23 0 0 0) L) (P := []) rfl (trivial) (pc' := 139) rfl ?_
                    refine Sem.cVp1 (t := 23) (i := 0) (as := [aN 0]) (rst := []) (c' := 0) (s' := 0) d95_139 mk91 rfl co91 lk5_97 im91 se91 rfl (vN (t := 23) (i := 0) (by decide)) (show 2 ≤ mL 91 by decide) rfl (show 0 ≤ 8 by decide) (by decide) (by decide) rfl rfl (by decide) (by decide) (m91 (upN N 23 0 0 0) L 0 (by decide)) ?_
                    refine Sem.topNN (show (if 0 < 0 then 1 else 0) = 0 from rfl) ?_
                    refine Sem.ifN (tgt := 146) d95_142 (by decide) (by decide) (fun b65 => ?_) (fun b65 => ?_)
                    rotate_left
                    · exact absurd (show 0 = 0 from by decide) b65
                    refine Sem.seg [(.aload_n 0, 0, 0), (.iload 7, 0, 0), (.iload_n 3, 0, 0), (.iload 4, 0, 0), (.iload 5, 0, 0)] ⟨⟨d95_146, trivial⟩, ⟨d95_147, trivial⟩, ⟨d95_149, trivial⟩, ⟨d95_150, trivial⟩, ⟨d95_152, trivial⟩, trivial⟩ (lv' := [(10, aN (N 36 0 (p.toInt.toNat * 12 + c.toInt.toNat))), (9, aN (N 35 0 (p.toInt.toNat * 12 + c.toInt.toNat))), (8, aN (N 34 0 (p.toInt.toNat * 12 + c.toInt.toNat))), (7, aN (p.toInt.toNat * 12 + c.toInt.toNat)), (5, aN (tn u)), (4, aN (tn f)), (3, aN n.toInt.toNat), (2, aN c.toInt.toNat), (1, aN p.toInt.toNat), (6, aN 1), (0, aR 23 0)]) (st' := [aN (tn u), aN (tn f), aN n.toInt.toNat, aN (p.toInt.toNat * 12 + c.toInt.toNat), aR 23 0]) (w' := wd (upN (upN N 23 0 0 0) 23 0 0 0) L) (P := []) rfl (trivial) (pc' := 154) rfl ?_
                    refine Sem.cVp0 (t := 23) (i := 0) (as := [aN (p.toInt.toNat * 12 + c.toInt.toNat), aN n.toInt.toNat, aN (tn f), aN (tn u)]) (rst := []) (c' := 0) (s' := 0) d95_154 mk96 rfl co96 lk5_112 im96 se96 rfl (vN (t := 23) (i := 0) (by decide)) (show 5 ≤ mL 96 by decide) rfl (show 0 ≤ 8 by decide) (by decide) (by decide) rfl rfl (by decide) (by decide) (m96 (upN (upN N 23 0 0 0) 23 0 0 0) L (p.toInt.toNat * 12 + c.toInt.toNat) n.toInt.toNat (tn f) (tn u) (by omega) (by omega) (show N 34 0 (p.toInt.toNat * 12 + c.toInt.toNat) ≤ 9 by omega) (show 0 < N 34 0 (p.toInt.toNat * 12 + c.toInt.toNat) → 1 ≤ N 23 0 14 from hl1) (show N 23 0 14 < 2 ^ 30 by omega)) ?_
                    have g34 : ∀ j, (upN (upN (upN (upN (upN (upN N 23 0 0 0) 23 0 0 0) 23 0 14 (N 23 0 14 + (if n.toInt.toNat = 0 then 0 else 1) - (if N 34 0 (p.toInt.toNat * 12 + c.toInt.toNat) = 0 then 0 else 1))) 34 0 (p.toInt.toNat * 12 + c.toInt.toNat) n.toInt.toNat) 35 0 (p.toInt.toNat * 12 + c.toInt.toNat) (tn f)) 36 0 (p.toInt.toNat * 12 + c.toInt.toNat) (tn u)) 34 0 j = if j = (p.toInt.toNat * 12 + c.toInt.toNat) then n.toInt.toNat else N 34 0 j := fun j => by simp [upN]
                    have e34 : (upN (upN (upN (upN (upN (upN N 23 0 0 0) 23 0 0 0) 23 0 14 (N 23 0 14 + (if n.toInt.toNat = 0 then 0 else 1) - (if N 34 0 (p.toInt.toNat * 12 + c.toInt.toNat) = 0 then 0 else 1))) 34 0 (p.toInt.toNat * 12 + c.toInt.toNat) n.toInt.toNat) 35 0 (p.toInt.toNat * 12 + c.toInt.toNat) (tn f)) 36 0 (p.toInt.toNat * 12 + c.toInt.toNat) (tn u)) 34 0 (p.toInt.toNat * 12 + c.toInt.toNat) = n.toInt.toNat := by rw [g34, if_pos rfl]
                    have e14 : (upN (upN (upN (upN (upN (upN N 23 0 0 0) 23 0 0 0) 23 0 14 (N 23 0 14 + (if n.toInt.toNat = 0 then 0 else 1) - (if N 34 0 (p.toInt.toNat * 12 + c.toInt.toNat) = 0 then 0 else 1))) 34 0 (p.toInt.toNat * 12 + c.toInt.toNat) n.toInt.toNat) 35 0 (p.toInt.toNat * 12 + c.toInt.toNat) (tn f)) 36 0 (p.toInt.toNat * 12 + c.toInt.toNat) (tn u)) 23 0 14 = N 23 0 14 + (if n.toInt.toNat = 0 then 0 else 1) - (if N 34 0 (p.toInt.toNat * 12 + c.toInt.toNat) = 0 then 0 else 1) := by simp [upN]
                    have hss := sl_sn (N := N) g34 hsn (fun q1 q2 => by omega)
                    refine Sem.seg [(.aload_n 0, 0, 0)] ⟨⟨d95_157, trivial⟩, trivial⟩ (lv' := [(10, aN (N 36 0 (p.toInt.toNat * 12 + c.toInt.toNat))), (9, aN (N 35 0 (p.toInt.toNat * 12 + c.toInt.toNat))), (8, aN (N 34 0 (p.toInt.toNat * 12 + c.toInt.toNat))), (7, aN (p.toInt.toNat * 12 + c.toInt.toNat)), (5, aN (tn u)), (4, aN (tn f)), (3, aN n.toInt.toNat), (2, aN c.toInt.toNat), (1, aN p.toInt.toNat), (6, aN 1), (0, aR 23 0)]) (st' := [aR 23 0]) (w' := wd (upN (upN (upN (upN (upN (upN N 23 0 0 0) 23 0 0 0) 23 0 14 (N 23 0 14 + (if n.toInt.toNat = 0 then 0 else 1) - (if N 34 0 (p.toInt.toNat * 12 + c.toInt.toNat) = 0 then 0 else 1))) 34 0 (p.toInt.toNat * 12 + c.toInt.toNat) n.toInt.toNat) 35 0 (p.toInt.toNat * 12 + c.toInt.toNat) (tn f)) 36 0 (p.toInt.toNat * 12 + c.toInt.toNat) (tn u)) L) (P := []) rfl (trivial) (pc' := 158) rfl ?_
                    by_cases h66 : SN (eg (mN (upN (upN (upN (upN (upN (upN N 23 0 0 0) 23 0 0 0) 23 0 14 (N 23 0 14 + (if n.toInt.toNat = 0 then 0 else 1) - (if N 34 0 (p.toInt.toNat * 12 + c.toInt.toNat) = 0 then 0 else 1))) 34 0 (p.toInt.toNat * 12 + c.toInt.toNat) n.toInt.toNat) 35 0 (p.toInt.toNat * 12 + c.toInt.toNat) (tn f)) 36 0 (p.toInt.toNat * 12 + c.toInt.toNat) (tn u))))
                    case pos =>
                      refine Sem.cVp1 (t := 23) (i := 0) (as := []) (rst := []) (c' := 0) (s' := 0) d95_158 mk97 rfl co97 lk5_116 im97 se97 rfl (vN (t := 23) (i := 0) (by decide)) (show 1 ≤ mL 97 by decide) rfl (show 0 ≤ 8 by decide) (by decide) (by decide) rfl rfl (by decide) (by decide) (m97 (upN (upN (upN (upN (upN (upN N 23 0 0 0) 23 0 0 0) 23 0 14 (N 23 0 14 + (if n.toInt.toNat = 0 then 0 else 1) - (if N 34 0 (p.toInt.toNat * 12 + c.toInt.toNat) = 0 then 0 else 1))) 34 0 (p.toInt.toNat * 12 + c.toInt.toNat) n.toInt.toNat) 35 0 (p.toInt.toNat * 12 + c.toInt.toNat) (tn f)) 36 0 (p.toInt.toNat * 12 + c.toInt.toNat) (tn u)) L (fun j hj => by rw [g34]; split <;> first | omega | exact h9 j hj)) ?_
                      refine Sem.topNN (bo_t h66) ?_
                      have hS := h66
                      refine Sem.ifN (tgt := 182) d95_161 (by decide) (by decide) (fun b67 => ?_) (fun b67 => ?_)
                      rotate_left
                      · exact absurd (show ¬ 1 = 0 from by decide) b67
                      refine Sem.seg [(.aload_n 0, 0, 0), (.iload_n 2, 0, 0)] ⟨⟨d95_182, trivial⟩, ⟨d95_183, trivial⟩, trivial⟩ (lv' := [(10, aN (N 36 0 (p.toInt.toNat * 12 + c.toInt.toNat))), (9, aN (N 35 0 (p.toInt.toNat * 12 + c.toInt.toNat))), (8, aN (N 34 0 (p.toInt.toNat * 12 + c.toInt.toNat))), (7, aN (p.toInt.toNat * 12 + c.toInt.toNat)), (5, aN (tn u)), (4, aN (tn f)), (3, aN n.toInt.toNat), (2, aN c.toInt.toNat), (1, aN p.toInt.toNat), (6, aN 1), (0, aR 23 0)]) (st' := [aN c.toInt.toNat, aR 23 0]) (w' := wd (upN (upN (upN (upN (upN (upN N 23 0 0 0) 23 0 0 0) 23 0 14 (N 23 0 14 + (if n.toInt.toNat = 0 then 0 else 1) - (if N 34 0 (p.toInt.toNat * 12 + c.toInt.toNat) = 0 then 0 else 1))) 34 0 (p.toInt.toNat * 12 + c.toInt.toNat) n.toInt.toNat) 35 0 (p.toInt.toNat * 12 + c.toInt.toNat) (tn f)) 36 0 (p.toInt.toNat * 12 + c.toInt.toNat) (tn u)) L) (P := []) rfl (trivial) (pc' := 184) rfl ?_
                      refine Sem.cVp0 (t := 23) (i := 0) (as := [aN c.toInt.toNat]) (rst := []) (c' := 0) (s' := 0) d95_184 mk92 rfl co92 lk5_100 im92 se92 rfl (vN (t := 23) (i := 0) (by decide)) (show 2 ≤ mL 92 by decide) rfl (show 0 ≤ 8 by decide) (by decide) (by decide) rfl rfl (by decide) (by decide) (m92 (upN (upN (upN (upN (upN (upN N 23 0 0 0) 23 0 0 0) 23 0 14 (N 23 0 14 + (if n.toInt.toNat = 0 then 0 else 1) - (if N 34 0 (p.toInt.toNat * 12 + c.toInt.toNat) = 0 then 0 else 1))) 34 0 (p.toInt.toNat * 12 + c.toInt.toNat) n.toInt.toNat) 35 0 (p.toInt.toNat * 12 + c.toInt.toNat) (tn f)) 36 0 (p.toInt.toNat * 12 + c.toInt.toNat) (tn u)) L c.toInt.toNat (by first | omega | assumption)) ?_
                      refine Sem.vret d95_187 rfl (by decide) (by decide) hzW ⟨rfl, _, _, rfl, ?_⟩
                      have hb : n.toInt.toNat = 0 ∨ bo (fitP (mN N) (p.toInt.toNat * 12 + c.toInt.toNat)) = 1 := by
                        rcases hss.mp hS with q | q
                        · exact Or.inl q
                        · exact Or.inr (bo_t q)
                      have hcode : cLine (mN N) p c n f u = 0 := by unfold cLine; (repeat' split) <;> omega
                      exact ⟨rfl, fun _ => rfl, fun q => absurd hcode q⟩
                    case neg =>
                      refine Sem.cVp1 (t := 23) (i := 0) (as := []) (rst := []) (c' := 0) (s' := 0) d95_158 mk97 rfl co97 lk5_116 im97 se97 rfl (vN (t := 23) (i := 0) (by decide)) (show 1 ≤ mL 97 by decide) rfl (show 0 ≤ 8 by decide) (by decide) (by decide) rfl rfl (by decide) (by decide) (m97 (upN (upN (upN (upN (upN (upN N 23 0 0 0) 23 0 0 0) 23 0 14 (N 23 0 14 + (if n.toInt.toNat = 0 then 0 else 1) - (if N 34 0 (p.toInt.toNat * 12 + c.toInt.toNat) = 0 then 0 else 1))) 34 0 (p.toInt.toNat * 12 + c.toInt.toNat) n.toInt.toNat) 35 0 (p.toInt.toNat * 12 + c.toInt.toNat) (tn f)) 36 0 (p.toInt.toNat * 12 + c.toInt.toNat) (tn u)) L (fun j hj => by rw [g34]; split <;> first | omega | exact h9 j hj)) ?_
                      refine Sem.topNN (bo_f h66) ?_
                      have hS := h66
                      refine Sem.ifN (tgt := 182) d95_161 (by decide) (by decide) (fun b68 => ?_) (fun b68 => ?_)
                      · exact absurd (show ¬ 0 = 0 from b68) (by decide)
                      refine Sem.seg [(.aload_n 0, 0, 0), (.iload 7, 0, 0), (.iload 8, 0, 0), (.iload 9, 0, 0), (.iload 10, 0, 0)] ⟨⟨d95_164, trivial⟩, ⟨d95_165, trivial⟩, ⟨d95_167, trivial⟩, ⟨d95_169, trivial⟩, ⟨d95_171, trivial⟩, trivial⟩ (lv' := [(10, aN (N 36 0 (p.toInt.toNat * 12 + c.toInt.toNat))), (9, aN (N 35 0 (p.toInt.toNat * 12 + c.toInt.toNat))), (8, aN (N 34 0 (p.toInt.toNat * 12 + c.toInt.toNat))), (7, aN (p.toInt.toNat * 12 + c.toInt.toNat)), (5, aN (tn u)), (4, aN (tn f)), (3, aN n.toInt.toNat), (2, aN c.toInt.toNat), (1, aN p.toInt.toNat), (6, aN 1), (0, aR 23 0)]) (st' := [aN (N 36 0 (p.toInt.toNat * 12 + c.toInt.toNat)), aN (N 35 0 (p.toInt.toNat * 12 + c.toInt.toNat)), aN (N 34 0 (p.toInt.toNat * 12 + c.toInt.toNat)), aN (p.toInt.toNat * 12 + c.toInt.toNat), aR 23 0]) (w' := wd (upN (upN (upN (upN (upN (upN N 23 0 0 0) 23 0 0 0) 23 0 14 (N 23 0 14 + (if n.toInt.toNat = 0 then 0 else 1) - (if N 34 0 (p.toInt.toNat * 12 + c.toInt.toNat) = 0 then 0 else 1))) 34 0 (p.toInt.toNat * 12 + c.toInt.toNat) n.toInt.toNat) 35 0 (p.toInt.toNat * 12 + c.toInt.toNat) (tn f)) 36 0 (p.toInt.toNat * 12 + c.toInt.toNat) (tn u)) L) (P := []) rfl (trivial) (pc' := 173) rfl ?_
                      refine Sem.cVp0 (t := 23) (i := 0) (as := [aN (p.toInt.toNat * 12 + c.toInt.toNat), aN (N 34 0 (p.toInt.toNat * 12 + c.toInt.toNat)), aN (N 35 0 (p.toInt.toNat * 12 + c.toInt.toNat)), aN (N 36 0 (p.toInt.toNat * 12 + c.toInt.toNat))]) (rst := []) (c' := 0) (s' := 0) d95_173 mk96 rfl co96 lk5_112 im96 se96 rfl (vN (t := 23) (i := 0) (by decide)) (show 5 ≤ mL 96 by decide) rfl (show 0 ≤ 8 by decide) (by decide) (by decide) rfl rfl (by decide) (by decide) (m96b (upN (upN (upN (upN (upN (upN N 23 0 0 0) 23 0 0 0) 23 0 14 (N 23 0 14 + (if n.toInt.toNat = 0 then 0 else 1) - (if N 34 0 (p.toInt.toNat * 12 + c.toInt.toNat) = 0 then 0 else 1))) 34 0 (p.toInt.toNat * 12 + c.toInt.toNat) n.toInt.toNat) 35 0 (p.toInt.toNat * 12 + c.toInt.toNat) (tn f)) 36 0 (p.toInt.toNat * 12 + c.toInt.toNat) (tn u)) L (p.toInt.toNat * 12 + c.toInt.toNat) n.toInt.toNat (N 34 0 (p.toInt.toNat * 12 + c.toInt.toNat)) (N 35 0 (p.toInt.toNat * 12 + c.toInt.toNat)) (N 36 0 (p.toInt.toNat * 12 + c.toInt.toNat)) (by omega) (by omega) e34 (by omega) e14 (by (repeat' split) <;> omega) (by (repeat' split) <;> omega)) ?_
                      refine Sem.seg [(.aload_n 0, 0, 0), (.iconst 3, 0, 0), (.putfield 85, 5, 0)] ⟨⟨d95_176, trivial⟩, ⟨d95_177, trivial⟩, ⟨d95_178, gf5_85⟩, trivial⟩ (lv' := [(10, aN (N 36 0 (p.toInt.toNat * 12 + c.toInt.toNat))), (9, aN (N 35 0 (p.toInt.toNat * 12 + c.toInt.toNat))), (8, aN (N 34 0 (p.toInt.toNat * 12 + c.toInt.toNat))), (7, aN (p.toInt.toNat * 12 + c.toInt.toNat)), (5, aN (tn u)), (4, aN (tn f)), (3, aN n.toInt.toNat), (2, aN c.toInt.toNat), (1, aN p.toInt.toNat), (6, aN 1), (0, aR 23 0)]) (st' := []) (w' := wd (upN (upN (upN (upN (upN (upN (upN (upN (upN (upN (upN N 23 0 0 0) 23 0 0 0) 23 0 14 (N 23 0 14 + (if n.toInt.toNat = 0 then 0 else 1) - (if N 34 0 (p.toInt.toNat * 12 + c.toInt.toNat) = 0 then 0 else 1))) 34 0 (p.toInt.toNat * 12 + c.toInt.toNat) n.toInt.toNat) 35 0 (p.toInt.toNat * 12 + c.toInt.toNat) (tn f)) 36 0 (p.toInt.toNat * 12 + c.toInt.toNat) (tn u)) 23 0 14 ((N 23 0 14 + (if n.toInt.toNat = 0 then 0 else 1) - (if N 34 0 (p.toInt.toNat * 12 + c.toInt.toNat) = 0 then 0 else 1)) + (if N 34 0 (p.toInt.toNat * 12 + c.toInt.toNat) = 0 then 0 else 1) - (if n.toInt.toNat = 0 then 0 else 1))) 34 0 (p.toInt.toNat * 12 + c.toInt.toNat) (N 34 0 (p.toInt.toNat * 12 + c.toInt.toNat))) 35 0 (p.toInt.toNat * 12 + c.toInt.toNat) (N 35 0 (p.toInt.toNat * 12 + c.toInt.toNat))) 36 0 (p.toInt.toNat * 12 + c.toInt.toNat) (N 36 0 (p.toInt.toNat * 12 + c.toInt.toNat))) 23 0 0 3) L) (P := [vld NN 23 0]) rfl (vN (t := 23) (i := 0) (by decide)) (pc' := 181) rfl ?_
                      refine Sem.vret d95_181 rfl (by decide) (by decide) hzW ⟨rfl, _, _, rfl, ?_⟩
                      have hb : ¬ n.toInt.toNat = 0 ∧ bo (fitP (mN N) (p.toInt.toNat * 12 + c.toInt.toNat)) = 0 := by
                        refine ⟨fun q => hS (hss.mpr (Or.inl q)), bo_f (fun q => hS (hss.mpr (Or.inr q)))⟩
                      have hcode : cLine (mN N) p c n f u = 3 := by unfold cLine; (repeat' split) <;> omega
                      exact ⟨rfl, fun q => absurd (hcode.symm.trans q) (by decide), fun _ => by rw [hcode]; exact sl_back (by rw [if_neg hb.1]; (repeat' split) <;> omega)⟩
                  · have b64_ : ¬ (¬ N 34 0 (p.toInt.toNat * 12 + c.toInt.toNat) = 0) := b64
                    refine Sem.seg [(.aload_n 0, 0, 0), (.getfield 109, 5, 14), (.bipush 24, 0, 0)] ⟨⟨d95_125, trivial⟩, ⟨d95_126, gf5_109⟩, ⟨d95_129, trivial⟩, trivial⟩ (lv' := [(10, aN (N 36 0 (p.toInt.toNat * 12 + c.toInt.toNat))), (9, aN (N 35 0 (p.toInt.toNat * 12 + c.toInt.toNat))), (8, aN (N 34 0 (p.toInt.toNat * 12 + c.toInt.toNat))), (7, aN (p.toInt.toNat * 12 + c.toInt.toNat)), (5, aN (tn u)), (4, aN (tn f)), (3, aN n.toInt.toNat), (2, aN c.toInt.toNat), (1, aN p.toInt.toNat), (6, aN 1), (0, aR 23 0)]) (st' := [aN 24, aN (N 23 0 14), aR 23 0]) (w' := wd (upN N 23 0 0 0) L) (P := [vld NN 23 0]) rfl (vN (t := 23) (i := 0) (by decide)) (pc' := 131) rfl ?_
                    refine Sem.icmpN (tgt := 138) d95_131 (by decide) (show N 23 0 14 < 2 ^ 31 by omega) (by decide) (fun b69 => ?_) (fun b69 => ?_)
                    · have b69_ : ¬ N 23 0 14 = 24 := b69
                      refine Sem.seg [(.iconst 0, 0, 0)] ⟨⟨d95_138, trivial⟩, trivial⟩ (lv' := [(10, aN (N 36 0 (p.toInt.toNat * 12 + c.toInt.toNat))), (9, aN (N 35 0 (p.toInt.toNat * 12 + c.toInt.toNat))), (8, aN (N 34 0 (p.toInt.toNat * 12 + c.toInt.toNat))), (7, aN (p.toInt.toNat * 12 + c.toInt.toNat)), (5, aN (tn u)), (4, aN (tn f)), (3, aN n.toInt.toNat), (2, aN c.toInt.toNat), (1, aN p.toInt.toNat), (6, aN 1), (0, aR 23 0)]) (st' := [aN 0, aR 23 0]) (w' := wd (upN N 23 0 0 0) L) (P := []) rfl (trivial) (pc' := 139) rfl ?_
                      refine Sem.cVp1 (t := 23) (i := 0) (as := [aN 0]) (rst := []) (c' := 0) (s' := 0) d95_139 mk91 rfl co91 lk5_97 im91 se91 rfl (vN (t := 23) (i := 0) (by decide)) (show 2 ≤ mL 91 by decide) rfl (show 0 ≤ 8 by decide) (by decide) (by decide) rfl rfl (by decide) (by decide) (m91 (upN N 23 0 0 0) L 0 (by decide)) ?_
                      refine Sem.topNN (show (if 0 < 0 then 1 else 0) = 0 from rfl) ?_
                      refine Sem.ifN (tgt := 146) d95_142 (by decide) (by decide) (fun b70 => ?_) (fun b70 => ?_)
                      rotate_left
                      · exact absurd (show 0 = 0 from by decide) b70
                      refine Sem.seg [(.aload_n 0, 0, 0), (.iload 7, 0, 0), (.iload_n 3, 0, 0), (.iload 4, 0, 0), (.iload 5, 0, 0)] ⟨⟨d95_146, trivial⟩, ⟨d95_147, trivial⟩, ⟨d95_149, trivial⟩, ⟨d95_150, trivial⟩, ⟨d95_152, trivial⟩, trivial⟩ (lv' := [(10, aN (N 36 0 (p.toInt.toNat * 12 + c.toInt.toNat))), (9, aN (N 35 0 (p.toInt.toNat * 12 + c.toInt.toNat))), (8, aN (N 34 0 (p.toInt.toNat * 12 + c.toInt.toNat))), (7, aN (p.toInt.toNat * 12 + c.toInt.toNat)), (5, aN (tn u)), (4, aN (tn f)), (3, aN n.toInt.toNat), (2, aN c.toInt.toNat), (1, aN p.toInt.toNat), (6, aN 1), (0, aR 23 0)]) (st' := [aN (tn u), aN (tn f), aN n.toInt.toNat, aN (p.toInt.toNat * 12 + c.toInt.toNat), aR 23 0]) (w' := wd (upN (upN N 23 0 0 0) 23 0 0 0) L) (P := []) rfl (trivial) (pc' := 154) rfl ?_
                      refine Sem.cVp0 (t := 23) (i := 0) (as := [aN (p.toInt.toNat * 12 + c.toInt.toNat), aN n.toInt.toNat, aN (tn f), aN (tn u)]) (rst := []) (c' := 0) (s' := 0) d95_154 mk96 rfl co96 lk5_112 im96 se96 rfl (vN (t := 23) (i := 0) (by decide)) (show 5 ≤ mL 96 by decide) rfl (show 0 ≤ 8 by decide) (by decide) (by decide) rfl rfl (by decide) (by decide) (m96 (upN (upN N 23 0 0 0) 23 0 0 0) L (p.toInt.toNat * 12 + c.toInt.toNat) n.toInt.toNat (tn f) (tn u) (by omega) (by omega) (show N 34 0 (p.toInt.toNat * 12 + c.toInt.toNat) ≤ 9 by omega) (show 0 < N 34 0 (p.toInt.toNat * 12 + c.toInt.toNat) → 1 ≤ N 23 0 14 from hl1) (show N 23 0 14 < 2 ^ 30 by omega)) ?_
                      have g34 : ∀ j, (upN (upN (upN (upN (upN (upN N 23 0 0 0) 23 0 0 0) 23 0 14 (N 23 0 14 + (if n.toInt.toNat = 0 then 0 else 1) - (if N 34 0 (p.toInt.toNat * 12 + c.toInt.toNat) = 0 then 0 else 1))) 34 0 (p.toInt.toNat * 12 + c.toInt.toNat) n.toInt.toNat) 35 0 (p.toInt.toNat * 12 + c.toInt.toNat) (tn f)) 36 0 (p.toInt.toNat * 12 + c.toInt.toNat) (tn u)) 34 0 j = if j = (p.toInt.toNat * 12 + c.toInt.toNat) then n.toInt.toNat else N 34 0 j := fun j => by simp [upN]
                      have e34 : (upN (upN (upN (upN (upN (upN N 23 0 0 0) 23 0 0 0) 23 0 14 (N 23 0 14 + (if n.toInt.toNat = 0 then 0 else 1) - (if N 34 0 (p.toInt.toNat * 12 + c.toInt.toNat) = 0 then 0 else 1))) 34 0 (p.toInt.toNat * 12 + c.toInt.toNat) n.toInt.toNat) 35 0 (p.toInt.toNat * 12 + c.toInt.toNat) (tn f)) 36 0 (p.toInt.toNat * 12 + c.toInt.toNat) (tn u)) 34 0 (p.toInt.toNat * 12 + c.toInt.toNat) = n.toInt.toNat := by rw [g34, if_pos rfl]
                      have e14 : (upN (upN (upN (upN (upN (upN N 23 0 0 0) 23 0 0 0) 23 0 14 (N 23 0 14 + (if n.toInt.toNat = 0 then 0 else 1) - (if N 34 0 (p.toInt.toNat * 12 + c.toInt.toNat) = 0 then 0 else 1))) 34 0 (p.toInt.toNat * 12 + c.toInt.toNat) n.toInt.toNat) 35 0 (p.toInt.toNat * 12 + c.toInt.toNat) (tn f)) 36 0 (p.toInt.toNat * 12 + c.toInt.toNat) (tn u)) 23 0 14 = N 23 0 14 + (if n.toInt.toNat = 0 then 0 else 1) - (if N 34 0 (p.toInt.toNat * 12 + c.toInt.toNat) = 0 then 0 else 1) := by simp [upN]
                      have hss := sl_sn (N := N) g34 hsn (fun q1 q2 => by omega)
                      refine Sem.seg [(.aload_n 0, 0, 0)] ⟨⟨d95_157, trivial⟩, trivial⟩ (lv' := [(10, aN (N 36 0 (p.toInt.toNat * 12 + c.toInt.toNat))), (9, aN (N 35 0 (p.toInt.toNat * 12 + c.toInt.toNat))), (8, aN (N 34 0 (p.toInt.toNat * 12 + c.toInt.toNat))), (7, aN (p.toInt.toNat * 12 + c.toInt.toNat)), (5, aN (tn u)), (4, aN (tn f)), (3, aN n.toInt.toNat), (2, aN c.toInt.toNat), (1, aN p.toInt.toNat), (6, aN 1), (0, aR 23 0)]) (st' := [aR 23 0]) (w' := wd (upN (upN (upN (upN (upN (upN N 23 0 0 0) 23 0 0 0) 23 0 14 (N 23 0 14 + (if n.toInt.toNat = 0 then 0 else 1) - (if N 34 0 (p.toInt.toNat * 12 + c.toInt.toNat) = 0 then 0 else 1))) 34 0 (p.toInt.toNat * 12 + c.toInt.toNat) n.toInt.toNat) 35 0 (p.toInt.toNat * 12 + c.toInt.toNat) (tn f)) 36 0 (p.toInt.toNat * 12 + c.toInt.toNat) (tn u)) L) (P := []) rfl (trivial) (pc' := 158) rfl ?_
                      by_cases h71 : SN (eg (mN (upN (upN (upN (upN (upN (upN N 23 0 0 0) 23 0 0 0) 23 0 14 (N 23 0 14 + (if n.toInt.toNat = 0 then 0 else 1) - (if N 34 0 (p.toInt.toNat * 12 + c.toInt.toNat) = 0 then 0 else 1))) 34 0 (p.toInt.toNat * 12 + c.toInt.toNat) n.toInt.toNat) 35 0 (p.toInt.toNat * 12 + c.toInt.toNat) (tn f)) 36 0 (p.toInt.toNat * 12 + c.toInt.toNat) (tn u))))
                      case pos =>
                        refine Sem.cVp1 (t := 23) (i := 0) (as := []) (rst := []) (c' := 0) (s' := 0) d95_158 mk97 rfl co97 lk5_116 im97 se97 rfl (vN (t := 23) (i := 0) (by decide)) (show 1 ≤ mL 97 by decide) rfl (show 0 ≤ 8 by decide) (by decide) (by decide) rfl rfl (by decide) (by decide) (m97 (upN (upN (upN (upN (upN (upN N 23 0 0 0) 23 0 0 0) 23 0 14 (N 23 0 14 + (if n.toInt.toNat = 0 then 0 else 1) - (if N 34 0 (p.toInt.toNat * 12 + c.toInt.toNat) = 0 then 0 else 1))) 34 0 (p.toInt.toNat * 12 + c.toInt.toNat) n.toInt.toNat) 35 0 (p.toInt.toNat * 12 + c.toInt.toNat) (tn f)) 36 0 (p.toInt.toNat * 12 + c.toInt.toNat) (tn u)) L (fun j hj => by rw [g34]; split <;> first | omega | exact h9 j hj)) ?_
                        refine Sem.topNN (bo_t h71) ?_
                        have hS := h71
                        refine Sem.ifN (tgt := 182) d95_161 (by decide) (by decide) (fun b72 => ?_) (fun b72 => ?_)
                        rotate_left
                        · exact absurd (show ¬ 1 = 0 from by decide) b72
                        refine Sem.seg [(.aload_n 0, 0, 0), (.iload_n 2, 0, 0)] ⟨⟨d95_182, trivial⟩, ⟨d95_183, trivial⟩, trivial⟩ (lv' := [(10, aN (N 36 0 (p.toInt.toNat * 12 + c.toInt.toNat))), (9, aN (N 35 0 (p.toInt.toNat * 12 + c.toInt.toNat))), (8, aN (N 34 0 (p.toInt.toNat * 12 + c.toInt.toNat))), (7, aN (p.toInt.toNat * 12 + c.toInt.toNat)), (5, aN (tn u)), (4, aN (tn f)), (3, aN n.toInt.toNat), (2, aN c.toInt.toNat), (1, aN p.toInt.toNat), (6, aN 1), (0, aR 23 0)]) (st' := [aN c.toInt.toNat, aR 23 0]) (w' := wd (upN (upN (upN (upN (upN (upN N 23 0 0 0) 23 0 0 0) 23 0 14 (N 23 0 14 + (if n.toInt.toNat = 0 then 0 else 1) - (if N 34 0 (p.toInt.toNat * 12 + c.toInt.toNat) = 0 then 0 else 1))) 34 0 (p.toInt.toNat * 12 + c.toInt.toNat) n.toInt.toNat) 35 0 (p.toInt.toNat * 12 + c.toInt.toNat) (tn f)) 36 0 (p.toInt.toNat * 12 + c.toInt.toNat) (tn u)) L) (P := []) rfl (trivial) (pc' := 184) rfl ?_
                        refine Sem.cVp0 (t := 23) (i := 0) (as := [aN c.toInt.toNat]) (rst := []) (c' := 0) (s' := 0) d95_184 mk92 rfl co92 lk5_100 im92 se92 rfl (vN (t := 23) (i := 0) (by decide)) (show 2 ≤ mL 92 by decide) rfl (show 0 ≤ 8 by decide) (by decide) (by decide) rfl rfl (by decide) (by decide) (m92 (upN (upN (upN (upN (upN (upN N 23 0 0 0) 23 0 0 0) 23 0 14 (N 23 0 14 + (if n.toInt.toNat = 0 then 0 else 1) - (if N 34 0 (p.toInt.toNat * 12 + c.toInt.toNat) = 0 then 0 else 1))) 34 0 (p.toInt.toNat * 12 + c.toInt.toNat) n.toInt.toNat) 35 0 (p.toInt.toNat * 12 + c.toInt.toNat) (tn f)) 36 0 (p.toInt.toNat * 12 + c.toInt.toNat) (tn u)) L c.toInt.toNat (by first | omega | assumption)) ?_
                        refine Sem.vret d95_187 rfl (by decide) (by decide) hzW ⟨rfl, _, _, rfl, ?_⟩
                        have hb : n.toInt.toNat = 0 ∨ bo (fitP (mN N) (p.toInt.toNat * 12 + c.toInt.toNat)) = 1 := by
                          rcases hss.mp hS with q | q
                          · exact Or.inl q
                          · exact Or.inr (bo_t q)
                        have hcode : cLine (mN N) p c n f u = 0 := by unfold cLine; (repeat' split) <;> omega
                        exact ⟨rfl, fun _ => rfl, fun q => absurd hcode q⟩
                      case neg =>
                        refine Sem.cVp1 (t := 23) (i := 0) (as := []) (rst := []) (c' := 0) (s' := 0) d95_158 mk97 rfl co97 lk5_116 im97 se97 rfl (vN (t := 23) (i := 0) (by decide)) (show 1 ≤ mL 97 by decide) rfl (show 0 ≤ 8 by decide) (by decide) (by decide) rfl rfl (by decide) (by decide) (m97 (upN (upN (upN (upN (upN (upN N 23 0 0 0) 23 0 0 0) 23 0 14 (N 23 0 14 + (if n.toInt.toNat = 0 then 0 else 1) - (if N 34 0 (p.toInt.toNat * 12 + c.toInt.toNat) = 0 then 0 else 1))) 34 0 (p.toInt.toNat * 12 + c.toInt.toNat) n.toInt.toNat) 35 0 (p.toInt.toNat * 12 + c.toInt.toNat) (tn f)) 36 0 (p.toInt.toNat * 12 + c.toInt.toNat) (tn u)) L (fun j hj => by rw [g34]; split <;> first | omega | exact h9 j hj)) ?_
                        refine Sem.topNN (bo_f h71) ?_
                        have hS := h71
                        refine Sem.ifN (tgt := 182) d95_161 (by decide) (by decide) (fun b73 => ?_) (fun b73 => ?_)
                        · exact absurd (show ¬ 0 = 0 from b73) (by decide)
                        refine Sem.seg [(.aload_n 0, 0, 0), (.iload 7, 0, 0), (.iload 8, 0, 0), (.iload 9, 0, 0), (.iload 10, 0, 0)] ⟨⟨d95_164, trivial⟩, ⟨d95_165, trivial⟩, ⟨d95_167, trivial⟩, ⟨d95_169, trivial⟩, ⟨d95_171, trivial⟩, trivial⟩ (lv' := [(10, aN (N 36 0 (p.toInt.toNat * 12 + c.toInt.toNat))), (9, aN (N 35 0 (p.toInt.toNat * 12 + c.toInt.toNat))), (8, aN (N 34 0 (p.toInt.toNat * 12 + c.toInt.toNat))), (7, aN (p.toInt.toNat * 12 + c.toInt.toNat)), (5, aN (tn u)), (4, aN (tn f)), (3, aN n.toInt.toNat), (2, aN c.toInt.toNat), (1, aN p.toInt.toNat), (6, aN 1), (0, aR 23 0)]) (st' := [aN (N 36 0 (p.toInt.toNat * 12 + c.toInt.toNat)), aN (N 35 0 (p.toInt.toNat * 12 + c.toInt.toNat)), aN (N 34 0 (p.toInt.toNat * 12 + c.toInt.toNat)), aN (p.toInt.toNat * 12 + c.toInt.toNat), aR 23 0]) (w' := wd (upN (upN (upN (upN (upN (upN N 23 0 0 0) 23 0 0 0) 23 0 14 (N 23 0 14 + (if n.toInt.toNat = 0 then 0 else 1) - (if N 34 0 (p.toInt.toNat * 12 + c.toInt.toNat) = 0 then 0 else 1))) 34 0 (p.toInt.toNat * 12 + c.toInt.toNat) n.toInt.toNat) 35 0 (p.toInt.toNat * 12 + c.toInt.toNat) (tn f)) 36 0 (p.toInt.toNat * 12 + c.toInt.toNat) (tn u)) L) (P := []) rfl (trivial) (pc' := 173) rfl ?_
                        refine Sem.cVp0 (t := 23) (i := 0) (as := [aN (p.toInt.toNat * 12 + c.toInt.toNat), aN (N 34 0 (p.toInt.toNat * 12 + c.toInt.toNat)), aN (N 35 0 (p.toInt.toNat * 12 + c.toInt.toNat)), aN (N 36 0 (p.toInt.toNat * 12 + c.toInt.toNat))]) (rst := []) (c' := 0) (s' := 0) d95_173 mk96 rfl co96 lk5_112 im96 se96 rfl (vN (t := 23) (i := 0) (by decide)) (show 5 ≤ mL 96 by decide) rfl (show 0 ≤ 8 by decide) (by decide) (by decide) rfl rfl (by decide) (by decide) (m96b (upN (upN (upN (upN (upN (upN N 23 0 0 0) 23 0 0 0) 23 0 14 (N 23 0 14 + (if n.toInt.toNat = 0 then 0 else 1) - (if N 34 0 (p.toInt.toNat * 12 + c.toInt.toNat) = 0 then 0 else 1))) 34 0 (p.toInt.toNat * 12 + c.toInt.toNat) n.toInt.toNat) 35 0 (p.toInt.toNat * 12 + c.toInt.toNat) (tn f)) 36 0 (p.toInt.toNat * 12 + c.toInt.toNat) (tn u)) L (p.toInt.toNat * 12 + c.toInt.toNat) n.toInt.toNat (N 34 0 (p.toInt.toNat * 12 + c.toInt.toNat)) (N 35 0 (p.toInt.toNat * 12 + c.toInt.toNat)) (N 36 0 (p.toInt.toNat * 12 + c.toInt.toNat)) (by omega) (by omega) e34 (by omega) e14 (by (repeat' split) <;> omega) (by (repeat' split) <;> omega)) ?_
                        refine Sem.seg [(.aload_n 0, 0, 0), (.iconst 3, 0, 0), (.putfield 85, 5, 0)] ⟨⟨d95_176, trivial⟩, ⟨d95_177, trivial⟩, ⟨d95_178, gf5_85⟩, trivial⟩ (lv' := [(10, aN (N 36 0 (p.toInt.toNat * 12 + c.toInt.toNat))), (9, aN (N 35 0 (p.toInt.toNat * 12 + c.toInt.toNat))), (8, aN (N 34 0 (p.toInt.toNat * 12 + c.toInt.toNat))), (7, aN (p.toInt.toNat * 12 + c.toInt.toNat)), (5, aN (tn u)), (4, aN (tn f)), (3, aN n.toInt.toNat), (2, aN c.toInt.toNat), (1, aN p.toInt.toNat), (6, aN 1), (0, aR 23 0)]) (st' := []) (w' := wd (upN (upN (upN (upN (upN (upN (upN (upN (upN (upN (upN N 23 0 0 0) 23 0 0 0) 23 0 14 (N 23 0 14 + (if n.toInt.toNat = 0 then 0 else 1) - (if N 34 0 (p.toInt.toNat * 12 + c.toInt.toNat) = 0 then 0 else 1))) 34 0 (p.toInt.toNat * 12 + c.toInt.toNat) n.toInt.toNat) 35 0 (p.toInt.toNat * 12 + c.toInt.toNat) (tn f)) 36 0 (p.toInt.toNat * 12 + c.toInt.toNat) (tn u)) 23 0 14 ((N 23 0 14 + (if n.toInt.toNat = 0 then 0 else 1) - (if N 34 0 (p.toInt.toNat * 12 + c.toInt.toNat) = 0 then 0 else 1)) + (if N 34 0 (p.toInt.toNat * 12 + c.toInt.toNat) = 0 then 0 else 1) - (if n.toInt.toNat = 0 then 0 else 1))) 34 0 (p.toInt.toNat * 12 + c.toInt.toNat) (N 34 0 (p.toInt.toNat * 12 + c.toInt.toNat))) 35 0 (p.toInt.toNat * 12 + c.toInt.toNat) (N 35 0 (p.toInt.toNat * 12 + c.toInt.toNat))) 36 0 (p.toInt.toNat * 12 + c.toInt.toNat) (N 36 0 (p.toInt.toNat * 12 + c.toInt.toNat))) 23 0 0 3) L) (P := [vld NN 23 0]) rfl (vN (t := 23) (i := 0) (by decide)) (pc' := 181) rfl ?_
                        refine Sem.vret d95_181 rfl (by decide) (by decide) hzW ⟨rfl, _, _, rfl, ?_⟩
                        have hb : ¬ n.toInt.toNat = 0 ∧ bo (fitP (mN N) (p.toInt.toNat * 12 + c.toInt.toNat)) = 0 := by
                          refine ⟨fun q => hS (hss.mpr (Or.inl q)), bo_f (fun q => hS (hss.mpr (Or.inr q)))⟩
                        have hcode : cLine (mN N) p c n f u = 3 := by unfold cLine; (repeat' split) <;> omega
                        exact ⟨rfl, fun q => absurd (hcode.symm.trans q) (by decide), fun _ => by rw [hcode]; exact sl_back (by rw [if_neg hb.1]; (repeat' split) <;> omega)⟩
                    · have b69_ : ¬ (¬ N 23 0 14 = 24) := b69
                      refine Sem.seg [(.iconst 3, 0, 0)] ⟨⟨d95_134, trivial⟩, trivial⟩ (lv' := [(10, aN (N 36 0 (p.toInt.toNat * 12 + c.toInt.toNat))), (9, aN (N 35 0 (p.toInt.toNat * 12 + c.toInt.toNat))), (8, aN (N 34 0 (p.toInt.toNat * 12 + c.toInt.toNat))), (7, aN (p.toInt.toNat * 12 + c.toInt.toNat)), (5, aN (tn u)), (4, aN (tn f)), (3, aN n.toInt.toNat), (2, aN c.toInt.toNat), (1, aN p.toInt.toNat), (6, aN 1), (0, aR 23 0)]) (st' := [aN 3, aR 23 0]) (w' := wd (upN N 23 0 0 0) L) (P := []) rfl (trivial) (pc' := 135) rfl ?_
                      refine Sem.goto (tgt := 139) d95_135 (by decide) ?_
                      refine Sem.cVp1 (t := 23) (i := 0) (as := [aN 3]) (rst := []) (c' := 0) (s' := 0) d95_139 mk91 rfl co91 lk5_97 im91 se91 rfl (vN (t := 23) (i := 0) (by decide)) (show 2 ≤ mL 91 by decide) rfl (show 0 ≤ 8 by decide) (by decide) (by decide) rfl rfl (by decide) (by decide) (m91 (upN N 23 0 0 0) L 3 (by decide)) ?_
                      refine Sem.topNN (show (if 0 < 3 then 1 else 0) = 1 from rfl) ?_
                      refine Sem.ifN (tgt := 146) d95_142 (by decide) (by decide) (fun b74 => ?_) (fun b74 => ?_)
                      · exact absurd (show 1 = 0 from b74) (by decide)
                      refine Sem.vret d95_145 rfl (by decide) (by decide) hzW ⟨rfl, _, _, rfl, ?_⟩
                      have hb : bo (fitP (mN N) (p.toInt.toNat * 12 + c.toInt.toNat)) = 0 := bo_f (fun q => by
                        rcases q with q | q
                        · have q : 0 < N 34 0 (p.toInt.toNat * 12 + c.toInt.toNat) := q
                          omega
                        · have q : N 23 0 14 < 24 := q.1
                          omega)
                      have hcode : cLine (mN N) p c n f u = 3 := by unfold cLine; (repeat' split) <;> omega
                      exact ⟨rfl, fun q => absurd (hcode.symm.trans q) (by decide), fun _ => by rw [hcode]; exact upN_2⟩
              case neg =>
                refine Sem.cSp1 (as := [aI n, aN 0, aN 9]) (rst := [aR 23 0]) (c' := 0) (s' := 0) d95_57 mk89 rfl co89 lk5_89 ss89 (show 3 ≤ mL 89 by decide) rfl (show 1 ≤ 8 by decide) (by decide) (by decide) rfl rfl (by decide) (by decide) (m89 (N) L n 0 9 (by decide) (by decide)) ?_
                refine Sem.topNN (if_neg h55) ?_
                refine Sem.ifN (tgt := 68) d95_60 (by decide) (by decide) (fun b75 => ?_) (fun b75 => ?_)
                rotate_left
                · exact absurd (show 0 = 0 from by decide) b75
                refine Sem.seg [(.iconst 2, 0, 0)] ⟨⟨d95_68, trivial⟩, trivial⟩ (lv' := [(6, aN 1), (0, aR 23 0), (1, aI p), (2, aI c), (3, aI n), (4, aI f), (5, aI u)]) (st' := [aN 2, aR 23 0]) (w' := wd N L) (P := []) rfl (trivial) (pc' := 69) rfl ?_
                refine Sem.goto (tgt := 73) d95_69 (by decide) ?_
                refine Sem.cVp1 (t := 23) (i := 0) (as := [aN 2]) (rst := []) (c' := 0) (s' := 0) d95_73 mk91 rfl co91 lk5_97 im91 se91 rfl (vN (t := 23) (i := 0) (by decide)) (show 2 ≤ mL 91 by decide) rfl (show 0 ≤ 8 by decide) (by decide) (by decide) rfl rfl (by decide) (by decide) (m91 (N) L 2 (by decide)) ?_
                refine Sem.topNN (show (if 0 < 2 then 1 else 0) = 1 from rfl) ?_
                refine Sem.ifN (tgt := 80) d95_76 (by decide) (by decide) (fun b76 => ?_) (fun b76 => ?_)
                · exact absurd (show 1 = 0 from b76) (by decide)
                refine Sem.vret d95_79 rfl (by decide) (by decide) hzW ⟨rfl, _, _, rfl, ?_⟩
                have hb := bo_le (fitP (mN N) (p.toInt.toNat * 12 + c.toInt.toNat))
                have hcode : cLine (mN N) p c n f u = 2 := by unfold cLine; (repeat' split) <;> omega
                exact ⟨rfl, fun q => absurd (hcode.symm.trans q) (by decide), fun _ => by rw [hcode]⟩
            case neg =>
              refine Sem.cSp1 (as := [aI c]) (rst := [aR 23 0]) (c' := 0) (s' := 0) d95_43 mk90 rfl co90 lk5_93 ss90 (show 1 ≤ mL 90 by decide) rfl (show 1 ≤ 8 by decide) (by decide) (by decide) rfl rfl (by decide) (by decide) (m90 (N) L c) ?_
              refine Sem.topNN (if_neg h53) ?_
              refine Sem.ifN (tgt := 53) d95_46 (by decide) (by decide) (fun b77 => ?_) (fun b77 => ?_)
              · exact absurd (show ¬ 0 = 0 from b77) (by decide)
              refine Sem.seg [(.iconst 1, 0, 0)] ⟨⟨d95_49, trivial⟩, trivial⟩ (lv' := [(6, aN 1), (0, aR 23 0), (1, aI p), (2, aI c), (3, aI n), (4, aI f), (5, aI u)]) (st' := [aN 1, aR 23 0]) (w' := wd N L) (P := []) rfl (trivial) (pc' := 50) rfl ?_
              refine Sem.goto (tgt := 73) d95_50 (by decide) ?_
              refine Sem.cVp1 (t := 23) (i := 0) (as := [aN 1]) (rst := []) (c' := 0) (s' := 0) d95_73 mk91 rfl co91 lk5_97 im91 se91 rfl (vN (t := 23) (i := 0) (by decide)) (show 2 ≤ mL 91 by decide) rfl (show 0 ≤ 8 by decide) (by decide) (by decide) rfl rfl (by decide) (by decide) (m91 (N) L 1 (by decide)) ?_
              refine Sem.topNN (show (if 0 < 1 then 1 else 0) = 1 from rfl) ?_
              refine Sem.ifN (tgt := 80) d95_76 (by decide) (by decide) (fun b78 => ?_) (fun b78 => ?_)
              · exact absurd (show 1 = 0 from b78) (by decide)
              refine Sem.vret d95_79 rfl (by decide) (by decide) hzW ⟨rfl, _, _, rfl, ?_⟩
              have hb := bo_le (fitP (mN N) (p.toInt.toNat * 12 + c.toInt.toNat))
              have hcode : cLine (mN N) p c n f u = 1 := by unfold cLine; (repeat' split) <;> omega
              exact ⟨rfl, fun q => absurd (hcode.symm.trans q) (by decide), fun _ => by rw [hcode]⟩
          case neg =>
            refine Sem.cSp1 (as := [aI p]) (rst := [aR 23 0]) (c' := 0) (s' := 0) d95_36 mk90 rfl co90 lk5_93 ss90 (show 1 ≤ mL 90 by decide) rfl (show 1 ≤ 8 by decide) (by decide) (by decide) rfl rfl (by decide) (by decide) (m90 (N) L p) ?_
            refine Sem.topNN (if_neg h51) ?_
            refine Sem.ifN (tgt := 49) d95_39 (by decide) (by decide) (fun b79 => ?_) (fun b79 => ?_)
            rotate_left
            · exact absurd (show 0 = 0 from by decide) b79
            refine Sem.seg [(.iconst 1, 0, 0)] ⟨⟨d95_49, trivial⟩, trivial⟩ (lv' := [(6, aN 1), (0, aR 23 0), (1, aI p), (2, aI c), (3, aI n), (4, aI f), (5, aI u)]) (st' := [aN 1, aR 23 0]) (w' := wd N L) (P := []) rfl (trivial) (pc' := 50) rfl ?_
            refine Sem.goto (tgt := 73) d95_50 (by decide) ?_
            refine Sem.cVp1 (t := 23) (i := 0) (as := [aN 1]) (rst := []) (c' := 0) (s' := 0) d95_73 mk91 rfl co91 lk5_97 im91 se91 rfl (vN (t := 23) (i := 0) (by decide)) (show 2 ≤ mL 91 by decide) rfl (show 0 ≤ 8 by decide) (by decide) (by decide) rfl rfl (by decide) (by decide) (m91 (N) L 1 (by decide)) ?_
            refine Sem.topNN (show (if 0 < 1 then 1 else 0) = 1 from rfl) ?_
            refine Sem.ifN (tgt := 80) d95_76 (by decide) (by decide) (fun b80 => ?_) (fun b80 => ?_)
            · exact absurd (show 1 = 0 from b80) (by decide)
            refine Sem.vret d95_79 rfl (by decide) (by decide) hzW ⟨rfl, _, _, rfl, ?_⟩
            have hb := bo_le (fitP (mN N) (p.toInt.toNat * 12 + c.toInt.toNat))
            have hcode : cLine (mN N) p c n f u = 1 := by unfold cLine; (repeat' split) <;> omega
            exact ⟨rfl, fun q => absurd (hcode.symm.trans q) (by decide), fun _ => by rw [hcode]⟩
      case neg =>
        refine Sem.cSp1 (as := [aI u]) (rst := []) (c' := 0) (s' := 0) d95_14 mk90 rfl co90 lk5_93 ss90 (show 1 ≤ mL 90 by decide) rfl (show 0 ≤ 8 by decide) (by decide) (by decide) rfl rfl (by decide) (by decide) (m90 (N) L u) ?_
        refine Sem.topNN (if_neg h34) ?_
        refine Sem.ifN (tgt := 31) d95_17 (by decide) (by decide) (fun b81 => ?_) (fun b81 => ?_)
        rotate_left
        · exact absurd (show 0 = 0 from by decide) b81
        refine Sem.seg [(.iconst 0, 0, 0), (.istore 6, 0, 0), (.aload_n 0, 0, 0), (.iload_n 1, 0, 0)] ⟨⟨d95_31, trivial⟩, ⟨d95_32, trivial⟩, ⟨d95_34, trivial⟩, ⟨d95_35, trivial⟩, trivial⟩ (lv' := [(6, aN 0), (0, aR 23 0), (1, aI p), (2, aI c), (3, aI n), (4, aI f), (5, aI u)]) (st' := [aI p, aR 23 0]) (w' := wd N L) (P := []) rfl (trivial) (pc' := 36) rfl ?_
        by_cases h82 : 0 ≤ p.toInt ∧ p.toInt < 12
        case pos =>
          refine Sem.cSp1 (as := [aI p]) (rst := [aR 23 0]) (c' := 0) (s' := 0) d95_36 mk90 rfl co90 lk5_93 ss90 (show 1 ≤ mL 90 by decide) rfl (show 1 ≤ 8 by decide) (by decide) (by decide) rfl rfl (by decide) (by decide) (m90 (N) L p) ?_
          refine Sem.topNN (if_pos h82) ?_
          refine Sem.ifN (tgt := 49) d95_39 (by decide) (by decide) (fun b83 => ?_) (fun b83 => ?_)
          · exact absurd (show 1 = 0 from b83) (by decide)
          refine Sem.seg [(.iload_n 2, 0, 0)] ⟨⟨d95_42, trivial⟩, trivial⟩ (lv' := [(6, aN 0), (0, aR 23 0), (1, aI p), (2, aI c), (3, aI n), (4, aI f), (5, aI u)]) (st' := [aI c, aR 23 0]) (w' := wd N L) (P := []) rfl (trivial) (pc' := 43) rfl ?_
          by_cases h84 : 0 ≤ c.toInt ∧ c.toInt < 12
          case pos =>
            refine Sem.cSp1 (as := [aI c]) (rst := [aR 23 0]) (c' := 0) (s' := 0) d95_43 mk90 rfl co90 lk5_93 ss90 (show 1 ≤ mL 90 by decide) rfl (show 1 ≤ 8 by decide) (by decide) (by decide) rfl rfl (by decide) (by decide) (m90 (N) L c) ?_
            refine Sem.topNN (if_pos h84) ?_
            refine Sem.ifN (tgt := 53) d95_46 (by decide) (by decide) (fun b85 => ?_) (fun b85 => ?_)
            rotate_left
            · exact absurd (show ¬ 1 = 0 from by decide) b85
            refine Sem.seg [(.iload_n 3, 0, 0), (.iconst 0, 0, 0), (.bipush 9, 0, 0)] ⟨⟨d95_53, trivial⟩, ⟨d95_54, trivial⟩, ⟨d95_55, trivial⟩, trivial⟩ (lv' := [(6, aN 0), (0, aR 23 0), (1, aI p), (2, aI c), (3, aI n), (4, aI f), (5, aI u)]) (st' := [aN 9, aN 0, aI n, aR 23 0]) (w' := wd N L) (P := []) rfl (trivial) (pc' := 57) rfl ?_
            by_cases h86 : ((0 : Nat) : Int) ≤ n.toInt ∧ n.toInt ≤ ((9 : Nat) : Int)
            case pos =>
              refine Sem.cSp1 (as := [aI n, aN 0, aN 9]) (rst := [aR 23 0]) (c' := 0) (s' := 0) d95_57 mk89 rfl co89 lk5_89 ss89 (show 3 ≤ mL 89 by decide) rfl (show 1 ≤ 8 by decide) (by decide) (by decide) rfl rfl (by decide) (by decide) (m89 (N) L n 0 9 (by decide) (by decide)) ?_
              refine Sem.topNN (if_pos h86) ?_
              refine Sem.ifN (tgt := 68) d95_60 (by decide) (by decide) (fun b87 => ?_) (fun b87 => ?_)
              · exact absurd (show 1 = 0 from b87) (by decide)
              refine Sem.seg [(.iload 6, 0, 0)] ⟨⟨d95_63, trivial⟩, trivial⟩ (lv' := [(6, aN 0), (0, aR 23 0), (1, aI p), (2, aI c), (3, aI n), (4, aI f), (5, aI u)]) (st' := [aN 0, aR 23 0]) (w' := wd N L) (P := []) rfl (trivial) (pc' := 65) rfl ?_
              refine Sem.ifN (tgt := 72) d95_65 (by decide) (by decide) (fun b88 => ?_) (fun b88 => ?_)
              · exact absurd (show ¬ 0 = 0 from b88) (by decide)
              refine Sem.seg [(.iconst 2, 0, 0)] ⟨⟨d95_68, trivial⟩, trivial⟩ (lv' := [(6, aN 0), (0, aR 23 0), (1, aI p), (2, aI c), (3, aI n), (4, aI f), (5, aI u)]) (st' := [aN 2, aR 23 0]) (w' := wd N L) (P := []) rfl (trivial) (pc' := 69) rfl ?_
              refine Sem.goto (tgt := 73) d95_69 (by decide) ?_
              refine Sem.cVp1 (t := 23) (i := 0) (as := [aN 2]) (rst := []) (c' := 0) (s' := 0) d95_73 mk91 rfl co91 lk5_97 im91 se91 rfl (vN (t := 23) (i := 0) (by decide)) (show 2 ≤ mL 91 by decide) rfl (show 0 ≤ 8 by decide) (by decide) (by decide) rfl rfl (by decide) (by decide) (m91 (N) L 2 (by decide)) ?_
              refine Sem.topNN (show (if 0 < 2 then 1 else 0) = 1 from rfl) ?_
              refine Sem.ifN (tgt := 80) d95_76 (by decide) (by decide) (fun b89 => ?_) (fun b89 => ?_)
              · exact absurd (show 1 = 0 from b89) (by decide)
              refine Sem.vret d95_79 rfl (by decide) (by decide) hzW ⟨rfl, _, _, rfl, ?_⟩
              have hb := bo_le (fitP (mN N) (p.toInt.toNat * 12 + c.toInt.toNat))
              have hcode : cLine (mN N) p c n f u = 2 := by unfold cLine; (repeat' split) <;> omega
              exact ⟨rfl, fun q => absurd (hcode.symm.trans q) (by decide), fun _ => by rw [hcode]⟩
            case neg =>
              refine Sem.cSp1 (as := [aI n, aN 0, aN 9]) (rst := [aR 23 0]) (c' := 0) (s' := 0) d95_57 mk89 rfl co89 lk5_89 ss89 (show 3 ≤ mL 89 by decide) rfl (show 1 ≤ 8 by decide) (by decide) (by decide) rfl rfl (by decide) (by decide) (m89 (N) L n 0 9 (by decide) (by decide)) ?_
              refine Sem.topNN (if_neg h86) ?_
              refine Sem.ifN (tgt := 68) d95_60 (by decide) (by decide) (fun b90 => ?_) (fun b90 => ?_)
              rotate_left
              · exact absurd (show 0 = 0 from by decide) b90
              refine Sem.seg [(.iconst 2, 0, 0)] ⟨⟨d95_68, trivial⟩, trivial⟩ (lv' := [(6, aN 0), (0, aR 23 0), (1, aI p), (2, aI c), (3, aI n), (4, aI f), (5, aI u)]) (st' := [aN 2, aR 23 0]) (w' := wd N L) (P := []) rfl (trivial) (pc' := 69) rfl ?_
              refine Sem.goto (tgt := 73) d95_69 (by decide) ?_
              refine Sem.cVp1 (t := 23) (i := 0) (as := [aN 2]) (rst := []) (c' := 0) (s' := 0) d95_73 mk91 rfl co91 lk5_97 im91 se91 rfl (vN (t := 23) (i := 0) (by decide)) (show 2 ≤ mL 91 by decide) rfl (show 0 ≤ 8 by decide) (by decide) (by decide) rfl rfl (by decide) (by decide) (m91 (N) L 2 (by decide)) ?_
              refine Sem.topNN (show (if 0 < 2 then 1 else 0) = 1 from rfl) ?_
              refine Sem.ifN (tgt := 80) d95_76 (by decide) (by decide) (fun b91 => ?_) (fun b91 => ?_)
              · exact absurd (show 1 = 0 from b91) (by decide)
              refine Sem.vret d95_79 rfl (by decide) (by decide) hzW ⟨rfl, _, _, rfl, ?_⟩
              have hb := bo_le (fitP (mN N) (p.toInt.toNat * 12 + c.toInt.toNat))
              have hcode : cLine (mN N) p c n f u = 2 := by unfold cLine; (repeat' split) <;> omega
              exact ⟨rfl, fun q => absurd (hcode.symm.trans q) (by decide), fun _ => by rw [hcode]⟩
          case neg =>
            refine Sem.cSp1 (as := [aI c]) (rst := [aR 23 0]) (c' := 0) (s' := 0) d95_43 mk90 rfl co90 lk5_93 ss90 (show 1 ≤ mL 90 by decide) rfl (show 1 ≤ 8 by decide) (by decide) (by decide) rfl rfl (by decide) (by decide) (m90 (N) L c) ?_
            refine Sem.topNN (if_neg h84) ?_
            refine Sem.ifN (tgt := 53) d95_46 (by decide) (by decide) (fun b92 => ?_) (fun b92 => ?_)
            · exact absurd (show ¬ 0 = 0 from b92) (by decide)
            refine Sem.seg [(.iconst 1, 0, 0)] ⟨⟨d95_49, trivial⟩, trivial⟩ (lv' := [(6, aN 0), (0, aR 23 0), (1, aI p), (2, aI c), (3, aI n), (4, aI f), (5, aI u)]) (st' := [aN 1, aR 23 0]) (w' := wd N L) (P := []) rfl (trivial) (pc' := 50) rfl ?_
            refine Sem.goto (tgt := 73) d95_50 (by decide) ?_
            refine Sem.cVp1 (t := 23) (i := 0) (as := [aN 1]) (rst := []) (c' := 0) (s' := 0) d95_73 mk91 rfl co91 lk5_97 im91 se91 rfl (vN (t := 23) (i := 0) (by decide)) (show 2 ≤ mL 91 by decide) rfl (show 0 ≤ 8 by decide) (by decide) (by decide) rfl rfl (by decide) (by decide) (m91 (N) L 1 (by decide)) ?_
            refine Sem.topNN (show (if 0 < 1 then 1 else 0) = 1 from rfl) ?_
            refine Sem.ifN (tgt := 80) d95_76 (by decide) (by decide) (fun b93 => ?_) (fun b93 => ?_)
            · exact absurd (show 1 = 0 from b93) (by decide)
            refine Sem.vret d95_79 rfl (by decide) (by decide) hzW ⟨rfl, _, _, rfl, ?_⟩
            have hb := bo_le (fitP (mN N) (p.toInt.toNat * 12 + c.toInt.toNat))
            have hcode : cLine (mN N) p c n f u = 1 := by unfold cLine; (repeat' split) <;> omega
            exact ⟨rfl, fun q => absurd (hcode.symm.trans q) (by decide), fun _ => by rw [hcode]⟩
        case neg =>
          refine Sem.cSp1 (as := [aI p]) (rst := [aR 23 0]) (c' := 0) (s' := 0) d95_36 mk90 rfl co90 lk5_93 ss90 (show 1 ≤ mL 90 by decide) rfl (show 1 ≤ 8 by decide) (by decide) (by decide) rfl rfl (by decide) (by decide) (m90 (N) L p) ?_
          refine Sem.topNN (if_neg h82) ?_
          refine Sem.ifN (tgt := 49) d95_39 (by decide) (by decide) (fun b94 => ?_) (fun b94 => ?_)
          rotate_left
          · exact absurd (show 0 = 0 from by decide) b94
          refine Sem.seg [(.iconst 1, 0, 0)] ⟨⟨d95_49, trivial⟩, trivial⟩ (lv' := [(6, aN 0), (0, aR 23 0), (1, aI p), (2, aI c), (3, aI n), (4, aI f), (5, aI u)]) (st' := [aN 1, aR 23 0]) (w' := wd N L) (P := []) rfl (trivial) (pc' := 50) rfl ?_
          refine Sem.goto (tgt := 73) d95_50 (by decide) ?_
          refine Sem.cVp1 (t := 23) (i := 0) (as := [aN 1]) (rst := []) (c' := 0) (s' := 0) d95_73 mk91 rfl co91 lk5_97 im91 se91 rfl (vN (t := 23) (i := 0) (by decide)) (show 2 ≤ mL 91 by decide) rfl (show 0 ≤ 8 by decide) (by decide) (by decide) rfl rfl (by decide) (by decide) (m91 (N) L 1 (by decide)) ?_
          refine Sem.topNN (show (if 0 < 1 then 1 else 0) = 1 from rfl) ?_
          refine Sem.ifN (tgt := 80) d95_76 (by decide) (by decide) (fun b95 => ?_) (fun b95 => ?_)
          · exact absurd (show 1 = 0 from b95) (by decide)
          refine Sem.vret d95_79 rfl (by decide) (by decide) hzW ⟨rfl, _, _, rfl, ?_⟩
          have hb := bo_le (fitP (mN N) (p.toInt.toNat * 12 + c.toInt.toNat))
          have hcode : cLine (mN N) p c n f u = 1 := by unfold cLine; (repeat' split) <;> omega
          exact ⟨rfl, fun q => absurd (hcode.symm.trans q) (by decide), fun _ => by rw [hcode]⟩
    case neg =>
      refine Sem.cSp1 (as := [aI f]) (rst := []) (c' := 0) (s' := 0) d95_6 mk90 rfl co90 lk5_93 ss90 (show 1 ≤ mL 90 by decide) rfl (show 0 ≤ 8 by decide) (by decide) (by decide) rfl rfl (by decide) (by decide) (m90 (N) L f) ?_
      refine Sem.topNN (if_neg h32) ?_
      refine Sem.ifN (tgt := 31) d95_9 (by decide) (by decide) (fun b96 => ?_) (fun b96 => ?_)
      rotate_left
      · exact absurd (show 0 = 0 from by decide) b96
      refine Sem.seg [(.iconst 0, 0, 0), (.istore 6, 0, 0), (.aload_n 0, 0, 0), (.iload_n 1, 0, 0)] ⟨⟨d95_31, trivial⟩, ⟨d95_32, trivial⟩, ⟨d95_34, trivial⟩, ⟨d95_35, trivial⟩, trivial⟩ (lv' := [(6, aN 0), (0, aR 23 0), (1, aI p), (2, aI c), (3, aI n), (4, aI f), (5, aI u)]) (st' := [aI p, aR 23 0]) (w' := wd N L) (P := []) rfl (trivial) (pc' := 36) rfl ?_
      by_cases h97 : 0 ≤ p.toInt ∧ p.toInt < 12
      case pos =>
        refine Sem.cSp1 (as := [aI p]) (rst := [aR 23 0]) (c' := 0) (s' := 0) d95_36 mk90 rfl co90 lk5_93 ss90 (show 1 ≤ mL 90 by decide) rfl (show 1 ≤ 8 by decide) (by decide) (by decide) rfl rfl (by decide) (by decide) (m90 (N) L p) ?_
        refine Sem.topNN (if_pos h97) ?_
        refine Sem.ifN (tgt := 49) d95_39 (by decide) (by decide) (fun b98 => ?_) (fun b98 => ?_)
        · exact absurd (show 1 = 0 from b98) (by decide)
        refine Sem.seg [(.iload_n 2, 0, 0)] ⟨⟨d95_42, trivial⟩, trivial⟩ (lv' := [(6, aN 0), (0, aR 23 0), (1, aI p), (2, aI c), (3, aI n), (4, aI f), (5, aI u)]) (st' := [aI c, aR 23 0]) (w' := wd N L) (P := []) rfl (trivial) (pc' := 43) rfl ?_
        by_cases h99 : 0 ≤ c.toInt ∧ c.toInt < 12
        case pos =>
          refine Sem.cSp1 (as := [aI c]) (rst := [aR 23 0]) (c' := 0) (s' := 0) d95_43 mk90 rfl co90 lk5_93 ss90 (show 1 ≤ mL 90 by decide) rfl (show 1 ≤ 8 by decide) (by decide) (by decide) rfl rfl (by decide) (by decide) (m90 (N) L c) ?_
          refine Sem.topNN (if_pos h99) ?_
          refine Sem.ifN (tgt := 53) d95_46 (by decide) (by decide) (fun b100 => ?_) (fun b100 => ?_)
          rotate_left
          · exact absurd (show ¬ 1 = 0 from by decide) b100
          refine Sem.seg [(.iload_n 3, 0, 0), (.iconst 0, 0, 0), (.bipush 9, 0, 0)] ⟨⟨d95_53, trivial⟩, ⟨d95_54, trivial⟩, ⟨d95_55, trivial⟩, trivial⟩ (lv' := [(6, aN 0), (0, aR 23 0), (1, aI p), (2, aI c), (3, aI n), (4, aI f), (5, aI u)]) (st' := [aN 9, aN 0, aI n, aR 23 0]) (w' := wd N L) (P := []) rfl (trivial) (pc' := 57) rfl ?_
          by_cases h101 : ((0 : Nat) : Int) ≤ n.toInt ∧ n.toInt ≤ ((9 : Nat) : Int)
          case pos =>
            refine Sem.cSp1 (as := [aI n, aN 0, aN 9]) (rst := [aR 23 0]) (c' := 0) (s' := 0) d95_57 mk89 rfl co89 lk5_89 ss89 (show 3 ≤ mL 89 by decide) rfl (show 1 ≤ 8 by decide) (by decide) (by decide) rfl rfl (by decide) (by decide) (m89 (N) L n 0 9 (by decide) (by decide)) ?_
            refine Sem.topNN (if_pos h101) ?_
            refine Sem.ifN (tgt := 68) d95_60 (by decide) (by decide) (fun b102 => ?_) (fun b102 => ?_)
            · exact absurd (show 1 = 0 from b102) (by decide)
            refine Sem.seg [(.iload 6, 0, 0)] ⟨⟨d95_63, trivial⟩, trivial⟩ (lv' := [(6, aN 0), (0, aR 23 0), (1, aI p), (2, aI c), (3, aI n), (4, aI f), (5, aI u)]) (st' := [aN 0, aR 23 0]) (w' := wd N L) (P := []) rfl (trivial) (pc' := 65) rfl ?_
            refine Sem.ifN (tgt := 72) d95_65 (by decide) (by decide) (fun b103 => ?_) (fun b103 => ?_)
            · exact absurd (show ¬ 0 = 0 from b103) (by decide)
            refine Sem.seg [(.iconst 2, 0, 0)] ⟨⟨d95_68, trivial⟩, trivial⟩ (lv' := [(6, aN 0), (0, aR 23 0), (1, aI p), (2, aI c), (3, aI n), (4, aI f), (5, aI u)]) (st' := [aN 2, aR 23 0]) (w' := wd N L) (P := []) rfl (trivial) (pc' := 69) rfl ?_
            refine Sem.goto (tgt := 73) d95_69 (by decide) ?_
            refine Sem.cVp1 (t := 23) (i := 0) (as := [aN 2]) (rst := []) (c' := 0) (s' := 0) d95_73 mk91 rfl co91 lk5_97 im91 se91 rfl (vN (t := 23) (i := 0) (by decide)) (show 2 ≤ mL 91 by decide) rfl (show 0 ≤ 8 by decide) (by decide) (by decide) rfl rfl (by decide) (by decide) (m91 (N) L 2 (by decide)) ?_
            refine Sem.topNN (show (if 0 < 2 then 1 else 0) = 1 from rfl) ?_
            refine Sem.ifN (tgt := 80) d95_76 (by decide) (by decide) (fun b104 => ?_) (fun b104 => ?_)
            · exact absurd (show 1 = 0 from b104) (by decide)
            refine Sem.vret d95_79 rfl (by decide) (by decide) hzW ⟨rfl, _, _, rfl, ?_⟩
            have hb := bo_le (fitP (mN N) (p.toInt.toNat * 12 + c.toInt.toNat))
            have hcode : cLine (mN N) p c n f u = 2 := by unfold cLine; (repeat' split) <;> omega
            exact ⟨rfl, fun q => absurd (hcode.symm.trans q) (by decide), fun _ => by rw [hcode]⟩
          case neg =>
            refine Sem.cSp1 (as := [aI n, aN 0, aN 9]) (rst := [aR 23 0]) (c' := 0) (s' := 0) d95_57 mk89 rfl co89 lk5_89 ss89 (show 3 ≤ mL 89 by decide) rfl (show 1 ≤ 8 by decide) (by decide) (by decide) rfl rfl (by decide) (by decide) (m89 (N) L n 0 9 (by decide) (by decide)) ?_
            refine Sem.topNN (if_neg h101) ?_
            refine Sem.ifN (tgt := 68) d95_60 (by decide) (by decide) (fun b105 => ?_) (fun b105 => ?_)
            rotate_left
            · exact absurd (show 0 = 0 from by decide) b105
            refine Sem.seg [(.iconst 2, 0, 0)] ⟨⟨d95_68, trivial⟩, trivial⟩ (lv' := [(6, aN 0), (0, aR 23 0), (1, aI p), (2, aI c), (3, aI n), (4, aI f), (5, aI u)]) (st' := [aN 2, aR 23 0]) (w' := wd N L) (P := []) rfl (trivial) (pc' := 69) rfl ?_
            refine Sem.goto (tgt := 73) d95_69 (by decide) ?_
            refine Sem.cVp1 (t := 23) (i := 0) (as := [aN 2]) (rst := []) (c' := 0) (s' := 0) d95_73 mk91 rfl co91 lk5_97 im91 se91 rfl (vN (t := 23) (i := 0) (by decide)) (show 2 ≤ mL 91 by decide) rfl (show 0 ≤ 8 by decide) (by decide) (by decide) rfl rfl (by decide) (by decide) (m91 (N) L 2 (by decide)) ?_
            refine Sem.topNN (show (if 0 < 2 then 1 else 0) = 1 from rfl) ?_
            refine Sem.ifN (tgt := 80) d95_76 (by decide) (by decide) (fun b106 => ?_) (fun b106 => ?_)
            · exact absurd (show 1 = 0 from b106) (by decide)
            refine Sem.vret d95_79 rfl (by decide) (by decide) hzW ⟨rfl, _, _, rfl, ?_⟩
            have hb := bo_le (fitP (mN N) (p.toInt.toNat * 12 + c.toInt.toNat))
            have hcode : cLine (mN N) p c n f u = 2 := by unfold cLine; (repeat' split) <;> omega
            exact ⟨rfl, fun q => absurd (hcode.symm.trans q) (by decide), fun _ => by rw [hcode]⟩
        case neg =>
          refine Sem.cSp1 (as := [aI c]) (rst := [aR 23 0]) (c' := 0) (s' := 0) d95_43 mk90 rfl co90 lk5_93 ss90 (show 1 ≤ mL 90 by decide) rfl (show 1 ≤ 8 by decide) (by decide) (by decide) rfl rfl (by decide) (by decide) (m90 (N) L c) ?_
          refine Sem.topNN (if_neg h99) ?_
          refine Sem.ifN (tgt := 53) d95_46 (by decide) (by decide) (fun b107 => ?_) (fun b107 => ?_)
          · exact absurd (show ¬ 0 = 0 from b107) (by decide)
          refine Sem.seg [(.iconst 1, 0, 0)] ⟨⟨d95_49, trivial⟩, trivial⟩ (lv' := [(6, aN 0), (0, aR 23 0), (1, aI p), (2, aI c), (3, aI n), (4, aI f), (5, aI u)]) (st' := [aN 1, aR 23 0]) (w' := wd N L) (P := []) rfl (trivial) (pc' := 50) rfl ?_
          refine Sem.goto (tgt := 73) d95_50 (by decide) ?_
          refine Sem.cVp1 (t := 23) (i := 0) (as := [aN 1]) (rst := []) (c' := 0) (s' := 0) d95_73 mk91 rfl co91 lk5_97 im91 se91 rfl (vN (t := 23) (i := 0) (by decide)) (show 2 ≤ mL 91 by decide) rfl (show 0 ≤ 8 by decide) (by decide) (by decide) rfl rfl (by decide) (by decide) (m91 (N) L 1 (by decide)) ?_
          refine Sem.topNN (show (if 0 < 1 then 1 else 0) = 1 from rfl) ?_
          refine Sem.ifN (tgt := 80) d95_76 (by decide) (by decide) (fun b108 => ?_) (fun b108 => ?_)
          · exact absurd (show 1 = 0 from b108) (by decide)
          refine Sem.vret d95_79 rfl (by decide) (by decide) hzW ⟨rfl, _, _, rfl, ?_⟩
          have hb := bo_le (fitP (mN N) (p.toInt.toNat * 12 + c.toInt.toNat))
          have hcode : cLine (mN N) p c n f u = 1 := by unfold cLine; (repeat' split) <;> omega
          exact ⟨rfl, fun q => absurd (hcode.symm.trans q) (by decide), fun _ => by rw [hcode]⟩
      case neg =>
        refine Sem.cSp1 (as := [aI p]) (rst := [aR 23 0]) (c' := 0) (s' := 0) d95_36 mk90 rfl co90 lk5_93 ss90 (show 1 ≤ mL 90 by decide) rfl (show 1 ≤ 8 by decide) (by decide) (by decide) rfl rfl (by decide) (by decide) (m90 (N) L p) ?_
        refine Sem.topNN (if_neg h97) ?_
        refine Sem.ifN (tgt := 49) d95_39 (by decide) (by decide) (fun b109 => ?_) (fun b109 => ?_)
        rotate_left
        · exact absurd (show 0 = 0 from by decide) b109
        refine Sem.seg [(.iconst 1, 0, 0)] ⟨⟨d95_49, trivial⟩, trivial⟩ (lv' := [(6, aN 0), (0, aR 23 0), (1, aI p), (2, aI c), (3, aI n), (4, aI f), (5, aI u)]) (st' := [aN 1, aR 23 0]) (w' := wd N L) (P := []) rfl (trivial) (pc' := 50) rfl ?_
        refine Sem.goto (tgt := 73) d95_50 (by decide) ?_
        refine Sem.cVp1 (t := 23) (i := 0) (as := [aN 1]) (rst := []) (c' := 0) (s' := 0) d95_73 mk91 rfl co91 lk5_97 im91 se91 rfl (vN (t := 23) (i := 0) (by decide)) (show 2 ≤ mL 91 by decide) rfl (show 0 ≤ 8 by decide) (by decide) (by decide) rfl rfl (by decide) (by decide) (m91 (N) L 1 (by decide)) ?_
        refine Sem.topNN (show (if 0 < 1 then 1 else 0) = 1 from rfl) ?_
        refine Sem.ifN (tgt := 80) d95_76 (by decide) (by decide) (fun b110 => ?_) (fun b110 => ?_)
        · exact absurd (show 1 = 0 from b110) (by decide)
        refine Sem.vret d95_79 rfl (by decide) (by decide) hzW ⟨rfl, _, _, rfl, ?_⟩
        have hb := bo_le (fitP (mN N) (p.toInt.toNat * 12 + c.toInt.toNat))
        have hcode : cLine (mN N) p c n f u = 1 := by unfold cLine; (repeat' split) <;> omega
        exact ⟨rfl, fun q => absurd (hcode.symm.trans q) (by decide), fun _ => by rw [hcode]⟩

theorem m119 {sc : XT} (N : TN) (L : TL) (x : Int32) (h9 : ∀ c, c < 144 → N 34 0 c ≤ 9) : Sem sc 119 0 [(0, aR 23 0), (1, aI x)] [] (wd N L) 0 0 (QZ fun z N' L' => L = L' ∧ (cLevel x = 0 → LVv (eg (mN N)) x.toInt.toNat z ∧ N' = upN N 23 0 0 0) ∧ (¬ cLevel x = 0 → N' = upN N 23 0 0 (cLevel x))) := by
  refine Sem.seg [(.aload_n 0, 0, 0), (.iload_n 1, 0, 0)] ⟨⟨d119_0, trivial⟩, ⟨d119_1, trivial⟩, trivial⟩ (lv' := [(0, aR 23 0), (1, aI x)]) (st' := [aI x, aR 23 0]) (w' := wd N L) (P := []) rfl (trivial) (pc' := 2) rfl ?_
  by_cases h1 : 0 ≤ x.toInt ∧ x.toInt < 12
  case pos =>
    refine Sem.cSp1 (as := [aI x]) (rst := [aR 23 0]) (c' := 0) (s' := 0) d119_2 mk90 rfl co90 lk5_93 ss90 (show 1 ≤ mL 90 by decide) rfl (show 1 ≤ 8 by decide) (by decide) (by decide) rfl rfl (by decide) (by decide) (m90 (N) L x) ?_
    refine Sem.topNN (if_pos h1) ?_
    refine Sem.ifN (tgt := 12) d119_5 (by decide) (by decide) (fun b2 => ?_) (fun b2 => ?_)
    · exact absurd (show 1 = 0 from b2) (by decide)
    refine Sem.seg [(.iconst 0, 0, 0)] ⟨⟨d119_8, trivial⟩, trivial⟩ (lv' := [(0, aR 23 0), (1, aI x)]) (st' := [aN 0, aR 23 0]) (w' := wd N L) (P := []) rfl (trivial) (pc' := 9) rfl ?_
    refine Sem.goto (tgt := 13) d119_9 (by decide) ?_
    refine Sem.cVp1 (t := 23) (i := 0) (as := [aN 0]) (rst := []) (c' := 0) (s' := 0) d119_13 mk91 rfl co91 lk5_97 im91 se91 rfl (vN (t := 23) (i := 0) (by decide)) (show 2 ≤ mL 91 by decide) rfl (show 0 ≤ 8 by decide) (by decide) (by decide) rfl rfl (by decide) (by decide) (m91 (N) L 0 (by decide)) ?_
    refine Sem.topNN (show (if 0 < 0 then 1 else 0) = 0 from rfl) ?_
    refine Sem.ifN (tgt := 23) d119_16 (by decide) (by decide) (fun b3 => ?_) (fun b3 => ?_)
    rotate_left
    · exact absurd (show 0 = 0 from by decide) b3
    refine Sem.pick [1, 0] (lv' := [(1, aI x), (0, aR 23 0)]) rfl ?_
    refine Sem.loc0 (show x = nI x.toInt.toNat from i_nI2 (by omega)) ?_
    refine Sem.seg [(.aload_n 0, 0, 0), (.iload_n 1, 0, 0)] ⟨⟨d119_23, trivial⟩, ⟨d119_24, trivial⟩, trivial⟩ (lv' := [(1, aN x.toInt.toNat), (0, aR 23 0)]) (st' := [aN x.toInt.toNat, aR 23 0]) (w' := wd (upN N 23 0 0 0) L) (P := []) rfl (trivial) (pc' := 25) rfl ?_
    refine Sem.cVmN (t := 23) (i := 0) (as := [aN x.toInt.toNat]) (rst := []) (c' := 0) (s' := 0) d119_25 mk98 rfl co98 lk5_105 im98 se98 rfl (vN (t := 23) (i := 0) (by decide)) (show 2 ≤ mL 98 by decide) rfl (show 0 ≤ 8 by decide) (by decide) (by decide) rfl rfl (by decide) (by decide) (m98 (upN N 23 0 0 0) L x.toInt.toNat (by omega) h9) ?_
    rintro z N1 L1 ⟨rfl, rfl, hv⟩
    refine Sem.iret rfl d119_28 (Or.inl rfl) (by decide) (by decide) hzW ⟨_, _, _, rfl, rfl, ?_⟩
    have hcode : cLevel x = 0 := by unfold cLevel; (repeat' split) <;> omega
    exact ⟨rfl, fun _ => ⟨hv, rfl⟩, fun q => absurd hcode q⟩
  case neg =>
    refine Sem.cSp1 (as := [aI x]) (rst := [aR 23 0]) (c' := 0) (s' := 0) d119_2 mk90 rfl co90 lk5_93 ss90 (show 1 ≤ mL 90 by decide) rfl (show 1 ≤ 8 by decide) (by decide) (by decide) rfl rfl (by decide) (by decide) (m90 (N) L x) ?_
    refine Sem.topNN (if_neg h1) ?_
    refine Sem.ifN (tgt := 12) d119_5 (by decide) (by decide) (fun b4 => ?_) (fun b4 => ?_)
    rotate_left
    · exact absurd (show 0 = 0 from by decide) b4
    refine Sem.seg [(.iconst 1, 0, 0)] ⟨⟨d119_12, trivial⟩, trivial⟩ (lv' := [(0, aR 23 0), (1, aI x)]) (st' := [aN 1, aR 23 0]) (w' := wd N L) (P := []) rfl (trivial) (pc' := 13) rfl ?_
    refine Sem.cVp1 (t := 23) (i := 0) (as := [aN 1]) (rst := []) (c' := 0) (s' := 0) d119_13 mk91 rfl co91 lk5_97 im91 se91 rfl (vN (t := 23) (i := 0) (by decide)) (show 2 ≤ mL 91 by decide) rfl (show 0 ≤ 8 by decide) (by decide) (by decide) rfl rfl (by decide) (by decide) (m91 (N) L 1 (by decide)) ?_
    refine Sem.topNN (show (if 0 < 1 then 1 else 0) = 1 from rfl) ?_
    refine Sem.ifN (tgt := 23) d119_16 (by decide) (by decide) (fun b5 => ?_) (fun b5 => ?_)
    · exact absurd (show 1 = 0 from b5) (by decide)
    refine Sem.seg [(.iconst 0, 0, 0)] ⟨⟨d119_19, trivial⟩, trivial⟩ (lv' := [(0, aR 23 0), (1, aI x)]) (st' := [aN 0]) (w' := wd (upN N 23 0 0 1) L) (P := []) rfl (trivial) (pc' := 20) rfl ?_
    refine Sem.goto (tgt := 28) d119_20 (by decide) ?_
    refine Sem.iret rfl d119_28 (Or.inl rfl) (by decide) (by decide) hzW ⟨_, _, _, rfl, rfl, ?_⟩
    have hcode : cLevel x = 1 := by unfold cLevel; (repeat' split) <;> omega
    exact ⟨rfl, fun q => absurd (hcode.symm.trans q) (by decide), fun _ => by rw [hcode]⟩

