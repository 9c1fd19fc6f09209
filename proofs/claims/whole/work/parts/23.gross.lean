-- ===== the class: gross needs =====
theorem m10 {sc : XT} (N : TN) (L : TL) (p i : Nat) (hp : p < 12) (hi : i < 12) (hc : CD N) : Sem sc 10 0 [(0, aR 0 0), (1, aN p), (2, aN i)] [] (wd N L) 0 0 (QP none N (upW L 17 0 12 (fun w => L 17 0 w + askF N L p i w))) := by
  have hl := (hc.1 p hp).2.2.2.1
  have h9 := hc.2.2.2.1 (p * 12 + i) (by omega)
  refine Sem.seg [(.iload_n 1, 0, 0), (.iload_n 2, 0, 0)] ⟨⟨d10_0, trivial⟩, ⟨d10_1, trivial⟩, trivial⟩ (lv' := [(0, aR 0 0), (1, aN p), (2, aN i)]) (st' := [aN i, aN p]) (w' := wd N L) (P := []) rfl (trivial) (pc' := 2) rfl ?_
  refine Sem.cSp1 (as := [aN p, aN i]) (rst := []) (c' := 0) (s' := 0) d10_2 mk11 rfl co11 lk4_98 ss11 (show 2 ≤ mL 11 by decide) rfl (show 0 ≤ 8 by decide) (by decide) (by decide) rfl rfl (by decide) (by decide) (m11 N L p i) ?_
  refine Sem.seg [(.istore_n 3, 0, 0), (.aload_n 0, 0, 0), (.getfield 18, 4, 1), (.getfield 250, 0, 0), (.iload_n 3, 0, 0), (.iaload, 0, 0)] ⟨⟨d10_5, trivial⟩, ⟨d10_6, trivial⟩, ⟨d10_7, gf4_18⟩, ⟨d10_10, gf4_250⟩, ⟨d10_13, trivial⟩, ⟨d10_14, trivial⟩, trivial⟩ (lv' := [(3, aN ((p * 12) + i)), (0, aR 0 0), (1, aN p), (2, aN i)]) (st' := [aN (N 3 0 ((p * 12) + i))]) (w' := wd N L) (P := [vld NN 0 0, vld NN 2 0, vld NN 3 0, (p * 12) + i < 144]) rfl (⟨vN (t := 0) (i := 0) (by decide), vN (t := 2) (i := 0) (by decide), vN (t := 3) (i := 0) (by decide), (show (p * 12) + i < 144 by omega)⟩) (pc' := 15) rfl ?_
  refine Sem.ifN (tgt := 19) d10_15 (by decide) (show N 3 0 ((p * 12) + i) < 2 ^ 31 by omega) (fun b1 => ?_) (fun b1 => ?_)
  · have b1_ : ¬ N 3 0 ((p * 12) + i) = 0 := b1
    have h0 : ¬ N 3 0 (p * 12 + i) = 0 := by assumption
    obtain ⟨h4, h5⟩ := hc.2.2.2.2.1 (p * 12 + i) (by omega) h0
    refine Sem.seg [(.aload_n 0, 0, 0), (.getfield 11, 4, 0), (.iload_n 1, 0, 0), (.aaload, 0, 0), (.astore 4, 0, 0), (.iconst 0, 0, 0), (.istore 5, 0, 0)] ⟨⟨d10_19, trivial⟩, ⟨d10_20, gf4_11⟩, ⟨d10_23, trivial⟩, ⟨d10_24, trivial⟩, ⟨d10_25, trivial⟩, ⟨d10_27, trivial⟩, ⟨d10_28, trivial⟩, trivial⟩ (lv' := [(5, aN 0), (4, aR 19 p), (3, aN ((p * 12) + i)), (0, aR 0 0), (1, aN p), (2, aN i)]) (st' := []) (w' := wd N L) (P := [vld NN 0 0, vld NN 1 0, p < 12]) rfl (⟨vN (t := 0) (i := 0) (by decide), vN (t := 1) (i := 0) (by decide), (show p < 12 by omega)⟩) (pc' := 30) rfl ?_
    have lp : ∀ (d : Nat) (w : Nat) (L1 : TL), 12 - w = d → (w ≤ 12) → (L1 = upW L 17 0 w (fun w => L 17 0 w + askF N L p i w)) → Sem sc 10 30 [(0, aR 0 0), (2, aN i), (3, aN ((p * 12) + i)), (4, aR 19 p), (5, aN w)] [] (wd N L1) 0 0 (QP none N (upW L 17 0 12 (fun w => L 17 0 w + askF N L p i w))) := by
      intro d
      induction d using Nat.strongRecOn with
      | ind d ih =>
        intro w L1 hd hw hL
        refine Sem.seg [(.iload 5, 0, 0), (.bipush 12, 0, 0)] ⟨⟨d10_30, trivial⟩, ⟨d10_32, trivial⟩, trivial⟩ (lv' := [(0, aR 0 0), (2, aN i), (3, aN ((p * 12) + i)), (4, aR 19 p), (5, aN w)]) (st' := [aN 12, aN w]) (w' := wd N L1) (P := []) rfl (trivial) (pc' := 34) rfl ?_
        refine Sem.icmpN (tgt := 108) d10_34 (by decide) (show w < 2 ^ 31 by omega) (by decide) (fun b2 => ?_) (fun b2 => ?_)
        · have b2_ : 12 ≤ w := b2
          obtain rfl : w = 12 := by omega
          subst hL
          exact Sem.vret d10_108 rfl (by decide) (by decide) hzW ⟨rfl, rfl⟩
        · have b2_ : ¬ (12 ≤ w) := b2
          have e21 : ∀ q, L1 21 p q = L 21 p q := fun q => by rw [hL]; exact upW_ne (by omega)
          refine Sem.seg [(.iload 5, 0, 0), (.aload_n 0, 0, 0), (.getfield 18, 4, 1), (.getfield 253, 0, 1), (.iload_n 3, 0, 0), (.iaload, 0, 0)] ⟨⟨d10_37, trivial⟩, ⟨d10_39, trivial⟩, ⟨d10_40, gf4_18⟩, ⟨d10_43, gf4_253⟩, ⟨d10_46, trivial⟩, ⟨d10_47, trivial⟩, trivial⟩ (lv' := [(0, aR 0 0), (2, aN i), (3, aN ((p * 12) + i)), (4, aR 19 p), (5, aN w)]) (st' := [aN (N 4 0 ((p * 12) + i)), aN w]) (w' := wd N L1) (P := [vld NN 0 0, vld NN 2 0, vld NN 4 0, (p * 12) + i < 144]) rfl (⟨vN (t := 0) (i := 0) (by decide), vN (t := 2) (i := 0) (by decide), vN (t := 4) (i := 0) (by decide), (show (p * 12) + i < 144 by omega)⟩) (pc' := 48) rfl ?_
          refine Sem.icmpN (tgt := 102) d10_48 (by decide) (show w < 2 ^ 31 by omega) (show N 4 0 ((p * 12) + i) < 2 ^ 31 by omega) (fun b3 => ?_) (fun b3 => ?_)
          · have b3_ : w < N 4 0 ((p * 12) + i) := b3
            have hA : askF N L p i w = 0 := askF_out (by omega)
            refine Sem.seg [(.iinc 5 1, 0, 0)] ⟨⟨d10_102, trivial⟩, trivial⟩ (lv' := [(5, aN (w + 1)), (0, aR 0 0), (2, aN i), (3, aN ((p * 12) + i)), (4, aR 19 p)]) (st' := []) (w' := wd N L1) (P := []) rfl (trivial) (pc' := 105) rfl ?_
            refine Sem.goto (tgt := 30) d10_105 (by decide) ?_
            refine Sem.pick [1, 2, 3, 4, 0] (lv' := [(0, aR 0 0), (2, aN i), (3, aN ((p * 12) + i)), (4, aR 19 p), (5, aN (w + 1))]) rfl ?_
            exact ih _ (by omega) (w + 1) L1 rfl (by omega) (by rw [hL]; exact upW_skip (by simp only [hA]; simp))
          · have b3_ : ¬ (w < N 4 0 ((p * 12) + i)) := b3
            refine Sem.seg [(.iload 5, 0, 0), (.aload_n 0, 0, 0), (.getfield 18, 4, 1), (.getfield 256, 0, 2), (.iload_n 3, 0, 0), (.iaload, 0, 0)] ⟨⟨d10_51, trivial⟩, ⟨d10_53, trivial⟩, ⟨d10_54, gf4_18⟩, ⟨d10_57, gf4_256⟩, ⟨d10_60, trivial⟩, ⟨d10_61, trivial⟩, trivial⟩ (lv' := [(0, aR 0 0), (2, aN i), (3, aN ((p * 12) + i)), (4, aR 19 p), (5, aN w)]) (st' := [aN (N 5 0 ((p * 12) + i)), aN w]) (w' := wd N L1) (P := [vld NN 0 0, vld NN 2 0, vld NN 5 0, (p * 12) + i < 144]) rfl (⟨vN (t := 0) (i := 0) (by decide), vN (t := 2) (i := 0) (by decide), vN (t := 5) (i := 0) (by decide), (show (p * 12) + i < 144 by omega)⟩) (pc' := 62) rfl ?_
            refine Sem.icmpN (tgt := 102) d10_62 (by decide) (show w < 2 ^ 31 by omega) (show N 5 0 ((p * 12) + i) < 2 ^ 31 by omega) (fun b4 => ?_) (fun b4 => ?_)
            · have b4_ : N 5 0 ((p * 12) + i) < w := b4
              have hA : askF N L p i w = 0 := askF_out (by omega)
              refine Sem.seg [(.iinc 5 1, 0, 0)] ⟨⟨d10_102, trivial⟩, trivial⟩ (lv' := [(5, aN (w + 1)), (0, aR 0 0), (2, aN i), (3, aN ((p * 12) + i)), (4, aR 19 p)]) (st' := []) (w' := wd N L1) (P := []) rfl (trivial) (pc' := 105) rfl ?_
              refine Sem.goto (tgt := 30) d10_105 (by decide) ?_
              refine Sem.pick [1, 2, 3, 4, 0] (lv' := [(0, aR 0 0), (2, aN i), (3, aN ((p * 12) + i)), (4, aR 19 p), (5, aN (w + 1))]) rfl ?_
              exact ih _ (by omega) (w + 1) L1 rfl (by omega) (by rw [hL]; exact upW_skip (by simp only [hA]; simp))
            · have b4_ : ¬ (N 5 0 ((p * 12) + i) < w) := b4
              refine Sem.seg [(.aload_n 0, 0, 0), (.getfield 42, 4, 6), (.iload 5, 0, 0), (.dup2, 0, 0), (.laload, 0, 0), (.aload_n 0, 0, 0), (.getfield 11, 4, 0), (.iload_n 2, 0, 0), (.aaload, 0, 0), (.aload 4, 0, 0), (.iload 5, 0, 0)] ⟨⟨d10_65, trivial⟩, ⟨d10_66, gf4_42⟩, ⟨d10_69, trivial⟩, ⟨d10_71, trivial⟩, ⟨d10_72, trivial⟩, ⟨d10_73, trivial⟩, ⟨d10_74, gf4_11⟩, ⟨d10_77, trivial⟩, ⟨d10_78, trivial⟩, ⟨d10_79, trivial⟩, ⟨d10_81, trivial⟩, trivial⟩ (lv' := [(0, aR 0 0), (2, aN i), (3, aN ((p * 12) + i)), (4, aR 19 p), (5, aN w)]) (st' := [aN w, aR 19 p, aR 19 i, aL (L1 17 0 w), aN w, aR 17 0]) (w' := wd N L1) (P := [vld NN 0 0, vld NN 17 0, w < 12, vld NN 0 0, vld NN 1 0, i < 12]) rfl (⟨vN (t := 0) (i := 0) (by decide), vN (t := 17) (i := 0) (by decide), (show w < 12 by omega), vN (t := 0) (i := 0) (by decide), vN (t := 1) (i := 0) (by decide), (show i < 12 by omega)⟩) (pc' := 83) rfl ?_
              refine Sem.cVp1 (t := 19) (i := p) (as := [aN w]) (rst := [aR 19 i, aL (L1 17 0 w), aN w, aR 17 0]) (c' := 0) (s' := 0) d10_83 mk12 rfl co12 lk4_180 im12 se12 rfl (vN (t := 19) (i := p) (show p < 12 by omega)) (show 2 ≤ mL 12 by decide) rfl (show 5 ≤ 8 by decide) (by decide) (by decide) rfl rfl (by decide) (by decide) (m12 N L1 p w hp (by omega) hl) ?_
              refine Sem.seg [(.aload_n 0, 0, 0), (.getfield 18, 4, 1), (.getfield 250, 0, 0), (.iload_n 3, 0, 0), (.iaload, 0, 0), (.i2l, 0, 0), (.lmul, 0, 0)] ⟨⟨d10_86, trivial⟩, ⟨d10_87, gf4_18⟩, ⟨d10_90, gf4_250⟩, ⟨d10_93, trivial⟩, ⟨d10_94, trivial⟩, ⟨d10_95, trivial⟩, ⟨d10_96, trivial⟩, trivial⟩ (lv' := [(0, aR 0 0), (2, aN i), (3, aN ((p * 12) + i)), (4, aR 19 p), (5, aN w)]) (st' := [aL ((if w + N 19 p 2 < 12 then L1 21 p (w + N 19 p 2) else 0) * ((nI (N 3 0 ((p * 12) + i))).toInt64)), aR 19 i, aL (L1 17 0 w), aN w, aR 17 0]) (w' := wd N L1) (P := [vld NN 0 0, vld NN 2 0, vld NN 3 0, (p * 12) + i < 144]) rfl (⟨vN (t := 0) (i := 0) (by decide), vN (t := 2) (i := 0) (by decide), vN (t := 3) (i := 0) (by decide), (show (p * 12) + i < 144 by omega)⟩) (pc' := 97) rfl ?_
              refine Sem.cVp1 (t := 19) (i := i) (as := [aL ((if w + N 19 p 2 < 12 then L1 21 p (w + N 19 p 2) else 0) * ((nI (N 3 0 ((p * 12) + i))).toInt64))]) (rst := [aL (L1 17 0 w), aN w, aR 17 0]) (c' := 0) (s' := 0) d10_97 mk13 rfl co13 lk4_259 im13 se13 rfl (vN (t := 19) (i := i) (show i < 12 by omega)) (show 3 ≤ mL 13 by decide) rfl (show 4 ≤ 8 by decide) (by decide) (by decide) rfl rfl (by decide) (by decide) (m13 N L1 i ((if w + N 19 p 2 < 12 then L1 21 p (w + N 19 p 2) else 0) * ((nI (N 3 0 ((p * 12) + i))).toInt64)) hi) ?_
              refine Sem.seg [(.ladd, 0, 0), (.lastore, 0, 0)] ⟨⟨d10_100, trivial⟩, ⟨d10_101, trivial⟩, trivial⟩ (lv' := [(0, aR 0 0), (2, aN i), (3, aN ((p * 12) + i)), (4, aR 19 p), (5, aN w)]) (st' := []) (w' := wd N (upL L1 17 0 w ((L1 17 0 w) + (scr ((if w + N 19 p 2 < 12 then L1 21 p (w + N 19 p 2) else 0) * ((nI (N 3 0 ((p * 12) + i))).toInt64)) (N 19 i 4))))) (P := [vld NN 17 0, w < 12]) rfl (⟨vN (t := 17) (i := 0) (by decide), (show w < 12 by omega)⟩) (pc' := 102) rfl ?_
              have hA : scr ((if w + N 19 p 2 < 12 then L1 21 p (w + N 19 p 2) else 0) * (nI (N 3 0 ((p * 12) + i))).toInt64) (N 19 i 4) = askF N L p i w := by
                rw [askF_in h0 (by omega), e21]
              refine Sem.seg [(.iinc 5 1, 0, 0)] ⟨⟨d10_102, trivial⟩, trivial⟩ (lv' := [(5, aN (w + 1)), (0, aR 0 0), (2, aN i), (3, aN ((p * 12) + i)), (4, aR 19 p)]) (st' := []) (w' := wd N (upL L1 17 0 w ((L1 17 0 w) + (scr ((if w + N 19 p 2 < 12 then L1 21 p (w + N 19 p 2) else 0) * ((nI (N 3 0 ((p * 12) + i))).toInt64)) (N 19 i 4))))) (P := []) rfl (trivial) (pc' := 105) rfl ?_
              refine Sem.goto (tgt := 30) d10_105 (by decide) ?_
              refine Sem.pick [1, 2, 3, 4, 0] (lv' := [(0, aR 0 0), (2, aN i), (3, aN ((p * 12) + i)), (4, aR 19 p), (5, aN (w + 1))]) rfl ?_
              exact ih _ (by omega) (w + 1) (upL L1 17 0 w ((L1 17 0 w) + (scr ((if w + N 19 p 2 < 12 then L1 21 p (w + N 19 p 2) else 0) * ((nI (N 3 0 ((p * 12) + i))).toInt64)) (N 19 i 4)))) rfl (by omega) (by rw [hA, hL]; exact upW_s (by rw [upW_ne (by omega)]))
    refine Sem.pick [3, 5, 2, 1, 0] (lv' := [(0, aR 0 0), (2, aN i), (3, aN ((p * 12) + i)), (4, aR 19 p), (5, aN 0)]) rfl ?_
    exact lp _ 0 L rfl (by omega) (upW_0.symm)
  · have b1_ : ¬ (¬ N 3 0 ((p * 12) + i) = 0) := b1
    have hz : (fun w => L 17 0 w + askF N L p i w) = fun w => L 17 0 w := by
      funext w
      rw [askF_no (by omega)]
      simp
    rw [hz, upW_id]
    exact Sem.vret d10_18 rfl (by decide) (by decide) hzW ⟨rfl, rfl⟩

theorem m7 {sc : XT} (N : TN) (L : TL) (i : Nat) (hi : i < 12) (hc : CD N) : Sem sc 7 0 [(0, aR 0 0), (1, aN i)] [] (wd N L) 0 0 (QP none N (upW L 17 0 12 (grF N L i))) := by
  refine Sem.seg [(.aload_n 0, 0, 0), (.getfield 42, 4, 6), (.lconst 0, 0, 0)] ⟨⟨d7_0, trivial⟩, ⟨d7_1, gf4_42⟩, ⟨d7_4, trivial⟩, trivial⟩ (lv' := [(0, aR 0 0), (1, aN i)]) (st' := [aL (Int64.ofNat 0), aR 17 0]) (w' := wd N L) (P := [vld NN 0 0]) rfl (vN (t := 0) (i := 0) (by decide)) (pc' := 5) rfl ?_
  refine Sem.cSp0 (as := [aR 17 0, aL (Int64.ofNat 0)]) (rst := []) (c' := 0) (s' := 0) d7_5 mk8 rfl co8 lk4_232 ss8 (show 3 ≤ mL 8 by decide) rfl (show 0 ≤ 8 by decide) (by decide) (by decide) rfl rfl (by decide) (by decide) (m8_17 N L) ?_
  refine Sem.seg [(.aload_n 0, 0, 0), (.getfield 25, 4, 2), (.aload_n 0, 0, 0), (.getfield 42, 4, 6), (.iload_n 1, 0, 0)] ⟨⟨d7_8, trivial⟩, ⟨d7_9, gf4_25⟩, ⟨d7_12, trivial⟩, ⟨d7_13, gf4_42⟩, ⟨d7_16, trivial⟩, trivial⟩ (lv' := [(0, aR 0 0), (1, aN i)]) (st' := [aN i, aR 17 0, aR 8 0]) (w' := wd N (upW L 17 0 12 (fun _ => 0))) (P := [vld NN 0 0, vld NN 0 0]) rfl (⟨vN (t := 0) (i := 0) (by decide), vN (t := 0) (i := 0) (by decide)⟩) (pc' := 17) rfl ?_
  refine Sem.cVp0 (t := 8) (i := 0) (as := [aR 17 0, aN i]) (rst := []) (c' := 0) (s' := 0) d7_17 mk9 rfl co9 lk4_238 im9 se9 rfl (vN (t := 8) (i := 0) (by decide)) (show 3 ≤ mL 9 by decide) rfl (show 0 ≤ 8 by decide) (by decide) (by decide) rfl rfl (by decide) (by decide) (m9_17 N (upW L 17 0 12 (fun _ => 0)) i hi (hc.2.1 0 (by decide)).1 (hc.2.1 0 (by decide)).2.1 (hc.2.1 0 (by decide)).2.2.1) ?_
  refine Sem.seg [(.iconst 0, 0, 0), (.istore_n 2, 0, 0)] ⟨⟨d7_20, trivial⟩, ⟨d7_21, trivial⟩, trivial⟩ (lv' := [(2, aN 0), (0, aR 0 0), (1, aN i)]) (st' := []) (w' := wd N (upW (upW L 17 0 12 (fun _ => 0)) 17 0 12 (fun w => (upW L 17 0 12 (fun _ => 0)) 17 0 w + bat (N 9 0) (N 10 0) (N 11 0) i w (N 8 0 3)))) (P := []) rfl (trivial) (pc' := 22) rfl ?_
  have lp : ∀ (d : Nat) (p : Nat), 12 - p = d → (p ≤ 12) → Sem sc 7 22 [(0, aR 0 0), (1, aN i), (2, aN p)] [] (wd N (upW L 17 0 12 (fun w => dmF N i w + sm (fun z => askF N L z i w) p))) 0 0 (QP none N (upW L 17 0 12 (grF N L i))) := by
    intro d
    induction d using Nat.strongRecOn with
    | ind d ih =>
      intro p hd hp
      refine Sem.seg [(.iload_n 2, 0, 0), (.bipush 12, 0, 0)] ⟨⟨d7_22, trivial⟩, ⟨d7_23, trivial⟩, trivial⟩ (lv' := [(0, aR 0 0), (1, aN i), (2, aN p)]) (st' := [aN 12, aN p]) (w' := wd N (upW L 17 0 12 (fun w => dmF N i w + sm (fun z => askF N L z i w) p))) (P := []) rfl (trivial) (pc' := 25) rfl ?_
      refine Sem.icmpN (tgt := 40) d7_25 (by decide) (show p < 2 ^ 31 by omega) (by decide) (fun b1 => ?_) (fun b1 => ?_)
      · have b1_ : 12 ≤ p := b1
        obtain rfl : p = 12 := by omega
        exact Sem.vret d7_40 rfl (by decide) (by decide) hzW ⟨rfl, rfl⟩
      · have b1_ : ¬ (12 ≤ p) := b1
        refine Sem.seg [(.aload_n 0, 0, 0), (.iload_n 2, 0, 0), (.iload_n 1, 0, 0)] ⟨⟨d7_28, trivial⟩, ⟨d7_29, trivial⟩, ⟨d7_30, trivial⟩, trivial⟩ (lv' := [(0, aR 0 0), (1, aN i), (2, aN p)]) (st' := [aN i, aN p, aR 0 0]) (w' := wd N (upW L 17 0 12 (fun w => dmF N i w + sm (fun z => askF N L z i w) p))) (P := []) rfl (trivial) (pc' := 31) rfl ?_
        refine Sem.cVp0 (t := 0) (i := 0) (as := [aN p, aN i]) (rst := []) (c' := 0) (s' := 0) d7_31 mk10 rfl co10 lk4_246 im10 se10 rfl (vN (t := 0) (i := 0) (by decide)) (show 3 ≤ mL 10 by decide) rfl (show 0 ≤ 8 by decide) (by decide) (by decide) rfl rfl (by decide) (by decide) (m10 N (upW L 17 0 12 (fun w => dmF N i w + sm (fun z => askF N L z i w) p)) p i (by omega) hi hc) ?_
        refine Sem.seg [(.iinc 2 1, 0, 0)] ⟨⟨d7_34, trivial⟩, trivial⟩ (lv' := [(2, aN (p + 1)), (0, aR 0 0), (1, aN i)]) (st' := []) (w' := wd N (upW (upW L 17 0 12 (fun w => dmF N i w + sm (fun z => askF N L z i w) p)) 17 0 12 (fun w => (upW L 17 0 12 (fun w => dmF N i w + sm (fun z => askF N L z i w) p)) 17 0 w + askF N (upW L 17 0 12 (fun w => dmF N i w + sm (fun z => askF N L z i w) p)) p i w))) (P := []) rfl (trivial) (pc' := 37) rfl ?_
        refine Sem.goto (tgt := 22) d7_37 (by decide) ?_
        refine Sem.pick [1, 2, 0] (lv' := [(0, aR 0 0), (1, aN i), (2, aN (p + 1))]) rfl ?_
        refine Sem.weq (congrArg (fun z => wd N z) (show upW (upW L 17 0 12 (fun w => dmF N i w + sm (fun z => askF N L z i w) p)) 17 0 12 (fun w => (upW L 17 0 12 (fun w => dmF N i w + sm (fun z => askF N L z i w) p)) 17 0 w + askF N (upW L 17 0 12 (fun w => dmF N i w + sm (fun z => askF N L z i w) p)) p i w) = upW L 17 0 12 (fun w => dmF N i w + sm (fun z => askF N L z i w) (p + 1)) from by rw [upW_2]; refine upW_cg (fun j hj => ?_); rw [upW_at hj]; simp only [sm]; rw [Int64.add_assoc]; rfl)) ?_
        exact ih _ (by omega) (p + 1) rfl (by omega)
  refine Sem.pick [1, 2, 0] (lv' := [(0, aR 0 0), (1, aN i), (2, aN 0)]) rfl ?_
  refine Sem.weq (congrArg (fun z => wd N z) (show upW (upW L 17 0 12 (fun _ => 0)) 17 0 12 (fun w => (upW L 17 0 12 (fun _ => 0)) 17 0 w + bat (N 9 0) (N 10 0) (N 11 0) i w (N 8 0 3)) = upW L 17 0 12 (fun w => dmF N i w + sm (fun z => askF N L z i w) 0) from by rw [upW_2]; refine upW_cg (fun j hj => ?_); rw [upW_at hj]; simp [sm, dmF])) ?_
  exact lp _ 0 rfl (by omega)

