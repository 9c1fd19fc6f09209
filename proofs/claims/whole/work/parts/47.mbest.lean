-- ===== the model: needs and lots =====
theorem m111 {sc : XT} (N : TN) (L : TL) (i : Nat) (hi : i < 12) (hc : CD (mN N)) : Sem sc 111 0 [(0, aR 23 0), (1, aN i)] [] (wd N L) 0 0 (QP none N (upW L 45 0 12 (needF (mN N 19 i) (brF (mN N) i) (mW L 20 i)))) := by
  have h26 : N 26 0 i ≤ 4 := (hc.1 i hi).2.2.2.1
  refine Sem.seg [(.iconst 0, 0, 0), (.istore_n 2, 0, 0)] ⟨⟨d111_0, trivial⟩, ⟨d111_1, trivial⟩, trivial⟩ (lv' := [(2, aN 0), (0, aR 23 0), (1, aN i)]) (st' := []) (w' := wd N L) (P := []) rfl (trivial) (pc' := 2) rfl ?_
  have lpa : ∀ (d : Nat) (w : Nat), 12 - w = d → (w ≤ 12) → Sem sc 111 2 [(0, aR 23 0), (1, aN i), (2, aN w)] [] (wd N (upW L 45 0 w (needF (mN N 19 i) (brF (mN N) i) (mW L 20 i)))) 0 0 (QP none N (upW L 45 0 12 (needF (mN N 19 i) (brF (mN N) i) (mW L 20 i)))) := by
    intro da
    induction da using Nat.strongRecOn with
    | ind da iha =>
      intro w hda hw
      refine Sem.seg [(.iload_n 2, 0, 0), (.bipush 12, 0, 0)] ⟨⟨d111_2, trivial⟩, ⟨d111_3, trivial⟩, trivial⟩ (lv' := [(0, aR 23 0), (1, aN i), (2, aN w)]) (st' := [aN 12, aN w]) (w' := wd N (upW L 45 0 w (needF (mN N 19 i) (brF (mN N) i) (mW L 20 i)))) (P := []) rfl (trivial) (pc' := 5) rfl ?_
      refine Sem.icmpN (tgt := 83) d111_5 (by decide) (show w < 2 ^ 31 by omega) (by decide) (fun b1 => ?_) (fun b1 => ?_)
      · have b1_ : 12 ≤ w := b1
        obtain rfl : w = 12 := by omega
        exact Sem.vret d111_83 rfl (by decide) (by decide) hzW ⟨rfl, rfl⟩
      · have b1_ : ¬ (12 ≤ w) := b1
        refine Sem.seg [(.lconst 0, 0, 0), (.lstore_n 3, 0, 0), (.iconst 0, 0, 0), (.istore 5, 0, 0)] ⟨⟨d111_8, trivial⟩, ⟨d111_9, trivial⟩, ⟨d111_10, trivial⟩, ⟨d111_11, trivial⟩, trivial⟩ (lv' := [(5, aN 0), (3, aL (Int64.ofNat 0)), (0, aR 23 0), (1, aN i), (2, aN w)]) (st' := []) (w' := wd N (upW L 45 0 w (needF (mN N 19 i) (brF (mN N) i) (mW L 20 i)))) (P := []) rfl (trivial) (pc' := 13) rfl ?_
        have lpb : ∀ (d : Nat) (v : Nat) (m : Int64), 12 - v = d → (v ≤ w + 1) → (m = mosA (mN N 19 i) (brF (mN N) i) (mW L 20 i) v) → Sem sc 111 13 [(0, aR 23 0), (1, aN i), (2, aN w), (3, aL m), (5, aN v)] [] (wd N (upW L 45 0 w (needF (mN N 19 i) (brF (mN N) i) (mW L 20 i)))) 0 0 (QP none N (upW L 45 0 12 (needF (mN N 19 i) (brF (mN N) i) (mW L 20 i)))) := by
          intro db
          induction db using Nat.strongRecOn with
          | ind db ihb =>
            intro v m hdb hv hm
            refine Sem.seg [(.iload 5, 0, 0), (.iload_n 2, 0, 0)] ⟨⟨d111_13, trivial⟩, ⟨d111_15, trivial⟩, trivial⟩ (lv' := [(0, aR 23 0), (1, aN i), (2, aN w), (3, aL m), (5, aN v)]) (st' := [aN w, aN v]) (w' := wd N (upW L 45 0 w (needF (mN N 19 i) (brF (mN N) i) (mW L 20 i)))) (P := []) rfl (trivial) (pc' := 16) rfl ?_
            refine Sem.icmpN (tgt := 56) d111_16 (by decide) (show v < 2 ^ 31 by omega) (show w < 2 ^ 31 by omega) (fun b2 => ?_) (fun b2 => ?_)
            · have b2_ : w < v := b2
              refine Sem.seg [(.aload_n 0, 0, 0), (.getfield 79, 5, 25), (.iload_n 2, 0, 0), (.iload_n 2, 0, 0), (.aload_n 0, 0, 0), (.getfield 16, 5, 3), (.iload_n 1, 0, 0), (.iaload, 0, 0)] ⟨⟨d111_56, trivial⟩, ⟨d111_57, gf5_79⟩, ⟨d111_60, trivial⟩, ⟨d111_61, trivial⟩, ⟨d111_62, trivial⟩, ⟨d111_63, gf5_16⟩, ⟨d111_66, trivial⟩, ⟨d111_67, trivial⟩, trivial⟩ (lv' := [(0, aR 23 0), (1, aN i), (2, aN w), (3, aL m), (5, aN v)]) (st' := [aN (N 26 0 i), aN w, aN w, aR 45 0]) (w' := wd N (upW L 45 0 w (needF (mN N 19 i) (brF (mN N) i) (mW L 20 i)))) (P := [vld NN 23 0, vld NN 23 0, vld NN 26 0, i < 12]) rfl (⟨vN (t := 23) (i := 0) (by decide), vN (t := 23) (i := 0) (by decide), vN (t := 26) (i := 0) (by decide), (show i < 12 by omega)⟩) (pc' := 68) rfl ?_
              refine Sem.icmpN (tgt := 75) d111_68 (by decide) (show w < 2 ^ 31 by omega) (show N 26 0 i < 2 ^ 31 by omega) (fun b3 => ?_) (fun b3 => ?_)
              · have b3_ : N 26 0 i ≤ w := b3
                refine Sem.seg [(.lload_n 3, 0, 0), (.lastore, 0, 0), (.iinc 2 1, 0, 0)] ⟨⟨d111_75, trivial⟩, ⟨d111_76, trivial⟩, ⟨d111_77, trivial⟩, trivial⟩ (lv' := [(2, aN (w + 1)), (0, aR 23 0), (1, aN i), (3, aL m), (5, aN v)]) (st' := []) (w' := wd N (upL (upW L 45 0 w (needF (mN N 19 i) (brF (mN N) i) (mW L 20 i))) 45 0 w m)) (P := [vld NN 45 0, w < 13]) rfl (⟨vN (t := 45) (i := 0) (by decide), (show w < 13 by omega)⟩) (pc' := 80) rfl ?_
                refine Sem.goto (tgt := 2) d111_80 (by decide) ?_
                refine Sem.pick [1, 2, 0] (lv' := [(0, aR 23 0), (1, aN i), (2, aN (w + 1))]) rfl ?_
                refine Sem.weq (congrArg (fun z => wd N z) (show upL (upW L 45 0 w (needF (mN N 19 i) (brF (mN N) i) (mW L 20 i))) 45 0 w m = upW L 45 0 (w + 1) (needF (mN N 19 i) (brF (mN N) i) (mW L 20 i)) from upW_s (by rw [needF_ge (D := mN N 19 i) (show ¬ w < N 26 0 i by omega), hm, show v = w + 1 by omega]))) ?_
                exact iha _ (by omega) (w + 1) rfl (by omega)
              · have b3_ : ¬ (N 26 0 i ≤ w) := b3
                refine Sem.seg [(.lconst 0, 0, 0)] ⟨⟨d111_71, trivial⟩, trivial⟩ (lv' := [(0, aR 23 0), (1, aN i), (2, aN w), (3, aL m), (5, aN v)]) (st' := [aL (Int64.ofNat 0), aN w, aR 45 0]) (w' := wd N (upW L 45 0 w (needF (mN N 19 i) (brF (mN N) i) (mW L 20 i)))) (P := []) rfl (trivial) (pc' := 72) rfl ?_
                refine Sem.goto (tgt := 76) d111_72 (by decide) ?_
                refine Sem.seg [(.lastore, 0, 0), (.iinc 2 1, 0, 0)] ⟨⟨d111_76, trivial⟩, ⟨d111_77, trivial⟩, trivial⟩ (lv' := [(2, aN (w + 1)), (0, aR 23 0), (1, aN i), (3, aL m), (5, aN v)]) (st' := []) (w' := wd N (upL (upW L 45 0 w (needF (mN N 19 i) (brF (mN N) i) (mW L 20 i))) 45 0 w (Int64.ofNat 0))) (P := [vld NN 45 0, w < 13]) rfl (⟨vN (t := 45) (i := 0) (by decide), (show w < 13 by omega)⟩) (pc' := 80) rfl ?_
                refine Sem.goto (tgt := 2) d111_80 (by decide) ?_
                refine Sem.pick [1, 2, 0] (lv' := [(0, aR 23 0), (1, aN i), (2, aN (w + 1))]) rfl ?_
                refine Sem.weq (congrArg (fun z => wd N z) (show upL (upW L 45 0 w (needF (mN N 19 i) (brF (mN N) i) (mW L 20 i))) 45 0 w (Int64.ofNat 0) = upW L 45 0 (w + 1) (needF (mN N 19 i) (brF (mN N) i) (mW L 20 i)) from upW_s (needF_lt (D := mN N 19 i) (show w < N 26 0 i by omega)).symm)) ?_
                exact iha _ (by omega) (w + 1) rfl (by omega)
            · have b2_ : ¬ (w < v) := b2
              refine Sem.seg [(.aload_n 0, 0, 0), (.getfield 19, 5, 4), (.iload_n 1, 0, 0), (.iaload, 0, 0), (.i2l, 0, 0), (.aload_n 0, 0, 0), (.iload_n 1, 0, 0), (.iload 5, 0, 0)] ⟨⟨d111_19, trivial⟩, ⟨d111_20, gf5_19⟩, ⟨d111_23, trivial⟩, ⟨d111_24, trivial⟩, ⟨d111_25, trivial⟩, ⟨d111_26, trivial⟩, ⟨d111_27, trivial⟩, ⟨d111_28, trivial⟩, trivial⟩ (lv' := [(0, aR 23 0), (1, aN i), (2, aN w), (3, aL m), (5, aN v)]) (st' := [aN v, aN i, aR 23 0, aL ((nI (N 27 0 i)).toInt64)]) (w' := wd N (upW L 45 0 w (needF (mN N 19 i) (brF (mN N) i) (mW L 20 i)))) (P := [vld NN 23 0, vld NN 27 0, i < 12]) rfl (⟨vN (t := 23) (i := 0) (by decide), vN (t := 27) (i := 0) (by decide), (show i < 12 by omega)⟩) (pc' := 30) rfl ?_
              refine Sem.cVp1 (t := 23) (i := 0) (as := [aN i, aN v]) (rst := [aL ((nI (N 27 0 i)).toInt64)]) (c' := 0) (s' := 0) d111_30 mk112 rfl co112 lk5_143 im112 se112 rfl (vN (t := 23) (i := 0) (by decide)) (show 3 ≤ mL 112 by decide) rfl (show 2 ≤ 8 by decide) (by decide) (by decide) rfl rfl (by decide) (by decide) (m112 N (upW L 45 0 w (needF (mN N 19 i) (brF (mN N) i) (mW L 20 i))) i v hi (by omega) hc) ?_
              refine Sem.seg [(.lsub, 0, 0), (.lstore 6, 0, 0), (.lload 6, 0, 0), (.lload_n 3, 0, 0)] ⟨⟨d111_33, trivial⟩, ⟨d111_34, trivial⟩, ⟨d111_36, trivial⟩, ⟨d111_38, trivial⟩, trivial⟩ (lv' := [(6, aL (((nI (N 27 0 i)).toInt64) - (bareF (mN N 19 i) (brF (mN N) i) (mW L 20 i) v))), (0, aR 23 0), (1, aN i), (2, aN w), (3, aL m), (5, aN v)]) (st' := [aL m, aL (((nI (N 27 0 i)).toInt64) - (bareF (mN N 19 i) (brF (mN N) i) (mW L 20 i) v))]) (w' := wd N (upW L 45 0 w (needF (mN N 19 i) (brF (mN N) i) (mW L 20 i)))) (P := []) rfl (trivial) (pc' := 39) rfl ?_
              refine Sem.lcmp (tgt := 48) d111_39 d111_40 (by decide) (fun b4 => ?_) (fun b4 => ?_)
              · have b4_ : ((nI (N 27 0 i)).toInt64) - (bareF (mN N 19 i) (brF (mN N) i) (mW L 20 i) v) ≤ m := b4
                refine Sem.seg [(.lload_n 3, 0, 0), (.lstore_n 3, 0, 0), (.iinc 5 1, 0, 0)] ⟨⟨d111_48, trivial⟩, ⟨d111_49, trivial⟩, ⟨d111_50, trivial⟩, trivial⟩ (lv' := [(5, aN (v + 1)), (3, aL m), (6, aL (((nI (N 27 0 i)).toInt64) - (bareF (mN N 19 i) (brF (mN N) i) (mW L 20 i) v))), (0, aR 23 0), (1, aN i), (2, aN w)]) (st' := []) (w' := wd N (upW L 45 0 w (needF (mN N 19 i) (brF (mN N) i) (mW L 20 i)))) (P := []) rfl (trivial) (pc' := 53) rfl ?_
                refine Sem.goto (tgt := 13) d111_53 (by decide) ?_
                refine Sem.pick [3, 4, 5, 1, 0] (lv' := [(0, aR 23 0), (1, aN i), (2, aN w), (3, aL m), (5, aN (v + 1))]) rfl ?_
                exact ihb _ (by omega) (v + 1) m rfl (by omega) (by simp only [mosA]; rw [← hm]; first | exact (mx_le (by assumption)).symm | exact (mx_gt (by assumption)).symm)
              · have b4_ : ¬ (((nI (N 27 0 i)).toInt64) - (bareF (mN N 19 i) (brF (mN N) i) (mW L 20 i) v) ≤ m) := b4
                refine Sem.seg [(.lload 6, 0, 0)] ⟨⟨d111_43, trivial⟩, trivial⟩ (lv' := [(6, aL (((nI (N 27 0 i)).toInt64) - (bareF (mN N 19 i) (brF (mN N) i) (mW L 20 i) v))), (0, aR 23 0), (1, aN i), (2, aN w), (3, aL m), (5, aN v)]) (st' := [aL (((nI (N 27 0 i)).toInt64) - (bareF (mN N 19 i) (brF (mN N) i) (mW L 20 i) v))]) (w' := wd N (upW L 45 0 w (needF (mN N 19 i) (brF (mN N) i) (mW L 20 i)))) (P := []) rfl (trivial) (pc' := 45) rfl ?_
                refine Sem.goto (tgt := 49) d111_45 (by decide) ?_
                refine Sem.seg [(.lstore_n 3, 0, 0), (.iinc 5 1, 0, 0)] ⟨⟨d111_49, trivial⟩, ⟨d111_50, trivial⟩, trivial⟩ (lv' := [(5, aN (v + 1)), (3, aL (((nI (N 27 0 i)).toInt64) - (bareF (mN N 19 i) (brF (mN N) i) (mW L 20 i) v))), (6, aL (((nI (N 27 0 i)).toInt64) - (bareF (mN N 19 i) (brF (mN N) i) (mW L 20 i) v))), (0, aR 23 0), (1, aN i), (2, aN w)]) (st' := []) (w' := wd N (upW L 45 0 w (needF (mN N 19 i) (brF (mN N) i) (mW L 20 i)))) (P := []) rfl (trivial) (pc' := 53) rfl ?_
                refine Sem.goto (tgt := 13) d111_53 (by decide) ?_
                refine Sem.pick [3, 4, 5, 1, 0] (lv' := [(0, aR 23 0), (1, aN i), (2, aN w), (3, aL (((nI (N 27 0 i)).toInt64) - (bareF (mN N 19 i) (brF (mN N) i) (mW L 20 i) v))), (5, aN (v + 1))]) rfl ?_
                exact ihb _ (by omega) (v + 1) (((nI (N 27 0 i)).toInt64) - (bareF (mN N 19 i) (brF (mN N) i) (mW L 20 i) v)) rfl (by omega) (by simp only [mosA]; rw [← hm]; first | exact (mx_le (by assumption)).symm | exact (mx_gt (by assumption)).symm)
        refine Sem.pick [2, 3, 4, 1, 0] (lv' := [(0, aR 23 0), (1, aN i), (2, aN w), (3, aL (Int64.ofNat 0)), (5, aN 0)]) rfl ?_
        exact lpb _ 0 (Int64.ofNat 0) rfl (by omega) (rfl)
  refine Sem.pick [1, 2, 0] (lv' := [(0, aR 23 0), (1, aN i), (2, aN 0)]) rfl ?_
  refine Sem.weq (congrArg (fun z => wd N z) (show L = upW L 45 0 0 (needF (mN N 19 i) (brF (mN N) i) (mW L 20 i)) from upW_0.symm)) ?_
  exact lpa _ 0 rfl (by omega)

theorem m117n {sc : XT} (N : TN) (L : TL) (w : Nat) (hw : w < 13) : Sem sc 117 0 [(0, aR 23 0), (1, aN w)] [] (wd N L) 0 0 (QP (some (aL (L 45 0 w))) N L) := by
  refine Sem.seg [(.iload_n 1, 0, 0)] ⟨⟨d117_0, trivial⟩, trivial⟩ (lv' := [(0, aR 23 0), (1, aN w)]) (st' := [aN w]) (w' := wd N L) (P := []) rfl (trivial) (pc' := 1) rfl ?_
  refine Sem.ifN (tgt := 8) d117_1 (by decide) (show w < 2 ^ 31 by omega) (fun b1 => ?_) (fun b1 => ?_)
  · have b1_ : 0 ≤ w := b1
    refine Sem.seg [(.aload_n 0, 0, 0), (.getfield 79, 5, 25), (.iload_n 1, 0, 0), (.laload, 0, 0)] ⟨⟨d117_8, trivial⟩, ⟨d117_9, gf5_79⟩, ⟨d117_12, trivial⟩, ⟨d117_13, trivial⟩, trivial⟩ (lv' := [(0, aR 23 0), (1, aN w)]) (st' := [aL (L 45 0 w)]) (w' := wd N L) (P := [vld NN 23 0, vld NN 45 0, w < 13]) rfl (⟨vN (t := 23) (i := 0) (by decide), vN (t := 45) (i := 0) (by decide), (show w < 13 by omega)⟩) (pc' := 14) rfl ?_
    exact Sem.lret d117_14 rfl (by decide) (by decide) hzW ⟨rfl, rfl⟩
  · exfalso; have b1_ : ¬ (0 ≤ w) := b1; omega

theorem m117p {sc : XT} (N : TN) (L : TL) (k : Nat) (x : Int32) (hx : x.toInt = (k : Int) - 1) (hk : k < 13) : Sem sc 117 0 [(0, aR 23 0), (1, aI x)] [] (wd N L) 0 0 (QP (some (aL (prv (L 45 0) k))) N L) := by
  refine Sem.seg [(.iload_n 1, 0, 0)] ⟨⟨d117_0, trivial⟩, trivial⟩ (lv' := [(0, aR 23 0), (1, aI x)]) (st' := [aI x]) (w' := wd N L) (P := []) rfl (trivial) (pc' := 1) rfl ?_
  refine Sem.ifc (tgt := 8) d117_1 (by decide) rfl (fun b1 => ?_) (fun b1 => ?_)
  · have b1_ : 0 ≤ x.toInt := bT rfl rfl b1
    refine Sem.pick [1, 0] (lv' := [(1, aI x), (0, aR 23 0)]) rfl ?_
    refine Sem.loc0 (show x = nI (k - 1) from i_nI (by omega)) ?_
    refine Sem.seg [(.aload_n 0, 0, 0), (.getfield 79, 5, 25), (.iload_n 1, 0, 0), (.laload, 0, 0)] ⟨⟨d117_8, trivial⟩, ⟨d117_9, gf5_79⟩, ⟨d117_12, trivial⟩, ⟨d117_13, trivial⟩, trivial⟩ (lv' := [(1, aN (k - 1)), (0, aR 23 0)]) (st' := [aL (L 45 0 (k - 1))]) (w' := wd N L) (P := [vld NN 23 0, vld NN 45 0, k - 1 < 13]) rfl (⟨vN (t := 23) (i := 0) (by decide), vN (t := 45) (i := 0) (by decide), (show k - 1 < 13 by omega)⟩) (pc' := 14) rfl ?_
    exact Sem.lret d117_14 rfl (by decide) (by decide) hzW ⟨congrArg (fun z => Sum.inl (some (aL z))) (show L 45 0 (k - 1) = prv (L 45 0) k by unfold prv; first | (rw [if_pos (by omega)]; rfl) | rw [if_neg (by omega)]), rfl⟩
  · have b1_ : ¬ (0 ≤ x.toInt) := bF rfl rfl b1
    refine Sem.seg [(.lconst 0, 0, 0)] ⟨⟨d117_4, trivial⟩, trivial⟩ (lv' := [(0, aR 23 0), (1, aI x)]) (st' := [aL (Int64.ofNat 0)]) (w' := wd N L) (P := []) rfl (trivial) (pc' := 5) rfl ?_
    refine Sem.goto (tgt := 14) d117_5 (by decide) ?_
    exact Sem.lret d117_14 rfl (by decide) (by decide) hzW ⟨congrArg (fun z => Sum.inl (some (aL z))) (show Int64.ofNat 0 = prv (L 45 0) k by unfold prv; first | (rw [if_pos (by omega)]; rfl) | rw [if_neg (by omega)]), rfl⟩

theorem m116 {sc : XT} (N : TN) (L : TL) (i w j : Nat) (hi : i < 12) (hw : w ≤ j) (hj : j < 12) : Sem sc 116 0 [(0, aR 23 0), (1, aN i), (2, aN w), (3, aN j)] [] (wd N L) 0 0 (QP (some (aL (cs (mN N 19 i) (L 45 0) w (j - w)))) N L) := by
  refine Sem.seg [(.lconst 0, 0, 0), (.lstore 4, 0, 0), (.iload_n 2, 0, 0), (.iconst 1, 0, 0), (.iadd, 0, 0), (.istore 6, 0, 0)] ⟨⟨d116_0, trivial⟩, ⟨d116_1, trivial⟩, ⟨d116_3, trivial⟩, ⟨d116_4, trivial⟩, ⟨d116_5, trivial⟩, ⟨d116_6, trivial⟩, trivial⟩ (lv' := [(6, aN (w + 1)), (4, aL (Int64.ofNat 0)), (0, aR 23 0), (1, aN i), (2, aN w), (3, aN j)]) (st' := []) (w' := wd N L) (P := []) rfl (trivial) (pc' := 8) rfl ?_
  have lp : ∀ (d : Nat) (k : Nat) (s : Int64), 13 - k = d → (w + 1 ≤ k) → (k ≤ j + 1) → (s = wai (L 45 0) w (k - w)) → Sem sc 116 8 [(0, aR 23 0), (1, aN i), (2, aN w), (3, aN j), (4, aL s), (6, aN k)] [] (wd N L) 0 0 (QP (some (aL (cs (mN N 19 i) (L 45 0) w (j - w)))) N L) := by
    intro d
    induction d using Nat.strongRecOn with
    | ind d ih =>
      intro k s hd hk hk2 hs
      refine Sem.seg [(.iload 6, 0, 0), (.iload_n 3, 0, 0)] ⟨⟨d116_8, trivial⟩, ⟨d116_10, trivial⟩, trivial⟩ (lv' := [(0, aR 23 0), (1, aN i), (2, aN w), (3, aN j), (4, aL s), (6, aN k)]) (st' := [aN j, aN k]) (w' := wd N L) (P := []) rfl (trivial) (pc' := 11) rfl ?_
      refine Sem.icmpN (tgt := 46) d116_11 (by decide) (show k < 2 ^ 31 by omega) (show j < 2 ^ 31 by omega) (fun b1 => ?_) (fun b1 => ?_)
      · have b1_ : j < k := b1
        refine Sem.seg [(.aload_n 0, 0, 0), (.getfield 25, 5, 6), (.iload_n 1, 0, 0), (.iaload, 0, 0), (.i2l, 0, 0), (.aload_n 0, 0, 0), (.getfield 28, 5, 7), (.iload_n 1, 0, 0), (.iaload, 0, 0)] ⟨⟨d116_46, trivial⟩, ⟨d116_47, gf5_25⟩, ⟨d116_50, trivial⟩, ⟨d116_51, trivial⟩, ⟨d116_52, trivial⟩, ⟨d116_53, trivial⟩, ⟨d116_54, gf5_28⟩, ⟨d116_57, trivial⟩, ⟨d116_58, trivial⟩, trivial⟩ (lv' := [(0, aR 23 0), (1, aN i), (2, aN w), (3, aN j), (4, aL s), (6, aN k)]) (st' := [aN (N 30 0 i), aL ((nI (N 29 0 i)).toInt64)]) (w' := wd N L) (P := [vld NN 23 0, vld NN 29 0, i < 12, vld NN 23 0, vld NN 30 0, i < 12]) rfl (⟨vN (t := 23) (i := 0) (by decide), vN (t := 29) (i := 0) (by decide), (show i < 12 by omega), vN (t := 23) (i := 0) (by decide), vN (t := 30) (i := 0) (by decide), (show i < 12 by omega)⟩) (pc' := 59) rfl ?_
        refine Sem.seg [(.i2l, 0, 0), (.lload 4, 0, 0), (.lmul, 0, 0), (.ladd, 0, 0)] ⟨⟨d116_59, trivial⟩, ⟨d116_60, trivial⟩, ⟨d116_62, trivial⟩, ⟨d116_63, trivial⟩, trivial⟩ (lv' := [(0, aR 23 0), (1, aN i), (2, aN w), (3, aN j), (4, aL s), (6, aN k)]) (st' := [aL (((nI (N 29 0 i)).toInt64) + (((nI (N 30 0 i)).toInt64) * s))]) (w' := wd N L) (P := []) rfl (trivial) (pc' := 64) rfl ?_
        exact Sem.lret d116_64 rfl (by decide) (by decide) hzW ⟨congrArg (fun z => Sum.inl (some (aL z))) (show ((nI (N 29 0 i)).toInt64) + (((nI (N 30 0 i)).toInt64) * s) = cs (mN N 19 i) (L 45 0) w (j - w) by rw [hs, show k - w = (j - w) + 1 by omega]; rfl), rfl⟩
      · have b1_ : ¬ (j < k) := b1
        refine Sem.seg [(.lload 4, 0, 0), (.iload 6, 0, 0), (.iload_n 2, 0, 0), (.isub, 0, 0)] ⟨⟨d116_14, trivial⟩, ⟨d116_16, trivial⟩, ⟨d116_18, trivial⟩, ⟨d116_19, trivial⟩, trivial⟩ (lv' := [(0, aR 23 0), (1, aN i), (2, aN w), (3, aN j), (4, aL s), (6, aN k)]) (st' := [aI ((nI k) - (nI w)), aL s]) (w' := wd N L) (P := []) rfl (trivial) (pc' := 20) rfl ?_
        refine Sem.topN (show (nI k) - (nI w) = nI (k - w) from nI_sub (by omega)) ?_
        refine Sem.seg [(.i2l, 0, 0), (.aload_n 0, 0, 0), (.iload 6, 0, 0)] ⟨⟨d116_20, trivial⟩, ⟨d116_21, trivial⟩, ⟨d116_22, trivial⟩, trivial⟩ (lv' := [(0, aR 23 0), (1, aN i), (2, aN w), (3, aN j), (4, aL s), (6, aN k)]) (st' := [aN k, aR 23 0, aL ((nI (k - w)).toInt64), aL s]) (w' := wd N L) (P := []) rfl (trivial) (pc' := 24) rfl ?_
        refine Sem.cVp1 (t := 23) (i := 0) (as := [aN k]) (rst := [aL ((nI (k - w)).toInt64), aL s]) (c' := 0) (s' := 0) d116_24 mk117 rfl co117 lk5_146 im117 se117 rfl (vN (t := 23) (i := 0) (by decide)) (show 2 ≤ mL 117 by decide) rfl (show 4 ≤ 8 by decide) (by decide) (by decide) rfl rfl (by decide) (by decide) (m117n N L k (by omega)) ?_
        refine Sem.seg [(.aload_n 0, 0, 0), (.iload 6, 0, 0), (.iconst 1, 0, 0), (.isub, 0, 0)] ⟨⟨d116_27, trivial⟩, ⟨d116_28, trivial⟩, ⟨d116_30, trivial⟩, ⟨d116_31, trivial⟩, trivial⟩ (lv' := [(0, aR 23 0), (1, aN i), (2, aN w), (3, aN j), (4, aL s), (6, aN k)]) (st' := [aI ((nI k) - (nI 1)), aR 23 0, aL (L 45 0 k), aL ((nI (k - w)).toInt64), aL s]) (w' := wd N L) (P := []) rfl (trivial) (pc' := 32) rfl ?_
        refine Sem.cVp1 (t := 23) (i := 0) (as := [aI ((nI k) - (nI 1))]) (rst := [aL (L 45 0 k), aL ((nI (k - w)).toInt64), aL s]) (c' := 0) (s' := 0) d116_32 mk117 rfl co117 lk5_146 im117 se117 rfl (vN (t := 23) (i := 0) (by decide)) (show 2 ≤ mL 117 by decide) rfl (show 6 ≤ 8 by decide) (by decide) (by decide) rfl rfl (by decide) (by decide) (m117p N L k (nI k - nI 1) (subI2 (by omega)) (by omega)) ?_
        refine Sem.seg [(.lsub, 0, 0), (.lmul, 0, 0), (.ladd, 0, 0), (.lstore 4, 0, 0), (.iinc 6 1, 0, 0)] ⟨⟨d116_35, trivial⟩, ⟨d116_36, trivial⟩, ⟨d116_37, trivial⟩, ⟨d116_38, trivial⟩, ⟨d116_40, trivial⟩, trivial⟩ (lv' := [(6, aN (k + 1)), (4, aL (s + (((nI (k - w)).toInt64) * ((L 45 0 k) - (prv (L 45 0) k))))), (0, aR 23 0), (1, aN i), (2, aN w), (3, aN j)]) (st' := []) (w' := wd N L) (P := []) rfl (trivial) (pc' := 43) rfl ?_
        refine Sem.goto (tgt := 8) d116_43 (by decide) ?_
        refine Sem.pick [2, 3, 4, 5, 1, 0] (lv' := [(0, aR 23 0), (1, aN i), (2, aN w), (3, aN j), (4, aL (s + (((nI (k - w)).toInt64) * ((L 45 0 k) - (prv (L 45 0) k))))), (6, aN (k + 1))]) rfl ?_
        exact ih _ (by omega) (k + 1) (s + (((nI (k - w)).toInt64) * ((L 45 0 k) - (prv (L 45 0) k)))) rfl (by omega) (by omega) (by rw [hs, show k + 1 - w = (k - w) + 1 by omega]; simp only [wai]; rw [show w + (k - w) = k by omega])
  refine Sem.pick [2, 3, 4, 5, 1, 0] (lv' := [(0, aR 23 0), (1, aN i), (2, aN w), (3, aN j), (4, aL (Int64.ofNat 0)), (6, aN (w + 1))]) rfl ?_
  exact lp _ (w + 1) (Int64.ofNat 0) rfl (by omega) (by omega) (by rw [show w + 1 - w = 1 by omega, wai_1]; rfl)

theorem m115 {sc : XT} (N : TN) (L : TL) (i w : Nat) (hi : i < 12) (hw : w < 12) : Sem sc 115 0 [(0, aR 23 0), (1, aN i), (2, aN w)] [] (wd N L) 0 0 (QP (some (aN ((pk (mN N 19 i) (L 45 0) (L 46 0) w (12 - w)).2))) N L) := by
  refine Sem.seg [(.iload_n 2, 0, 0), (.istore_n 3, 0, 0), (.iload_n 2, 0, 0), (.istore 4, 0, 0)] ⟨⟨d115_0, trivial⟩, ⟨d115_1, trivial⟩, ⟨d115_2, trivial⟩, ⟨d115_3, trivial⟩, trivial⟩ (lv' := [(4, aN w), (3, aN w), (0, aR 23 0), (1, aN i), (2, aN w)]) (st' := []) (w' := wd N L) (P := []) rfl (trivial) (pc' := 5) rfl ?_
  have lp : ∀ (d : Nat) (j f : Nat), 12 - j = d → (w ≤ j) → (j ≤ 12) → ((j = w ∧ f = w) ∨ (w < j ∧ f = (pk (mN N 19 i) (L 45 0) (L 46 0) w (j - w)).2)) → (w ≤ f ∧ f < 12) → Sem sc 115 5 [(0, aR 23 0), (1, aN i), (2, aN w), (3, aN f), (4, aN j)] [] (wd N L) 0 0 (QP (some (aN ((pk (mN N 19 i) (L 45 0) (L 46 0) w (12 - w)).2))) N L) := by
    intro d
    induction d using Nat.strongRecOn with
    | ind d ih =>
      intro j f hd hj hj2 hf hf2
      refine Sem.seg [(.iload 4, 0, 0), (.bipush 12, 0, 0)] ⟨⟨d115_5, trivial⟩, ⟨d115_7, trivial⟩, trivial⟩ (lv' := [(0, aR 23 0), (1, aN i), (2, aN w), (3, aN f), (4, aN j)]) (st' := [aN 12, aN j]) (w' := wd N L) (P := []) rfl (trivial) (pc' := 9) rfl ?_
      refine Sem.icmpN (tgt := 63) d115_9 (by decide) (show j < 2 ^ 31 by omega) (by decide) (fun b1 => ?_) (fun b1 => ?_)
      · have b1_ : 12 ≤ j := b1
        refine Sem.seg [(.iload_n 3, 0, 0)] ⟨⟨d115_63, trivial⟩, trivial⟩ (lv' := [(0, aR 23 0), (1, aN i), (2, aN w), (3, aN f), (4, aN j)]) (st' := [aN f]) (w' := wd N L) (P := []) rfl (trivial) (pc' := 64) rfl ?_
        exact Sem.iret rfl d115_64 (Or.inl rfl) (by decide) (by decide) hzW ⟨congrArg (fun z => Sum.inl (some (aN z))) (show f = (pk (mN N 19 i) (L 45 0) (L 46 0) w (12 - w)).2 by rcases hf with ⟨h1, h2⟩ | ⟨h1, h2⟩; omega; rw [h2, show j = 12 by omega]), rfl⟩
      · have b1_ : ¬ (12 ≤ j) := b1
        refine Sem.seg [(.aload_n 0, 0, 0), (.iload_n 1, 0, 0), (.iload_n 2, 0, 0), (.iload 4, 0, 0)] ⟨⟨d115_12, trivial⟩, ⟨d115_13, trivial⟩, ⟨d115_14, trivial⟩, ⟨d115_15, trivial⟩, trivial⟩ (lv' := [(0, aR 23 0), (1, aN i), (2, aN w), (3, aN f), (4, aN j)]) (st' := [aN j, aN w, aN i, aR 23 0]) (w' := wd N L) (P := []) rfl (trivial) (pc' := 17) rfl ?_
        refine Sem.cVp1 (t := 23) (i := 0) (as := [aN i, aN w, aN j]) (rst := []) (c' := 0) (s' := 0) d115_17 mk116 rfl co116 lk5_150 im116 se116 rfl (vN (t := 23) (i := 0) (by decide)) (show 4 ≤ mL 116 by decide) rfl (show 0 ≤ 8 by decide) (by decide) (by decide) rfl rfl (by decide) (by decide) (m116 N L i w j hi hj (by omega)) ?_
        refine Sem.seg [(.aload_n 0, 0, 0), (.getfield 82, 5, 26), (.iload 4, 0, 0), (.iconst 1, 0, 0), (.iadd, 0, 0), (.laload, 0, 0), (.ladd, 0, 0), (.aload_n 0, 0, 0), (.iload_n 1, 0, 0)] ⟨⟨d115_20, trivial⟩, ⟨d115_21, gf5_82⟩, ⟨d115_24, trivial⟩, ⟨d115_26, trivial⟩, ⟨d115_27, trivial⟩, ⟨d115_28, trivial⟩, ⟨d115_29, trivial⟩, ⟨d115_30, trivial⟩, ⟨d115_31, trivial⟩, trivial⟩ (lv' := [(0, aR 23 0), (1, aN i), (2, aN w), (3, aN f), (4, aN j)]) (st' := [aN i, aR 23 0, aL ((cs (mN N 19 i) (L 45 0) w (j - w)) + (L 46 0 (j + 1)))]) (w' := wd N L) (P := [vld NN 23 0, vld NN 46 0, j + 1 < 13]) rfl (⟨vN (t := 23) (i := 0) (by decide), vN (t := 46) (i := 0) (by decide), (show j + 1 < 13 by omega)⟩) (pc' := 32) rfl ?_
        refine Sem.seg [(.iload_n 2, 0, 0), (.iload_n 3, 0, 0)] ⟨⟨d115_32, trivial⟩, ⟨d115_33, trivial⟩, trivial⟩ (lv' := [(0, aR 23 0), (1, aN i), (2, aN w), (3, aN f), (4, aN j)]) (st' := [aN f, aN w, aN i, aR 23 0, aL ((cs (mN N 19 i) (L 45 0) w (j - w)) + (L 46 0 (j + 1)))]) (w' := wd N L) (P := []) rfl (trivial) (pc' := 34) rfl ?_
        refine Sem.cVp1 (t := 23) (i := 0) (as := [aN i, aN w, aN f]) (rst := [aL ((cs (mN N 19 i) (L 45 0) w (j - w)) + (L 46 0 (j + 1)))]) (c' := 0) (s' := 0) d115_34 mk116 rfl co116 lk5_150 im116 se116 rfl (vN (t := 23) (i := 0) (by decide)) (show 4 ≤ mL 116 by decide) rfl (show 2 ≤ 8 by decide) (by decide) (by decide) rfl rfl (by decide) (by decide) (m116 N L i w f hi hf2.1 hf2.2) ?_
        refine Sem.seg [(.aload_n 0, 0, 0), (.getfield 82, 5, 26), (.iload_n 3, 0, 0), (.iconst 1, 0, 0), (.iadd, 0, 0), (.laload, 0, 0), (.ladd, 0, 0)] ⟨⟨d115_37, trivial⟩, ⟨d115_38, gf5_82⟩, ⟨d115_41, trivial⟩, ⟨d115_42, trivial⟩, ⟨d115_43, trivial⟩, ⟨d115_44, trivial⟩, ⟨d115_45, trivial⟩, trivial⟩ (lv' := [(0, aR 23 0), (1, aN i), (2, aN w), (3, aN f), (4, aN j)]) (st' := [aL ((cs (mN N 19 i) (L 45 0) w (f - w)) + (L 46 0 (f + 1))), aL ((cs (mN N 19 i) (L 45 0) w (j - w)) + (L 46 0 (j + 1)))]) (w' := wd N L) (P := [vld NN 23 0, vld NN 46 0, f + 1 < 13]) rfl (⟨vN (t := 23) (i := 0) (by decide), vN (t := 46) (i := 0) (by decide), (show f + 1 < 13 by omega)⟩) (pc' := 46) rfl ?_
        refine Sem.lcmp (tgt := 55) d115_46 d115_47 (by decide) (fun b2 => ?_) (fun b2 => ?_)
        · have b2_ : (cs (mN N 19 i) (L 45 0) w (f - w)) + (L 46 0 (f + 1)) ≤ (cs (mN N 19 i) (L 45 0) w (j - w)) + (L 46 0 (j + 1)) := b2
          refine Sem.seg [(.iload_n 3, 0, 0), (.istore_n 3, 0, 0)] ⟨⟨d115_55, trivial⟩, ⟨d115_56, trivial⟩, trivial⟩ (lv' := [(3, aN f), (0, aR 23 0), (1, aN i), (2, aN w), (4, aN j)]) (st' := []) (w' := wd N L) (P := []) rfl (trivial) (pc' := 57) rfl ?_
          have hnew : f = (pk (mN N 19 i) (L 45 0) (L 46 0) w (j + 1 - w)).2 := by
            rw [show j + 1 - w = (j - w) + 1 by omega]
            simp only [pk]
            rcases hf with ⟨h1, h2⟩ | ⟨h1, h2⟩
            · rw [if_pos (Or.inl (by omega))]; show _ = w + (j - w); omega
            · have hp1 := pk_1 (D := (mN N 19 i)) (nd := (L 45 0)) (bt := (L 46 0)) (w := w) (n := j - w) (by omega)
              rw [← h2] at hp1
              have hww : w + (j - w) = j := by omega
              first
              | (rw [if_pos (Or.inr (by rw [hp1, hww]; exact Int64.not_le.mp (by assumption)))]; show _ = w + (j - w); omega)
              | (rw [if_neg (fun q => by
                    rcases q with q | q
                    · omega
                    · rw [hp1, hww] at q; exact absurd q (Int64.not_lt.mpr (by assumption)))]; exact h2)
          refine Sem.seg [(.iinc 4 1, 0, 0)] ⟨⟨d115_57, trivial⟩, trivial⟩ (lv' := [(4, aN (j + 1)), (3, aN f), (0, aR 23 0), (1, aN i), (2, aN w)]) (st' := []) (w' := wd N L) (P := []) rfl (trivial) (pc' := 60) rfl ?_
          refine Sem.goto (tgt := 5) d115_60 (by decide) ?_
          refine Sem.pick [2, 3, 4, 1, 0] (lv' := [(0, aR 23 0), (1, aN i), (2, aN w), (3, aN f), (4, aN (j + 1))]) rfl ?_
          exact ih _ (by omega) (j + 1) f rfl (by omega) (by omega) (Or.inr ⟨by omega, hnew⟩) (by omega)
        · have b2_ : ¬ ((cs (mN N 19 i) (L 45 0) w (f - w)) + (L 46 0 (f + 1)) ≤ (cs (mN N 19 i) (L 45 0) w (j - w)) + (L 46 0 (j + 1))) := b2
          refine Sem.seg [(.iload 4, 0, 0)] ⟨⟨d115_50, trivial⟩, trivial⟩ (lv' := [(0, aR 23 0), (1, aN i), (2, aN w), (3, aN f), (4, aN j)]) (st' := [aN j]) (w' := wd N L) (P := []) rfl (trivial) (pc' := 52) rfl ?_
          refine Sem.goto (tgt := 56) d115_52 (by decide) ?_
          refine Sem.seg [(.istore_n 3, 0, 0)] ⟨⟨d115_56, trivial⟩, trivial⟩ (lv' := [(3, aN j), (0, aR 23 0), (1, aN i), (2, aN w), (4, aN j)]) (st' := []) (w' := wd N L) (P := []) rfl (trivial) (pc' := 57) rfl ?_
          have hnew : j = (pk (mN N 19 i) (L 45 0) (L 46 0) w (j + 1 - w)).2 := by
            rw [show j + 1 - w = (j - w) + 1 by omega]
            simp only [pk]
            rcases hf with ⟨h1, h2⟩ | ⟨h1, h2⟩
            · rw [if_pos (Or.inl (by omega))]; show _ = w + (j - w); omega
            · have hp1 := pk_1 (D := (mN N 19 i)) (nd := (L 45 0)) (bt := (L 46 0)) (w := w) (n := j - w) (by omega)
              rw [← h2] at hp1
              have hww : w + (j - w) = j := by omega
              first
              | (rw [if_pos (Or.inr (by rw [hp1, hww]; exact Int64.not_le.mp (by assumption)))]; show _ = w + (j - w); omega)
              | (rw [if_neg (fun q => by
                    rcases q with q | q
                    · omega
                    · rw [hp1, hww] at q; exact absurd q (Int64.not_lt.mpr (by assumption)))]; exact h2)
          refine Sem.seg [(.iinc 4 1, 0, 0)] ⟨⟨d115_57, trivial⟩, trivial⟩ (lv' := [(4, aN (j + 1)), (3, aN j), (0, aR 23 0), (1, aN i), (2, aN w)]) (st' := []) (w' := wd N L) (P := []) rfl (trivial) (pc' := 60) rfl ?_
          refine Sem.goto (tgt := 5) d115_60 (by decide) ?_
          refine Sem.pick [2, 3, 4, 1, 0] (lv' := [(0, aR 23 0), (1, aN i), (2, aN w), (3, aN j), (4, aN (j + 1))]) rfl ?_
          exact ih _ (by omega) (j + 1) j rfl (by omega) (by omega) (Or.inr ⟨by omega, hnew⟩) (by omega)
  refine Sem.pick [2, 3, 4, 1, 0] (lv' := [(0, aR 23 0), (1, aN i), (2, aN w), (3, aN w), (4, aN w)]) rfl ?_
  exact lp _ w w rfl (by omega) (by omega) (Or.inl ⟨rfl, rfl⟩) (by omega)

theorem m114 {sc : XT} (N : TN) (L : TL) (i : Nat) (hi : i < 12) (hc : CD (mN N)) : Sem sc 114 0 [(0, aR 23 0), (1, aN i)] [] (wd N L) 0 0 (Q0 fun N' L' => N = N' ∧ (∀ t a b, t ≠ 46 → L' t a b = L t a b) ∧ ∀ q, N 26 0 i ≤ q → q ≤ 12 → L' 46 0 q = bestF (mN N 19 i) (L 45 0) q) := by
  have h26 : N 26 0 i ≤ 4 := (hc.1 i hi).2.2.2.1
  refine Sem.seg [(.aload_n 0, 0, 0), (.getfield 82, 5, 26), (.bipush 12, 0, 0), (.lconst 0, 0, 0), (.lastore, 0, 0), (.bipush 11, 0, 0), (.istore_n 2, 0, 0)] ⟨⟨d114_0, trivial⟩, ⟨d114_1, gf5_82⟩, ⟨d114_4, trivial⟩, ⟨d114_6, trivial⟩, ⟨d114_7, trivial⟩, ⟨d114_8, trivial⟩, ⟨d114_10, trivial⟩, trivial⟩ (lv' := [(2, aN 11), (0, aR 23 0), (1, aN i)]) (st' := []) (w' := wd N (upL L 46 0 12 (Int64.ofNat 0))) (P := [vld NN 23 0, vld NN 46 0, 12 < 13]) rfl (⟨vN (t := 23) (i := 0) (by decide), vN (t := 46) (i := 0) (by decide), (by decide : (12 : Nat) < 13)⟩) (pc' := 11) rfl ?_
  have lp : ∀ (d : Nat) (m : Nat) (x : Int32) (L1 : TL), m = d → (m ≤ 12) → (N 26 0 i ≤ m) → (x.toInt = (m : Int) - 1) → (∀ t a b, t ≠ 46 → L1 t a b = L t a b) → (∀ q, m ≤ q → q ≤ 12 → L1 46 0 q = bestF (mN N 19 i) (L 45 0) q) → Sem sc 114 11 [(0, aR 23 0), (1, aN i), (2, aI x)] [] (wd N L1) 0 0 (Q0 fun N' L' => N = N' ∧ (∀ t a b, t ≠ 46 → L' t a b = L t a b) ∧ ∀ q, N 26 0 i ≤ q → q ≤ 12 → L' 46 0 q = bestF (mN N 19 i) (L 45 0) q) := by
    intro d
    induction d using Nat.strongRecOn with
    | ind d ih =>
      intro m x L1 hd hm hm2 hx fL hb
      refine Sem.seg [(.iload_n 2, 0, 0), (.aload_n 0, 0, 0), (.getfield 16, 5, 3), (.iload_n 1, 0, 0), (.iaload, 0, 0)] ⟨⟨d114_11, trivial⟩, ⟨d114_12, trivial⟩, ⟨d114_13, gf5_16⟩, ⟨d114_16, trivial⟩, ⟨d114_17, trivial⟩, trivial⟩ (lv' := [(0, aR 23 0), (1, aN i), (2, aI x)]) (st' := [aN (N 26 0 i), aI x]) (w' := wd N L1) (P := [vld NN 23 0, vld NN 26 0, i < 12]) rfl (⟨vN (t := 23) (i := 0) (by decide), vN (t := 26) (i := 0) (by decide), (show i < 12 by omega)⟩) (pc' := 18) rfl ?_
      refine Sem.icmp (tgt := 83) d114_18 (by decide) rfl rfl (fun b1 => ?_) (fun b1 => ?_)
      · have b1_ : x.toInt < ((N 26 0 i : Nat) : Int) := bT rfl (nI_toInt (show N 26 0 i < 2 ^ 31 by omega)) b1
        exact Sem.vret d114_83 rfl (by decide) (by decide) hzW ⟨rfl, _, _, rfl, by exact ⟨rfl, fL, fun q h1 h2 => hb q (by omega) h2⟩⟩
      · have b1_ : ¬ (x.toInt < ((N 26 0 i : Nat) : Int)) := bF rfl (nI_toInt (show N 26 0 i < 2 ^ 31 by omega)) b1
        have e45 : L1 45 0 = L 45 0 := funext fun q => fL 45 0 q (by decide)
        have hpk : pk (mN N 19 i) (L1 45 0) (L1 46 0) (m - 1) (12 - (m - 1)) = pk (mN N 19 i) (L 45 0) (bestF (mN N 19 i) (L 45 0)) (m - 1) (12 - (m - 1)) := by
          rw [e45]; exact pk_cg (fun q h1 h2 => hb q (by omega) (by omega))
        have hat := pk_at (D := mN N 19 i) (nd := L1 45 0) (bt := L1 46 0) (w := m - 1) (n := 12 - (m - 1)) (by omega)
        have hp1 := pk_1 (D := mN N 19 i) (nd := L1 45 0) (bt := L1 46 0) (w := m - 1) (n := 12 - (m - 1)) (by omega)
        refine Sem.pick [2, 0, 1] (lv' := [(2, aI x), (0, aR 23 0), (1, aN i)]) rfl ?_
        refine Sem.loc0 (show x = nI (m - 1) from i_nI (by omega)) ?_
        refine Sem.seg [(.aload_n 0, 0, 0), (.iload_n 1, 0, 0), (.iload_n 2, 0, 0)] ⟨⟨d114_21, trivial⟩, ⟨d114_22, trivial⟩, ⟨d114_23, trivial⟩, trivial⟩ (lv' := [(2, aN (m - 1)), (0, aR 23 0), (1, aN i)]) (st' := [aN (m - 1), aN i, aR 23 0]) (w' := wd N L1) (P := []) rfl (trivial) (pc' := 24) rfl ?_
        refine Sem.cVp1 (t := 23) (i := 0) (as := [aN i, aN (m - 1)]) (rst := []) (c' := 0) (s' := 0) d114_24 mk115 rfl co115 lk5_153 im115 se115 rfl (vN (t := 23) (i := 0) (by decide)) (show 3 ≤ mL 115 by decide) rfl (show 0 ≤ 8 by decide) (by decide) (by decide) rfl rfl (by decide) (by decide) (m115 N L1 i (m - 1) hi (by omega)) ?_
        refine Sem.seg [(.istore_n 3, 0, 0), (.aload_n 0, 0, 0), (.getfield 82, 5, 26), (.iload_n 2, 0, 0), (.aload_n 0, 0, 0), (.iload_n 2, 0, 0)] ⟨⟨d114_27, trivial⟩, ⟨d114_28, trivial⟩, ⟨d114_29, gf5_82⟩, ⟨d114_32, trivial⟩, ⟨d114_33, trivial⟩, ⟨d114_34, trivial⟩, trivial⟩ (lv' := [(3, aN ((pk (mN N 19 i) (L1 45 0) (L1 46 0) (m - 1) (12 - (m - 1))).2)), (2, aN (m - 1)), (0, aR 23 0), (1, aN i)]) (st' := [aN (m - 1), aR 23 0, aN (m - 1), aR 46 0]) (w' := wd N L1) (P := [vld NN 23 0]) rfl (vN (t := 23) (i := 0) (by decide)) (pc' := 35) rfl ?_
        refine Sem.cVp1 (t := 23) (i := 0) (as := [aN (m - 1)]) (rst := [aN (m - 1), aR 46 0]) (c' := 0) (s' := 0) d114_35 mk117 rfl co117 lk5_146 im117 se117 rfl (vN (t := 23) (i := 0) (by decide)) (show 2 ≤ mL 117 by decide) rfl (show 2 ≤ 8 by decide) (by decide) (by decide) rfl rfl (by decide) (by decide) (m117n N L1 (m - 1) (by omega)) ?_
        refine Sem.seg [(.aload_n 0, 0, 0), (.iload_n 2, 0, 0), (.iconst 1, 0, 0), (.isub, 0, 0)] ⟨⟨d114_38, trivial⟩, ⟨d114_39, trivial⟩, ⟨d114_40, trivial⟩, ⟨d114_41, trivial⟩, trivial⟩ (lv' := [(3, aN ((pk (mN N 19 i) (L1 45 0) (L1 46 0) (m - 1) (12 - (m - 1))).2)), (2, aN (m - 1)), (0, aR 23 0), (1, aN i)]) (st' := [aI ((nI (m - 1)) - (nI 1)), aR 23 0, aL (L1 45 0 (m - 1)), aN (m - 1), aR 46 0]) (w' := wd N L1) (P := []) rfl (trivial) (pc' := 42) rfl ?_
        refine Sem.cVp1 (t := 23) (i := 0) (as := [aI ((nI (m - 1)) - (nI 1))]) (rst := [aL (L1 45 0 (m - 1)), aN (m - 1), aR 46 0]) (c' := 0) (s' := 0) d114_42 mk117 rfl co117 lk5_146 im117 se117 rfl (vN (t := 23) (i := 0) (by decide)) (show 2 ≤ mL 117 by decide) rfl (show 4 ≤ 8 by decide) (by decide) (by decide) rfl rfl (by decide) (by decide) (m117p N L1 (m - 1) (nI (m - 1) - nI 1) (subI2 (by omega)) (by omega)) ?_
        refine Sem.lcmp (tgt := 60) d114_45 d114_46 (by decide) (fun b2 => ?_) (fun b2 => ?_)
        · have b2_ : ¬ L1 45 0 (m - 1) = prv (L1 45 0) (m - 1) := b2
          refine Sem.seg [(.aload_n 0, 0, 0), (.iload_n 1, 0, 0), (.iload_n 2, 0, 0), (.iload_n 3, 0, 0)] ⟨⟨d114_60, trivial⟩, ⟨d114_61, trivial⟩, ⟨d114_62, trivial⟩, ⟨d114_63, trivial⟩, trivial⟩ (lv' := [(3, aN ((pk (mN N 19 i) (L1 45 0) (L1 46 0) (m - 1) (12 - (m - 1))).2)), (2, aN (m - 1)), (0, aR 23 0), (1, aN i)]) (st' := [aN ((pk (mN N 19 i) (L1 45 0) (L1 46 0) (m - 1) (12 - (m - 1))).2), aN (m - 1), aN i, aR 23 0, aN (m - 1), aR 46 0]) (w' := wd N L1) (P := []) rfl (trivial) (pc' := 64) rfl ?_
          refine Sem.cVp1 (t := 23) (i := 0) (as := [aN i, aN (m - 1), aN ((pk (mN N 19 i) (L1 45 0) (L1 46 0) (m - 1) (12 - (m - 1))).2)]) (rst := [aN (m - 1), aR 46 0]) (c' := 0) (s' := 0) d114_64 mk116 rfl co116 lk5_150 im116 se116 rfl (vN (t := 23) (i := 0) (by decide)) (show 4 ≤ mL 116 by decide) rfl (show 2 ≤ 8 by decide) (by decide) (by decide) rfl rfl (by decide) (by decide) (m116 N L1 i (m - 1) (pk (mN N 19 i) (L1 45 0) (L1 46 0) (m - 1) (12 - (m - 1))).2 hi hat.1 (by omega)) ?_
          refine Sem.seg [(.aload_n 0, 0, 0), (.getfield 82, 5, 26), (.iload_n 3, 0, 0), (.iconst 1, 0, 0), (.iadd, 0, 0), (.laload, 0, 0), (.ladd, 0, 0)] ⟨⟨d114_67, trivial⟩, ⟨d114_68, gf5_82⟩, ⟨d114_71, trivial⟩, ⟨d114_72, trivial⟩, ⟨d114_73, trivial⟩, ⟨d114_74, trivial⟩, ⟨d114_75, trivial⟩, trivial⟩ (lv' := [(3, aN ((pk (mN N 19 i) (L1 45 0) (L1 46 0) (m - 1) (12 - (m - 1))).2)), (2, aN (m - 1)), (0, aR 23 0), (1, aN i)]) (st' := [aL ((cs (mN N 19 i) (L1 45 0) (m - 1) ((pk (mN N 19 i) (L1 45 0) (L1 46 0) (m - 1) (12 - (m - 1))).2 - (m - 1))) + (L1 46 0 (((pk (mN N 19 i) (L1 45 0) (L1 46 0) (m - 1) (12 - (m - 1))).2) + 1))), aN (m - 1), aR 46 0]) (w' := wd N L1) (P := [vld NN 23 0, vld NN 46 0, ((pk (mN N 19 i) (L1 45 0) (L1 46 0) (m - 1) (12 - (m - 1))).2) + 1 < 13]) rfl (⟨vN (t := 23) (i := 0) (by decide), vN (t := 46) (i := 0) (by decide), (show ((pk (mN N 19 i) (L1 45 0) (L1 46 0) (m - 1) (12 - (m - 1))).2) + 1 < 13 by omega)⟩) (pc' := 76) rfl ?_
          have hnew : (cs (mN N 19 i) (L1 45 0) (m - 1) ((pk (mN N 19 i) (L1 45 0) (L1 46 0) (m - 1) (12 - (m - 1))).2 - (m - 1))) + (L1 46 0 (((pk (mN N 19 i) (L1 45 0) (L1 46 0) (m - 1) (12 - (m - 1))).2) + 1)) = bestF (mN N 19 i) (L 45 0) (m - 1) := by
            rw [best_w (by omega)]
            first
            | (rw [if_pos (show L 45 0 (m - 1) = prv (L 45 0) (m - 1) by rw [← e45]; exact Classical.not_not.mp (by assumption)), ← hb (m - 1 + 1) (by omega) (by omega)]; done)
            | (rw [if_neg (show ¬ L 45 0 (m - 1) = prv (L 45 0) (m - 1) by rw [← e45]; assumption), ← hpk]; exact hp1.symm)
          refine Sem.seg [(.lastore, 0, 0), (.iinc 2 (-1), 0, 0)] ⟨⟨d114_76, trivial⟩, ⟨d114_77, trivial⟩, trivial⟩ (lv' := [(2, aI (nI (m - 1) + Int32.ofInt (-1))), (3, aN ((pk (mN N 19 i) (L1 45 0) (L1 46 0) (m - 1) (12 - (m - 1))).2)), (0, aR 23 0), (1, aN i)]) (st' := []) (w' := wd N (upL L1 46 0 (m - 1) ((cs (mN N 19 i) (L1 45 0) (m - 1) ((pk (mN N 19 i) (L1 45 0) (L1 46 0) (m - 1) (12 - (m - 1))).2 - (m - 1))) + (L1 46 0 (((pk (mN N 19 i) (L1 45 0) (L1 46 0) (m - 1) (12 - (m - 1))).2) + 1))))) (P := [vld NN 46 0, m - 1 < 13]) rfl (⟨vN (t := 46) (i := 0) (by decide), (show m - 1 < 13 by omega)⟩) (pc' := 80) rfl ?_
          refine Sem.goto (tgt := 11) d114_80 (by decide) ?_
          refine Sem.pick [2, 3, 0] (lv' := [(0, aR 23 0), (1, aN i), (2, aI (nI (m - 1) + Int32.ofInt (-1)))]) rfl ?_
          exact ih _ (by omega) (m - 1) (nI (m - 1) + Int32.ofInt (-1)) (upL L1 46 0 (m - 1) ((cs (mN N 19 i) (L1 45 0) (m - 1) ((pk (mN N 19 i) (L1 45 0) (L1 46 0) (m - 1) (12 - (m - 1))).2 - (m - 1))) + (L1 46 0 (((pk (mN N 19 i) (L1 45 0) (L1 46 0) (m - 1) (12 - (m - 1))).2) + 1)))) rfl (by omega) (by omega) (by rw [dec_toInt (by omega)]) (fun t a b h => (upL_ne (by omega)).trans (fL t a b h)) (fun q h1 h2 => by
                by_cases e : q = m - 1
                · subst e; rw [upL_at]; exact hnew
                · exact (upL_ne (by omega)).trans (hb q (by omega) h2))
        · have b2_ : ¬ (¬ L1 45 0 (m - 1) = prv (L1 45 0) (m - 1)) := b2
          refine Sem.seg [(.aload_n 0, 0, 0), (.getfield 82, 5, 26), (.iload_n 2, 0, 0), (.iconst 1, 0, 0), (.iadd, 0, 0), (.laload, 0, 0)] ⟨⟨d114_49, trivial⟩, ⟨d114_50, gf5_82⟩, ⟨d114_53, trivial⟩, ⟨d114_54, trivial⟩, ⟨d114_55, trivial⟩, ⟨d114_56, trivial⟩, trivial⟩ (lv' := [(3, aN ((pk (mN N 19 i) (L1 45 0) (L1 46 0) (m - 1) (12 - (m - 1))).2)), (2, aN (m - 1)), (0, aR 23 0), (1, aN i)]) (st' := [aL (L1 46 0 ((m - 1) + 1)), aN (m - 1), aR 46 0]) (w' := wd N L1) (P := [vld NN 23 0, vld NN 46 0, (m - 1) + 1 < 13]) rfl (⟨vN (t := 23) (i := 0) (by decide), vN (t := 46) (i := 0) (by decide), (show (m - 1) + 1 < 13 by omega)⟩) (pc' := 57) rfl ?_
          refine Sem.goto (tgt := 76) d114_57 (by decide) ?_
          have hnew : L1 46 0 ((m - 1) + 1) = bestF (mN N 19 i) (L 45 0) (m - 1) := by
            rw [best_w (by omega)]
            first
            | (rw [if_pos (show L 45 0 (m - 1) = prv (L 45 0) (m - 1) by rw [← e45]; exact Classical.not_not.mp (by assumption)), ← hb (m - 1 + 1) (by omega) (by omega)]; done)
            | (rw [if_neg (show ¬ L 45 0 (m - 1) = prv (L 45 0) (m - 1) by rw [← e45]; assumption), ← hpk]; exact hp1.symm)
          refine Sem.seg [(.lastore, 0, 0), (.iinc 2 (-1), 0, 0)] ⟨⟨d114_76, trivial⟩, ⟨d114_77, trivial⟩, trivial⟩ (lv' := [(2, aI (nI (m - 1) + Int32.ofInt (-1))), (3, aN ((pk (mN N 19 i) (L1 45 0) (L1 46 0) (m - 1) (12 - (m - 1))).2)), (0, aR 23 0), (1, aN i)]) (st' := []) (w' := wd N (upL L1 46 0 (m - 1) (L1 46 0 ((m - 1) + 1)))) (P := [vld NN 46 0, m - 1 < 13]) rfl (⟨vN (t := 46) (i := 0) (by decide), (show m - 1 < 13 by omega)⟩) (pc' := 80) rfl ?_
          refine Sem.goto (tgt := 11) d114_80 (by decide) ?_
          refine Sem.pick [2, 3, 0] (lv' := [(0, aR 23 0), (1, aN i), (2, aI (nI (m - 1) + Int32.ofInt (-1)))]) rfl ?_
          exact ih _ (by omega) (m - 1) (nI (m - 1) + Int32.ofInt (-1)) (upL L1 46 0 (m - 1) (L1 46 0 ((m - 1) + 1))) rfl (by omega) (by omega) (by rw [dec_toInt (by omega)]) (fun t a b h => (upL_ne (by omega)).trans (fL t a b h)) (fun q h1 h2 => by
                by_cases e : q = m - 1
                · subst e; rw [upL_at]; exact hnew
                · exact (upL_ne (by omega)).trans (hb q (by omega) h2))
  refine Sem.pick [0, 1, 2] (lv' := [(2, aN 11), (0, aR 23 0), (1, aN i)]) rfl ?_
  refine Sem.locNI (show nI 11 = nI 11 from rfl) ?_
  refine Sem.pick [1, 2, 0] (lv' := [(0, aR 23 0), (1, aN i), (2, aI (nI 11))]) rfl ?_
  exact lp _ 12 (nI 11) (upL L 46 0 12 (Int64.ofNat 0)) rfl (by omega) (by omega) (by rw [nI_toInt (by decide)]; decide) (fun t a b h => upL_ne (by omega)) (fun q h1 h2 => by have e : q = 12 := (by omega); subst e; rw [best_12]; exact upL_at)

