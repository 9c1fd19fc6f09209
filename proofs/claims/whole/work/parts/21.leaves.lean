-- ===== the class: leaves =====
theorem m12 {sc : XT} (N : TN) (L : TL) (i w : Nat) (hi : i < 12) (hw : w < 12) (hl : N 19 i 2 ≤ 4) : Sem sc 12 0 [(0, aR 19 i), (1, aN w)] [] (wd N L) 0 0 (QP (some (aL (if w + N 19 i 2 < 12 then L 21 i (w + N 19 i 2) else 0))) N L) := by
  refine Sem.seg [(.iload_n 1, 0, 0), (.aload_n 0, 0, 0), (.getfield 29, 2, 2), (.iadd, 0, 0), (.istore_n 2, 0, 0), (.iload_n 2, 0, 0)] ⟨⟨d12_0, trivial⟩, ⟨d12_1, trivial⟩, ⟨d12_2, gf2_29⟩, ⟨d12_5, trivial⟩, ⟨d12_6, trivial⟩, ⟨d12_7, trivial⟩, trivial⟩ (lv' := [(2, aN (w + (N 19 i 2))), (0, aR 19 i), (1, aN w)]) (st' := [aN (w + (N 19 i 2))]) (w' := wd N L) (P := [vld NN 19 i]) rfl (vN (t := 19) (i := i) (show i < 12 by omega)) (pc' := 8) rfl ?_
  refine Sem.ifN (tgt := 26) d12_8 (by decide) (show w + (N 19 i 2) < 2 ^ 31 by omega) (fun b1 => ?_) (fun b1 => ?_)
  · exfalso; have b1_ : w + (N 19 i 2) < 0 := b1; omega
  · have b1_ : ¬ (w + (N 19 i 2) < 0) := b1
    refine Sem.seg [(.iload_n 2, 0, 0), (.bipush 12, 0, 0)] ⟨⟨d12_11, trivial⟩, ⟨d12_12, trivial⟩, trivial⟩ (lv' := [(2, aN (w + (N 19 i 2))), (0, aR 19 i), (1, aN w)]) (st' := [aN 12, aN (w + (N 19 i 2))]) (w' := wd N L) (P := []) rfl (trivial) (pc' := 14) rfl ?_
    refine Sem.icmpN (tgt := 26) d12_14 (by decide) (show w + (N 19 i 2) < 2 ^ 31 by omega) (by decide) (fun b2 => ?_) (fun b2 => ?_)
    · have b2_ : 12 ≤ w + (N 19 i 2) := b2
      refine Sem.seg [(.lconst 0, 0, 0)] ⟨⟨d12_26, trivial⟩, trivial⟩ (lv' := [(2, aN (w + (N 19 i 2))), (0, aR 19 i), (1, aN w)]) (st' := [aL (Int64.ofNat 0)]) (w' := wd N L) (P := []) rfl (trivial) (pc' := 27) rfl ?_
      exact Sem.lret d12_27 rfl (by decide) (by decide) hzW ⟨congrArg (fun z => Sum.inl (some (aL z))) (show Int64.ofNat 0 = (if w + N 19 i 2 < 12 then L 21 i (w + N 19 i 2) else 0) by first | (rw [if_pos (by omega)]; done) | (rw [if_neg (by omega)]; rfl)), rfl⟩
    · have b2_ : ¬ (12 ≤ w + (N 19 i 2)) := b2
      refine Sem.seg [(.aload_n 0, 0, 0), (.getfield 23, 2, 12), (.iload_n 2, 0, 0), (.laload, 0, 0)] ⟨⟨d12_17, trivial⟩, ⟨d12_18, gf2_23⟩, ⟨d12_21, trivial⟩, ⟨d12_22, trivial⟩, trivial⟩ (lv' := [(2, aN (w + (N 19 i 2))), (0, aR 19 i), (1, aN w)]) (st' := [aL (L 21 i (w + (N 19 i 2)))]) (w' := wd N L) (P := [vld NN 19 i, vld NN 21 i, w + (N 19 i 2) < 12]) rfl (⟨vN (t := 19) (i := i) (show i < 12 by omega), vN (t := 21) (i := i) (show i < 12 by omega), (show w + (N 19 i 2) < 12 by omega)⟩) (pc' := 23) rfl ?_
      refine Sem.goto (tgt := 27) d12_23 (by decide) ?_
      exact Sem.lret d12_27 rfl (by decide) (by decide) hzW ⟨congrArg (fun z => Sum.inl (some (aL z))) (show L 21 i (w + (N 19 i 2)) = (if w + N 19 i 2 < 12 then L 21 i (w + N 19 i 2) else 0) by first | (rw [if_pos (by omega)]; done) | (rw [if_neg (by omega)]; rfl)), rfl⟩

theorem m13 {sc : XT} (N : TN) (L : TL) (i : Nat) (n : Int64) (hi : i < 12) : Sem sc 13 0 [(0, aR 19 i), (1, aL n)] [] (wd N L) 0 0 (QP (some (aL (scr n (N 19 i 4)))) N L) := by
  refine Sem.seg [(.lload_n 1, 0, 0), (.sipush 1000, 0, 0), (.aload_n 0, 0, 0), (.getfield 32, 2, 4), (.iadd, 0, 0), (.i2l, 0, 0), (.lmul, 0, 0), (.ldc2_w 35, 999, 0), (.ladd, 0, 0), (.ldc2_w 37, 1000, 0), (.ldiv, 0, 0)] ⟨⟨d13_0, trivial⟩, ⟨d13_1, trivial⟩, ⟨d13_4, trivial⟩, ⟨d13_5, gf2_32⟩, ⟨d13_8, trivial⟩, ⟨d13_9, trivial⟩, ⟨d13_10, trivial⟩, ⟨d13_11, cn2_35⟩, ⟨d13_14, trivial⟩, ⟨d13_15, cn2_37⟩, ⟨d13_18, trivial⟩, trivial⟩ (lv' := [(0, aR 19 i), (1, aL n)]) (st' := [aL (((n * ((nI (1000 + (N 19 i 4))).toInt64)) + (Int64.ofNat 999)) / (Int64.ofNat 1000))]) (w' := wd N L) (P := [vld NN 19 i, ¬ (Int64.ofNat 1000) = 0]) rfl (⟨vN (t := 19) (i := i) (show i < 12 by omega), (by decide : ¬ (Int64.ofNat 1000 = 0))⟩) (pc' := 19) rfl ?_
  exact Sem.lret d13_19 rfl (by decide) (by decide) hzW ⟨congrArg (fun z => Sum.inl (some (aL z))) (show ((n * ((nI (1000 + (N 19 i 4))).toInt64)) + (Int64.ofNat 999)) / (Int64.ofNat 1000) = scr n (N 19 i 4) by rfl), rfl⟩

theorem m18 {sc : XT} (N : TN) (L : TL) (w : Nat) (hw : w < 13) : Sem sc 18 0 [(0, aR 12 0), (1, aN w)] [] (wd N L) 0 0 (QP (some (aL (if w < 1 then 0 else L 14 0 (w - 1)))) N L) := by
  refine Sem.seg [(.iload_n 1, 0, 0), (.iconst 1, 0, 0)] ⟨⟨d18_0, trivial⟩, ⟨d18_1, trivial⟩, trivial⟩ (lv' := [(0, aR 12 0), (1, aN w)]) (st' := [aN 1, aN w]) (w' := wd N L) (P := []) rfl (trivial) (pc' := 2) rfl ?_
  refine Sem.icmpN (tgt := 9) d18_2 (by decide) (show w < 2 ^ 31 by omega) (by decide) (fun b1 => ?_) (fun b1 => ?_)
  · have b1_ : 1 ≤ w := b1
    refine Sem.seg [(.aload_n 0, 0, 0), (.getfield 15, 3, 1), (.iload_n 1, 0, 0), (.iconst 1, 0, 0), (.isub, 0, 0)] ⟨⟨d18_9, trivial⟩, ⟨d18_10, gf3_15⟩, ⟨d18_13, trivial⟩, ⟨d18_14, trivial⟩, ⟨d18_15, trivial⟩, trivial⟩ (lv' := [(0, aR 12 0), (1, aN w)]) (st' := [aI ((nI w) - (nI 1)), aR 14 0]) (w' := wd N L) (P := [vld NN 12 0]) rfl (vN (t := 12) (i := 0) (by decide)) (pc' := 16) rfl ?_
    refine Sem.topN (show (nI w) - (nI 1) = nI (w - 1) from nI_sub (by omega)) ?_
    refine Sem.seg [(.laload, 0, 0)] ⟨⟨d18_16, trivial⟩, trivial⟩ (lv' := [(0, aR 12 0), (1, aN w)]) (st' := [aL (L 14 0 (w - 1))]) (w' := wd N L) (P := [vld NN 14 0, w - 1 < 12]) rfl (⟨vN (t := 14) (i := 0) (by decide), (show w - 1 < 12 by omega)⟩) (pc' := 17) rfl ?_
    exact Sem.lret d18_17 rfl (by decide) (by decide) hzW ⟨congrArg (fun z => Sum.inl (some (aL z))) (show L 14 0 (w - 1) = (if w < 1 then 0 else L 14 0 (w - 1)) by first | (rw [if_pos (by omega)]; rfl) | (rw [if_neg (by omega)]; done)), rfl⟩
  · have b1_ : ¬ (1 ≤ w) := b1
    refine Sem.seg [(.lconst 0, 0, 0)] ⟨⟨d18_5, trivial⟩, trivial⟩ (lv' := [(0, aR 12 0), (1, aN w)]) (st' := [aL (Int64.ofNat 0)]) (w' := wd N L) (P := []) rfl (trivial) (pc' := 6) rfl ?_
    refine Sem.goto (tgt := 17) d18_6 (by decide) ?_
    exact Sem.lret d18_17 rfl (by decide) (by decide) hzW ⟨congrArg (fun z => Sum.inl (some (aL z))) (show Int64.ofNat 0 = (if w < 1 then 0 else L 14 0 (w - 1)) by first | (rw [if_pos (by omega)]; rfl) | (rw [if_neg (by omega)]; done)), rfl⟩

theorem m21 {sc : XT} (N : TN) (L : TL) (n : Nat) (x : Int64) (hn : n < 2 ^ 31) : Sem sc 21 0 [(0, aN n), (1, aL x)] [] (wd N L) 0 0 (QP (some (aL (if n < 1 then x else (x + q64 n - Int64.ofNat 1) / q64 n * q64 n))) N L) := by
  refine Sem.seg [(.iload_n 0, 0, 0), (.iconst 1, 0, 0)] ⟨⟨d21_0, trivial⟩, ⟨d21_1, trivial⟩, trivial⟩ (lv' := [(0, aN n), (1, aL x)]) (st' := [aN 1, aN n]) (w' := wd N L) (P := []) rfl (trivial) (pc' := 2) rfl ?_
  refine Sem.icmpN (tgt := 9) d21_2 (by decide) (show n < 2 ^ 31 by omega) (by decide) (fun b1 => ?_) (fun b1 => ?_)
  · have b1_ : 1 ≤ n := b1
    refine Sem.seg [(.lload_n 1, 0, 0), (.iload_n 0, 0, 0), (.i2l, 0, 0), (.ladd, 0, 0), (.lconst 1, 0, 0), (.lsub, 0, 0), (.iload_n 0, 0, 0), (.i2l, 0, 0), (.ldiv, 0, 0), (.iload_n 0, 0, 0), (.i2l, 0, 0), (.lmul, 0, 0)] ⟨⟨d21_9, trivial⟩, ⟨d21_10, trivial⟩, ⟨d21_11, trivial⟩, ⟨d21_12, trivial⟩, ⟨d21_13, trivial⟩, ⟨d21_14, trivial⟩, ⟨d21_15, trivial⟩, ⟨d21_16, trivial⟩, ⟨d21_17, trivial⟩, ⟨d21_18, trivial⟩, ⟨d21_19, trivial⟩, ⟨d21_20, trivial⟩, trivial⟩ (lv' := [(0, aN n), (1, aL x)]) (st' := [aL ((((x + ((nI n).toInt64)) - (Int64.ofNat 1)) / ((nI n).toInt64)) * ((nI n).toInt64))]) (w' := wd N L) (P := [¬ ((nI n).toInt64) = 0]) rfl ((by exact q64_ne (by omega) hn)) (pc' := 21) rfl ?_
    exact Sem.lret d21_21 rfl (by decide) (by decide) hzW ⟨congrArg (fun z => Sum.inl (some (aL z))) (show (((x + ((nI n).toInt64)) - (Int64.ofNat 1)) / ((nI n).toInt64)) * ((nI n).toInt64) = (if n < 1 then x else (x + q64 n - Int64.ofNat 1) / q64 n * q64 n) by first | (rw [if_pos (by omega)]; done) | (rw [if_neg (by omega)]; done)), rfl⟩
  · have b1_ : ¬ (1 ≤ n) := b1
    refine Sem.seg [(.lload_n 1, 0, 0)] ⟨⟨d21_5, trivial⟩, trivial⟩ (lv' := [(0, aN n), (1, aL x)]) (st' := [aL x]) (w' := wd N L) (P := []) rfl (trivial) (pc' := 6) rfl ?_
    refine Sem.goto (tgt := 21) d21_6 (by decide) ?_
    exact Sem.lret d21_21 rfl (by decide) (by decide) hzW ⟨congrArg (fun z => Sum.inl (some (aL z))) (show x = (if n < 1 then x else (x + q64 n - Int64.ofNat 1) / q64 n * q64 n) by first | (rw [if_pos (by omega)]; done) | (rw [if_neg (by omega)]; done)), rfl⟩

theorem m52 {sc : XT} (N : TN) (L : TL) (b k n : Nat) (hb : b < 3) (hk : k < 24) : Sem sc 52 0 [(0, aR 8 b), (1, aN k), (2, aN n)] [] (wd N L) 0 0 (QP (some (aN (N 11 b k))) (upN N 11 b k n) L) := by
  refine Sem.seg [(.aload_n 0, 0, 0), (.getfield 18, 1, 2), (.iload_n 1, 0, 0), (.iaload, 0, 0), (.istore_n 3, 0, 0), (.aload_n 0, 0, 0), (.getfield 18, 1, 2), (.iload_n 1, 0, 0), (.iload_n 2, 0, 0), (.iastore, 0, 0), (.iload_n 3, 0, 0)] ⟨⟨d52_0, trivial⟩, ⟨d52_1, gf1_18⟩, ⟨d52_4, trivial⟩, ⟨d52_5, trivial⟩, ⟨d52_6, trivial⟩, ⟨d52_7, trivial⟩, ⟨d52_8, gf1_18⟩, ⟨d52_11, trivial⟩, ⟨d52_12, trivial⟩, ⟨d52_13, trivial⟩, ⟨d52_14, trivial⟩, trivial⟩ (lv' := [(3, aN (N 11 b k)), (0, aR 8 b), (1, aN k), (2, aN n)]) (st' := [aN (N 11 b k)]) (w' := wd (upN N 11 b k n) L) (P := [vld NN 8 b, vld NN 11 b, k < 24, vld NN 8 b, vld NN 11 b, k < 24]) rfl (⟨vN (t := 8) (i := b) (show b < 3 by omega), vN (t := 11) (i := b) (show b < 3 by omega), (show k < 24 by omega), vN (t := 8) (i := b) (show b < 3 by omega), vN (t := 11) (i := b) (show b < 3 by omega), (show k < 24 by omega)⟩) (pc' := 15) rfl ?_
  exact Sem.iret rfl d52_15 (Or.inl rfl) (by decide) (by decide) hzW ⟨rfl, rfl⟩

theorem m48 {sc : XT} (N : TN) (L : TL) (b i w n : Nat) (hb : b < 3) (hk : N 8 b 3 < 24) : Sem sc 48 0 [(0, aR 8 b), (1, aN i), (2, aN w), (3, aN n)] [] (wd N L) 0 0 (QP (some (aN (N 8 b 3))) (upN (upN (upN (upN N 9 b (N 8 b 3) i) 10 b (N 8 b 3) w) 11 b (N 8 b 3) n) 8 b 3 (N 8 b 3 + 1)) L) := by
  refine Sem.seg [(.aload_n 0, 0, 0)] ⟨⟨d48_0, trivial⟩, trivial⟩ (lv' := [(0, aR 8 b), (1, aN i), (2, aN w), (3, aN n)]) (st' := [aR 8 b]) (w' := wd N L) (P := []) rfl (trivial) (pc' := 1) rfl ?_
  refine Sem.cVp1 (t := 8) (i := b) (as := []) (rst := []) (c' := 0) (s' := 0) d48_1 mk47 rfl co47 lk1_25 im47 se47 rfl (vN (t := 8) (i := b) (show b < 3 by omega)) (show 1 ≤ mL 47 by decide) rfl (show 0 ≤ 8 by decide) (by decide) (by decide) rfl rfl (by decide) (by decide) (m47 N L b hb (by omega)) ?_
  refine Sem.topNN (show (if N 8 b 3 < 24 then 0 else 1) = 0 from if_pos hk) ?_
  refine Sem.ifN (tgt := 9) d48_4 (by decide) (by decide) (fun b1 => ?_) (fun b1 => ?_)
  rotate_left
  · exact absurd (show 0 = 0 from by decide) b1
  refine Sem.seg [(.aload_n 0, 0, 0), (.getfield 9, 1, 0), (.aload_n 0, 0, 0), (.getfield 21, 1, 3), (.iload_n 1, 0, 0), (.iastore, 0, 0), (.aload_n 0, 0, 0), (.getfield 15, 1, 1), (.aload_n 0, 0, 0), (.getfield 21, 1, 3), (.iload_n 2, 0, 0), (.iastore, 0, 0), (.aload_n 0, 0, 0), (.getfield 18, 1, 2), (.aload_n 0, 0, 0), (.getfield 21, 1, 3), (.iload_n 3, 0, 0), (.iastore, 0, 0), (.aload_n 0, 0, 0), (.dup, 0, 0), (.getfield 21, 1, 3), (.iconst 1, 0, 0), (.iadd, 0, 0), (.putfield 21, 1, 3), (.aload_n 0, 0, 0), (.getfield 21, 1, 3)] ⟨⟨d48_9, trivial⟩, ⟨d48_10, gf1_9⟩, ⟨d48_13, trivial⟩, ⟨d48_14, gf1_21⟩, ⟨d48_17, trivial⟩, ⟨d48_18, trivial⟩, ⟨d48_19, trivial⟩, ⟨d48_20, gf1_15⟩, ⟨d48_23, trivial⟩, ⟨d48_24, gf1_21⟩, ⟨d48_27, trivial⟩, ⟨d48_28, trivial⟩, ⟨d48_29, trivial⟩, ⟨d48_30, gf1_18⟩, ⟨d48_33, trivial⟩, ⟨d48_34, gf1_21⟩, ⟨d48_37, trivial⟩, ⟨d48_38, trivial⟩, ⟨d48_39, trivial⟩, ⟨d48_40, trivial⟩, ⟨d48_41, gf1_21⟩, ⟨d48_44, trivial⟩, ⟨d48_45, trivial⟩, ⟨d48_46, gf1_21⟩, ⟨d48_49, trivial⟩, ⟨d48_50, gf1_21⟩, trivial⟩ (lv' := [(0, aR 8 b), (1, aN i), (2, aN w), (3, aN n)]) (st' := [aN ((upN (upN (upN (upN N 9 b (N 8 b 3) i) 10 b (N 8 b 3) w) 11 b (N 8 b 3) n) 8 b 3 ((N 8 b 3) + 1)) 8 b 3)]) (w' := wd (upN (upN (upN (upN N 9 b (N 8 b 3) i) 10 b (N 8 b 3) w) 11 b (N 8 b 3) n) 8 b 3 ((N 8 b 3) + 1)) L) (P := [vld NN 8 b, vld NN 8 b, vld NN 9 b, N 8 b 3 < 24, vld NN 8 b, vld NN 8 b, vld NN 10 b, N 8 b 3 < 24, vld NN 8 b, vld NN 8 b, vld NN 11 b, N 8 b 3 < 24, vld NN 8 b, vld NN 8 b, vld NN 8 b]) rfl (⟨vN (t := 8) (i := b) (show b < 3 by omega), vN (t := 8) (i := b) (show b < 3 by omega), vN (t := 9) (i := b) (show b < 3 by omega), (show N 8 b 3 < 24 by omega), vN (t := 8) (i := b) (show b < 3 by omega), vN (t := 8) (i := b) (show b < 3 by omega), vN (t := 10) (i := b) (show b < 3 by omega), (show N 8 b 3 < 24 by omega), vN (t := 8) (i := b) (show b < 3 by omega), vN (t := 8) (i := b) (show b < 3 by omega), vN (t := 11) (i := b) (show b < 3 by omega), (show N 8 b 3 < 24 by omega), vN (t := 8) (i := b) (show b < 3 by omega), vN (t := 8) (i := b) (show b < 3 by omega), vN (t := 8) (i := b) (show b < 3 by omega)⟩) (pc' := 53) rfl ?_
  refine Sem.topNN (show (upN (upN (upN (upN N 9 b (N 8 b 3) i) 10 b (N 8 b 3) w) 11 b (N 8 b 3) n) 8 b 3 ((N 8 b 3) + 1)) 8 b 3 = (N 8 b 3) + 1 by simp [upN, upL]) ?_
  refine Sem.seg [(.iconst 1, 0, 0), (.isub, 0, 0)] ⟨⟨d48_53, trivial⟩, ⟨d48_54, trivial⟩, trivial⟩ (lv' := [(0, aR 8 b), (1, aN i), (2, aN w), (3, aN n)]) (st' := [aI ((nI ((N 8 b 3) + 1)) - (nI 1))]) (w' := wd (upN (upN (upN (upN N 9 b (N 8 b 3) i) 10 b (N 8 b 3) w) 11 b (N 8 b 3) n) 8 b 3 ((N 8 b 3) + 1)) L) (P := []) rfl (trivial) (pc' := 55) rfl ?_
  refine Sem.topN (show (nI ((N 8 b 3) + 1)) - (nI 1) = nI (N 8 b 3) from nI_sub (a := N 8 b 3 + 1) (b := 1) (by omega)) ?_
  exact Sem.iret rfl d48_55 (Or.inl rfl) (by decide) (by decide) hzW ⟨rfl, rfl⟩

theorem m14 {sc : XT} (N : TN) (L : TL) (i : Nat) (hi : i < 12) : Sem sc 14 0 [(0, aR 19 i), (1, aR 17 0)] [] (wd N L) 0 0 (QP (some (aN (bo (∀ w, w < 12 → L 20 i w = L 17 0 w)))) N L) := by
  refine Sem.seg [(.iconst 0, 0, 0), (.istore_n 2, 0, 0)] ⟨⟨d14_0, trivial⟩, ⟨d14_1, trivial⟩, trivial⟩ (lv' := [(2, aN 0), (0, aR 19 i), (1, aR 17 0)]) (st' := []) (w' := wd N L) (P := []) rfl (trivial) (pc' := 2) rfl ?_
  have lp : ∀ (d : Nat) (w : Nat), 12 - w = d → (w ≤ 12) → (∀ v, v < w → L 20 i v = L 17 0 v) → Sem sc 14 2 [(0, aR 19 i), (1, aR 17 0), (2, aN w)] [] (wd N L) 0 0 (QP (some (aN (bo (∀ w, w < 12 → L 20 i w = L 17 0 w)))) N L) := by
    intro d
    induction d using Nat.strongRecOn with
    | ind d ih =>
      intro w hd hw ha
      refine Sem.seg [(.iload_n 2, 0, 0), (.bipush 12, 0, 0)] ⟨⟨d14_2, trivial⟩, ⟨d14_3, trivial⟩, trivial⟩ (lv' := [(0, aR 19 i), (1, aR 17 0), (2, aN w)]) (st' := [aN 12, aN w]) (w' := wd N L) (P := []) rfl (trivial) (pc' := 5) rfl ?_
      refine Sem.icmpN (tgt := 29) d14_5 (by decide) (show w < 2 ^ 31 by omega) (by decide) (fun b1 => ?_) (fun b1 => ?_)
      · have b1_ : 12 ≤ w := b1
        refine Sem.seg [(.iconst 1, 0, 0)] ⟨⟨d14_29, trivial⟩, trivial⟩ (lv' := [(0, aR 19 i), (1, aR 17 0), (2, aN w)]) (st' := [aN 1]) (w' := wd N L) (P := []) rfl (trivial) (pc' := 30) rfl ?_
        exact Sem.iret rfl d14_30 (Or.inr ⟨rfl, by decide⟩) (by decide) (by decide) hzW ⟨congrArg (fun z => Sum.inl (some (aN z))) (show 1 = bo (∀ w, w < 12 → L 20 i w = L 17 0 w) by rw [bo_t (fun v hv => ha v (by omega))]), rfl⟩
      · have b1_ : ¬ (12 ≤ w) := b1
        refine Sem.seg [(.aload_n 0, 0, 0), (.getfield 19, 2, 11), (.iload_n 2, 0, 0), (.laload, 0, 0), (.aload_n 1, 0, 0), (.iload_n 2, 0, 0), (.laload, 0, 0)] ⟨⟨d14_8, trivial⟩, ⟨d14_9, gf2_19⟩, ⟨d14_12, trivial⟩, ⟨d14_13, trivial⟩, ⟨d14_14, trivial⟩, ⟨d14_15, trivial⟩, ⟨d14_16, trivial⟩, trivial⟩ (lv' := [(0, aR 19 i), (1, aR 17 0), (2, aN w)]) (st' := [aL (L 17 0 w), aL (L 20 i w)]) (w' := wd N L) (P := [vld NN 19 i, vld NN 20 i, w < 12, vld NN 17 0, w < 12]) rfl (⟨vN (t := 19) (i := i) (show i < 12 by omega), vN (t := 20) (i := i) (show i < 12 by omega), (show w < 12 by omega), vN (t := 17) (i := 0) (by decide), (show w < 12 by omega)⟩) (pc' := 17) rfl ?_
        refine Sem.lcmp (tgt := 23) d14_17 d14_18 (by decide) (fun b2 => ?_) (fun b2 => ?_)
        · have b2_ : L 20 i w = L 17 0 w := b2
          refine Sem.seg [(.iinc 2 1, 0, 0)] ⟨⟨d14_23, trivial⟩, trivial⟩ (lv' := [(2, aN (w + 1)), (0, aR 19 i), (1, aR 17 0)]) (st' := []) (w' := wd N L) (P := []) rfl (trivial) (pc' := 26) rfl ?_
          refine Sem.goto (tgt := 2) d14_26 (by decide) ?_
          refine Sem.pick [1, 2, 0] (lv' := [(0, aR 19 i), (1, aR 17 0), (2, aN (w + 1))]) rfl ?_
          exact ih _ (by omega) (w + 1) rfl (by omega) (all_s ha b2_)
        · have b2_ : ¬ (L 20 i w = L 17 0 w) := b2
          refine Sem.seg [(.iconst 0, 0, 0)] ⟨⟨d14_21, trivial⟩, trivial⟩ (lv' := [(0, aR 19 i), (1, aR 17 0), (2, aN w)]) (st' := [aN 0]) (w' := wd N L) (P := []) rfl (trivial) (pc' := 22) rfl ?_
          exact Sem.iret rfl d14_22 (Or.inr ⟨rfl, by decide⟩) (by decide) (by decide) hzW ⟨congrArg (fun z => Sum.inl (some (aN z))) (show 0 = bo (∀ w, w < 12 → L 20 i w = L 17 0 w) by rw [bo_f (fun q => b2_ (q w (by omega)))]), rfl⟩
  refine Sem.pick [1, 2, 0] (lv' := [(0, aR 19 i), (1, aR 17 0), (2, aN 0)]) rfl ?_
  exact lp _ 0 rfl (by omega) (fun v hv => absurd hv (by omega))

theorem m85 {sc : XT} (N : TN) (L : TL) (i : Nat) (hi : i < 12) : Sem sc 85 0 [(0, aR 19 i)] [] (wd N L) 0 0 (QP (some (aN (bo (¬ ∀ w, w < 12 → ¬ L 22 i w < 0)))) N L) := by
  refine Sem.seg [(.iconst 0, 0, 0), (.istore_n 1, 0, 0)] ⟨⟨d85_0, trivial⟩, ⟨d85_1, trivial⟩, trivial⟩ (lv' := [(1, aN 0), (0, aR 19 i)]) (st' := []) (w' := wd N L) (P := []) rfl (trivial) (pc' := 2) rfl ?_
  have lp : ∀ (d : Nat) (w : Nat), 12 - w = d → (w ≤ 12) → (∀ v, v < w → ¬ L 22 i v < 0) → Sem sc 85 2 [(0, aR 19 i), (1, aN w)] [] (wd N L) 0 0 (QP (some (aN (bo (¬ ∀ w, w < 12 → ¬ L 22 i w < 0)))) N L) := by
    intro d
    induction d using Nat.strongRecOn with
    | ind d ih =>
      intro w hd hw ha
      refine Sem.seg [(.iload_n 1, 0, 0), (.bipush 12, 0, 0)] ⟨⟨d85_2, trivial⟩, ⟨d85_3, trivial⟩, trivial⟩ (lv' := [(0, aR 19 i), (1, aN w)]) (st' := [aN 12, aN w]) (w' := wd N L) (P := []) rfl (trivial) (pc' := 5) rfl ?_
      refine Sem.icmpN (tgt := 27) d85_5 (by decide) (show w < 2 ^ 31 by omega) (by decide) (fun b1 => ?_) (fun b1 => ?_)
      · have b1_ : 12 ≤ w := b1
        refine Sem.seg [(.iconst 0, 0, 0)] ⟨⟨d85_27, trivial⟩, trivial⟩ (lv' := [(0, aR 19 i), (1, aN w)]) (st' := [aN 0]) (w' := wd N L) (P := []) rfl (trivial) (pc' := 28) rfl ?_
        exact Sem.iret rfl d85_28 (Or.inr ⟨rfl, by decide⟩) (by decide) (by decide) hzW ⟨congrArg (fun z => Sum.inl (some (aN z))) (show 0 = bo (¬ ∀ w, w < 12 → ¬ L 22 i w < 0) by rw [bo_f (fun q => q (fun v hv => ha v (by omega)))]), rfl⟩
      · have b1_ : ¬ (12 ≤ w) := b1
        refine Sem.seg [(.aload_n 0, 0, 0), (.getfield 26, 2, 13), (.iload_n 1, 0, 0), (.laload, 0, 0), (.lconst 0, 0, 0)] ⟨⟨d85_8, trivial⟩, ⟨d85_9, gf2_26⟩, ⟨d85_12, trivial⟩, ⟨d85_13, trivial⟩, ⟨d85_14, trivial⟩, trivial⟩ (lv' := [(0, aR 19 i), (1, aN w)]) (st' := [aL (Int64.ofNat 0), aL (L 22 i w)]) (w' := wd N L) (P := [vld NN 19 i, vld NN 22 i, w < 12]) rfl (⟨vN (t := 19) (i := i) (show i < 12 by omega), vN (t := 22) (i := i) (show i < 12 by omega), (show w < 12 by omega)⟩) (pc' := 15) rfl ?_
        refine Sem.lcmp (tgt := 21) d85_15 d85_16 (by decide) (fun b2 => ?_) (fun b2 => ?_)
        · have b2_ : Int64.ofNat 0 ≤ L 22 i w := b2
          refine Sem.seg [(.iinc 1 1, 0, 0)] ⟨⟨d85_21, trivial⟩, trivial⟩ (lv' := [(1, aN (w + 1)), (0, aR 19 i)]) (st' := []) (w' := wd N L) (P := []) rfl (trivial) (pc' := 24) rfl ?_
          refine Sem.goto (tgt := 2) d85_24 (by decide) ?_
          refine Sem.pick [1, 0] (lv' := [(0, aR 19 i), (1, aN (w + 1))]) rfl ?_
          exact ih _ (by omega) (w + 1) rfl (by omega) (all_s ha (Int64.not_lt.mpr b2_))
        · have b2_ : ¬ (Int64.ofNat 0 ≤ L 22 i w) := b2
          refine Sem.seg [(.iconst 1, 0, 0)] ⟨⟨d85_19, trivial⟩, trivial⟩ (lv' := [(0, aR 19 i), (1, aN w)]) (st' := [aN 1]) (w' := wd N L) (P := []) rfl (trivial) (pc' := 20) rfl ?_
          exact Sem.iret rfl d85_20 (Or.inr ⟨rfl, by decide⟩) (by decide) (by decide) hzW ⟨congrArg (fun z => Sum.inl (some (aN z))) (show 1 = bo (¬ ∀ w, w < 12 → ¬ L 22 i w < 0) by rw [bo_t (fun q => q w (by omega) (Int64.not_le.mp b2_))]), rfl⟩
  refine Sem.pick [1, 0] (lv' := [(0, aR 19 i), (1, aN 0)]) rfl ?_
  exact lp _ 0 rfl (by omega) (fun v hv => absurd hv (by omega))

theorem m60 {sc : XT} (N : TN) (L : TL) (ht : ∀ i, i < 12 → N 19 i 10 ≤ 1) : Sem sc 60 0 [(0, aR 0 0)] [] (wd N L) 0 0 (QP (some (aN (bo (¬ ∀ i, i < 12 → N 19 i 10 = 0)))) N L) := by
  refine Sem.seg [(.iconst 0, 0, 0), (.istore_n 1, 0, 0)] ⟨⟨d60_0, trivial⟩, ⟨d60_1, trivial⟩, trivial⟩ (lv' := [(1, aN 0), (0, aR 0 0)]) (st' := []) (w' := wd N L) (P := []) rfl (trivial) (pc' := 2) rfl ?_
  have lp : ∀ (d : Nat) (w : Nat), 12 - w = d → (w ≤ 12) → (∀ v, v < w → N 19 v 10 = 0) → Sem sc 60 2 [(0, aR 0 0), (1, aN w)] [] (wd N L) 0 0 (QP (some (aN (bo (¬ ∀ i, i < 12 → N 19 i 10 = 0)))) N L) := by
    intro d
    induction d using Nat.strongRecOn with
    | ind d ih =>
      intro w hd hw ha
      refine Sem.seg [(.iload_n 1, 0, 0), (.bipush 12, 0, 0)] ⟨⟨d60_2, trivial⟩, ⟨d60_3, trivial⟩, trivial⟩ (lv' := [(0, aR 0 0), (1, aN w)]) (st' := [aN 12, aN w]) (w' := wd N L) (P := []) rfl (trivial) (pc' := 5) rfl ?_
      refine Sem.icmpN (tgt := 28) d60_5 (by decide) (show w < 2 ^ 31 by omega) (by decide) (fun b1 => ?_) (fun b1 => ?_)
      · have b1_ : 12 ≤ w := b1
        refine Sem.seg [(.iconst 0, 0, 0)] ⟨⟨d60_28, trivial⟩, trivial⟩ (lv' := [(0, aR 0 0), (1, aN w)]) (st' := [aN 0]) (w' := wd N L) (P := []) rfl (trivial) (pc' := 29) rfl ?_
        exact Sem.iret rfl d60_29 (Or.inr ⟨rfl, by decide⟩) (by decide) (by decide) hzW ⟨congrArg (fun z => Sum.inl (some (aN z))) (show 0 = bo (¬ ∀ i, i < 12 → N 19 i 10 = 0) by rw [bo_f (fun q => q (fun v hv => ha v (by omega)))]), rfl⟩
      · have b1_ : ¬ (12 ≤ w) := b1
        have ht_ := ht w (by omega)
        refine Sem.seg [(.aload_n 0, 0, 0), (.getfield 11, 4, 0), (.iload_n 1, 0, 0), (.aaload, 0, 0), (.getfield 71, 2, 10)] ⟨⟨d60_8, trivial⟩, ⟨d60_9, gf4_11⟩, ⟨d60_12, trivial⟩, ⟨d60_13, trivial⟩, ⟨d60_14, gf4_71⟩, trivial⟩ (lv' := [(0, aR 0 0), (1, aN w)]) (st' := [aN (N 19 w 10)]) (w' := wd N L) (P := [vld NN 0 0, vld NN 1 0, w < 12, vld NN 19 w]) rfl (⟨vN (t := 0) (i := 0) (by decide), vN (t := 1) (i := 0) (by decide), (show w < 12 by omega), vN (t := 19) (i := w) (show w < 12 by omega)⟩) (pc' := 17) rfl ?_
        refine Sem.ifN (tgt := 22) d60_17 (by decide) (show N 19 w 10 < 2 ^ 31 by omega) (fun b2 => ?_) (fun b2 => ?_)
        · have b2_ : N 19 w 10 = 0 := b2
          refine Sem.seg [(.iinc 1 1, 0, 0)] ⟨⟨d60_22, trivial⟩, trivial⟩ (lv' := [(1, aN (w + 1)), (0, aR 0 0)]) (st' := []) (w' := wd N L) (P := []) rfl (trivial) (pc' := 25) rfl ?_
          refine Sem.goto (tgt := 2) d60_25 (by decide) ?_
          refine Sem.pick [1, 0] (lv' := [(0, aR 0 0), (1, aN (w + 1))]) rfl ?_
          exact ih _ (by omega) (w + 1) rfl (by omega) (all_s ha b2_)
        · have b2_ : ¬ (N 19 w 10 = 0) := b2
          refine Sem.seg [(.iconst 1, 0, 0)] ⟨⟨d60_20, trivial⟩, trivial⟩ (lv' := [(0, aR 0 0), (1, aN w)]) (st' := [aN 1]) (w' := wd N L) (P := []) rfl (trivial) (pc' := 21) rfl ?_
          exact Sem.iret rfl d60_21 (Or.inr ⟨rfl, by decide⟩) (by decide) (by decide) hzW ⟨congrArg (fun z => Sum.inl (some (aN z))) (show 1 = bo (¬ ∀ i, i < 12 → N 19 i 10 = 0) by rw [bo_t (fun q => b2_ (q w (by omega)))]), rfl⟩
  refine Sem.pick [1, 0] (lv' := [(0, aR 0 0), (1, aN 0)]) rfl ?_
  exact lp _ 0 rfl (by omega) (fun v hv => absurd hv (by omega))

theorem m70g {sc : XT} (N : TN) (L : TL) (i u : Nat) (x : Int32) (hi : i < 12) (hx : x.toInt = (u : Int) - 1) (hu : u ≤ 12) : Sem sc 70 0 [(0, aR 20 i), (1, aI x)] [] (wd N L) 0 0 (QP (some (aL (sm (L 20 i) u))) N L) := by
  refine Sem.seg [(.lconst 0, 0, 0), (.lstore_n 2, 0, 0), (.iconst 0, 0, 0), (.istore 4, 0, 0)] ⟨⟨d70_0, trivial⟩, ⟨d70_1, trivial⟩, ⟨d70_2, trivial⟩, ⟨d70_3, trivial⟩, trivial⟩ (lv' := [(4, aN 0), (2, aL (Int64.ofNat 0)), (0, aR 20 i), (1, aI x)]) (st' := []) (w' := wd N L) (P := []) rfl (trivial) (pc' := 5) rfl ?_
  have lp : ∀ (d : Nat) (w : Nat) (s : Int64), 12 - w = d → (w ≤ u) → (s = sm (L 20 i) w) → Sem sc 70 5 [(0, aR 20 i), (1, aI x), (2, aL s), (4, aN w)] [] (wd N L) 0 0 (QP (some (aL (sm (L 20 i) u))) N L) := by
    intro d
    induction d using Nat.strongRecOn with
    | ind d ih =>
      intro w s hd hw hs
      refine Sem.seg [(.iload 4, 0, 0), (.bipush 12, 0, 0)] ⟨⟨d70_5, trivial⟩, ⟨d70_7, trivial⟩, trivial⟩ (lv' := [(0, aR 20 i), (1, aI x), (2, aL s), (4, aN w)]) (st' := [aN 12, aN w]) (w' := wd N L) (P := []) rfl (trivial) (pc' := 9) rfl ?_
      refine Sem.icmpN (tgt := 31) d70_9 (by decide) (show w < 2 ^ 31 by omega) (by decide) (fun b1 => ?_) (fun b1 => ?_)
      · have b1_ : 12 ≤ w := b1
        refine Sem.seg [(.lload_n 2, 0, 0)] ⟨⟨d70_31, trivial⟩, trivial⟩ (lv' := [(0, aR 20 i), (1, aI x), (2, aL s), (4, aN w)]) (st' := [aL s]) (w' := wd N L) (P := []) rfl (trivial) (pc' := 32) rfl ?_
        exact Sem.lret d70_32 rfl (by decide) (by decide) hzW ⟨congrArg (fun z => Sum.inl (some (aL z))) (show s = sm (L 20 i) u by rw [hs, show w = u by omega]), rfl⟩
      · have b1_ : ¬ (12 ≤ w) := b1
        refine Sem.seg [(.iload 4, 0, 0), (.iload_n 1, 0, 0)] ⟨⟨d70_12, trivial⟩, ⟨d70_14, trivial⟩, trivial⟩ (lv' := [(0, aR 20 i), (1, aI x), (2, aL s), (4, aN w)]) (st' := [aI x, aN w]) (w' := wd N L) (P := []) rfl (trivial) (pc' := 15) rfl ?_
        refine Sem.icmp (tgt := 31) d70_15 (by decide) rfl rfl (fun b2 => ?_) (fun b2 => ?_)
        · have b2_ : x.toInt < ((w : Nat) : Int) := bT (nI_toInt (show w < 2 ^ 31 by omega)) rfl b2
          refine Sem.seg [(.lload_n 2, 0, 0)] ⟨⟨d70_31, trivial⟩, trivial⟩ (lv' := [(0, aR 20 i), (1, aI x), (2, aL s), (4, aN w)]) (st' := [aL s]) (w' := wd N L) (P := []) rfl (trivial) (pc' := 32) rfl ?_
          exact Sem.lret d70_32 rfl (by decide) (by decide) hzW ⟨congrArg (fun z => Sum.inl (some (aL z))) (show s = sm (L 20 i) u by rw [hs, show w = u by omega]), rfl⟩
        · have b2_ : ¬ (x.toInt < ((w : Nat) : Int)) := bF (nI_toInt (show w < 2 ^ 31 by omega)) rfl b2
          refine Sem.seg [(.lload_n 2, 0, 0), (.aload_n 0, 0, 0), (.iload 4, 0, 0), (.laload, 0, 0), (.ladd, 0, 0), (.lstore_n 2, 0, 0), (.iinc 4 1, 0, 0)] ⟨⟨d70_18, trivial⟩, ⟨d70_19, trivial⟩, ⟨d70_20, trivial⟩, ⟨d70_22, trivial⟩, ⟨d70_23, trivial⟩, ⟨d70_24, trivial⟩, ⟨d70_25, trivial⟩, trivial⟩ (lv' := [(4, aN (w + 1)), (2, aL (s + (L 20 i w))), (0, aR 20 i), (1, aI x)]) (st' := []) (w' := wd N L) (P := [vld NN 20 i, w < 12]) rfl (⟨vN (t := 20) (i := i) (show i < 12 by omega), (show w < 12 by omega)⟩) (pc' := 28) rfl ?_
          refine Sem.goto (tgt := 5) d70_28 (by decide) ?_
          refine Sem.pick [2, 3, 1, 0] (lv' := [(0, aR 20 i), (1, aI x), (2, aL (s + (L 20 i w))), (4, aN (w + 1))]) rfl ?_
          exact ih _ (by omega) (w + 1) (s + (L 20 i w)) rfl (by omega) (by rw [hs]; rfl)
  refine Sem.pick [2, 3, 1, 0] (lv' := [(0, aR 20 i), (1, aI x), (2, aL (Int64.ofNat 0)), (4, aN 0)]) rfl ?_
  exact lp _ 0 (Int64.ofNat 0) rfl (by omega) (rfl)

theorem m70p {sc : XT} (N : TN) (L : TL) (i u : Nat) (x : Int32) (hi : i < 12) (hx : x.toInt = (u : Int) - 1) (hu : u ≤ 12) : Sem sc 70 0 [(0, aR 21 i), (1, aI x)] [] (wd N L) 0 0 (QP (some (aL (sm (L 21 i) u))) N L) := by
  refine Sem.seg [(.lconst 0, 0, 0), (.lstore_n 2, 0, 0), (.iconst 0, 0, 0), (.istore 4, 0, 0)] ⟨⟨d70_0, trivial⟩, ⟨d70_1, trivial⟩, ⟨d70_2, trivial⟩, ⟨d70_3, trivial⟩, trivial⟩ (lv' := [(4, aN 0), (2, aL (Int64.ofNat 0)), (0, aR 21 i), (1, aI x)]) (st' := []) (w' := wd N L) (P := []) rfl (trivial) (pc' := 5) rfl ?_
  have lp : ∀ (d : Nat) (w : Nat) (s : Int64), 12 - w = d → (w ≤ u) → (s = sm (L 21 i) w) → Sem sc 70 5 [(0, aR 21 i), (1, aI x), (2, aL s), (4, aN w)] [] (wd N L) 0 0 (QP (some (aL (sm (L 21 i) u))) N L) := by
    intro d
    induction d using Nat.strongRecOn with
    | ind d ih =>
      intro w s hd hw hs
      refine Sem.seg [(.iload 4, 0, 0), (.bipush 12, 0, 0)] ⟨⟨d70_5, trivial⟩, ⟨d70_7, trivial⟩, trivial⟩ (lv' := [(0, aR 21 i), (1, aI x), (2, aL s), (4, aN w)]) (st' := [aN 12, aN w]) (w' := wd N L) (P := []) rfl (trivial) (pc' := 9) rfl ?_
      refine Sem.icmpN (tgt := 31) d70_9 (by decide) (show w < 2 ^ 31 by omega) (by decide) (fun b1 => ?_) (fun b1 => ?_)
      · have b1_ : 12 ≤ w := b1
        refine Sem.seg [(.lload_n 2, 0, 0)] ⟨⟨d70_31, trivial⟩, trivial⟩ (lv' := [(0, aR 21 i), (1, aI x), (2, aL s), (4, aN w)]) (st' := [aL s]) (w' := wd N L) (P := []) rfl (trivial) (pc' := 32) rfl ?_
        exact Sem.lret d70_32 rfl (by decide) (by decide) hzW ⟨congrArg (fun z => Sum.inl (some (aL z))) (show s = sm (L 21 i) u by rw [hs, show w = u by omega]), rfl⟩
      · have b1_ : ¬ (12 ≤ w) := b1
        refine Sem.seg [(.iload 4, 0, 0), (.iload_n 1, 0, 0)] ⟨⟨d70_12, trivial⟩, ⟨d70_14, trivial⟩, trivial⟩ (lv' := [(0, aR 21 i), (1, aI x), (2, aL s), (4, aN w)]) (st' := [aI x, aN w]) (w' := wd N L) (P := []) rfl (trivial) (pc' := 15) rfl ?_
        refine Sem.icmp (tgt := 31) d70_15 (by decide) rfl rfl (fun b2 => ?_) (fun b2 => ?_)
        · have b2_ : x.toInt < ((w : Nat) : Int) := bT (nI_toInt (show w < 2 ^ 31 by omega)) rfl b2
          refine Sem.seg [(.lload_n 2, 0, 0)] ⟨⟨d70_31, trivial⟩, trivial⟩ (lv' := [(0, aR 21 i), (1, aI x), (2, aL s), (4, aN w)]) (st' := [aL s]) (w' := wd N L) (P := []) rfl (trivial) (pc' := 32) rfl ?_
          exact Sem.lret d70_32 rfl (by decide) (by decide) hzW ⟨congrArg (fun z => Sum.inl (some (aL z))) (show s = sm (L 21 i) u by rw [hs, show w = u by omega]), rfl⟩
        · have b2_ : ¬ (x.toInt < ((w : Nat) : Int)) := bF (nI_toInt (show w < 2 ^ 31 by omega)) rfl b2
          refine Sem.seg [(.lload_n 2, 0, 0), (.aload_n 0, 0, 0), (.iload 4, 0, 0), (.laload, 0, 0), (.ladd, 0, 0), (.lstore_n 2, 0, 0), (.iinc 4 1, 0, 0)] ⟨⟨d70_18, trivial⟩, ⟨d70_19, trivial⟩, ⟨d70_20, trivial⟩, ⟨d70_22, trivial⟩, ⟨d70_23, trivial⟩, ⟨d70_24, trivial⟩, ⟨d70_25, trivial⟩, trivial⟩ (lv' := [(4, aN (w + 1)), (2, aL (s + (L 21 i w))), (0, aR 21 i), (1, aI x)]) (st' := []) (w' := wd N L) (P := [vld NN 21 i, w < 12]) rfl (⟨vN (t := 21) (i := i) (show i < 12 by omega), (show w < 12 by omega)⟩) (pc' := 28) rfl ?_
          refine Sem.goto (tgt := 5) d70_28 (by decide) ?_
          refine Sem.pick [2, 3, 1, 0] (lv' := [(0, aR 21 i), (1, aI x), (2, aL (s + (L 21 i w))), (4, aN (w + 1))]) rfl ?_
          exact ih _ (by omega) (w + 1) (s + (L 21 i w)) rfl (by omega) (by rw [hs]; rfl)
  refine Sem.pick [2, 3, 1, 0] (lv' := [(0, aR 21 i), (1, aI x), (2, aL (Int64.ofNat 0)), (4, aN 0)]) rfl ?_
  exact lp _ 0 (Int64.ofNat 0) rfl (by omega) (rfl)

theorem m68 {sc : XT} (N : TN) (L : TL) (b i u : Nat) (x : Int32) (hb : b < 3) (hi : i < 12) (hx : x.toInt = (u : Int) - 1) (hs : N 8 b 3 ≤ 24) (hI : ∀ k, k < N 8 b 3 → N 9 b k < 12) (hW : ∀ k, k < N 8 b 3 → N 10 b k < 12) : Sem sc 68 0 [(0, aR 8 b), (1, aN i), (2, aI x)] [] (wd N L) 0 0 (QP (some (aL (bsm (N 9 b) (N 10 b) (N 11 b) i u (N 8 b 3)))) N L) := by
  refine Sem.seg [(.lconst 0, 0, 0), (.lstore_n 3, 0, 0), (.iconst 0, 0, 0), (.istore 5, 0, 0)] ⟨⟨d68_0, trivial⟩, ⟨d68_1, trivial⟩, ⟨d68_2, trivial⟩, ⟨d68_3, trivial⟩, trivial⟩ (lv' := [(5, aN 0), (3, aL (Int64.ofNat 0)), (0, aR 8 b), (1, aN i), (2, aI x)]) (st' := []) (w' := wd N L) (P := []) rfl (trivial) (pc' := 5) rfl ?_
  have lp : ∀ (d : Nat) (k : Nat) (s : Int64), N 8 b 3 - k = d → (k ≤ N 8 b 3) → (s = bsm (N 9 b) (N 10 b) (N 11 b) i u k) → Sem sc 68 5 [(0, aR 8 b), (1, aN i), (2, aI x), (3, aL s), (5, aN k)] [] (wd N L) 0 0 (QP (some (aL (bsm (N 9 b) (N 10 b) (N 11 b) i u (N 8 b 3)))) N L) := by
    intro d
    induction d using Nat.strongRecOn with
    | ind d ih =>
      intro k s hd hk hS
      refine Sem.seg [(.iload 5, 0, 0), (.aload_n 0, 0, 0), (.getfield 21, 1, 3)] ⟨⟨d68_5, trivial⟩, ⟨d68_7, trivial⟩, ⟨d68_8, gf1_21⟩, trivial⟩ (lv' := [(0, aR 8 b), (1, aN i), (2, aI x), (3, aL s), (5, aN k)]) (st' := [aN (N 8 b 3), aN k]) (w' := wd N L) (P := [vld NN 8 b]) rfl (vN (t := 8) (i := b) (show b < 3 by omega)) (pc' := 11) rfl ?_
      refine Sem.icmpN (tgt := 53) d68_11 (by decide) (show k < 2 ^ 31 by omega) (show N 8 b 3 < 2 ^ 31 by omega) (fun b1 => ?_) (fun b1 => ?_)
      · have b1_ : N 8 b 3 ≤ k := b1
        refine Sem.seg [(.lload_n 3, 0, 0)] ⟨⟨d68_53, trivial⟩, trivial⟩ (lv' := [(0, aR 8 b), (1, aN i), (2, aI x), (3, aL s), (5, aN k)]) (st' := [aL s]) (w' := wd N L) (P := []) rfl (trivial) (pc' := 54) rfl ?_
        exact Sem.lret d68_54 rfl (by decide) (by decide) hzW ⟨congrArg (fun z => Sum.inl (some (aL z))) (show s = bsm (N 9 b) (N 10 b) (N 11 b) i u (N 8 b 3) by rw [hS, show k = N 8 b 3 by omega]), rfl⟩
      · have b1_ : ¬ (N 8 b 3 ≤ k) := b1
        have hI_ := hI k (by omega)
        have hW_ := hW k (by omega)
        refine Sem.seg [(.aload_n 0, 0, 0), (.getfield 9, 1, 0), (.iload 5, 0, 0), (.iaload, 0, 0), (.iload_n 1, 0, 0)] ⟨⟨d68_14, trivial⟩, ⟨d68_15, gf1_9⟩, ⟨d68_18, trivial⟩, ⟨d68_20, trivial⟩, ⟨d68_21, trivial⟩, trivial⟩ (lv' := [(0, aR 8 b), (1, aN i), (2, aI x), (3, aL s), (5, aN k)]) (st' := [aN i, aN (N 9 b k)]) (w' := wd N L) (P := [vld NN 8 b, vld NN 9 b, k < 24]) rfl (⟨vN (t := 8) (i := b) (show b < 3 by omega), vN (t := 9) (i := b) (show b < 3 by omega), (show k < 24 by omega)⟩) (pc' := 22) rfl ?_
        refine Sem.icmpN (tgt := 47) d68_22 (by decide) (show N 9 b k < 2 ^ 31 by omega) (show i < 2 ^ 31 by omega) (fun b2 => ?_) (fun b2 => ?_)
        · have b2_ : ¬ N 9 b k = i := b2
          refine Sem.seg [(.iinc 5 1, 0, 0)] ⟨⟨d68_47, trivial⟩, trivial⟩ (lv' := [(5, aN (k + 1)), (0, aR 8 b), (1, aN i), (2, aI x), (3, aL s)]) (st' := []) (w' := wd N L) (P := []) rfl (trivial) (pc' := 50) rfl ?_
          refine Sem.goto (tgt := 5) d68_50 (by decide) ?_
          refine Sem.pick [1, 2, 3, 4, 0] (lv' := [(0, aR 8 b), (1, aN i), (2, aI x), (3, aL s), (5, aN (k + 1))]) rfl ?_
          exact ih _ (by omega) (k + 1) s rfl (by omega) (by simp only [bsm, sm] at hS ⊢; rw [hS]; first | rw [if_pos (by omega)] | (rw [if_neg (by omega)]; simp))
        · have b2_ : ¬ (¬ N 9 b k = i) := b2
          refine Sem.seg [(.aload_n 0, 0, 0), (.getfield 15, 1, 1), (.iload 5, 0, 0), (.iaload, 0, 0), (.iload_n 2, 0, 0)] ⟨⟨d68_25, trivial⟩, ⟨d68_26, gf1_15⟩, ⟨d68_29, trivial⟩, ⟨d68_31, trivial⟩, ⟨d68_32, trivial⟩, trivial⟩ (lv' := [(0, aR 8 b), (1, aN i), (2, aI x), (3, aL s), (5, aN k)]) (st' := [aI x, aN (N 10 b k)]) (w' := wd N L) (P := [vld NN 8 b, vld NN 10 b, k < 24]) rfl (⟨vN (t := 8) (i := b) (show b < 3 by omega), vN (t := 10) (i := b) (show b < 3 by omega), (show k < 24 by omega)⟩) (pc' := 33) rfl ?_
          refine Sem.icmp (tgt := 47) d68_33 (by decide) rfl rfl (fun b3 => ?_) (fun b3 => ?_)
          · have b3_ : x.toInt < ((N 10 b k : Nat) : Int) := bT (nI_toInt (show N 10 b k < 2 ^ 31 by omega)) rfl b3
            refine Sem.seg [(.iinc 5 1, 0, 0)] ⟨⟨d68_47, trivial⟩, trivial⟩ (lv' := [(5, aN (k + 1)), (0, aR 8 b), (1, aN i), (2, aI x), (3, aL s)]) (st' := []) (w' := wd N L) (P := []) rfl (trivial) (pc' := 50) rfl ?_
            refine Sem.goto (tgt := 5) d68_50 (by decide) ?_
            refine Sem.pick [1, 2, 3, 4, 0] (lv' := [(0, aR 8 b), (1, aN i), (2, aI x), (3, aL s), (5, aN (k + 1))]) rfl ?_
            exact ih _ (by omega) (k + 1) s rfl (by omega) (by simp only [bsm, sm] at hS ⊢; rw [hS]; first | rw [if_pos (by omega)] | (rw [if_neg (by omega)]; simp))
          · have b3_ : ¬ (x.toInt < ((N 10 b k : Nat) : Int)) := bF (nI_toInt (show N 10 b k < 2 ^ 31 by omega)) rfl b3
            refine Sem.seg [(.lload_n 3, 0, 0), (.aload_n 0, 0, 0), (.getfield 18, 1, 2), (.iload 5, 0, 0), (.iaload, 0, 0), (.i2l, 0, 0), (.ladd, 0, 0), (.lstore_n 3, 0, 0), (.iinc 5 1, 0, 0)] ⟨⟨d68_36, trivial⟩, ⟨d68_37, trivial⟩, ⟨d68_38, gf1_18⟩, ⟨d68_41, trivial⟩, ⟨d68_43, trivial⟩, ⟨d68_44, trivial⟩, ⟨d68_45, trivial⟩, ⟨d68_46, trivial⟩, ⟨d68_47, trivial⟩, trivial⟩ (lv' := [(5, aN (k + 1)), (3, aL (s + ((nI (N 11 b k)).toInt64))), (0, aR 8 b), (1, aN i), (2, aI x)]) (st' := []) (w' := wd N L) (P := [vld NN 8 b, vld NN 11 b, k < 24]) rfl (⟨vN (t := 8) (i := b) (show b < 3 by omega), vN (t := 11) (i := b) (show b < 3 by omega), (show k < 24 by omega)⟩) (pc' := 50) rfl ?_
            refine Sem.goto (tgt := 5) d68_50 (by decide) ?_
            refine Sem.pick [2, 3, 4, 1, 0] (lv' := [(0, aR 8 b), (1, aN i), (2, aI x), (3, aL (s + ((nI (N 11 b k)).toInt64))), (5, aN (k + 1))]) rfl ?_
            exact ih _ (by omega) (k + 1) (s + ((nI (N 11 b k)).toInt64)) rfl (by omega) (by simp only [bsm, sm] at hS ⊢; rw [hS]; first | rw [if_pos (by omega)] | (rw [if_neg (by omega)]; simp))
  refine Sem.pick [2, 3, 4, 1, 0] (lv' := [(0, aR 8 b), (1, aN i), (2, aI x), (3, aL (Int64.ofNat 0)), (5, aN 0)]) rfl ?_
  exact lp _ 0 (Int64.ofNat 0) rfl (by omega) (rfl)

theorem m69 {sc : XT} (N : TN) (L : TL) (b n : Nat) (hb : b < 3) (hs : N 8 b 3 ≤ 24) (hI : ∀ k, k < N 8 b 3 → N 9 b k < 12) (hW : ∀ k, k < N 8 b 3 → N 10 b k < 12) (hn : n < N 8 b 3) : Sem sc 69 0 [(0, aR 8 b), (1, aN n)] [] (wd N L) 0 0 (QP (some (aL (bat (N 9 b) (N 10 b) (N 11 b) (N 9 b n) (N 10 b n) n))) N L) := by
  refine Sem.seg [(.lconst 0, 0, 0), (.lstore_n 2, 0, 0), (.iconst 0, 0, 0), (.istore 4, 0, 0)] ⟨⟨d69_0, trivial⟩, ⟨d69_1, trivial⟩, ⟨d69_2, trivial⟩, ⟨d69_3, trivial⟩, trivial⟩ (lv' := [(4, aN 0), (2, aL (Int64.ofNat 0)), (0, aR 8 b), (1, aN n)]) (st' := []) (w' := wd N L) (P := []) rfl (trivial) (pc' := 5) rfl ?_
  have lp : ∀ (d : Nat) (k : Nat) (s : Int64), n - k = d → (k ≤ n) → (s = bat (N 9 b) (N 10 b) (N 11 b) (N 9 b n) (N 10 b n) k) → Sem sc 69 5 [(0, aR 8 b), (1, aN n), (2, aL s), (4, aN k)] [] (wd N L) 0 0 (QP (some (aL (bat (N 9 b) (N 10 b) (N 11 b) (N 9 b n) (N 10 b n) n))) N L) := by
    intro d
    induction d using Nat.strongRecOn with
    | ind d ih =>
      intro k s hd hk hS
      refine Sem.seg [(.iload 4, 0, 0), (.iload_n 1, 0, 0)] ⟨⟨d69_5, trivial⟩, ⟨d69_7, trivial⟩, trivial⟩ (lv' := [(0, aR 8 b), (1, aN n), (2, aL s), (4, aN k)]) (st' := [aN n, aN k]) (w' := wd N L) (P := []) rfl (trivial) (pc' := 8) rfl ?_
      refine Sem.icmpN (tgt := 60) d69_8 (by decide) (show k < 2 ^ 31 by omega) (show n < 2 ^ 31 by omega) (fun b1 => ?_) (fun b1 => ?_)
      · have b1_ : n ≤ k := b1
        refine Sem.seg [(.lload_n 2, 0, 0)] ⟨⟨d69_60, trivial⟩, trivial⟩ (lv' := [(0, aR 8 b), (1, aN n), (2, aL s), (4, aN k)]) (st' := [aL s]) (w' := wd N L) (P := []) rfl (trivial) (pc' := 61) rfl ?_
        exact Sem.lret d69_61 rfl (by decide) (by decide) hzW ⟨congrArg (fun z => Sum.inl (some (aL z))) (show s = bat (N 9 b) (N 10 b) (N 11 b) (N 9 b n) (N 10 b n) n by rw [hS, show k = n by omega]), rfl⟩
      · have b1_ : ¬ (n ≤ k) := b1
        have hI_ := hI k (by omega)
        have hW_ := hW k (by omega)
        have hI2_ := hI n (by omega)
        have hW2_ := hW n (by omega)
        refine Sem.seg [(.aload_n 0, 0, 0), (.getfield 9, 1, 0), (.iload 4, 0, 0), (.iaload, 0, 0), (.aload_n 0, 0, 0), (.getfield 9, 1, 0), (.iload_n 1, 0, 0), (.iaload, 0, 0)] ⟨⟨d69_11, trivial⟩, ⟨d69_12, gf1_9⟩, ⟨d69_15, trivial⟩, ⟨d69_17, trivial⟩, ⟨d69_18, trivial⟩, ⟨d69_19, gf1_9⟩, ⟨d69_22, trivial⟩, ⟨d69_23, trivial⟩, trivial⟩ (lv' := [(0, aR 8 b), (1, aN n), (2, aL s), (4, aN k)]) (st' := [aN (N 9 b n), aN (N 9 b k)]) (w' := wd N L) (P := [vld NN 8 b, vld NN 9 b, k < 24, vld NN 8 b, vld NN 9 b, n < 24]) rfl (⟨vN (t := 8) (i := b) (show b < 3 by omega), vN (t := 9) (i := b) (show b < 3 by omega), (show k < 24 by omega), vN (t := 8) (i := b) (show b < 3 by omega), vN (t := 9) (i := b) (show b < 3 by omega), (show n < 24 by omega)⟩) (pc' := 24) rfl ?_
        refine Sem.icmpN (tgt := 54) d69_24 (by decide) (show N 9 b k < 2 ^ 31 by omega) (show N 9 b n < 2 ^ 31 by omega) (fun b2 => ?_) (fun b2 => ?_)
        · have b2_ : ¬ N 9 b k = N 9 b n := b2
          refine Sem.seg [(.iinc 4 1, 0, 0)] ⟨⟨d69_54, trivial⟩, trivial⟩ (lv' := [(4, aN (k + 1)), (0, aR 8 b), (1, aN n), (2, aL s)]) (st' := []) (w' := wd N L) (P := []) rfl (trivial) (pc' := 57) rfl ?_
          refine Sem.goto (tgt := 5) d69_57 (by decide) ?_
          refine Sem.pick [1, 2, 3, 0] (lv' := [(0, aR 8 b), (1, aN n), (2, aL s), (4, aN (k + 1))]) rfl ?_
          exact ih _ (by omega) (k + 1) s rfl (by omega) (by simp only [bat, sm] at hS ⊢; rw [hS]; first | rw [if_pos (by omega)] | (rw [if_neg (by omega)]; simp))
        · have b2_ : ¬ (¬ N 9 b k = N 9 b n) := b2
          refine Sem.seg [(.aload_n 0, 0, 0), (.getfield 15, 1, 1), (.iload 4, 0, 0), (.iaload, 0, 0), (.aload_n 0, 0, 0), (.getfield 15, 1, 1), (.iload_n 1, 0, 0), (.iaload, 0, 0)] ⟨⟨d69_27, trivial⟩, ⟨d69_28, gf1_15⟩, ⟨d69_31, trivial⟩, ⟨d69_33, trivial⟩, ⟨d69_34, trivial⟩, ⟨d69_35, gf1_15⟩, ⟨d69_38, trivial⟩, ⟨d69_39, trivial⟩, trivial⟩ (lv' := [(0, aR 8 b), (1, aN n), (2, aL s), (4, aN k)]) (st' := [aN (N 10 b n), aN (N 10 b k)]) (w' := wd N L) (P := [vld NN 8 b, vld NN 10 b, k < 24, vld NN 8 b, vld NN 10 b, n < 24]) rfl (⟨vN (t := 8) (i := b) (show b < 3 by omega), vN (t := 10) (i := b) (show b < 3 by omega), (show k < 24 by omega), vN (t := 8) (i := b) (show b < 3 by omega), vN (t := 10) (i := b) (show b < 3 by omega), (show n < 24 by omega)⟩) (pc' := 40) rfl ?_
          refine Sem.icmpN (tgt := 54) d69_40 (by decide) (show N 10 b k < 2 ^ 31 by omega) (show N 10 b n < 2 ^ 31 by omega) (fun b3 => ?_) (fun b3 => ?_)
          · have b3_ : ¬ N 10 b k = N 10 b n := b3
            refine Sem.seg [(.iinc 4 1, 0, 0)] ⟨⟨d69_54, trivial⟩, trivial⟩ (lv' := [(4, aN (k + 1)), (0, aR 8 b), (1, aN n), (2, aL s)]) (st' := []) (w' := wd N L) (P := []) rfl (trivial) (pc' := 57) rfl ?_
            refine Sem.goto (tgt := 5) d69_57 (by decide) ?_
            refine Sem.pick [1, 2, 3, 0] (lv' := [(0, aR 8 b), (1, aN n), (2, aL s), (4, aN (k + 1))]) rfl ?_
            exact ih _ (by omega) (k + 1) s rfl (by omega) (by simp only [bat, sm] at hS ⊢; rw [hS]; first | rw [if_pos (by omega)] | (rw [if_neg (by omega)]; simp))
          · have b3_ : ¬ (¬ N 10 b k = N 10 b n) := b3
            refine Sem.seg [(.lload_n 2, 0, 0), (.aload_n 0, 0, 0), (.getfield 18, 1, 2), (.iload 4, 0, 0), (.iaload, 0, 0), (.i2l, 0, 0), (.ladd, 0, 0), (.lstore_n 2, 0, 0), (.iinc 4 1, 0, 0)] ⟨⟨d69_43, trivial⟩, ⟨d69_44, trivial⟩, ⟨d69_45, gf1_18⟩, ⟨d69_48, trivial⟩, ⟨d69_50, trivial⟩, ⟨d69_51, trivial⟩, ⟨d69_52, trivial⟩, ⟨d69_53, trivial⟩, ⟨d69_54, trivial⟩, trivial⟩ (lv' := [(4, aN (k + 1)), (2, aL (s + ((nI (N 11 b k)).toInt64))), (0, aR 8 b), (1, aN n)]) (st' := []) (w' := wd N L) (P := [vld NN 8 b, vld NN 11 b, k < 24]) rfl (⟨vN (t := 8) (i := b) (show b < 3 by omega), vN (t := 11) (i := b) (show b < 3 by omega), (show k < 24 by omega)⟩) (pc' := 57) rfl ?_
            refine Sem.goto (tgt := 5) d69_57 (by decide) ?_
            refine Sem.pick [2, 3, 1, 0] (lv' := [(0, aR 8 b), (1, aN n), (2, aL (s + ((nI (N 11 b k)).toInt64))), (4, aN (k + 1))]) rfl ?_
            exact ih _ (by omega) (k + 1) (s + ((nI (N 11 b k)).toInt64)) rfl (by omega) (by simp only [bat, sm] at hS ⊢; rw [hS]; first | rw [if_pos (by omega)] | (rw [if_neg (by omega)]; simp))
  refine Sem.pick [2, 3, 1, 0] (lv' := [(0, aR 8 b), (1, aN n), (2, aL (Int64.ofNat 0)), (4, aN 0)]) rfl ?_
  exact lp _ 0 (Int64.ofNat 0) rfl (by omega) (rfl)

theorem m8_17 {sc : XT} (N : TN) (L : TL) : Sem sc 8 0 [(0, aR 17 0), (1, aL 0)] [] (wd N L) 0 0 (QP none N (upW L 17 0 12 (fun _ => 0))) := by
  refine Sem.seg [(.iconst 0, 0, 0), (.istore_n 3, 0, 0), (.aload_n 0, 0, 0), (.arraylength, 0, 0), (.istore 4, 0, 0)] ⟨⟨d8_0, trivial⟩, ⟨d8_1, trivial⟩, ⟨d8_2, trivial⟩, ⟨d8_3, trivial⟩, ⟨d8_4, trivial⟩, trivial⟩ (lv' := [(4, aN 12), (3, aN 0), (0, aR 17 0), (1, aL 0)]) (st' := []) (w' := wd N L) (P := [vld NN 17 0]) rfl (vN (t := 17) (i := 0) (by decide)) (pc' := 6) rfl ?_
  have lp : ∀ (d : Nat) (k : Nat) (L1 : TL), 12 - k = d → (k ≤ 12) → (L1 = upW L 17 0 k (fun _ => 0)) → Sem sc 8 6 [(0, aR 17 0), (1, aL 0), (3, aN k), (4, aN 12)] [] (wd N L1) 0 0 (QP none N (upW L 17 0 12 (fun _ => 0))) := by
    intro d
    induction d using Nat.strongRecOn with
    | ind d ih =>
      intro k L1 hd hk hL
      refine Sem.seg [(.iload_n 3, 0, 0), (.iload 4, 0, 0)] ⟨⟨d8_6, trivial⟩, ⟨d8_7, trivial⟩, trivial⟩ (lv' := [(0, aR 17 0), (1, aL 0), (3, aN k), (4, aN 12)]) (st' := [aN 12, aN k]) (w' := wd N L1) (P := []) rfl (trivial) (pc' := 9) rfl ?_
      refine Sem.icmpN (tgt := 22) d8_9 (by decide) (show k < 2 ^ 31 by omega) (by decide) (fun b1 => ?_) (fun b1 => ?_)
      · have b1_ : 12 ≤ k := b1
        have hk_ : k = 12 := by omega
        subst hk_
        subst hL
        exact Sem.vret d8_22 rfl (by decide) (by decide) hzW ⟨rfl, rfl⟩
      · have b1_ : ¬ (12 ≤ k) := b1
        refine Sem.seg [(.aload_n 0, 0, 0), (.iload_n 3, 0, 0), (.lload_n 1, 0, 0), (.lastore, 0, 0), (.iinc 3 1, 0, 0)] ⟨⟨d8_12, trivial⟩, ⟨d8_13, trivial⟩, ⟨d8_14, trivial⟩, ⟨d8_15, trivial⟩, ⟨d8_16, trivial⟩, trivial⟩ (lv' := [(3, aN (k + 1)), (0, aR 17 0), (1, aL 0), (4, aN 12)]) (st' := []) (w' := wd N (upL L1 17 0 k 0)) (P := [vld NN 17 0, k < 12]) rfl (⟨vN (t := 17) (i := 0) (by decide), (show k < 12 by omega)⟩) (pc' := 19) rfl ?_
        refine Sem.goto (tgt := 6) d8_19 (by decide) ?_
        refine Sem.pick [1, 2, 0, 3] (lv' := [(0, aR 17 0), (1, aL 0), (3, aN (k + 1)), (4, aN 12)]) rfl ?_
        exact ih _ (by omega) (k + 1) (upL L1 17 0 k 0) rfl (by omega) (by rw [hL]; exact upW_s rfl)
  refine Sem.pick [2, 3, 1, 0] (lv' := [(0, aR 17 0), (1, aL 0), (3, aN 0), (4, aN 12)]) rfl ?_
  exact lp _ 0 L rfl (by omega) (upW_0.symm)

theorem m8_18 {sc : XT} (N : TN) (L : TL) : Sem sc 8 0 [(0, aR 18 0), (1, aL 0)] [] (wd N L) 0 0 (QP none N (upW L 18 0 12 (fun _ => 0))) := by
  refine Sem.seg [(.iconst 0, 0, 0), (.istore_n 3, 0, 0), (.aload_n 0, 0, 0), (.arraylength, 0, 0), (.istore 4, 0, 0)] ⟨⟨d8_0, trivial⟩, ⟨d8_1, trivial⟩, ⟨d8_2, trivial⟩, ⟨d8_3, trivial⟩, ⟨d8_4, trivial⟩, trivial⟩ (lv' := [(4, aN 12), (3, aN 0), (0, aR 18 0), (1, aL 0)]) (st' := []) (w' := wd N L) (P := [vld NN 18 0]) rfl (vN (t := 18) (i := 0) (by decide)) (pc' := 6) rfl ?_
  have lp : ∀ (d : Nat) (k : Nat) (L1 : TL), 12 - k = d → (k ≤ 12) → (L1 = upW L 18 0 k (fun _ => 0)) → Sem sc 8 6 [(0, aR 18 0), (1, aL 0), (3, aN k), (4, aN 12)] [] (wd N L1) 0 0 (QP none N (upW L 18 0 12 (fun _ => 0))) := by
    intro d
    induction d using Nat.strongRecOn with
    | ind d ih =>
      intro k L1 hd hk hL
      refine Sem.seg [(.iload_n 3, 0, 0), (.iload 4, 0, 0)] ⟨⟨d8_6, trivial⟩, ⟨d8_7, trivial⟩, trivial⟩ (lv' := [(0, aR 18 0), (1, aL 0), (3, aN k), (4, aN 12)]) (st' := [aN 12, aN k]) (w' := wd N L1) (P := []) rfl (trivial) (pc' := 9) rfl ?_
      refine Sem.icmpN (tgt := 22) d8_9 (by decide) (show k < 2 ^ 31 by omega) (by decide) (fun b1 => ?_) (fun b1 => ?_)
      · have b1_ : 12 ≤ k := b1
        have hk_ : k = 12 := by omega
        subst hk_
        subst hL
        exact Sem.vret d8_22 rfl (by decide) (by decide) hzW ⟨rfl, rfl⟩
      · have b1_ : ¬ (12 ≤ k) := b1
        refine Sem.seg [(.aload_n 0, 0, 0), (.iload_n 3, 0, 0), (.lload_n 1, 0, 0), (.lastore, 0, 0), (.iinc 3 1, 0, 0)] ⟨⟨d8_12, trivial⟩, ⟨d8_13, trivial⟩, ⟨d8_14, trivial⟩, ⟨d8_15, trivial⟩, ⟨d8_16, trivial⟩, trivial⟩ (lv' := [(3, aN (k + 1)), (0, aR 18 0), (1, aL 0), (4, aN 12)]) (st' := []) (w' := wd N (upL L1 18 0 k 0)) (P := [vld NN 18 0, k < 12]) rfl (⟨vN (t := 18) (i := 0) (by decide), (show k < 12 by omega)⟩) (pc' := 19) rfl ?_
        refine Sem.goto (tgt := 6) d8_19 (by decide) ?_
        refine Sem.pick [1, 2, 0, 3] (lv' := [(0, aR 18 0), (1, aL 0), (3, aN (k + 1)), (4, aN 12)]) rfl ?_
        exact ih _ (by omega) (k + 1) (upL L1 18 0 k 0) rfl (by omega) (by rw [hL]; exact upW_s rfl)
  refine Sem.pick [2, 3, 1, 0] (lv' := [(0, aR 18 0), (1, aL 0), (3, aN 0), (4, aN 12)]) rfl ?_
  exact lp _ 0 L rfl (by omega) (upW_0.symm)

theorem m37 {sc : XT} (N : TN) (L : TL) : Sem sc 37 0 [(0, aR 7 0), (1, aN 0)] [] (wd N L) 0 0 (QP none (upV N 7 0 12 (fun _ => 0)) L) := by
  refine Sem.seg [(.iconst 0, 0, 0), (.istore_n 2, 0, 0), (.aload_n 0, 0, 0), (.arraylength, 0, 0), (.istore_n 3, 0, 0)] ⟨⟨d37_0, trivial⟩, ⟨d37_1, trivial⟩, ⟨d37_2, trivial⟩, ⟨d37_3, trivial⟩, ⟨d37_4, trivial⟩, trivial⟩ (lv' := [(3, aN 12), (2, aN 0), (0, aR 7 0), (1, aN 0)]) (st' := []) (w' := wd N L) (P := [vld NN 7 0]) rfl (vN (t := 7) (i := 0) (by decide)) (pc' := 5) rfl ?_
  have lp : ∀ (d : Nat) (k : Nat) (N1 : TN), 12 - k = d → (k ≤ 12) → (N1 = upV N 7 0 k (fun _ => 0)) → Sem sc 37 5 [(0, aR 7 0), (1, aN 0), (2, aN k), (3, aN 12)] [] (wd N1 L) 0 0 (QP none (upV N 7 0 12 (fun _ => 0)) L) := by
    intro d
    induction d using Nat.strongRecOn with
    | ind d ih =>
      intro k N1 hd hk hL
      refine Sem.seg [(.iload_n 2, 0, 0), (.iload_n 3, 0, 0)] ⟨⟨d37_5, trivial⟩, ⟨d37_6, trivial⟩, trivial⟩ (lv' := [(0, aR 7 0), (1, aN 0), (2, aN k), (3, aN 12)]) (st' := [aN 12, aN k]) (w' := wd N1 L) (P := []) rfl (trivial) (pc' := 7) rfl ?_
      refine Sem.icmpN (tgt := 20) d37_7 (by decide) (show k < 2 ^ 31 by omega) (by decide) (fun b1 => ?_) (fun b1 => ?_)
      · have b1_ : 12 ≤ k := b1
        have hk_ : k = 12 := by omega
        subst hk_
        subst hL
        exact Sem.vret d37_20 rfl (by decide) (by decide) hzW ⟨rfl, rfl⟩
      · have b1_ : ¬ (12 ≤ k) := b1
        refine Sem.seg [(.aload_n 0, 0, 0), (.iload_n 2, 0, 0), (.iload_n 1, 0, 0), (.iastore, 0, 0), (.iinc 2 1, 0, 0)] ⟨⟨d37_10, trivial⟩, ⟨d37_11, trivial⟩, ⟨d37_12, trivial⟩, ⟨d37_13, trivial⟩, ⟨d37_14, trivial⟩, trivial⟩ (lv' := [(2, aN (k + 1)), (0, aR 7 0), (1, aN 0), (3, aN 12)]) (st' := []) (w' := wd (upN N1 7 0 k 0) L) (P := [vld NN 7 0, k < 12]) rfl (⟨vN (t := 7) (i := 0) (by decide), (show k < 12 by omega)⟩) (pc' := 17) rfl ?_
        refine Sem.goto (tgt := 5) d37_17 (by decide) ?_
        refine Sem.pick [1, 2, 0, 3] (lv' := [(0, aR 7 0), (1, aN 0), (2, aN (k + 1)), (3, aN 12)]) rfl ?_
        exact ih _ (by omega) (k + 1) (upN N1 7 0 k 0) rfl (by omega) (by rw [hL]; exact upV_s rfl)
  refine Sem.pick [2, 3, 1, 0] (lv' := [(0, aR 7 0), (1, aN 0), (2, aN 0), (3, aN 12)]) rfl ?_
  exact lp _ 0 N rfl (by omega) (upV_0.symm)

theorem m9_17 {sc : XT} (N : TN) (L : TL) (i : Nat) (hi : i < 12) (hs : N 8 0 3 ≤ 24) (hI : ∀ k, k < N 8 0 3 → N 9 0 k < 12) (hW : ∀ k, k < N 8 0 3 → N 10 0 k < 12) : Sem sc 9 0 [(0, aR 8 0), (1, aR 17 0), (2, aN i)] [] (wd N L) 0 0 (QP none N (upW L 17 0 12 (fun w => L 17 0 w + bat (N 9 0) (N 10 0) (N 11 0) i w (N 8 0 3)))) := by
  refine Sem.seg [(.iconst 0, 0, 0), (.istore_n 3, 0, 0)] ⟨⟨d9_0, trivial⟩, ⟨d9_1, trivial⟩, trivial⟩ (lv' := [(3, aN 0), (0, aR 8 0), (1, aR 17 0), (2, aN i)]) (st' := []) (w' := wd N L) (P := []) rfl (trivial) (pc' := 2) rfl ?_
  have lp : ∀ (d : Nat) (k : Nat) (L1 : TL), N 8 0 3 - k = d → (k ≤ N 8 0 3) → (L1 = upW L 17 0 12 (fun w => L 17 0 w + bat (N 9 0) (N 10 0) (N 11 0) i w k)) → Sem sc 9 2 [(0, aR 8 0), (1, aR 17 0), (2, aN i), (3, aN k)] [] (wd N L1) 0 0 (QP none N (upW L 17 0 12 (fun w => L 17 0 w + bat (N 9 0) (N 10 0) (N 11 0) i w (N 8 0 3)))) := by
    intro d
    induction d using Nat.strongRecOn with
    | ind d ih =>
      intro k L1 hd hk hL
      refine Sem.seg [(.iload_n 3, 0, 0), (.aload_n 0, 0, 0), (.getfield 21, 1, 3)] ⟨⟨d9_2, trivial⟩, ⟨d9_3, trivial⟩, ⟨d9_4, gf1_21⟩, trivial⟩ (lv' := [(0, aR 8 0), (1, aR 17 0), (2, aN i), (3, aN k)]) (st' := [aN (N 8 0 3), aN k]) (w' := wd N L1) (P := [vld NN 8 0]) rfl (vN (t := 8) (i := 0) (by decide)) (pc' := 7) rfl ?_
      refine Sem.icmpN (tgt := 44) d9_7 (by decide) (show k < 2 ^ 31 by omega) (show N 8 0 3 < 2 ^ 31 by omega) (fun b1 => ?_) (fun b1 => ?_)
      · have b1_ : N 8 0 3 ≤ k := b1
        have hk_ : k = N 8 0 3 := by omega
        subst hk_
        subst hL
        exact Sem.vret d9_44 rfl (by decide) (by decide) hzW ⟨rfl, rfl⟩
      · have b1_ : ¬ (N 8 0 3 ≤ k) := b1
        have hI_ := hI k (by omega)
        have hW_ := hW k (by omega)
        refine Sem.seg [(.aload_n 0, 0, 0), (.getfield 9, 1, 0), (.iload_n 3, 0, 0), (.iaload, 0, 0), (.iload_n 2, 0, 0)] ⟨⟨d9_10, trivial⟩, ⟨d9_11, gf1_9⟩, ⟨d9_14, trivial⟩, ⟨d9_15, trivial⟩, ⟨d9_16, trivial⟩, trivial⟩ (lv' := [(0, aR 8 0), (1, aR 17 0), (2, aN i), (3, aN k)]) (st' := [aN i, aN (N 9 0 k)]) (w' := wd N L1) (P := [vld NN 8 0, vld NN 9 0, k < 24]) rfl (⟨vN (t := 8) (i := 0) (by decide), vN (t := 9) (i := 0) (by decide), (show k < 24 by omega)⟩) (pc' := 17) rfl ?_
        refine Sem.icmpN (tgt := 38) d9_17 (by decide) (show N 9 0 k < 2 ^ 31 by omega) (show i < 2 ^ 31 by omega) (fun b2 => ?_) (fun b2 => ?_)
        · have b2_ : ¬ N 9 0 k = i := b2
          refine Sem.seg [(.iinc 3 1, 0, 0)] ⟨⟨d9_38, trivial⟩, trivial⟩ (lv' := [(3, aN (k + 1)), (0, aR 8 0), (1, aR 17 0), (2, aN i)]) (st' := []) (w' := wd N L1) (P := []) rfl (trivial) (pc' := 41) rfl ?_
          refine Sem.goto (tgt := 2) d9_41 (by decide) ?_
          refine Sem.pick [1, 2, 3, 0] (lv' := [(0, aR 8 0), (1, aR 17 0), (2, aN i), (3, aN (k + 1))]) rfl ?_
          exact ih _ (by omega) (k + 1) L1 rfl (by omega) (by rw [hL]; refine upW_cg (fun j _ => ?_); simp only [bat, sm]; rw [if_neg (by omega)]; simp)
        · have b2_ : ¬ (¬ N 9 0 k = i) := b2
          refine Sem.seg [(.aload_n 1, 0, 0), (.aload_n 0, 0, 0), (.getfield 15, 1, 1), (.iload_n 3, 0, 0), (.iaload, 0, 0), (.dup2, 0, 0), (.laload, 0, 0), (.aload_n 0, 0, 0), (.getfield 18, 1, 2), (.iload_n 3, 0, 0), (.iaload, 0, 0), (.i2l, 0, 0), (.ladd, 0, 0), (.lastore, 0, 0), (.iinc 3 1, 0, 0)] ⟨⟨d9_20, trivial⟩, ⟨d9_21, trivial⟩, ⟨d9_22, gf1_15⟩, ⟨d9_25, trivial⟩, ⟨d9_26, trivial⟩, ⟨d9_27, trivial⟩, ⟨d9_28, trivial⟩, ⟨d9_29, trivial⟩, ⟨d9_30, gf1_18⟩, ⟨d9_33, trivial⟩, ⟨d9_34, trivial⟩, ⟨d9_35, trivial⟩, ⟨d9_36, trivial⟩, ⟨d9_37, trivial⟩, ⟨d9_38, trivial⟩, trivial⟩ (lv' := [(3, aN (k + 1)), (0, aR 8 0), (1, aR 17 0), (2, aN i)]) (st' := []) (w' := wd N (upL L1 17 0 (N 10 0 k) ((L1 17 0 (N 10 0 k)) + ((nI (N 11 0 k)).toInt64)))) (P := [vld NN 8 0, vld NN 10 0, k < 24, vld NN 17 0, N 10 0 k < 12, vld NN 8 0, vld NN 11 0, k < 24, vld NN 17 0, N 10 0 k < 12]) rfl (⟨vN (t := 8) (i := 0) (by decide), vN (t := 10) (i := 0) (by decide), (show k < 24 by omega), vN (t := 17) (i := 0) (by decide), (show N 10 0 k < 12 by omega), vN (t := 8) (i := 0) (by decide), vN (t := 11) (i := 0) (by decide), (show k < 24 by omega), vN (t := 17) (i := 0) (by decide), (show N 10 0 k < 12 by omega)⟩) (pc' := 41) rfl ?_
          refine Sem.goto (tgt := 2) d9_41 (by decide) ?_
          refine Sem.pick [1, 2, 3, 0] (lv' := [(0, aR 8 0), (1, aR 17 0), (2, aN i), (3, aN (k + 1))]) rfl ?_
          exact ih _ (by omega) (k + 1) (upL L1 17 0 (N 10 0 k) ((L1 17 0 (N 10 0 k)) + ((nI (N 11 0 k)).toInt64))) rfl (by omega) (by rw [hL]; rw [upW_at hW_, upW_ex hW_]; refine upW_cg (fun j _ => ?_); simp only [bat, sm]; by_cases hj : j = N 10 0 k; subst hj; rw [if_pos rfl, if_pos ⟨by omega, rfl⟩, Int64.add_assoc]; rw [if_neg hj, if_neg (by omega)]; simp)
  refine Sem.pick [1, 2, 3, 0] (lv' := [(0, aR 8 0), (1, aR 17 0), (2, aN i), (3, aN 0)]) rfl ?_
  exact lp _ 0 L rfl (by omega) (by rw [upW_cg (g := fun j => L 17 0 j) (fun j _ => by simp [bat, sm])]; exact upW_id.symm)

theorem m9_18 {sc : XT} (N : TN) (L : TL) (i : Nat) (hi : i < 12) (hs : N 8 1 3 ≤ 24) (hI : ∀ k, k < N 8 1 3 → N 9 1 k < 12) (hW : ∀ k, k < N 8 1 3 → N 10 1 k < 12) : Sem sc 9 0 [(0, aR 8 1), (1, aR 18 0), (2, aN i)] [] (wd N L) 0 0 (QP none N (upW L 18 0 12 (fun w => L 18 0 w + bat (N 9 1) (N 10 1) (N 11 1) i w (N 8 1 3)))) := by
  refine Sem.seg [(.iconst 0, 0, 0), (.istore_n 3, 0, 0)] ⟨⟨d9_0, trivial⟩, ⟨d9_1, trivial⟩, trivial⟩ (lv' := [(3, aN 0), (0, aR 8 1), (1, aR 18 0), (2, aN i)]) (st' := []) (w' := wd N L) (P := []) rfl (trivial) (pc' := 2) rfl ?_
  have lp : ∀ (d : Nat) (k : Nat) (L1 : TL), N 8 1 3 - k = d → (k ≤ N 8 1 3) → (L1 = upW L 18 0 12 (fun w => L 18 0 w + bat (N 9 1) (N 10 1) (N 11 1) i w k)) → Sem sc 9 2 [(0, aR 8 1), (1, aR 18 0), (2, aN i), (3, aN k)] [] (wd N L1) 0 0 (QP none N (upW L 18 0 12 (fun w => L 18 0 w + bat (N 9 1) (N 10 1) (N 11 1) i w (N 8 1 3)))) := by
    intro d
    induction d using Nat.strongRecOn with
    | ind d ih =>
      intro k L1 hd hk hL
      refine Sem.seg [(.iload_n 3, 0, 0), (.aload_n 0, 0, 0), (.getfield 21, 1, 3)] ⟨⟨d9_2, trivial⟩, ⟨d9_3, trivial⟩, ⟨d9_4, gf1_21⟩, trivial⟩ (lv' := [(0, aR 8 1), (1, aR 18 0), (2, aN i), (3, aN k)]) (st' := [aN (N 8 1 3), aN k]) (w' := wd N L1) (P := [vld NN 8 1]) rfl (vN (t := 8) (i := 1) (by decide)) (pc' := 7) rfl ?_
      refine Sem.icmpN (tgt := 44) d9_7 (by decide) (show k < 2 ^ 31 by omega) (show N 8 1 3 < 2 ^ 31 by omega) (fun b1 => ?_) (fun b1 => ?_)
      · have b1_ : N 8 1 3 ≤ k := b1
        have hk_ : k = N 8 1 3 := by omega
        subst hk_
        subst hL
        exact Sem.vret d9_44 rfl (by decide) (by decide) hzW ⟨rfl, rfl⟩
      · have b1_ : ¬ (N 8 1 3 ≤ k) := b1
        have hI_ := hI k (by omega)
        have hW_ := hW k (by omega)
        refine Sem.seg [(.aload_n 0, 0, 0), (.getfield 9, 1, 0), (.iload_n 3, 0, 0), (.iaload, 0, 0), (.iload_n 2, 0, 0)] ⟨⟨d9_10, trivial⟩, ⟨d9_11, gf1_9⟩, ⟨d9_14, trivial⟩, ⟨d9_15, trivial⟩, ⟨d9_16, trivial⟩, trivial⟩ (lv' := [(0, aR 8 1), (1, aR 18 0), (2, aN i), (3, aN k)]) (st' := [aN i, aN (N 9 1 k)]) (w' := wd N L1) (P := [vld NN 8 1, vld NN 9 1, k < 24]) rfl (⟨vN (t := 8) (i := 1) (by decide), vN (t := 9) (i := 1) (by decide), (show k < 24 by omega)⟩) (pc' := 17) rfl ?_
        refine Sem.icmpN (tgt := 38) d9_17 (by decide) (show N 9 1 k < 2 ^ 31 by omega) (show i < 2 ^ 31 by omega) (fun b2 => ?_) (fun b2 => ?_)
        · have b2_ : ¬ N 9 1 k = i := b2
          refine Sem.seg [(.iinc 3 1, 0, 0)] ⟨⟨d9_38, trivial⟩, trivial⟩ (lv' := [(3, aN (k + 1)), (0, aR 8 1), (1, aR 18 0), (2, aN i)]) (st' := []) (w' := wd N L1) (P := []) rfl (trivial) (pc' := 41) rfl ?_
          refine Sem.goto (tgt := 2) d9_41 (by decide) ?_
          refine Sem.pick [1, 2, 3, 0] (lv' := [(0, aR 8 1), (1, aR 18 0), (2, aN i), (3, aN (k + 1))]) rfl ?_
          exact ih _ (by omega) (k + 1) L1 rfl (by omega) (by rw [hL]; refine upW_cg (fun j _ => ?_); simp only [bat, sm]; rw [if_neg (by omega)]; simp)
        · have b2_ : ¬ (¬ N 9 1 k = i) := b2
          refine Sem.seg [(.aload_n 1, 0, 0), (.aload_n 0, 0, 0), (.getfield 15, 1, 1), (.iload_n 3, 0, 0), (.iaload, 0, 0), (.dup2, 0, 0), (.laload, 0, 0), (.aload_n 0, 0, 0), (.getfield 18, 1, 2), (.iload_n 3, 0, 0), (.iaload, 0, 0), (.i2l, 0, 0), (.ladd, 0, 0), (.lastore, 0, 0), (.iinc 3 1, 0, 0)] ⟨⟨d9_20, trivial⟩, ⟨d9_21, trivial⟩, ⟨d9_22, gf1_15⟩, ⟨d9_25, trivial⟩, ⟨d9_26, trivial⟩, ⟨d9_27, trivial⟩, ⟨d9_28, trivial⟩, ⟨d9_29, trivial⟩, ⟨d9_30, gf1_18⟩, ⟨d9_33, trivial⟩, ⟨d9_34, trivial⟩, ⟨d9_35, trivial⟩, ⟨d9_36, trivial⟩, ⟨d9_37, trivial⟩, ⟨d9_38, trivial⟩, trivial⟩ (lv' := [(3, aN (k + 1)), (0, aR 8 1), (1, aR 18 0), (2, aN i)]) (st' := []) (w' := wd N (upL L1 18 0 (N 10 1 k) ((L1 18 0 (N 10 1 k)) + ((nI (N 11 1 k)).toInt64)))) (P := [vld NN 8 1, vld NN 10 1, k < 24, vld NN 18 0, N 10 1 k < 12, vld NN 8 1, vld NN 11 1, k < 24, vld NN 18 0, N 10 1 k < 12]) rfl (⟨vN (t := 8) (i := 1) (by decide), vN (t := 10) (i := 1) (by decide), (show k < 24 by omega), vN (t := 18) (i := 0) (by decide), (show N 10 1 k < 12 by omega), vN (t := 8) (i := 1) (by decide), vN (t := 11) (i := 1) (by decide), (show k < 24 by omega), vN (t := 18) (i := 0) (by decide), (show N 10 1 k < 12 by omega)⟩) (pc' := 41) rfl ?_
          refine Sem.goto (tgt := 2) d9_41 (by decide) ?_
          refine Sem.pick [1, 2, 3, 0] (lv' := [(0, aR 8 1), (1, aR 18 0), (2, aN i), (3, aN (k + 1))]) rfl ?_
          exact ih _ (by omega) (k + 1) (upL L1 18 0 (N 10 1 k) ((L1 18 0 (N 10 1 k)) + ((nI (N 11 1 k)).toInt64))) rfl (by omega) (by rw [hL]; rw [upW_at hW_, upW_ex hW_]; refine upW_cg (fun j _ => ?_); simp only [bat, sm]; by_cases hj : j = N 10 1 k; subst hj; rw [if_pos rfl, if_pos ⟨by omega, rfl⟩, Int64.add_assoc]; rw [if_neg hj, if_neg (by omega)]; simp)
  refine Sem.pick [1, 2, 3, 0] (lv' := [(0, aR 8 1), (1, aR 18 0), (2, aN i), (3, aN 0)]) rfl ?_
  exact lp _ 0 L rfl (by omega) (by rw [upW_cg (g := fun j => L 18 0 j) (fun j _ => by simp [bat, sm])]; exact upW_id.symm)

