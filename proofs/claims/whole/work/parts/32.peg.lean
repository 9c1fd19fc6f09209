-- ===== the class: pegs =====
theorem subI {a : Nat} (h : a < 12) : (nI a - nI 1).toInt = (a : Int) - 1 := by
  rcases Nat.eq_zero_or_pos a with q | q
  · subst q; decide
  · rw [nI_sub q, nI_toInt (by omega)]; omega

theorem m71 {sc : XT} (N : TN) (L : TL) (d : Nat) (s n : Int64) (hd : d < N 8 0 3) (hc : CD N) : Sem sc 71 0 [(0, aR 0 0), (1, aN d), (2, aL s), (4, aL n)] [] (wd N L) 0 0 (QP (some (aL (pgU N L d s n))) N L) := by
  have d24 := (hc.2.1 0 (by decide)).1
  have dI := (hc.2.1 0 (by decide)).2.1 d hd
  have dW := (hc.2.1 0 (by decide)).2.2.1 d hd
  refine Sem.seg [(.aload_n 0, 0, 0), (.aload_n 0, 0, 0), (.getfield 25, 4, 2), (.getfield 131, 1, 0), (.iload_n 1, 0, 0), (.iaload, 0, 0)] ⟨⟨d71_0, trivial⟩, ⟨d71_1, trivial⟩, ⟨d71_2, gf4_25⟩, ⟨d71_5, gf4_131⟩, ⟨d71_8, trivial⟩, ⟨d71_9, trivial⟩, trivial⟩ (lv' := [(0, aR 0 0), (1, aN d), (2, aL s), (4, aL n)]) (st' := [aN (N 9 0 d), aR 0 0]) (w' := wd N L) (P := [vld NN 0 0, vld NN 8 0, vld NN 9 0, d < 24]) rfl (⟨vN (t := 0) (i := 0) (by decide), vN (t := 8) (i := 0) (by decide), vN (t := 9) (i := 0) (by decide), (show d < 24 by first | omega | exact dI)⟩) (pc' := 10) rfl ?_
  refine Sem.cVp1 (t := 0) (i := 0) (as := [aN (N 9 0 d)]) (rst := []) (c' := 1) (s' := 6) d71_10 mk24 rfl co24 lk4_50 im24 se24 rfl (vN (t := 0) (i := 0) (by decide)) (show 2 ≤ mL 24 by decide) rfl (show 0 ≤ 8 by decide) (by decide) (by decide) rfl rfl (by decide) (by decide) (m24n N L (N 9 0 d) dI) ?_
  refine Sem.seg [(.getfield 149, 2, 11), (.aload_n 0, 0, 0), (.getfield 25, 4, 2), (.getfield 263, 1, 1), (.iload_n 1, 0, 0), (.iaload, 0, 0), (.iconst 1, 0, 0), (.isub, 0, 0)] ⟨⟨d71_13, gf4_149⟩, ⟨d71_16, trivial⟩, ⟨d71_17, gf4_25⟩, ⟨d71_20, gf4_263⟩, ⟨d71_23, trivial⟩, ⟨d71_24, trivial⟩, ⟨d71_25, trivial⟩, ⟨d71_26, trivial⟩, trivial⟩ (lv' := [(0, aR 0 0), (1, aN d), (2, aL s), (4, aL n)]) (st' := [aI ((nI (N 10 0 d)) - (nI 1)), aR 20 (N 9 0 d)]) (w' := wd N L) (P := [vld NN 19 (N 9 0 d), vld NN 0 0, vld NN 8 0, vld NN 10 0, d < 24]) rfl (⟨vN (t := 19) (i := N 9 0 d) (show N 9 0 d < 12 by first | omega | exact dI), vN (t := 0) (i := 0) (by decide), vN (t := 8) (i := 0) (by decide), vN (t := 10) (i := 0) (by decide), (show d < 24 by first | omega | exact dI)⟩) (pc' := 27) rfl ?_
  refine Sem.cSp1 (as := [aR 20 (N 9 0 d), aI ((nI (N 10 0 d)) - (nI 1))]) (rst := []) (c' := 1) (s' := 6) d71_27 mk70 rfl co70 lk4_272 ss70 (show 2 ≤ mL 70 by decide) rfl (show 0 ≤ 8 by decide) (by decide) (by decide) rfl rfl (by decide) (by decide) (m70g N L (N 9 0 d) (N 10 0 d) (nI (N 10 0 d) - nI 1) dI (by rw [subI dW]) (by omega)) ?_
  refine Sem.seg [(.aload_n 0, 0, 0), (.getfield 25, 4, 2), (.iload_n 1, 0, 0)] ⟨⟨d71_30, trivial⟩, ⟨d71_31, gf4_25⟩, ⟨d71_34, trivial⟩, trivial⟩ (lv' := [(0, aR 0 0), (1, aN d), (2, aL s), (4, aL n)]) (st' := [aN d, aR 8 0, aL (sm (L 20 (N 9 0 d)) (N 10 0 d))]) (w' := wd N L) (P := [vld NN 0 0]) rfl (vN (t := 0) (i := 0) (by decide)) (pc' := 35) rfl ?_
  refine Sem.cVp1 (t := 8) (i := 0) (as := [aN d]) (rst := [aL (sm (L 20 (N 9 0 d)) (N 10 0 d))]) (c' := 1) (s' := 6) d71_35 mk69 rfl co69 lk4_269 im69 se69 rfl (vN (t := 8) (i := 0) (by decide)) (show 2 ≤ mL 69 by decide) rfl (show 2 ≤ 8 by decide) (by decide) (by decide) rfl rfl (by decide) (by decide) (m69 N L 0 d (by decide) (hc.2.1 0 (by decide)).1 (hc.2.1 0 (by decide)).2.1 (hc.2.1 0 (by decide)).2.2.1 hd) ?_
  refine Sem.seg [(.ladd, 0, 0)] ⟨⟨d71_38, trivial⟩, trivial⟩ (lv' := [(0, aR 0 0), (1, aN d), (2, aL s), (4, aL n)]) (st' := [aL ((sm (L 20 (N 9 0 d)) (N 10 0 d)) + (bat (N 9 0) (N 10 0) (N 11 0) (N 9 0 d) (N 10 0 d) d))]) (w' := wd N L) (P := []) rfl (trivial) (pc' := 39) rfl ?_
  refine Sem.topLL (show (sm (L 20 (N 9 0 d)) (N 10 0 d)) + (bat (N 9 0) (N 10 0) (N 11 0) (N 9 0 d) (N 10 0 d) d) = clF N L d from rfl) ?_
  refine Sem.seg [(.lstore 6, 0, 0), (.lload_n 2, 0, 0), (.lload 6, 0, 0)] ⟨⟨d71_39, trivial⟩, ⟨d71_41, trivial⟩, ⟨d71_42, trivial⟩, trivial⟩ (lv' := [(6, aL (clF N L d)), (0, aR 0 0), (1, aN d), (2, aL s), (4, aL n)]) (st' := [aL (clF N L d), aL s]) (w' := wd N L) (P := []) rfl (trivial) (pc' := 44) rfl ?_
  refine Sem.maxL d71_44 lk4_279 w_static_LibMathLoosemax_longx inMath w_code_LibMathLoosemax_longx (by decide) (show 0 + 15 ≤ lo 71 by decide) (by decide) (by decide) ?_
  refine Sem.topLL (show (if clF N L d < s then s else clF N L d) = mx s (clF N L d) from rfl) ?_
  refine Sem.seg [(.lstore 8, 0, 0), (.lload_n 2, 0, 0), (.lload 4, 0, 0), (.ladd, 0, 0), (.lload 6, 0, 0), (.aload_n 0, 0, 0), (.getfield 25, 4, 2), (.getfield 276, 1, 2), (.iload_n 1, 0, 0), (.iaload, 0, 0), (.i2l, 0, 0), (.ladd, 0, 0)] ⟨⟨d71_47, trivial⟩, ⟨d71_49, trivial⟩, ⟨d71_50, trivial⟩, ⟨d71_52, trivial⟩, ⟨d71_53, trivial⟩, ⟨d71_55, trivial⟩, ⟨d71_56, gf4_25⟩, ⟨d71_59, gf4_276⟩, ⟨d71_62, trivial⟩, ⟨d71_63, trivial⟩, ⟨d71_64, trivial⟩, ⟨d71_65, trivial⟩, trivial⟩ (lv' := [(8, aL (mx s (clF N L d))), (6, aL (clF N L d)), (0, aR 0 0), (1, aN d), (2, aL s), (4, aL n)]) (st' := [aL ((clF N L d) + ((nI (N 11 0 d)).toInt64)), aL (s + n)]) (w' := wd N L) (P := [vld NN 0 0, vld NN 8 0, vld NN 11 0, d < 24]) rfl (⟨vN (t := 0) (i := 0) (by decide), vN (t := 8) (i := 0) (by decide), vN (t := 11) (i := 0) (by decide), (show d < 24 by first | omega | exact dI)⟩) (pc' := 66) rfl ?_
  refine Sem.minL d71_66 lk4_285 w_static_LibMathLoosemin_longx inMath w_code_LibMathLoosemin_longx (by decide) (show 0 + 15 ≤ lo 71 by decide) (by decide) (by decide) ?_
  refine Sem.topLL (show (if (clF N L d) + ((nI (N 11 0 d)).toInt64) < s + n then (clF N L d) + ((nI (N 11 0 d)).toInt64) else s + n) = mn (s + n) (clF N L d + (nI (N 11 0 d)).toInt64) from rfl) ?_
  refine Sem.seg [(.lstore 10, 0, 0), (.lload 10, 0, 0), (.lload 8, 0, 0), (.lsub, 0, 0), (.lconst 0, 0, 0)] ⟨⟨d71_69, trivial⟩, ⟨d71_71, trivial⟩, ⟨d71_73, trivial⟩, ⟨d71_75, trivial⟩, ⟨d71_76, trivial⟩, trivial⟩ (lv' := [(10, aL (mn (s + n) (clF N L d + (nI (N 11 0 d)).toInt64))), (8, aL (mx s (clF N L d))), (6, aL (clF N L d)), (0, aR 0 0), (1, aN d), (2, aL s), (4, aL n)]) (st' := [aL (Int64.ofNat 0), aL ((mn (s + n) (clF N L d + (nI (N 11 0 d)).toInt64)) - (mx s (clF N L d)))]) (w' := wd N L) (P := []) rfl (trivial) (pc' := 77) rfl ?_
  refine Sem.maxL d71_77 lk4_279 w_static_LibMathLoosemax_longx inMath w_code_LibMathLoosemax_longx (by decide) (show 0 + 15 ≤ lo 71 by decide) (by decide) (by decide) ?_
  exact Sem.lret d71_80 rfl (by decide) (by decide) hzW ⟨congrArg (fun z => Sum.inl (some (aL z))) (show (if Int64.ofNat 0 < (mn (s + n) (clF N L d + (nI (N 11 0 d)).toInt64)) - (mx s (clF N L d)) then (mn (s + n) (clF N L d + (nI (N 11 0 d)).toInt64)) - (mx s (clF N L d)) else Int64.ofNat 0) = pgU N L d s n by rfl), rfl⟩

theorem m67 {sc : XT} (N : TN) (L : TL) (d m : Nat) (hd : d < N 8 0 3) (hm : m < N 8 1 3) (hc : CD N) : Sem sc 67 0 [(0, aR 0 0), (1, aN d), (2, aN m)] [] (wd N L) 0 0 (QP (some (aL (pgO N L d m))) N L) := by
  have d24 := (hc.2.1 0 (by decide)).1
  have dI := (hc.2.1 0 (by decide)).2.1 d hd
  have dW := (hc.2.1 0 (by decide)).2.2.1 d hd
  have o24 := (hc.2.1 1 (by decide)).1
  have oI := (hc.2.1 1 (by decide)).2.1 m hm
  have oW := (hc.2.1 1 (by decide)).2.2.1 m hm
  refine Sem.seg [(.aload_n 0, 0, 0), (.getfield 29, 4, 3), (.getfield 131, 1, 0), (.iload_n 2, 0, 0), (.iaload, 0, 0), (.istore_n 3, 0, 0), (.iload_n 3, 0, 0), (.aload_n 0, 0, 0), (.getfield 25, 4, 2), (.getfield 131, 1, 0), (.iload_n 1, 0, 0), (.iaload, 0, 0)] ⟨⟨d67_0, trivial⟩, ⟨d67_1, gf4_29⟩, ⟨d67_4, gf4_131⟩, ⟨d67_7, trivial⟩, ⟨d67_8, trivial⟩, ⟨d67_9, trivial⟩, ⟨d67_10, trivial⟩, ⟨d67_11, trivial⟩, ⟨d67_12, gf4_25⟩, ⟨d67_15, gf4_131⟩, ⟨d67_18, trivial⟩, ⟨d67_19, trivial⟩, trivial⟩ (lv' := [(3, aN (N 9 1 m)), (0, aR 0 0), (1, aN d), (2, aN m)]) (st' := [aN (N 9 0 d), aN (N 9 1 m)]) (w' := wd N L) (P := [vld NN 0 0, vld NN 8 1, vld NN 9 1, m < 24, vld NN 0 0, vld NN 8 0, vld NN 9 0, d < 24]) rfl (⟨vN (t := 0) (i := 0) (by decide), vN (t := 8) (i := 1) (by decide), vN (t := 9) (i := 1) (by decide), (show m < 24 by first | omega | exact oI | exact dI), vN (t := 0) (i := 0) (by decide), vN (t := 8) (i := 0) (by decide), vN (t := 9) (i := 0) (by decide), (show d < 24 by first | omega | exact oI | exact dI)⟩) (pc' := 20) rfl ?_
  refine Sem.icmpN (tgt := 25) d67_20 (by decide) (show N 9 1 m < 2 ^ 31 by first | omega | exact oI | exact dI) (show N 9 0 d < 2 ^ 31 by first | omega | exact oI | exact dI) (fun b1 => ?_) (fun b1 => ?_)
  · have b1_ : N 9 1 m = N 9 0 d := b1
    refine Sem.seg [(.aload_n 0, 0, 0), (.getfield 29, 4, 3), (.getfield 263, 1, 1), (.iload_n 2, 0, 0), (.iaload, 0, 0), (.iconst 1, 0, 0), (.isub, 0, 0), (.istore 4, 0, 0), (.aload_n 0, 0, 0), (.iload_n 3, 0, 0)] ⟨⟨d67_25, trivial⟩, ⟨d67_26, gf4_29⟩, ⟨d67_29, gf4_263⟩, ⟨d67_32, trivial⟩, ⟨d67_33, trivial⟩, ⟨d67_34, trivial⟩, ⟨d67_35, trivial⟩, ⟨d67_36, trivial⟩, ⟨d67_38, trivial⟩, ⟨d67_39, trivial⟩, trivial⟩ (lv' := [(4, aI ((nI (N 10 1 m)) - (nI 1))), (3, aN (N 9 1 m)), (0, aR 0 0), (1, aN d), (2, aN m)]) (st' := [aN (N 9 1 m), aR 0 0]) (w' := wd N L) (P := [vld NN 0 0, vld NN 8 1, vld NN 10 1, m < 24]) rfl (⟨vN (t := 0) (i := 0) (by decide), vN (t := 8) (i := 1) (by decide), vN (t := 10) (i := 1) (by decide), (show m < 24 by first | omega | exact oI | exact dI)⟩) (pc' := 40) rfl ?_
    refine Sem.cVp1 (t := 0) (i := 0) (as := [aN (N 9 1 m)]) (rst := []) (c' := 1) (s' := 6) d67_40 mk24 rfl co24 lk4_50 im24 se24 rfl (vN (t := 0) (i := 0) (by decide)) (show 2 ≤ mL 24 by decide) rfl (show 0 ≤ 8 by decide) (by decide) (by decide) rfl rfl (by decide) (by decide) (m24n N L (N 9 1 m) oI) ?_
    refine Sem.seg [(.getfield 120, 2, 7), (.i2l, 0, 0), (.aload_n 0, 0, 0), (.getfield 29, 4, 3), (.iload_n 3, 0, 0), (.iload 4, 0, 0)] ⟨⟨d67_43, gf4_120⟩, ⟨d67_46, trivial⟩, ⟨d67_47, trivial⟩, ⟨d67_48, gf4_29⟩, ⟨d67_51, trivial⟩, ⟨d67_52, trivial⟩, trivial⟩ (lv' := [(4, aI ((nI (N 10 1 m)) - (nI 1))), (3, aN (N 9 1 m)), (0, aR 0 0), (1, aN d), (2, aN m)]) (st' := [aI ((nI (N 10 1 m)) - (nI 1)), aN (N 9 1 m), aR 8 1, aL ((nI (N 19 (N 9 1 m) 7)).toInt64)]) (w' := wd N L) (P := [vld NN 19 (N 9 1 m), vld NN 0 0]) rfl (⟨vN (t := 19) (i := N 9 1 m) (show N 9 1 m < 12 by first | omega | exact oI | exact dI), vN (t := 0) (i := 0) (by decide)⟩) (pc' := 54) rfl ?_
    refine Sem.cVp1 (t := 8) (i := 1) (as := [aN (N 9 1 m), aI ((nI (N 10 1 m)) - (nI 1))]) (rst := [aL ((nI (N 19 (N 9 1 m) 7)).toInt64)]) (c' := 1) (s' := 6) d67_54 mk68 rfl co68 lk4_266 im68 se68 rfl (vN (t := 8) (i := 1) (by decide)) (show 3 ≤ mL 68 by decide) rfl (show 2 ≤ 8 by decide) (by decide) (by decide) rfl rfl (by decide) (by decide) (m68 N L 1 (N 9 1 m) (N 10 1 m) (nI (N 10 1 m) - nI 1) (by decide) oI (by rw [subI oW]) (hc.2.1 1 (by decide)).1 (hc.2.1 1 (by decide)).2.1 (hc.2.1 1 (by decide)).2.2.1) ?_
    refine Sem.seg [(.ladd, 0, 0), (.aload_n 0, 0, 0), (.getfield 29, 4, 3), (.iload_n 2, 0, 0)] ⟨⟨d67_57, trivial⟩, ⟨d67_58, trivial⟩, ⟨d67_59, gf4_29⟩, ⟨d67_62, trivial⟩, trivial⟩ (lv' := [(4, aI ((nI (N 10 1 m)) - (nI 1))), (3, aN (N 9 1 m)), (0, aR 0 0), (1, aN d), (2, aN m)]) (st' := [aN m, aR 8 1, aL (((nI (N 19 (N 9 1 m) 7)).toInt64) + (bsm (N 9 1) (N 10 1) (N 11 1) (N 9 1 m) (N 10 1 m) (N 8 1 3)))]) (w' := wd N L) (P := [vld NN 0 0]) rfl (vN (t := 0) (i := 0) (by decide)) (pc' := 63) rfl ?_
    refine Sem.cVp1 (t := 8) (i := 1) (as := [aN m]) (rst := [aL (((nI (N 19 (N 9 1 m) 7)).toInt64) + (bsm (N 9 1) (N 10 1) (N 11 1) (N 9 1 m) (N 10 1 m) (N 8 1 3)))]) (c' := 1) (s' := 6) d67_63 mk69 rfl co69 lk4_269 im69 se69 rfl (vN (t := 8) (i := 1) (by decide)) (show 2 ≤ mL 69 by decide) rfl (show 2 ≤ 8 by decide) (by decide) (by decide) rfl rfl (by decide) (by decide) (m69 N L 1 m (by decide) (hc.2.1 1 (by decide)).1 (hc.2.1 1 (by decide)).2.1 (hc.2.1 1 (by decide)).2.2.1 hm) ?_
    refine Sem.seg [(.ladd, 0, 0), (.aload_n 0, 0, 0), (.getfield 11, 4, 0), (.iload_n 3, 0, 0), (.aaload, 0, 0), (.getfield 152, 2, 12), (.iload 4, 0, 0)] ⟨⟨d67_66, trivial⟩, ⟨d67_67, trivial⟩, ⟨d67_68, gf4_11⟩, ⟨d67_71, trivial⟩, ⟨d67_72, trivial⟩, ⟨d67_73, gf4_152⟩, ⟨d67_76, trivial⟩, trivial⟩ (lv' := [(4, aI ((nI (N 10 1 m)) - (nI 1))), (3, aN (N 9 1 m)), (0, aR 0 0), (1, aN d), (2, aN m)]) (st' := [aI ((nI (N 10 1 m)) - (nI 1)), aR 21 (N 9 1 m), aL ((((nI (N 19 (N 9 1 m) 7)).toInt64) + (bsm (N 9 1) (N 10 1) (N 11 1) (N 9 1 m) (N 10 1 m) (N 8 1 3))) + (bat (N 9 1) (N 10 1) (N 11 1) (N 9 1 m) (N 10 1 m) m))]) (w' := wd N L) (P := [vld NN 0 0, vld NN 1 0, N 9 1 m < 12, vld NN 19 (N 9 1 m)]) rfl (⟨vN (t := 0) (i := 0) (by decide), vN (t := 1) (i := 0) (by decide), (show N 9 1 m < 12 by first | omega | exact oI | exact dI), vN (t := 19) (i := N 9 1 m) (show N 9 1 m < 12 by first | omega | exact oI | exact dI)⟩) (pc' := 78) rfl ?_
    refine Sem.cSp1 (as := [aR 21 (N 9 1 m), aI ((nI (N 10 1 m)) - (nI 1))]) (rst := [aL ((((nI (N 19 (N 9 1 m) 7)).toInt64) + (bsm (N 9 1) (N 10 1) (N 11 1) (N 9 1 m) (N 10 1 m) (N 8 1 3))) + (bat (N 9 1) (N 10 1) (N 11 1) (N 9 1 m) (N 10 1 m) m))]) (c' := 1) (s' := 6) d67_78 mk70 rfl co70 lk4_272 ss70 (show 2 ≤ mL 70 by decide) rfl (show 2 ≤ 8 by decide) (by decide) (by decide) rfl rfl (by decide) (by decide) (m70p N L (N 9 1 m) (N 10 1 m) (nI (N 10 1 m) - nI 1) oI (by rw [subI oW]) (by omega)) ?_
    refine Sem.seg [(.ladd, 0, 0), (.lstore 5, 0, 0), (.aload_n 0, 0, 0), (.iload_n 1, 0, 0), (.lload 5, 0, 0), (.aload_n 0, 0, 0), (.getfield 29, 4, 3), (.getfield 276, 1, 2), (.iload_n 2, 0, 0), (.iaload, 0, 0), (.i2l, 0, 0)] ⟨⟨d67_81, trivial⟩, ⟨d67_82, trivial⟩, ⟨d67_84, trivial⟩, ⟨d67_85, trivial⟩, ⟨d67_86, trivial⟩, ⟨d67_88, trivial⟩, ⟨d67_89, gf4_29⟩, ⟨d67_92, gf4_276⟩, ⟨d67_95, trivial⟩, ⟨d67_96, trivial⟩, ⟨d67_97, trivial⟩, trivial⟩ (lv' := [(5, aL (((((nI (N 19 (N 9 1 m) 7)).toInt64) + (bsm (N 9 1) (N 10 1) (N 11 1) (N 9 1 m) (N 10 1 m) (N 8 1 3))) + (bat (N 9 1) (N 10 1) (N 11 1) (N 9 1 m) (N 10 1 m) m)) + (sm (L 21 (N 9 1 m)) (N 10 1 m)))), (4, aI ((nI (N 10 1 m)) - (nI 1))), (3, aN (N 9 1 m)), (0, aR 0 0), (1, aN d), (2, aN m)]) (st' := [aL ((nI (N 11 1 m)).toInt64), aL (((((nI (N 19 (N 9 1 m) 7)).toInt64) + (bsm (N 9 1) (N 10 1) (N 11 1) (N 9 1 m) (N 10 1 m) (N 8 1 3))) + (bat (N 9 1) (N 10 1) (N 11 1) (N 9 1 m) (N 10 1 m) m)) + (sm (L 21 (N 9 1 m)) (N 10 1 m))), aN d, aR 0 0]) (w' := wd N L) (P := [vld NN 0 0, vld NN 8 1, vld NN 11 1, m < 24]) rfl (⟨vN (t := 0) (i := 0) (by decide), vN (t := 8) (i := 1) (by decide), vN (t := 11) (i := 1) (by decide), (show m < 24 by first | omega | exact oI | exact dI)⟩) (pc' := 98) rfl ?_
    refine Sem.cVp1 (t := 0) (i := 0) (as := [aN d, aL (((((nI (N 19 (N 9 1 m) 7)).toInt64) + (bsm (N 9 1) (N 10 1) (N 11 1) (N 9 1 m) (N 10 1 m) (N 8 1 3))) + (bat (N 9 1) (N 10 1) (N 11 1) (N 9 1 m) (N 10 1 m) m)) + (sm (L 21 (N 9 1 m)) (N 10 1 m))), aL ((nI (N 11 1 m)).toInt64)]) (rst := []) (c' := 2) (s' := 12) d67_98 mk71 rfl co71 lk4_165 im71 se71 rfl (vN (t := 0) (i := 0) (by decide)) (show 6 ≤ mL 71 by decide) rfl (show 0 ≤ 8 by decide) (by decide) (by decide) rfl rfl (by decide) (by decide) (m71 N L d (((((nI (N 19 (N 9 1 m) 7)).toInt64) + (bsm (N 9 1) (N 10 1) (N 11 1) (N 9 1 m) (N 10 1 m) (N 8 1 3))) + (bat (N 9 1) (N 10 1) (N 11 1) (N 9 1 m) (N 10 1 m) m)) + (sm (L 21 (N 9 1 m)) (N 10 1 m))) ((nI (N 11 1 m)).toInt64) hd hc) ?_
    exact Sem.lret d67_101 rfl (by decide) (by decide) hzW ⟨congrArg (fun z => Sum.inl (some (aL z))) (show pgU N L d (((((nI (N 19 (N 9 1 m) 7)).toInt64) + (bsm (N 9 1) (N 10 1) (N 11 1) (N 9 1 m) (N 10 1 m) (N 8 1 3))) + (bat (N 9 1) (N 10 1) (N 11 1) (N 9 1 m) (N 10 1 m) m)) + (sm (L 21 (N 9 1 m)) (N 10 1 m))) ((nI (N 11 1 m)).toInt64) = pgO N L d m by unfold pgO; rw [if_pos (by assumption)]), rfl⟩
  · have b1_ : ¬ (N 9 1 m = N 9 0 d) := b1
    refine Sem.seg [(.lconst 0, 0, 0)] ⟨⟨d67_23, trivial⟩, trivial⟩ (lv' := [(3, aN (N 9 1 m)), (0, aR 0 0), (1, aN d), (2, aN m)]) (st' := [aL (Int64.ofNat 0)]) (w' := wd N L) (P := []) rfl (trivial) (pc' := 24) rfl ?_
    exact Sem.lret d67_24 rfl (by decide) (by decide) hzW ⟨congrArg (fun z => Sum.inl (some (aL z))) (show Int64.ofNat 0 = pgO N L d m by unfold pgO; rw [if_neg (by assumption)]; rfl), rfl⟩

theorem m72 {sc : XT} (N : TN) (L : TL) (d w : Nat) (hd : d < N 8 0 3) (hw : w < 12) (hc : CD N) : Sem sc 72 0 [(0, aR 0 0), (1, aN d), (2, aN w)] [] (wd N L) 0 0 (QP (some (aL (pgR N L d w))) N L) := by
  have d24 := (hc.2.1 0 (by decide)).1
  have dI := (hc.2.1 0 (by decide)).2.1 d hd
  have dW := (hc.2.1 0 (by decide)).2.2.1 d hd
  refine Sem.seg [(.aload_n 0, 0, 0), (.getfield 25, 4, 2), (.getfield 131, 1, 0), (.iload_n 1, 0, 0), (.iaload, 0, 0), (.istore_n 3, 0, 0), (.aload_n 0, 0, 0), (.iload_n 3, 0, 0)] ⟨⟨d72_0, trivial⟩, ⟨d72_1, gf4_25⟩, ⟨d72_4, gf4_131⟩, ⟨d72_7, trivial⟩, ⟨d72_8, trivial⟩, ⟨d72_9, trivial⟩, ⟨d72_10, trivial⟩, ⟨d72_11, trivial⟩, trivial⟩ (lv' := [(3, aN (N 9 0 d)), (0, aR 0 0), (1, aN d), (2, aN w)]) (st' := [aN (N 9 0 d), aR 0 0]) (w' := wd N L) (P := [vld NN 0 0, vld NN 8 0, vld NN 9 0, d < 24]) rfl (⟨vN (t := 0) (i := 0) (by decide), vN (t := 8) (i := 0) (by decide), vN (t := 9) (i := 0) (by decide), (show d < 24 by first | omega | exact dI)⟩) (pc' := 12) rfl ?_
  refine Sem.cVp1 (t := 0) (i := 0) (as := [aN (N 9 0 d)]) (rst := []) (c' := 1) (s' := 6) d72_12 mk24 rfl co24 lk4_50 im24 se24 rfl (vN (t := 0) (i := 0) (by decide)) (show 2 ≤ mL 24 by decide) rfl (show 0 ≤ 8 by decide) (by decide) (by decide) rfl rfl (by decide) (by decide) (m24n N L (N 9 0 d) dI) ?_
  refine Sem.seg [(.getfield 120, 2, 7), (.i2l, 0, 0), (.aload_n 0, 0, 0), (.getfield 29, 4, 3), (.iload_n 3, 0, 0), (.iload_n 2, 0, 0)] ⟨⟨d72_15, gf4_120⟩, ⟨d72_18, trivial⟩, ⟨d72_19, trivial⟩, ⟨d72_20, gf4_29⟩, ⟨d72_23, trivial⟩, ⟨d72_24, trivial⟩, trivial⟩ (lv' := [(3, aN (N 9 0 d)), (0, aR 0 0), (1, aN d), (2, aN w)]) (st' := [aN w, aN (N 9 0 d), aR 8 1, aL ((nI (N 19 (N 9 0 d) 7)).toInt64)]) (w' := wd N L) (P := [vld NN 19 (N 9 0 d), vld NN 0 0]) rfl (⟨vN (t := 19) (i := N 9 0 d) (show N 9 0 d < 12 by first | omega | exact dI), vN (t := 0) (i := 0) (by decide)⟩) (pc' := 25) rfl ?_
  refine Sem.cVp1 (t := 8) (i := 1) (as := [aN (N 9 0 d), aN w]) (rst := [aL ((nI (N 19 (N 9 0 d) 7)).toInt64)]) (c' := 1) (s' := 6) d72_25 mk68 rfl co68 lk4_266 im68 se68 rfl (vN (t := 8) (i := 1) (by decide)) (show 3 ≤ mL 68 by decide) rfl (show 2 ≤ 8 by decide) (by decide) (by decide) rfl rfl (by decide) (by decide) (m68n N L 1 (N 9 0 d) w (by decide) dI hw (hc.2.1 1 (by decide)).1 (hc.2.1 1 (by decide)).2.1 (hc.2.1 1 (by decide)).2.2.1) ?_
  refine Sem.seg [(.ladd, 0, 0), (.aload_n 0, 0, 0), (.getfield 11, 4, 0), (.iload_n 3, 0, 0), (.aaload, 0, 0), (.getfield 152, 2, 12), (.iload_n 2, 0, 0), (.iconst 1, 0, 0), (.isub, 0, 0)] ⟨⟨d72_28, trivial⟩, ⟨d72_29, trivial⟩, ⟨d72_30, gf4_11⟩, ⟨d72_33, trivial⟩, ⟨d72_34, trivial⟩, ⟨d72_35, gf4_152⟩, ⟨d72_38, trivial⟩, ⟨d72_39, trivial⟩, ⟨d72_40, trivial⟩, trivial⟩ (lv' := [(3, aN (N 9 0 d)), (0, aR 0 0), (1, aN d), (2, aN w)]) (st' := [aI ((nI w) - (nI 1)), aR 21 (N 9 0 d), aL (((nI (N 19 (N 9 0 d) 7)).toInt64) + (bsm (N 9 1) (N 10 1) (N 11 1) (N 9 0 d) (w + 1) (N 8 1 3)))]) (w' := wd N L) (P := [vld NN 0 0, vld NN 1 0, N 9 0 d < 12, vld NN 19 (N 9 0 d)]) rfl (⟨vN (t := 0) (i := 0) (by decide), vN (t := 1) (i := 0) (by decide), (show N 9 0 d < 12 by first | omega | exact dI), vN (t := 19) (i := N 9 0 d) (show N 9 0 d < 12 by first | omega | exact dI)⟩) (pc' := 41) rfl ?_
  refine Sem.cSp1 (as := [aR 21 (N 9 0 d), aI ((nI w) - (nI 1))]) (rst := [aL (((nI (N 19 (N 9 0 d) 7)).toInt64) + (bsm (N 9 1) (N 10 1) (N 11 1) (N 9 0 d) (w + 1) (N 8 1 3)))]) (c' := 1) (s' := 6) d72_41 mk70 rfl co70 lk4_272 ss70 (show 2 ≤ mL 70 by decide) rfl (show 2 ≤ 8 by decide) (by decide) (by decide) rfl rfl (by decide) (by decide) (m70p N L (N 9 0 d) w (nI w - nI 1) dI (by rw [subI hw]) (by omega)) ?_
  refine Sem.seg [(.ladd, 0, 0), (.lstore 4, 0, 0), (.aload_n 0, 0, 0), (.iload_n 1, 0, 0), (.lload 4, 0, 0), (.aload_n 0, 0, 0), (.getfield 11, 4, 0), (.iload_n 3, 0, 0), (.aaload, 0, 0), (.getfield 152, 2, 12), (.iload_n 2, 0, 0), (.laload, 0, 0)] ⟨⟨d72_44, trivial⟩, ⟨d72_45, trivial⟩, ⟨d72_47, trivial⟩, ⟨d72_48, trivial⟩, ⟨d72_49, trivial⟩, ⟨d72_51, trivial⟩, ⟨d72_52, gf4_11⟩, ⟨d72_55, trivial⟩, ⟨d72_56, trivial⟩, ⟨d72_57, gf4_152⟩, ⟨d72_60, trivial⟩, ⟨d72_61, trivial⟩, trivial⟩ (lv' := [(4, aL ((((nI (N 19 (N 9 0 d) 7)).toInt64) + (bsm (N 9 1) (N 10 1) (N 11 1) (N 9 0 d) (w + 1) (N 8 1 3))) + (sm (L 21 (N 9 0 d)) w))), (3, aN (N 9 0 d)), (0, aR 0 0), (1, aN d), (2, aN w)]) (st' := [aL (L 21 (N 9 0 d) w), aL ((((nI (N 19 (N 9 0 d) 7)).toInt64) + (bsm (N 9 1) (N 10 1) (N 11 1) (N 9 0 d) (w + 1) (N 8 1 3))) + (sm (L 21 (N 9 0 d)) w)), aN d, aR 0 0]) (w' := wd N L) (P := [vld NN 0 0, vld NN 1 0, N 9 0 d < 12, vld NN 19 (N 9 0 d), vld NN 21 (N 9 0 d), w < 12]) rfl (⟨vN (t := 0) (i := 0) (by decide), vN (t := 1) (i := 0) (by decide), (show N 9 0 d < 12 by first | omega | exact dI), vN (t := 19) (i := N 9 0 d) (show N 9 0 d < 12 by first | omega | exact dI), vN (t := 21) (i := N 9 0 d) (show N 9 0 d < 12 by first | omega | exact dI), (show w < 12 by first | omega | exact dI)⟩) (pc' := 62) rfl ?_
  refine Sem.cVp1 (t := 0) (i := 0) (as := [aN d, aL ((((nI (N 19 (N 9 0 d) 7)).toInt64) + (bsm (N 9 1) (N 10 1) (N 11 1) (N 9 0 d) (w + 1) (N 8 1 3))) + (sm (L 21 (N 9 0 d)) w)), aL (L 21 (N 9 0 d) w)]) (rst := []) (c' := 2) (s' := 12) d72_62 mk71 rfl co71 lk4_165 im71 se71 rfl (vN (t := 0) (i := 0) (by decide)) (show 6 ≤ mL 71 by decide) rfl (show 0 ≤ 8 by decide) (by decide) (by decide) rfl rfl (by decide) (by decide) (m71 N L d ((((nI (N 19 (N 9 0 d) 7)).toInt64) + (bsm (N 9 1) (N 10 1) (N 11 1) (N 9 0 d) (w + 1) (N 8 1 3))) + (sm (L 21 (N 9 0 d)) w)) (L 21 (N 9 0 d) w) hd hc) ?_
  exact Sem.lret d72_65 rfl (by decide) (by decide) hzW ⟨congrArg (fun z => Sum.inl (some (aL z))) (show pgU N L d ((((nI (N 19 (N 9 0 d) 7)).toInt64) + (bsm (N 9 1) (N 10 1) (N 11 1) (N 9 0 d) (w + 1) (N 8 1 3))) + (sm (L 21 (N 9 0 d)) w)) (L 21 (N 9 0 d) w) = pgR N L d w by rfl), rfl⟩

theorem m66 {sc : XT} (N : TN) (L : TL) (d k m : Int32) (hc : CD N) : Sem sc 66 0 [(0, aR 0 0), (1, aI d), (2, aI k), (3, aI m)] [] (wd N L) 0 0 (QC (fun v N' L' => cPeg (N 8 0 3) (N 8 1 3) (bo (TD N)) d k m = 0 ∧ v = some (aL (pgF N L d.toInt.toNat k.toInt.toNat m.toInt.toNat)) ∧ N' = N ∧ L' = L) (fun e N' L' => cPeg (N 8 0 3) (N 8 1 3) (bo (TD N)) d k m = e + 1 ∧ e ≤ 2 ∧ N' = N ∧ L' = L)) := by
  have ht : ∀ i, i < 12 → N 19 i 10 ≤ 1 := fun i hi => (hc.1 i hi).2.2.2.2.2.2.2.2.2.2.2
  have hs0 := (hc.2.1 0 (by decide)).1
  have hs1 := (hc.2.1 1 (by decide)).1
  refine Sem.seg [(.aload_n 0, 0, 0), (.getfield 25, 4, 2), (.iload_n 1, 0, 0)] ⟨⟨d66_0, trivial⟩, ⟨d66_1, gf4_25⟩, ⟨d66_4, trivial⟩, trivial⟩ (lv' := [(0, aR 0 0), (1, aI d), (2, aI k), (3, aI m)]) (st' := [aI d, aR 8 0]) (w' := wd N L) (P := [vld NN 0 0]) rfl (vN (t := 0) (i := 0) (by decide)) (pc' := 5) rfl ?_
  by_cases h1 : 0 ≤ d.toInt ∧ d.toInt < (N 8 0 3 : Int)
  case neg =>
    refine Sem.cSx (as := [aR 8 0, aI d]) (rst := []) (c' := 1) (s' := 6) d66_5 mk51 rfl co51 lk4_127 ss51 (show 2 ≤ mL 51 by decide) rfl (show 0 ≤ 8 by decide) (by decide) (by decide) rfl rfl (by decide) (by decide) (m51x N L 0 (by decide) d (by omega) (by omega)) ?_
    intro N_ L_ hq_
    rw [hq_.1, hq_.2]
    exact SemX.up rfl (by decide) (by decide) ⟨_, _, rfl, 0, by decide, rfl, by refine ⟨?_, by decide, rfl, rfl⟩; show cPeg (N 8 0 3) (N 8 1 3) (bo (TD N)) d k m = _; unfold cPeg; have := bo_le (TD N); (repeat' split) <;> omega⟩
  case pos =>
    refine Sem.cSp0 (as := [aR 8 0, aI d]) (rst := []) (c' := 1) (s' := 6) d66_5 mk51 rfl co51 lk4_127 ss51 (show 2 ≤ mL 51 by decide) rfl (show 0 ≤ 8 by decide) (by decide) (by decide) rfl rfl (by decide) (by decide) (m51o N L 0 (by decide) d (by omega) h1.1 h1.2) ?_
    refine Sem.seg [(.iload_n 2, 0, 0), (.iconst 1, 0, 0)] ⟨⟨d66_8, trivial⟩, ⟨d66_9, trivial⟩, trivial⟩ (lv' := [(0, aR 0 0), (1, aI d), (2, aI k), (3, aI m)]) (st' := [aN 1, aI k]) (w' := wd N L) (P := []) rfl (trivial) (pc' := 10) rfl ?_
    refine Sem.icmp (tgt := 24) d66_10 (by decide) rfl rfl (fun b2 => ?_) (fun b2 => ?_)
    · have b2_ : ¬ k.toInt = 1 := bT rfl (nI_toInt (by decide)) b2
      refine Sem.seg [(.iload_n 2, 0, 0), (.iconst 2, 0, 0)] ⟨⟨d66_24, trivial⟩, ⟨d66_25, trivial⟩, trivial⟩ (lv' := [(0, aR 0 0), (1, aI d), (2, aI k), (3, aI m)]) (st' := [aN 2, aI k]) (w' := wd N L) (P := []) rfl (trivial) (pc' := 26) rfl ?_
      refine Sem.icmp (tgt := 33) d66_26 (by decide) rfl rfl (fun b3 => ?_) (fun b3 => ?_)
      · have b3_ : ¬ k.toInt = 2 := bT rfl (nI_toInt (by decide)) b3
        refine Sem.seg [(.iload_n 2, 0, 0), (.iconst 0, 0, 0), (.iconst 2, 0, 0)] ⟨⟨d66_33, trivial⟩, ⟨d66_34, trivial⟩, ⟨d66_35, trivial⟩, trivial⟩ (lv' := [(0, aR 0 0), (1, aI d), (2, aI k), (3, aI m)]) (st' := [aN 2, aN 0, aI k]) (w' := wd N L) (P := []) rfl (trivial) (pc' := 36) rfl ?_
        by_cases h4 : ((0 : Nat) : Int) ≤ k.toInt ∧ k.toInt ≤ ((2 : Nat) : Int)
        case neg =>
          refine Sem.cSx (as := [aI k, aN 0, aN 2]) (rst := []) (c' := 2) (s' := 12) d66_36 mk26 rfl co26 lk4_54 ss26 (show 3 ≤ mL 26 by decide) rfl (show 0 ≤ 8 by decide) (by decide) (by decide) rfl rfl (by decide) (by decide) (m26x N L k 0 2 (by decide) (by decide) (by omega)) ?_
          intro N_ L_ hq_
          rw [hq_.1, hq_.2]
          exact SemX.up rfl (by decide) (by decide) ⟨_, _, rfl, 1, by decide, rfl, by refine ⟨?_, by decide, rfl, rfl⟩; show cPeg (N 8 0 3) (N 8 1 3) (bo (TD N)) d k m = _; unfold cPeg; have := bo_le (TD N); (repeat' split) <;> omega⟩
        case pos =>
          refine Sem.cSp0 (as := [aI k, aN 0, aN 2]) (rst := []) (c' := 2) (s' := 12) d66_36 mk26 rfl co26 lk4_54 ss26 (show 3 ≤ mL 26 by decide) rfl (show 0 ≤ 8 by decide) (by decide) (by decide) rfl rfl (by decide) (by decide) (m26o N L k 0 2 (by decide) (by decide) h4.1 h4.2) ?_
          refine Sem.seg [(.aload_n 0, 0, 0)] ⟨⟨d66_39, trivial⟩, trivial⟩ (lv' := [(0, aR 0 0), (1, aI d), (2, aI k), (3, aI m)]) (st' := [aR 0 0]) (w' := wd N L) (P := []) rfl (trivial) (pc' := 40) rfl ?_
          by_cases h5 : bo (TD N) = 0
          case neg =>
            refine Sem.cVx (t := 0) (i := 0) (as := []) (rst := []) (c' := 3) (s' := 18) d66_40 mk59 rfl co59 lk4_146 im59 se59 rfl (vN (t := 0) (i := 0) (by decide)) (show 1 ≤ mL 59 by decide) rfl (show 0 ≤ 8 by decide) (by decide) (by decide) rfl rfl (by decide) (by decide) (m59x N L ht (by have := bo_le (TD N); omega)) ?_
            intro N_ L_ hq_
            rw [hq_.1, hq_.2]
            exact SemX.up rfl (by decide) (by decide) ⟨_, _, rfl, 2, by decide, rfl, by refine ⟨?_, by decide, rfl, rfl⟩; show cPeg (N 8 0 3) (N 8 1 3) (bo (TD N)) d k m = _; unfold cPeg; have := bo_le (TD N); (repeat' split) <;> omega⟩
          case pos =>
            refine Sem.cVp0 (t := 0) (i := 0) (as := []) (rst := []) (c' := 3) (s' := 18) d66_40 mk59 rfl co59 lk4_146 im59 se59 rfl (vN (t := 0) (i := 0) (by decide)) (show 1 ≤ mL 59 by decide) rfl (show 0 ≤ 8 by decide) (by decide) (by decide) rfl rfl (by decide) (by decide) (m59o N L ht h5) ?_
            refine Sem.seg [(.iload_n 2, 0, 0)] ⟨⟨d66_43, trivial⟩, trivial⟩ (lv' := [(0, aR 0 0), (1, aI d), (2, aI k), (3, aI m)]) (st' := [aI k]) (w' := wd N L) (P := []) rfl (trivial) (pc' := 44) rfl ?_
            by_cases e1 : k.toInt = 1
            case pos =>
              refine Sem.lookup rfl d66_44 (by decide) (off := 28) (by rw [e1]; rfl) (tgt := 72) (by decide) ?_
              refine Sem.pick [1, 0, 2, 3] (lv' := [(1, aI d), (0, aR 0 0), (2, aI k), (3, aI m)]) rfl ?_
              refine Sem.loc0 (show d = nI d.toInt.toNat from i_nI2 (by omega)) ?_
              refine Sem.pick [3, 0, 1, 2] (lv' := [(3, aI m), (1, aN d.toInt.toNat), (0, aR 0 0), (2, aI k)]) rfl ?_
              refine Sem.loc0 (show m = nI m.toInt.toNat from i_nI2 (by omega)) ?_
              refine Sem.seg [(.aload_n 0, 0, 0), (.iload_n 1, 0, 0), (.iload_n 3, 0, 0)] ⟨⟨d66_72, trivial⟩, ⟨d66_73, trivial⟩, ⟨d66_74, trivial⟩, trivial⟩ (lv' := [(3, aN m.toInt.toNat), (1, aN d.toInt.toNat), (0, aR 0 0), (2, aI k)]) (st' := [aN m.toInt.toNat, aN d.toInt.toNat, aR 0 0]) (w' := wd N L) (P := []) rfl (trivial) (pc' := 75) rfl ?_
              refine Sem.cVp1 (t := 0) (i := 0) (as := [aN d.toInt.toNat, aN m.toInt.toNat]) (rst := []) (c' := 5) (s' := 30) d66_75 mk67 rfl co67 lk4_158 im67 se67 rfl (vN (t := 0) (i := 0) (by decide)) (show 3 ≤ mL 67 by decide) rfl (show 0 ≤ 8 by decide) (by decide) (by decide) rfl rfl (by decide) (by decide) (m67 N L d.toInt.toNat m.toInt.toNat (by omega) (by omega) hc) ?_
              refine Sem.lret d66_78 rfl (by decide) (by decide) hzW ⟨_, _, rfl, ?_⟩
              refine ⟨?_, congrArg (fun z => some (aL z)) ?_, rfl, rfl⟩
              · unfold cPeg; have := bo_le (TD N); (repeat' split) <;> omega
              · unfold pgF; rw [if_pos (by omega)]
            case neg =>
              by_cases e2 : k.toInt = 2
              case pos =>
                refine Sem.lookup rfl d66_44 (by decide) (off := 35) (by rw [e2]; rfl) (tgt := 79) (by decide) ?_
                refine Sem.pick [1, 0, 2, 3] (lv' := [(1, aI d), (0, aR 0 0), (2, aI k), (3, aI m)]) rfl ?_
                refine Sem.loc0 (show d = nI d.toInt.toNat from i_nI2 (by omega)) ?_
                refine Sem.pick [3, 0, 1, 2] (lv' := [(3, aI m), (1, aN d.toInt.toNat), (0, aR 0 0), (2, aI k)]) rfl ?_
                refine Sem.loc0 (show m = nI m.toInt.toNat from i_nI2 (by omega)) ?_
                refine Sem.seg [(.aload_n 0, 0, 0), (.iload_n 1, 0, 0), (.iload_n 3, 0, 0)] ⟨⟨d66_79, trivial⟩, ⟨d66_80, trivial⟩, ⟨d66_81, trivial⟩, trivial⟩ (lv' := [(3, aN m.toInt.toNat), (1, aN d.toInt.toNat), (0, aR 0 0), (2, aI k)]) (st' := [aN m.toInt.toNat, aN d.toInt.toNat, aR 0 0]) (w' := wd N L) (P := []) rfl (trivial) (pc' := 82) rfl ?_
                refine Sem.cVp1 (t := 0) (i := 0) (as := [aN d.toInt.toNat, aN m.toInt.toNat]) (rst := []) (c' := 5) (s' := 30) d66_82 mk72 rfl co72 lk4_162 im72 se72 rfl (vN (t := 0) (i := 0) (by decide)) (show 3 ≤ mL 72 by decide) rfl (show 0 ≤ 8 by decide) (by decide) (by decide) rfl rfl (by decide) (by decide) (m72 N L d.toInt.toNat m.toInt.toNat (by omega) (by omega) hc) ?_
                refine Sem.lret d66_85 rfl (by decide) (by decide) hzW ⟨_, _, rfl, ?_⟩
                refine ⟨?_, congrArg (fun z => some (aL z)) ?_, rfl, rfl⟩
                · unfold cPeg; have := bo_le (TD N); (repeat' split) <;> omega
                · unfold pgF; rw [if_neg (by omega), if_pos (by omega)]
              case neg =>
                have e0 : k.toInt = 0 := by omega
                refine Sem.lookup rfl d66_44 (by decide) (off := 42) (by rw [e0]; rfl) (tgt := 86) (by decide) ?_
                refine Sem.pick [1, 0, 2, 3] (lv' := [(1, aI d), (0, aR 0 0), (2, aI k), (3, aI m)]) rfl ?_
                refine Sem.loc0 (show d = nI d.toInt.toNat from i_nI2 (by omega)) ?_
                have dI := (hc.2.1 0 (by decide)).2.1 d.toInt.toNat (by omega)
                refine Sem.seg [(.aload_n 0, 0, 0), (.iload_n 1, 0, 0), (.lconst 0, 0, 0), (.aload_n 0, 0, 0), (.aload_n 0, 0, 0), (.getfield 25, 4, 2), (.getfield 131, 1, 0), (.iload_n 1, 0, 0), (.iaload, 0, 0)] ⟨⟨d66_86, trivial⟩, ⟨d66_87, trivial⟩, ⟨d66_88, trivial⟩, ⟨d66_89, trivial⟩, ⟨d66_90, trivial⟩, ⟨d66_91, gf4_25⟩, ⟨d66_94, gf4_131⟩, ⟨d66_97, trivial⟩, ⟨d66_98, trivial⟩, trivial⟩ (lv' := [(1, aN d.toInt.toNat), (0, aR 0 0), (2, aI k), (3, aI m)]) (st' := [aN (N 9 0 d.toInt.toNat), aR 0 0, aL (Int64.ofNat 0), aN d.toInt.toNat, aR 0 0]) (w' := wd N L) (P := [vld NN 0 0, vld NN 8 0, vld NN 9 0, d.toInt.toNat < 24]) rfl (⟨vN (t := 0) (i := 0) (by decide), vN (t := 8) (i := 0) (by decide), vN (t := 9) (i := 0) (by decide), (show d.toInt.toNat < 24 by first | omega | exact dI)⟩) (pc' := 99) rfl ?_
                refine Sem.cVp1 (t := 0) (i := 0) (as := [aN (N 9 0 d.toInt.toNat)]) (rst := [aL (Int64.ofNat 0), aN d.toInt.toNat, aR 0 0]) (c' := 4) (s' := 24) d66_99 mk24 rfl co24 lk4_50 im24 se24 rfl (vN (t := 0) (i := 0) (by decide)) (show 2 ≤ mL 24 by decide) rfl (show 4 ≤ 8 by decide) (by decide) (by decide) rfl rfl (by decide) (by decide) (m24n N L (N 9 0 d.toInt.toNat) dI) ?_
                refine Sem.seg [(.getfield 120, 2, 7), (.i2l, 0, 0)] ⟨⟨d66_102, gf4_120⟩, ⟨d66_105, trivial⟩, trivial⟩ (lv' := [(1, aN d.toInt.toNat), (0, aR 0 0), (2, aI k), (3, aI m)]) (st' := [aL ((nI (N 19 (N 9 0 d.toInt.toNat) 7)).toInt64), aL (Int64.ofNat 0), aN d.toInt.toNat, aR 0 0]) (w' := wd N L) (P := [vld NN 19 (N 9 0 d.toInt.toNat)]) rfl (vN (t := 19) (i := N 9 0 d.toInt.toNat) (show N 9 0 d.toInt.toNat < 12 by first | omega | exact dI)) (pc' := 106) rfl ?_
                refine Sem.cVp1 (t := 0) (i := 0) (as := [aN d.toInt.toNat, aL (Int64.ofNat 0), aL ((nI (N 19 (N 9 0 d.toInt.toNat) 7)).toInt64)]) (rst := []) (c' := 5) (s' := 30) d66_106 mk71 rfl co71 lk4_165 im71 se71 rfl (vN (t := 0) (i := 0) (by decide)) (show 6 ≤ mL 71 by decide) rfl (show 0 ≤ 8 by decide) (by decide) (by decide) rfl rfl (by decide) (by decide) (m71 N L d.toInt.toNat 0 ((nI (N 19 (N 9 0 d.toInt.toNat) 7)).toInt64) (by omega) hc) ?_
                refine Sem.lret d66_109 rfl (by decide) (by decide) hzW ⟨_, _, rfl, ?_⟩
                refine ⟨?_, congrArg (fun z => some (aL z)) ?_, rfl, rfl⟩
                · unfold cPeg; have := bo_le (TD N); (repeat' split) <;> omega
                · unfold pgF; rw [if_neg (by omega), if_neg (by omega)]
      · have b3_ : ¬ (¬ k.toInt = 2) := bF rfl (nI_toInt (by decide)) b3
        refine Sem.seg [(.iload_n 3, 0, 0)] ⟨⟨d66_29, trivial⟩, trivial⟩ (lv' := [(0, aR 0 0), (1, aI d), (2, aI k), (3, aI m)]) (st' := [aI m]) (w' := wd N L) (P := []) rfl (trivial) (pc' := 30) rfl ?_
        by_cases h6 : 0 ≤ m.toInt ∧ m.toInt < 12
        case neg =>
          refine Sem.cSx (as := [aI m]) (rst := []) (c' := 2) (s' := 12) d66_30 mk45 rfl co45 lk4_143 ss45 (show 1 ≤ mL 45 by decide) rfl (show 0 ≤ 8 by decide) (by decide) (by decide) rfl rfl (by decide) (by decide) (m45x N L m (by omega)) ?_
          intro N_ L_ hq_
          rw [hq_.1, hq_.2]
          exact SemX.up rfl (by decide) (by decide) ⟨_, _, rfl, 0, by decide, rfl, by refine ⟨?_, by decide, rfl, rfl⟩; show cPeg (N 8 0 3) (N 8 1 3) (bo (TD N)) d k m = _; unfold cPeg; have := bo_le (TD N); (repeat' split) <;> omega⟩
        case pos =>
          refine Sem.cSp0 (as := [aI m]) (rst := []) (c' := 2) (s' := 12) d66_30 mk45 rfl co45 lk4_143 ss45 (show 1 ≤ mL 45 by decide) rfl (show 0 ≤ 8 by decide) (by decide) (by decide) rfl rfl (by decide) (by decide) (m45o N L m h6.1 h6.2) ?_
          refine Sem.seg [(.iload_n 2, 0, 0), (.iconst 0, 0, 0), (.iconst 2, 0, 0)] ⟨⟨d66_33, trivial⟩, ⟨d66_34, trivial⟩, ⟨d66_35, trivial⟩, trivial⟩ (lv' := [(0, aR 0 0), (1, aI d), (2, aI k), (3, aI m)]) (st' := [aN 2, aN 0, aI k]) (w' := wd N L) (P := []) rfl (trivial) (pc' := 36) rfl ?_
          by_cases h7 : ((0 : Nat) : Int) ≤ k.toInt ∧ k.toInt ≤ ((2 : Nat) : Int)
          case neg =>
            refine Sem.cSx (as := [aI k, aN 0, aN 2]) (rst := []) (c' := 3) (s' := 18) d66_36 mk26 rfl co26 lk4_54 ss26 (show 3 ≤ mL 26 by decide) rfl (show 0 ≤ 8 by decide) (by decide) (by decide) rfl rfl (by decide) (by decide) (m26x N L k 0 2 (by decide) (by decide) (by omega)) ?_
            intro N_ L_ hq_
            rw [hq_.1, hq_.2]
            exact SemX.up rfl (by decide) (by decide) ⟨_, _, rfl, 1, by decide, rfl, by refine ⟨?_, by decide, rfl, rfl⟩; show cPeg (N 8 0 3) (N 8 1 3) (bo (TD N)) d k m = _; unfold cPeg; have := bo_le (TD N); (repeat' split) <;> omega⟩
          case pos =>
            refine Sem.cSp0 (as := [aI k, aN 0, aN 2]) (rst := []) (c' := 3) (s' := 18) d66_36 mk26 rfl co26 lk4_54 ss26 (show 3 ≤ mL 26 by decide) rfl (show 0 ≤ 8 by decide) (by decide) (by decide) rfl rfl (by decide) (by decide) (m26o N L k 0 2 (by decide) (by decide) h7.1 h7.2) ?_
            refine Sem.seg [(.aload_n 0, 0, 0)] ⟨⟨d66_39, trivial⟩, trivial⟩ (lv' := [(0, aR 0 0), (1, aI d), (2, aI k), (3, aI m)]) (st' := [aR 0 0]) (w' := wd N L) (P := []) rfl (trivial) (pc' := 40) rfl ?_
            by_cases h8 : bo (TD N) = 0
            case neg =>
              refine Sem.cVx (t := 0) (i := 0) (as := []) (rst := []) (c' := 4) (s' := 24) d66_40 mk59 rfl co59 lk4_146 im59 se59 rfl (vN (t := 0) (i := 0) (by decide)) (show 1 ≤ mL 59 by decide) rfl (show 0 ≤ 8 by decide) (by decide) (by decide) rfl rfl (by decide) (by decide) (m59x N L ht (by have := bo_le (TD N); omega)) ?_
              intro N_ L_ hq_
              rw [hq_.1, hq_.2]
              exact SemX.up rfl (by decide) (by decide) ⟨_, _, rfl, 2, by decide, rfl, by refine ⟨?_, by decide, rfl, rfl⟩; show cPeg (N 8 0 3) (N 8 1 3) (bo (TD N)) d k m = _; unfold cPeg; have := bo_le (TD N); (repeat' split) <;> omega⟩
            case pos =>
              refine Sem.cVp0 (t := 0) (i := 0) (as := []) (rst := []) (c' := 4) (s' := 24) d66_40 mk59 rfl co59 lk4_146 im59 se59 rfl (vN (t := 0) (i := 0) (by decide)) (show 1 ≤ mL 59 by decide) rfl (show 0 ≤ 8 by decide) (by decide) (by decide) rfl rfl (by decide) (by decide) (m59o N L ht h8) ?_
              refine Sem.seg [(.iload_n 2, 0, 0)] ⟨⟨d66_43, trivial⟩, trivial⟩ (lv' := [(0, aR 0 0), (1, aI d), (2, aI k), (3, aI m)]) (st' := [aI k]) (w' := wd N L) (P := []) rfl (trivial) (pc' := 44) rfl ?_
              by_cases e1 : k.toInt = 1
              case pos =>
                refine Sem.lookup rfl d66_44 (by decide) (off := 28) (by rw [e1]; rfl) (tgt := 72) (by decide) ?_
                refine Sem.pick [1, 0, 2, 3] (lv' := [(1, aI d), (0, aR 0 0), (2, aI k), (3, aI m)]) rfl ?_
                refine Sem.loc0 (show d = nI d.toInt.toNat from i_nI2 (by omega)) ?_
                refine Sem.pick [3, 0, 1, 2] (lv' := [(3, aI m), (1, aN d.toInt.toNat), (0, aR 0 0), (2, aI k)]) rfl ?_
                refine Sem.loc0 (show m = nI m.toInt.toNat from i_nI2 (by omega)) ?_
                refine Sem.seg [(.aload_n 0, 0, 0), (.iload_n 1, 0, 0), (.iload_n 3, 0, 0)] ⟨⟨d66_72, trivial⟩, ⟨d66_73, trivial⟩, ⟨d66_74, trivial⟩, trivial⟩ (lv' := [(3, aN m.toInt.toNat), (1, aN d.toInt.toNat), (0, aR 0 0), (2, aI k)]) (st' := [aN m.toInt.toNat, aN d.toInt.toNat, aR 0 0]) (w' := wd N L) (P := []) rfl (trivial) (pc' := 75) rfl ?_
                refine Sem.cVp1 (t := 0) (i := 0) (as := [aN d.toInt.toNat, aN m.toInt.toNat]) (rst := []) (c' := 6) (s' := 36) d66_75 mk67 rfl co67 lk4_158 im67 se67 rfl (vN (t := 0) (i := 0) (by decide)) (show 3 ≤ mL 67 by decide) rfl (show 0 ≤ 8 by decide) (by decide) (by decide) rfl rfl (by decide) (by decide) (m67 N L d.toInt.toNat m.toInt.toNat (by omega) (by omega) hc) ?_
                refine Sem.lret d66_78 rfl (by decide) (by decide) hzW ⟨_, _, rfl, ?_⟩
                refine ⟨?_, congrArg (fun z => some (aL z)) ?_, rfl, rfl⟩
                · unfold cPeg; have := bo_le (TD N); (repeat' split) <;> omega
                · unfold pgF; rw [if_pos (by omega)]
              case neg =>
                by_cases e2 : k.toInt = 2
                case pos =>
                  refine Sem.lookup rfl d66_44 (by decide) (off := 35) (by rw [e2]; rfl) (tgt := 79) (by decide) ?_
                  refine Sem.pick [1, 0, 2, 3] (lv' := [(1, aI d), (0, aR 0 0), (2, aI k), (3, aI m)]) rfl ?_
                  refine Sem.loc0 (show d = nI d.toInt.toNat from i_nI2 (by omega)) ?_
                  refine Sem.pick [3, 0, 1, 2] (lv' := [(3, aI m), (1, aN d.toInt.toNat), (0, aR 0 0), (2, aI k)]) rfl ?_
                  refine Sem.loc0 (show m = nI m.toInt.toNat from i_nI2 (by omega)) ?_
                  refine Sem.seg [(.aload_n 0, 0, 0), (.iload_n 1, 0, 0), (.iload_n 3, 0, 0)] ⟨⟨d66_79, trivial⟩, ⟨d66_80, trivial⟩, ⟨d66_81, trivial⟩, trivial⟩ (lv' := [(3, aN m.toInt.toNat), (1, aN d.toInt.toNat), (0, aR 0 0), (2, aI k)]) (st' := [aN m.toInt.toNat, aN d.toInt.toNat, aR 0 0]) (w' := wd N L) (P := []) rfl (trivial) (pc' := 82) rfl ?_
                  refine Sem.cVp1 (t := 0) (i := 0) (as := [aN d.toInt.toNat, aN m.toInt.toNat]) (rst := []) (c' := 6) (s' := 36) d66_82 mk72 rfl co72 lk4_162 im72 se72 rfl (vN (t := 0) (i := 0) (by decide)) (show 3 ≤ mL 72 by decide) rfl (show 0 ≤ 8 by decide) (by decide) (by decide) rfl rfl (by decide) (by decide) (m72 N L d.toInt.toNat m.toInt.toNat (by omega) (by omega) hc) ?_
                  refine Sem.lret d66_85 rfl (by decide) (by decide) hzW ⟨_, _, rfl, ?_⟩
                  refine ⟨?_, congrArg (fun z => some (aL z)) ?_, rfl, rfl⟩
                  · unfold cPeg; have := bo_le (TD N); (repeat' split) <;> omega
                  · unfold pgF; rw [if_neg (by omega), if_pos (by omega)]
                case neg =>
                  have e0 : k.toInt = 0 := by omega
                  refine Sem.lookup rfl d66_44 (by decide) (off := 42) (by rw [e0]; rfl) (tgt := 86) (by decide) ?_
                  refine Sem.pick [1, 0, 2, 3] (lv' := [(1, aI d), (0, aR 0 0), (2, aI k), (3, aI m)]) rfl ?_
                  refine Sem.loc0 (show d = nI d.toInt.toNat from i_nI2 (by omega)) ?_
                  have dI := (hc.2.1 0 (by decide)).2.1 d.toInt.toNat (by omega)
                  refine Sem.seg [(.aload_n 0, 0, 0), (.iload_n 1, 0, 0), (.lconst 0, 0, 0), (.aload_n 0, 0, 0), (.aload_n 0, 0, 0), (.getfield 25, 4, 2), (.getfield 131, 1, 0), (.iload_n 1, 0, 0), (.iaload, 0, 0)] ⟨⟨d66_86, trivial⟩, ⟨d66_87, trivial⟩, ⟨d66_88, trivial⟩, ⟨d66_89, trivial⟩, ⟨d66_90, trivial⟩, ⟨d66_91, gf4_25⟩, ⟨d66_94, gf4_131⟩, ⟨d66_97, trivial⟩, ⟨d66_98, trivial⟩, trivial⟩ (lv' := [(1, aN d.toInt.toNat), (0, aR 0 0), (2, aI k), (3, aI m)]) (st' := [aN (N 9 0 d.toInt.toNat), aR 0 0, aL (Int64.ofNat 0), aN d.toInt.toNat, aR 0 0]) (w' := wd N L) (P := [vld NN 0 0, vld NN 8 0, vld NN 9 0, d.toInt.toNat < 24]) rfl (⟨vN (t := 0) (i := 0) (by decide), vN (t := 8) (i := 0) (by decide), vN (t := 9) (i := 0) (by decide), (show d.toInt.toNat < 24 by first | omega | exact dI)⟩) (pc' := 99) rfl ?_
                  refine Sem.cVp1 (t := 0) (i := 0) (as := [aN (N 9 0 d.toInt.toNat)]) (rst := [aL (Int64.ofNat 0), aN d.toInt.toNat, aR 0 0]) (c' := 5) (s' := 30) d66_99 mk24 rfl co24 lk4_50 im24 se24 rfl (vN (t := 0) (i := 0) (by decide)) (show 2 ≤ mL 24 by decide) rfl (show 4 ≤ 8 by decide) (by decide) (by decide) rfl rfl (by decide) (by decide) (m24n N L (N 9 0 d.toInt.toNat) dI) ?_
                  refine Sem.seg [(.getfield 120, 2, 7), (.i2l, 0, 0)] ⟨⟨d66_102, gf4_120⟩, ⟨d66_105, trivial⟩, trivial⟩ (lv' := [(1, aN d.toInt.toNat), (0, aR 0 0), (2, aI k), (3, aI m)]) (st' := [aL ((nI (N 19 (N 9 0 d.toInt.toNat) 7)).toInt64), aL (Int64.ofNat 0), aN d.toInt.toNat, aR 0 0]) (w' := wd N L) (P := [vld NN 19 (N 9 0 d.toInt.toNat)]) rfl (vN (t := 19) (i := N 9 0 d.toInt.toNat) (show N 9 0 d.toInt.toNat < 12 by first | omega | exact dI)) (pc' := 106) rfl ?_
                  refine Sem.cVp1 (t := 0) (i := 0) (as := [aN d.toInt.toNat, aL (Int64.ofNat 0), aL ((nI (N 19 (N 9 0 d.toInt.toNat) 7)).toInt64)]) (rst := []) (c' := 6) (s' := 36) d66_106 mk71 rfl co71 lk4_165 im71 se71 rfl (vN (t := 0) (i := 0) (by decide)) (show 6 ≤ mL 71 by decide) rfl (show 0 ≤ 8 by decide) (by decide) (by decide) rfl rfl (by decide) (by decide) (m71 N L d.toInt.toNat 0 ((nI (N 19 (N 9 0 d.toInt.toNat) 7)).toInt64) (by omega) hc) ?_
                  refine Sem.lret d66_109 rfl (by decide) (by decide) hzW ⟨_, _, rfl, ?_⟩
                  refine ⟨?_, congrArg (fun z => some (aL z)) ?_, rfl, rfl⟩
                  · unfold cPeg; have := bo_le (TD N); (repeat' split) <;> omega
                  · unfold pgF; rw [if_neg (by omega), if_neg (by omega)]
    · have b2_ : ¬ (¬ k.toInt = 1) := bF rfl (nI_toInt (by decide)) b2
      refine Sem.seg [(.aload_n 0, 0, 0), (.getfield 29, 4, 3), (.iload_n 3, 0, 0)] ⟨⟨d66_13, trivial⟩, ⟨d66_14, gf4_29⟩, ⟨d66_17, trivial⟩, trivial⟩ (lv' := [(0, aR 0 0), (1, aI d), (2, aI k), (3, aI m)]) (st' := [aI m, aR 8 1]) (w' := wd N L) (P := [vld NN 0 0]) rfl (vN (t := 0) (i := 0) (by decide)) (pc' := 18) rfl ?_
      by_cases h9 : 0 ≤ m.toInt ∧ m.toInt < (N 8 1 3 : Int)
      case neg =>
        refine Sem.cSx (as := [aR 8 1, aI m]) (rst := []) (c' := 2) (s' := 12) d66_18 mk51 rfl co51 lk4_127 ss51 (show 2 ≤ mL 51 by decide) rfl (show 0 ≤ 8 by decide) (by decide) (by decide) rfl rfl (by decide) (by decide) (m51x N L 1 (by decide) m (by omega) (by omega)) ?_
        intro N_ L_ hq_
        rw [hq_.1, hq_.2]
        exact SemX.up rfl (by decide) (by decide) ⟨_, _, rfl, 0, by decide, rfl, by refine ⟨?_, by decide, rfl, rfl⟩; show cPeg (N 8 0 3) (N 8 1 3) (bo (TD N)) d k m = _; unfold cPeg; have := bo_le (TD N); (repeat' split) <;> omega⟩
      case pos =>
        refine Sem.cSp0 (as := [aR 8 1, aI m]) (rst := []) (c' := 2) (s' := 12) d66_18 mk51 rfl co51 lk4_127 ss51 (show 2 ≤ mL 51 by decide) rfl (show 0 ≤ 8 by decide) (by decide) (by decide) rfl rfl (by decide) (by decide) (m51o N L 1 (by decide) m (by omega) h9.1 h9.2) ?_
        refine Sem.goto (tgt := 33) d66_21 (by decide) ?_
        refine Sem.seg [(.iload_n 2, 0, 0), (.iconst 0, 0, 0), (.iconst 2, 0, 0)] ⟨⟨d66_33, trivial⟩, ⟨d66_34, trivial⟩, ⟨d66_35, trivial⟩, trivial⟩ (lv' := [(0, aR 0 0), (1, aI d), (2, aI k), (3, aI m)]) (st' := [aN 2, aN 0, aI k]) (w' := wd N L) (P := []) rfl (trivial) (pc' := 36) rfl ?_
        by_cases h10 : ((0 : Nat) : Int) ≤ k.toInt ∧ k.toInt ≤ ((2 : Nat) : Int)
        case neg =>
          refine Sem.cSx (as := [aI k, aN 0, aN 2]) (rst := []) (c' := 3) (s' := 18) d66_36 mk26 rfl co26 lk4_54 ss26 (show 3 ≤ mL 26 by decide) rfl (show 0 ≤ 8 by decide) (by decide) (by decide) rfl rfl (by decide) (by decide) (m26x N L k 0 2 (by decide) (by decide) (by omega)) ?_
          intro N_ L_ hq_
          rw [hq_.1, hq_.2]
          exact SemX.up rfl (by decide) (by decide) ⟨_, _, rfl, 1, by decide, rfl, by refine ⟨?_, by decide, rfl, rfl⟩; show cPeg (N 8 0 3) (N 8 1 3) (bo (TD N)) d k m = _; unfold cPeg; have := bo_le (TD N); (repeat' split) <;> omega⟩
        case pos =>
          refine Sem.cSp0 (as := [aI k, aN 0, aN 2]) (rst := []) (c' := 3) (s' := 18) d66_36 mk26 rfl co26 lk4_54 ss26 (show 3 ≤ mL 26 by decide) rfl (show 0 ≤ 8 by decide) (by decide) (by decide) rfl rfl (by decide) (by decide) (m26o N L k 0 2 (by decide) (by decide) h10.1 h10.2) ?_
          refine Sem.seg [(.aload_n 0, 0, 0)] ⟨⟨d66_39, trivial⟩, trivial⟩ (lv' := [(0, aR 0 0), (1, aI d), (2, aI k), (3, aI m)]) (st' := [aR 0 0]) (w' := wd N L) (P := []) rfl (trivial) (pc' := 40) rfl ?_
          by_cases h11 : bo (TD N) = 0
          case neg =>
            refine Sem.cVx (t := 0) (i := 0) (as := []) (rst := []) (c' := 4) (s' := 24) d66_40 mk59 rfl co59 lk4_146 im59 se59 rfl (vN (t := 0) (i := 0) (by decide)) (show 1 ≤ mL 59 by decide) rfl (show 0 ≤ 8 by decide) (by decide) (by decide) rfl rfl (by decide) (by decide) (m59x N L ht (by have := bo_le (TD N); omega)) ?_
            intro N_ L_ hq_
            rw [hq_.1, hq_.2]
            exact SemX.up rfl (by decide) (by decide) ⟨_, _, rfl, 2, by decide, rfl, by refine ⟨?_, by decide, rfl, rfl⟩; show cPeg (N 8 0 3) (N 8 1 3) (bo (TD N)) d k m = _; unfold cPeg; have := bo_le (TD N); (repeat' split) <;> omega⟩
          case pos =>
            refine Sem.cVp0 (t := 0) (i := 0) (as := []) (rst := []) (c' := 4) (s' := 24) d66_40 mk59 rfl co59 lk4_146 im59 se59 rfl (vN (t := 0) (i := 0) (by decide)) (show 1 ≤ mL 59 by decide) rfl (show 0 ≤ 8 by decide) (by decide) (by decide) rfl rfl (by decide) (by decide) (m59o N L ht h11) ?_
            refine Sem.seg [(.iload_n 2, 0, 0)] ⟨⟨d66_43, trivial⟩, trivial⟩ (lv' := [(0, aR 0 0), (1, aI d), (2, aI k), (3, aI m)]) (st' := [aI k]) (w' := wd N L) (P := []) rfl (trivial) (pc' := 44) rfl ?_
            by_cases e1 : k.toInt = 1
            case pos =>
              refine Sem.lookup rfl d66_44 (by decide) (off := 28) (by rw [e1]; rfl) (tgt := 72) (by decide) ?_
              refine Sem.pick [1, 0, 2, 3] (lv' := [(1, aI d), (0, aR 0 0), (2, aI k), (3, aI m)]) rfl ?_
              refine Sem.loc0 (show d = nI d.toInt.toNat from i_nI2 (by omega)) ?_
              refine Sem.pick [3, 0, 1, 2] (lv' := [(3, aI m), (1, aN d.toInt.toNat), (0, aR 0 0), (2, aI k)]) rfl ?_
              refine Sem.loc0 (show m = nI m.toInt.toNat from i_nI2 (by omega)) ?_
              refine Sem.seg [(.aload_n 0, 0, 0), (.iload_n 1, 0, 0), (.iload_n 3, 0, 0)] ⟨⟨d66_72, trivial⟩, ⟨d66_73, trivial⟩, ⟨d66_74, trivial⟩, trivial⟩ (lv' := [(3, aN m.toInt.toNat), (1, aN d.toInt.toNat), (0, aR 0 0), (2, aI k)]) (st' := [aN m.toInt.toNat, aN d.toInt.toNat, aR 0 0]) (w' := wd N L) (P := []) rfl (trivial) (pc' := 75) rfl ?_
              refine Sem.cVp1 (t := 0) (i := 0) (as := [aN d.toInt.toNat, aN m.toInt.toNat]) (rst := []) (c' := 6) (s' := 36) d66_75 mk67 rfl co67 lk4_158 im67 se67 rfl (vN (t := 0) (i := 0) (by decide)) (show 3 ≤ mL 67 by decide) rfl (show 0 ≤ 8 by decide) (by decide) (by decide) rfl rfl (by decide) (by decide) (m67 N L d.toInt.toNat m.toInt.toNat (by omega) (by omega) hc) ?_
              refine Sem.lret d66_78 rfl (by decide) (by decide) hzW ⟨_, _, rfl, ?_⟩
              refine ⟨?_, congrArg (fun z => some (aL z)) ?_, rfl, rfl⟩
              · unfold cPeg; have := bo_le (TD N); (repeat' split) <;> omega
              · unfold pgF; rw [if_pos (by omega)]
            case neg =>
              by_cases e2 : k.toInt = 2
              case pos =>
                refine Sem.lookup rfl d66_44 (by decide) (off := 35) (by rw [e2]; rfl) (tgt := 79) (by decide) ?_
                refine Sem.pick [1, 0, 2, 3] (lv' := [(1, aI d), (0, aR 0 0), (2, aI k), (3, aI m)]) rfl ?_
                refine Sem.loc0 (show d = nI d.toInt.toNat from i_nI2 (by omega)) ?_
                refine Sem.pick [3, 0, 1, 2] (lv' := [(3, aI m), (1, aN d.toInt.toNat), (0, aR 0 0), (2, aI k)]) rfl ?_
                refine Sem.loc0 (show m = nI m.toInt.toNat from i_nI2 (by omega)) ?_
                refine Sem.seg [(.aload_n 0, 0, 0), (.iload_n 1, 0, 0), (.iload_n 3, 0, 0)] ⟨⟨d66_79, trivial⟩, ⟨d66_80, trivial⟩, ⟨d66_81, trivial⟩, trivial⟩ (lv' := [(3, aN m.toInt.toNat), (1, aN d.toInt.toNat), (0, aR 0 0), (2, aI k)]) (st' := [aN m.toInt.toNat, aN d.toInt.toNat, aR 0 0]) (w' := wd N L) (P := []) rfl (trivial) (pc' := 82) rfl ?_
                refine Sem.cVp1 (t := 0) (i := 0) (as := [aN d.toInt.toNat, aN m.toInt.toNat]) (rst := []) (c' := 6) (s' := 36) d66_82 mk72 rfl co72 lk4_162 im72 se72 rfl (vN (t := 0) (i := 0) (by decide)) (show 3 ≤ mL 72 by decide) rfl (show 0 ≤ 8 by decide) (by decide) (by decide) rfl rfl (by decide) (by decide) (m72 N L d.toInt.toNat m.toInt.toNat (by omega) (by omega) hc) ?_
                refine Sem.lret d66_85 rfl (by decide) (by decide) hzW ⟨_, _, rfl, ?_⟩
                refine ⟨?_, congrArg (fun z => some (aL z)) ?_, rfl, rfl⟩
                · unfold cPeg; have := bo_le (TD N); (repeat' split) <;> omega
                · unfold pgF; rw [if_neg (by omega), if_pos (by omega)]
              case neg =>
                have e0 : k.toInt = 0 := by omega
                refine Sem.lookup rfl d66_44 (by decide) (off := 42) (by rw [e0]; rfl) (tgt := 86) (by decide) ?_
                refine Sem.pick [1, 0, 2, 3] (lv' := [(1, aI d), (0, aR 0 0), (2, aI k), (3, aI m)]) rfl ?_
                refine Sem.loc0 (show d = nI d.toInt.toNat from i_nI2 (by omega)) ?_
                have dI := (hc.2.1 0 (by decide)).2.1 d.toInt.toNat (by omega)
                refine Sem.seg [(.aload_n 0, 0, 0), (.iload_n 1, 0, 0), (.lconst 0, 0, 0), (.aload_n 0, 0, 0), (.aload_n 0, 0, 0), (.getfield 25, 4, 2), (.getfield 131, 1, 0), (.iload_n 1, 0, 0), (.iaload, 0, 0)] ⟨⟨d66_86, trivial⟩, ⟨d66_87, trivial⟩, ⟨d66_88, trivial⟩, ⟨d66_89, trivial⟩, ⟨d66_90, trivial⟩, ⟨d66_91, gf4_25⟩, ⟨d66_94, gf4_131⟩, ⟨d66_97, trivial⟩, ⟨d66_98, trivial⟩, trivial⟩ (lv' := [(1, aN d.toInt.toNat), (0, aR 0 0), (2, aI k), (3, aI m)]) (st' := [aN (N 9 0 d.toInt.toNat), aR 0 0, aL (Int64.ofNat 0), aN d.toInt.toNat, aR 0 0]) (w' := wd N L) (P := [vld NN 0 0, vld NN 8 0, vld NN 9 0, d.toInt.toNat < 24]) rfl (⟨vN (t := 0) (i := 0) (by decide), vN (t := 8) (i := 0) (by decide), vN (t := 9) (i := 0) (by decide), (show d.toInt.toNat < 24 by first | omega | exact dI)⟩) (pc' := 99) rfl ?_
                refine Sem.cVp1 (t := 0) (i := 0) (as := [aN (N 9 0 d.toInt.toNat)]) (rst := [aL (Int64.ofNat 0), aN d.toInt.toNat, aR 0 0]) (c' := 5) (s' := 30) d66_99 mk24 rfl co24 lk4_50 im24 se24 rfl (vN (t := 0) (i := 0) (by decide)) (show 2 ≤ mL 24 by decide) rfl (show 4 ≤ 8 by decide) (by decide) (by decide) rfl rfl (by decide) (by decide) (m24n N L (N 9 0 d.toInt.toNat) dI) ?_
                refine Sem.seg [(.getfield 120, 2, 7), (.i2l, 0, 0)] ⟨⟨d66_102, gf4_120⟩, ⟨d66_105, trivial⟩, trivial⟩ (lv' := [(1, aN d.toInt.toNat), (0, aR 0 0), (2, aI k), (3, aI m)]) (st' := [aL ((nI (N 19 (N 9 0 d.toInt.toNat) 7)).toInt64), aL (Int64.ofNat 0), aN d.toInt.toNat, aR 0 0]) (w' := wd N L) (P := [vld NN 19 (N 9 0 d.toInt.toNat)]) rfl (vN (t := 19) (i := N 9 0 d.toInt.toNat) (show N 9 0 d.toInt.toNat < 12 by first | omega | exact dI)) (pc' := 106) rfl ?_
                refine Sem.cVp1 (t := 0) (i := 0) (as := [aN d.toInt.toNat, aL (Int64.ofNat 0), aL ((nI (N 19 (N 9 0 d.toInt.toNat) 7)).toInt64)]) (rst := []) (c' := 6) (s' := 36) d66_106 mk71 rfl co71 lk4_165 im71 se71 rfl (vN (t := 0) (i := 0) (by decide)) (show 6 ≤ mL 71 by decide) rfl (show 0 ≤ 8 by decide) (by decide) (by decide) rfl rfl (by decide) (by decide) (m71 N L d.toInt.toNat 0 ((nI (N 19 (N 9 0 d.toInt.toNat) 7)).toInt64) (by omega) hc) ?_
                refine Sem.lret d66_109 rfl (by decide) (by decide) hzW ⟨_, _, rfl, ?_⟩
                refine ⟨?_, congrArg (fun z => some (aL z)) ?_, rfl, rfl⟩
                · unfold cPeg; have := bo_le (TD N); (repeat' split) <;> omega
                · unfold pgF; rw [if_neg (by omega), if_neg (by omega)]

