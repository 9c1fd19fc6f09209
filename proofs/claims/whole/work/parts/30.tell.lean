-- ===== the class: what is told, and the plain answers =====
theorem m59o {sc : XT} (N : TN) (L : TL) (ht : ∀ i, i < 12 → N 19 i 10 ≤ 1) (h : bo (TD N) = 0) : Sem sc 59 0 [(0, aR 0 0)] [] (wd N L) 0 0 (QP none N L) := by
  refine Sem.seg [(.aload_n 0, 0, 0)] ⟨⟨d59_0, trivial⟩, trivial⟩ (lv' := [(0, aR 0 0)]) (st' := [aR 0 0]) (w' := wd N L) (P := []) rfl (trivial) (pc' := 1) rfl ?_
  refine Sem.cVp1 (t := 0) (i := 0) (as := []) (rst := []) (c' := 0) (s' := 0) d59_1 mk60 rfl co60 lk4_192 im60 se60 rfl (vN (t := 0) (i := 0) (by decide)) (show 1 ≤ mL 60 by decide) rfl (show 0 ≤ 8 by decide) (by decide) (by decide) rfl rfl (by decide) (by decide) (m60 N L ht) ?_
  refine Sem.topNN (show bo (TD N) = 0 from h) ?_
  refine Sem.ifN (tgt := 17) d59_4 (by decide) (by decide) (fun b1 => ?_) (fun b1 => ?_)
  rotate_left
  · exact absurd (show 0 = 0 from by decide) b1
  exact Sem.vret d59_17 rfl (by decide) (by decide) hzW ⟨rfl, rfl⟩

theorem m59x {sc : XT} (N : TN) (L : TL) (ht : ∀ i, i < 12 → N 19 i 10 ≤ 1) (h : bo (TD N) = 1) : Sem sc 59 0 [(0, aR 0 0)] [] (wd N L) 0 0 (QE (EX 2) (fun N' L' => N' = N ∧ L' = L)) := by
  refine Sem.seg [(.aload_n 0, 0, 0)] ⟨⟨d59_0, trivial⟩, trivial⟩ (lv' := [(0, aR 0 0)]) (st' := [aR 0 0]) (w' := wd N L) (P := []) rfl (trivial) (pc' := 1) rfl ?_
  refine Sem.cVp1 (t := 0) (i := 0) (as := []) (rst := []) (c' := 0) (s' := 0) d59_1 mk60 rfl co60 lk4_192 im60 se60 rfl (vN (t := 0) (i := 0) (by decide)) (show 1 ≤ mL 60 by decide) rfl (show 0 ≤ 8 by decide) (by decide) (by decide) rfl rfl (by decide) (by decide) (m60 N L ht) ?_
  refine Sem.topNN (show bo (TD N) = 1 from h) ?_
  refine Sem.ifN (tgt := 17) d59_4 (by decide) (by decide) (fun b1 => ?_) (fun b1 => ?_)
  · exact absurd (show 1 = 0 from b1) (by decide)
  exact Sem.thr 2 (by decide) (text := "something was told since the last replanning") rfl d59_7 d59_10 d59_11 d59_13 d59_16 cl4_109 inE2 itE2 (List.mem_of_getElem? (i := 7) rfl) lk4_113 rfl (by decide) (by decide) (by decide) (by decide) rfl ⟨rfl, _, _, rfl, by exact ⟨rfl, rfl⟩⟩

theorem m23 {sc : XT} (N : TN) (L : TL) (x r s l f : Int32) : Sem sc 23 0 [(0, aR 0 0), (1, aI x), (2, aI r), (3, aI s), (4, aI l), (5, aI f)] [] (wd N L) 0 0 (QC (fun v N' L' => cItem x r s l f = 0 ∧ v = none ∧ N' = upN (upN (upN (upN (upN N 19 x.toInt.toNat 0 (tn r)) 19 x.toInt.toNat 1 (tn s)) 19 x.toInt.toNat 2 (tn l)) 19 x.toInt.toNat 3 (tn f)) 19 x.toInt.toNat 10 1 ∧ L' = L) (fun e N' L' => cItem x r s l f = e + 1 ∧ e ≤ 1 ∧ N' = N ∧ L' = L)) := by
  refine Sem.seg [(.aload_n 0, 0, 0), (.iload_n 1, 0, 0)] ⟨⟨d23_0, trivial⟩, ⟨d23_1, trivial⟩, trivial⟩ (lv' := [(0, aR 0 0), (1, aI x), (2, aI r), (3, aI s), (4, aI l), (5, aI f)]) (st' := [aI x, aR 0 0]) (w' := wd N L) (P := []) rfl (trivial) (pc' := 2) rfl ?_
  by_cases h1 : 0 ≤ x.toInt ∧ x.toInt < 12
  case neg =>
    refine Sem.cVx (t := 0) (i := 0) (as := [aI x]) (rst := []) (c' := 1) (s' := 6) d23_2 mk24 rfl co24 lk4_50 im24 se24 rfl (vN (t := 0) (i := 0) (by decide)) (show 2 ≤ mL 24 by decide) rfl (show 0 ≤ 8 by decide) (by decide) (by decide) rfl rfl (by decide) (by decide) (m24x N L x (by omega)) ?_
    intro N_ L_ hq_
    rw [hq_.1, hq_.2]
    exact SemX.up rfl (by decide) (by decide) ⟨_, _, rfl, 0, by decide, rfl, by refine ⟨?_, by decide, rfl, rfl⟩; show cItem x r s l f = _; unfold cItem; have := bo_le (TD N); (repeat' split) <;> omega⟩
  case pos =>
    refine Sem.cVp1 (t := 0) (i := 0) (as := [aI x]) (rst := []) (c' := 1) (s' := 6) d23_2 mk24 rfl co24 lk4_50 im24 se24 rfl (vN (t := 0) (i := 0) (by decide)) (show 2 ≤ mL 24 by decide) rfl (show 0 ≤ 8 by decide) (by decide) (by decide) rfl rfl (by decide) (by decide) (m24o N L x.toInt.toNat x (i_nI2 h1.1) (by omega)) ?_
    refine Sem.seg [(.astore 6, 0, 0), (.iload_n 2, 0, 0), (.iconst 0, 0, 0), (.iconst 3, 0, 0)] ⟨⟨d23_5, trivial⟩, ⟨d23_7, trivial⟩, ⟨d23_8, trivial⟩, ⟨d23_9, trivial⟩, trivial⟩ (lv' := [(6, aR 19 x.toInt.toNat), (0, aR 0 0), (1, aI x), (2, aI r), (3, aI s), (4, aI l), (5, aI f)]) (st' := [aN 3, aN 0, aI r]) (w' := wd N L) (P := []) rfl (trivial) (pc' := 10) rfl ?_
    by_cases h2 : ((0 : Nat) : Int) ≤ r.toInt ∧ r.toInt ≤ ((3 : Nat) : Int)
    case neg =>
      refine Sem.cSx (as := [aI r, aN 0, aN 3]) (rst := []) (c' := 2) (s' := 12) d23_10 mk26 rfl co26 lk4_54 ss26 (show 3 ≤ mL 26 by decide) rfl (show 0 ≤ 8 by decide) (by decide) (by decide) rfl rfl (by decide) (by decide) (m26x N L r 0 3 (by decide) (by decide) (by omega)) ?_
      intro N_ L_ hq_
      rw [hq_.1, hq_.2]
      exact SemX.up rfl (by decide) (by decide) ⟨_, _, rfl, 1, by decide, rfl, by refine ⟨?_, by decide, rfl, rfl⟩; show cItem x r s l f = _; unfold cItem; have := bo_le (TD N); (repeat' split) <;> omega⟩
    case pos =>
      refine Sem.cSp0 (as := [aI r, aN 0, aN 3]) (rst := []) (c' := 2) (s' := 12) d23_10 mk26 rfl co26 lk4_54 ss26 (show 3 ≤ mL 26 by decide) rfl (show 0 ≤ 8 by decide) (by decide) (by decide) rfl rfl (by decide) (by decide) (m26o N L r 0 3 (by decide) (by decide) h2.1 h2.2) ?_
      refine Sem.seg [(.iload_n 3, 0, 0), (.iconst 1, 0, 0), (.sipush 1000, 0, 0)] ⟨⟨d23_13, trivial⟩, ⟨d23_14, trivial⟩, ⟨d23_15, trivial⟩, trivial⟩ (lv' := [(6, aR 19 x.toInt.toNat), (0, aR 0 0), (1, aI x), (2, aI r), (3, aI s), (4, aI l), (5, aI f)]) (st' := [aN 1000, aN 1, aI s]) (w' := wd N L) (P := []) rfl (trivial) (pc' := 18) rfl ?_
      by_cases h3 : ((1 : Nat) : Int) ≤ s.toInt ∧ s.toInt ≤ ((1000 : Nat) : Int)
      case neg =>
        refine Sem.cSx (as := [aI s, aN 1, aN 1000]) (rst := []) (c' := 3) (s' := 18) d23_18 mk26 rfl co26 lk4_54 ss26 (show 3 ≤ mL 26 by decide) rfl (show 0 ≤ 8 by decide) (by decide) (by decide) rfl rfl (by decide) (by decide) (m26x N L s 1 1000 (by decide) (by decide) (by omega)) ?_
        intro N_ L_ hq_
        rw [hq_.1, hq_.2]
        exact SemX.up rfl (by decide) (by decide) ⟨_, _, rfl, 1, by decide, rfl, by refine ⟨?_, by decide, rfl, rfl⟩; show cItem x r s l f = _; unfold cItem; have := bo_le (TD N); (repeat' split) <;> omega⟩
      case pos =>
        refine Sem.cSp0 (as := [aI s, aN 1, aN 1000]) (rst := []) (c' := 3) (s' := 18) d23_18 mk26 rfl co26 lk4_54 ss26 (show 3 ≤ mL 26 by decide) rfl (show 0 ≤ 8 by decide) (by decide) (by decide) rfl rfl (by decide) (by decide) (m26o N L s 1 1000 (by decide) (by decide) h3.1 h3.2) ?_
        refine Sem.seg [(.iload 4, 0, 0), (.iconst 0, 0, 0), (.iconst 4, 0, 0)] ⟨⟨d23_21, trivial⟩, ⟨d23_23, trivial⟩, ⟨d23_24, trivial⟩, trivial⟩ (lv' := [(6, aR 19 x.toInt.toNat), (0, aR 0 0), (1, aI x), (2, aI r), (3, aI s), (4, aI l), (5, aI f)]) (st' := [aN 4, aN 0, aI l]) (w' := wd N L) (P := []) rfl (trivial) (pc' := 25) rfl ?_
        by_cases h4 : ((0 : Nat) : Int) ≤ l.toInt ∧ l.toInt ≤ ((4 : Nat) : Int)
        case neg =>
          refine Sem.cSx (as := [aI l, aN 0, aN 4]) (rst := []) (c' := 4) (s' := 24) d23_25 mk26 rfl co26 lk4_54 ss26 (show 3 ≤ mL 26 by decide) rfl (show 0 ≤ 8 by decide) (by decide) (by decide) rfl rfl (by decide) (by decide) (m26x N L l 0 4 (by decide) (by decide) (by omega)) ?_
          intro N_ L_ hq_
          rw [hq_.1, hq_.2]
          exact SemX.up rfl (by decide) (by decide) ⟨_, _, rfl, 1, by decide, rfl, by refine ⟨?_, by decide, rfl, rfl⟩; show cItem x r s l f = _; unfold cItem; have := bo_le (TD N); (repeat' split) <;> omega⟩
        case pos =>
          refine Sem.cSp0 (as := [aI l, aN 0, aN 4]) (rst := []) (c' := 4) (s' := 24) d23_25 mk26 rfl co26 lk4_54 ss26 (show 3 ≤ mL 26 by decide) rfl (show 0 ≤ 8 by decide) (by decide) (by decide) rfl rfl (by decide) (by decide) (m26o N L l 0 4 (by decide) (by decide) h4.1 h4.2) ?_
          refine Sem.seg [(.iload 5, 0, 0), (.iconst 0, 0, 0), (.sipush 1000, 0, 0)] ⟨⟨d23_28, trivial⟩, ⟨d23_30, trivial⟩, ⟨d23_31, trivial⟩, trivial⟩ (lv' := [(6, aR 19 x.toInt.toNat), (0, aR 0 0), (1, aI x), (2, aI r), (3, aI s), (4, aI l), (5, aI f)]) (st' := [aN 1000, aN 0, aI f]) (w' := wd N L) (P := []) rfl (trivial) (pc' := 34) rfl ?_
          by_cases h5 : ((0 : Nat) : Int) ≤ f.toInt ∧ f.toInt ≤ ((1000 : Nat) : Int)
          case neg =>
            refine Sem.cSx (as := [aI f, aN 0, aN 1000]) (rst := []) (c' := 5) (s' := 30) d23_34 mk26 rfl co26 lk4_54 ss26 (show 3 ≤ mL 26 by decide) rfl (show 0 ≤ 8 by decide) (by decide) (by decide) rfl rfl (by decide) (by decide) (m26x N L f 0 1000 (by decide) (by decide) (by omega)) ?_
            intro N_ L_ hq_
            rw [hq_.1, hq_.2]
            exact SemX.up rfl (by decide) (by decide) ⟨_, _, rfl, 1, by decide, rfl, by refine ⟨?_, by decide, rfl, rfl⟩; show cItem x r s l f = _; unfold cItem; have := bo_le (TD N); (repeat' split) <;> omega⟩
          case pos =>
            refine Sem.cSp0 (as := [aI f, aN 0, aN 1000]) (rst := []) (c' := 5) (s' := 30) d23_34 mk26 rfl co26 lk4_54 ss26 (show 3 ≤ mL 26 by decide) rfl (show 0 ≤ 8 by decide) (by decide) (by decide) rfl rfl (by decide) (by decide) (m26o N L f 0 1000 (by decide) (by decide) h5.1 h5.2) ?_
            refine Sem.seg [(.aload 6, 0, 0), (.iload_n 2, 0, 0), (.putfield 58, 2, 0), (.aload 6, 0, 0), (.iload_n 3, 0, 0), (.putfield 62, 2, 1), (.aload 6, 0, 0), (.iload 4, 0, 0), (.putfield 65, 2, 2), (.aload 6, 0, 0), (.iload 5, 0, 0), (.putfield 68, 2, 3), (.aload 6, 0, 0), (.iconst 1, 0, 0), (.putfield 71, 2, 10)] ⟨⟨d23_37, trivial⟩, ⟨d23_39, trivial⟩, ⟨d23_40, gf4_58⟩, ⟨d23_43, trivial⟩, ⟨d23_45, trivial⟩, ⟨d23_46, gf4_62⟩, ⟨d23_49, trivial⟩, ⟨d23_51, trivial⟩, ⟨d23_53, gf4_65⟩, ⟨d23_56, trivial⟩, ⟨d23_58, trivial⟩, ⟨d23_60, gf4_68⟩, ⟨d23_63, trivial⟩, ⟨d23_65, trivial⟩, ⟨d23_66, gf4_71⟩, trivial⟩ (lv' := [(6, aR 19 x.toInt.toNat), (0, aR 0 0), (1, aI x), (2, aI r), (3, aI s), (4, aI l), (5, aI f)]) (st' := []) (w' := wd (upN (upN (upN (upN (upN N 19 x.toInt.toNat 0 (tn r)) 19 x.toInt.toNat 1 (tn s)) 19 x.toInt.toNat 2 (tn l)) 19 x.toInt.toNat 3 (tn f)) 19 x.toInt.toNat 10 1) L) (P := [vld NN 19 x.toInt.toNat, vld NN 19 x.toInt.toNat, vld NN 19 x.toInt.toNat, vld NN 19 x.toInt.toNat, vld NN 19 x.toInt.toNat, 1 = 0 ∨ 1 = 1]) rfl (⟨vN (t := 19) (i := x.toInt.toNat) (show x.toInt.toNat < 12 by omega), vN (t := 19) (i := x.toInt.toNat) (show x.toInt.toNat < 12 by omega), vN (t := 19) (i := x.toInt.toNat) (show x.toInt.toNat < 12 by omega), vN (t := 19) (i := x.toInt.toNat) (show x.toInt.toNat < 12 by omega), vN (t := 19) (i := x.toInt.toNat) (show x.toInt.toNat < 12 by omega), (show (1 : Nat) = 0 ∨ (1 : Nat) = 1 by decide)⟩) (pc' := 69) rfl ?_
            exact Sem.vret d23_69 rfl (by decide) (by decide) hzW ⟨_, _, rfl, by refine ⟨?_, rfl, rfl, rfl⟩; unfold cItem; have := bo_le (TD N); (repeat' split) <;> omega⟩

theorem m28 {sc : XT} (N : TN) (L : TL) (x a b c : Int32) : Sem sc 28 0 [(0, aR 0 0), (1, aI x), (2, aI a), (3, aI b), (4, aI c)] [] (wd N L) 0 0 (QC (fun v N' L' => cCosts x a b c = 0 ∧ v = none ∧ N' = upN (upN (upN (upN N 19 x.toInt.toNat 4 (tn a)) 19 x.toInt.toNat 5 (tn b)) 19 x.toInt.toNat 6 (tn c)) 19 x.toInt.toNat 10 1 ∧ L' = L) (fun e N' L' => cCosts x a b c = e + 1 ∧ e ≤ 1 ∧ N' = N ∧ L' = L)) := by
  refine Sem.seg [(.aload_n 0, 0, 0), (.iload_n 1, 0, 0)] ⟨⟨d28_0, trivial⟩, ⟨d28_1, trivial⟩, trivial⟩ (lv' := [(0, aR 0 0), (1, aI x), (2, aI a), (3, aI b), (4, aI c)]) (st' := [aI x, aR 0 0]) (w' := wd N L) (P := []) rfl (trivial) (pc' := 2) rfl ?_
  by_cases h1 : 0 ≤ x.toInt ∧ x.toInt < 12
  case neg =>
    refine Sem.cVx (t := 0) (i := 0) (as := [aI x]) (rst := []) (c' := 1) (s' := 6) d28_2 mk24 rfl co24 lk4_50 im24 se24 rfl (vN (t := 0) (i := 0) (by decide)) (show 2 ≤ mL 24 by decide) rfl (show 0 ≤ 8 by decide) (by decide) (by decide) rfl rfl (by decide) (by decide) (m24x N L x (by omega)) ?_
    intro N_ L_ hq_
    rw [hq_.1, hq_.2]
    exact SemX.up rfl (by decide) (by decide) ⟨_, _, rfl, 0, by decide, rfl, by refine ⟨?_, by decide, rfl, rfl⟩; show cCosts x a b c = _; unfold cCosts; have := bo_le (TD N); (repeat' split) <;> omega⟩
  case pos =>
    refine Sem.cVp1 (t := 0) (i := 0) (as := [aI x]) (rst := []) (c' := 1) (s' := 6) d28_2 mk24 rfl co24 lk4_50 im24 se24 rfl (vN (t := 0) (i := 0) (by decide)) (show 2 ≤ mL 24 by decide) rfl (show 0 ≤ 8 by decide) (by decide) (by decide) rfl rfl (by decide) (by decide) (m24o N L x.toInt.toNat x (i_nI2 h1.1) (by omega)) ?_
    refine Sem.seg [(.astore 5, 0, 0), (.iload_n 2, 0, 0), (.iconst 0, 0, 0), (.sipush 200, 0, 0)] ⟨⟨d28_5, trivial⟩, ⟨d28_7, trivial⟩, ⟨d28_8, trivial⟩, ⟨d28_9, trivial⟩, trivial⟩ (lv' := [(5, aR 19 x.toInt.toNat), (0, aR 0 0), (1, aI x), (2, aI a), (3, aI b), (4, aI c)]) (st' := [aN 200, aN 0, aI a]) (w' := wd N L) (P := []) rfl (trivial) (pc' := 12) rfl ?_
    by_cases h2 : ((0 : Nat) : Int) ≤ a.toInt ∧ a.toInt ≤ ((200 : Nat) : Int)
    case neg =>
      refine Sem.cSx (as := [aI a, aN 0, aN 200]) (rst := []) (c' := 2) (s' := 12) d28_12 mk26 rfl co26 lk4_54 ss26 (show 3 ≤ mL 26 by decide) rfl (show 0 ≤ 8 by decide) (by decide) (by decide) rfl rfl (by decide) (by decide) (m26x N L a 0 200 (by decide) (by decide) (by omega)) ?_
      intro N_ L_ hq_
      rw [hq_.1, hq_.2]
      exact SemX.up rfl (by decide) (by decide) ⟨_, _, rfl, 1, by decide, rfl, by refine ⟨?_, by decide, rfl, rfl⟩; show cCosts x a b c = _; unfold cCosts; have := bo_le (TD N); (repeat' split) <;> omega⟩
    case pos =>
      refine Sem.cSp0 (as := [aI a, aN 0, aN 200]) (rst := []) (c' := 2) (s' := 12) d28_12 mk26 rfl co26 lk4_54 ss26 (show 3 ≤ mL 26 by decide) rfl (show 0 ≤ 8 by decide) (by decide) (by decide) rfl rfl (by decide) (by decide) (m26o N L a 0 200 (by decide) (by decide) h2.1 h2.2) ?_
      refine Sem.seg [(.iload_n 3, 0, 0), (.iconst 0, 0, 0), (.ldc 75, 100000, 0)] ⟨⟨d28_15, trivial⟩, ⟨d28_16, trivial⟩, ⟨d28_17, cn4_75⟩, trivial⟩ (lv' := [(5, aR 19 x.toInt.toNat), (0, aR 0 0), (1, aI x), (2, aI a), (3, aI b), (4, aI c)]) (st' := [aN 100000, aN 0, aI b]) (w' := wd N L) (P := []) rfl (trivial) (pc' := 19) rfl ?_
      by_cases h3 : ((0 : Nat) : Int) ≤ b.toInt ∧ b.toInt ≤ ((100000 : Nat) : Int)
      case neg =>
        refine Sem.cSx (as := [aI b, aN 0, aN 100000]) (rst := []) (c' := 3) (s' := 18) d28_19 mk26 rfl co26 lk4_54 ss26 (show 3 ≤ mL 26 by decide) rfl (show 0 ≤ 8 by decide) (by decide) (by decide) rfl rfl (by decide) (by decide) (m26x N L b 0 100000 (by decide) (by decide) (by omega)) ?_
        intro N_ L_ hq_
        rw [hq_.1, hq_.2]
        exact SemX.up rfl (by decide) (by decide) ⟨_, _, rfl, 1, by decide, rfl, by refine ⟨?_, by decide, rfl, rfl⟩; show cCosts x a b c = _; unfold cCosts; have := bo_le (TD N); (repeat' split) <;> omega⟩
      case pos =>
        refine Sem.cSp0 (as := [aI b, aN 0, aN 100000]) (rst := []) (c' := 3) (s' := 18) d28_19 mk26 rfl co26 lk4_54 ss26 (show 3 ≤ mL 26 by decide) rfl (show 0 ≤ 8 by decide) (by decide) (by decide) rfl rfl (by decide) (by decide) (m26o N L b 0 100000 (by decide) (by decide) h3.1 h3.2) ?_
        refine Sem.seg [(.iload 4, 0, 0), (.iconst 0, 0, 0), (.bipush 100, 0, 0)] ⟨⟨d28_22, trivial⟩, ⟨d28_24, trivial⟩, ⟨d28_25, trivial⟩, trivial⟩ (lv' := [(5, aR 19 x.toInt.toNat), (0, aR 0 0), (1, aI x), (2, aI a), (3, aI b), (4, aI c)]) (st' := [aN 100, aN 0, aI c]) (w' := wd N L) (P := []) rfl (trivial) (pc' := 27) rfl ?_
        by_cases h4 : ((0 : Nat) : Int) ≤ c.toInt ∧ c.toInt ≤ ((100 : Nat) : Int)
        case neg =>
          refine Sem.cSx (as := [aI c, aN 0, aN 100]) (rst := []) (c' := 4) (s' := 24) d28_27 mk26 rfl co26 lk4_54 ss26 (show 3 ≤ mL 26 by decide) rfl (show 0 ≤ 8 by decide) (by decide) (by decide) rfl rfl (by decide) (by decide) (m26x N L c 0 100 (by decide) (by decide) (by omega)) ?_
          intro N_ L_ hq_
          rw [hq_.1, hq_.2]
          exact SemX.up rfl (by decide) (by decide) ⟨_, _, rfl, 1, by decide, rfl, by refine ⟨?_, by decide, rfl, rfl⟩; show cCosts x a b c = _; unfold cCosts; have := bo_le (TD N); (repeat' split) <;> omega⟩
        case pos =>
          refine Sem.cSp0 (as := [aI c, aN 0, aN 100]) (rst := []) (c' := 4) (s' := 24) d28_27 mk26 rfl co26 lk4_54 ss26 (show 3 ≤ mL 26 by decide) rfl (show 0 ≤ 8 by decide) (by decide) (by decide) rfl rfl (by decide) (by decide) (m26o N L c 0 100 (by decide) (by decide) h4.1 h4.2) ?_
          refine Sem.seg [(.aload 5, 0, 0), (.iload_n 2, 0, 0), (.putfield 76, 2, 4), (.aload 5, 0, 0), (.iload_n 3, 0, 0), (.putfield 79, 2, 5), (.aload 5, 0, 0), (.iload 4, 0, 0), (.putfield 82, 2, 6), (.aload 5, 0, 0), (.iconst 1, 0, 0), (.putfield 71, 2, 10)] ⟨⟨d28_30, trivial⟩, ⟨d28_32, trivial⟩, ⟨d28_33, gf4_76⟩, ⟨d28_36, trivial⟩, ⟨d28_38, trivial⟩, ⟨d28_39, gf4_79⟩, ⟨d28_42, trivial⟩, ⟨d28_44, trivial⟩, ⟨d28_46, gf4_82⟩, ⟨d28_49, trivial⟩, ⟨d28_51, trivial⟩, ⟨d28_52, gf4_71⟩, trivial⟩ (lv' := [(5, aR 19 x.toInt.toNat), (0, aR 0 0), (1, aI x), (2, aI a), (3, aI b), (4, aI c)]) (st' := []) (w' := wd (upN (upN (upN (upN N 19 x.toInt.toNat 4 (tn a)) 19 x.toInt.toNat 5 (tn b)) 19 x.toInt.toNat 6 (tn c)) 19 x.toInt.toNat 10 1) L) (P := [vld NN 19 x.toInt.toNat, vld NN 19 x.toInt.toNat, vld NN 19 x.toInt.toNat, vld NN 19 x.toInt.toNat, 1 = 0 ∨ 1 = 1]) rfl (⟨vN (t := 19) (i := x.toInt.toNat) (show x.toInt.toNat < 12 by omega), vN (t := 19) (i := x.toInt.toNat) (show x.toInt.toNat < 12 by omega), vN (t := 19) (i := x.toInt.toNat) (show x.toInt.toNat < 12 by omega), vN (t := 19) (i := x.toInt.toNat) (show x.toInt.toNat < 12 by omega), (show (1 : Nat) = 0 ∨ (1 : Nat) = 1 by decide)⟩) (pc' := 55) rfl ?_
          exact Sem.vret d28_55 rfl (by decide) (by decide) hzW ⟨_, _, rfl, by refine ⟨?_, rfl, rfl, rfl⟩; unfold cCosts; have := bo_le (TD N); (repeat' split) <;> omega⟩

theorem m30 {sc : XT} (N : TN) (L : TL) (x c h : Int32) : Sem sc 30 0 [(0, aR 0 0), (1, aI x), (2, aI c), (3, aI h)] [] (wd N L) 0 0 (QC (fun v N' L' => cMade x c h = 0 ∧ v = none ∧ N' = upN (upN N 19 x.toInt.toNat 8 (tn c)) 19 x.toInt.toNat 9 (tn h) ∧ L' = L) (fun e N' L' => cMade x c h = e + 1 ∧ e ≤ 1 ∧ N' = N ∧ L' = L)) := by
  refine Sem.seg [(.aload_n 0, 0, 0), (.iload_n 1, 0, 0)] ⟨⟨d30_0, trivial⟩, ⟨d30_1, trivial⟩, trivial⟩ (lv' := [(0, aR 0 0), (1, aI x), (2, aI c), (3, aI h)]) (st' := [aI x, aR 0 0]) (w' := wd N L) (P := []) rfl (trivial) (pc' := 2) rfl ?_
  by_cases h1 : 0 ≤ x.toInt ∧ x.toInt < 12
  case neg =>
    refine Sem.cVx (t := 0) (i := 0) (as := [aI x]) (rst := []) (c' := 1) (s' := 6) d30_2 mk24 rfl co24 lk4_50 im24 se24 rfl (vN (t := 0) (i := 0) (by decide)) (show 2 ≤ mL 24 by decide) rfl (show 0 ≤ 8 by decide) (by decide) (by decide) rfl rfl (by decide) (by decide) (m24x N L x (by omega)) ?_
    intro N_ L_ hq_
    rw [hq_.1, hq_.2]
    exact SemX.up rfl (by decide) (by decide) ⟨_, _, rfl, 0, by decide, rfl, by refine ⟨?_, by decide, rfl, rfl⟩; show cMade x c h = _; unfold cMade; have := bo_le (TD N); (repeat' split) <;> omega⟩
  case pos =>
    refine Sem.cVp1 (t := 0) (i := 0) (as := [aI x]) (rst := []) (c' := 1) (s' := 6) d30_2 mk24 rfl co24 lk4_50 im24 se24 rfl (vN (t := 0) (i := 0) (by decide)) (show 2 ≤ mL 24 by decide) rfl (show 0 ≤ 8 by decide) (by decide) (by decide) rfl rfl (by decide) (by decide) (m24o N L x.toInt.toNat x (i_nI2 h1.1) (by omega)) ?_
    refine Sem.seg [(.astore 4, 0, 0), (.iload_n 2, 0, 0)] ⟨⟨d30_5, trivial⟩, ⟨d30_7, trivial⟩, trivial⟩ (lv' := [(4, aR 19 x.toInt.toNat), (0, aR 0 0), (1, aI x), (2, aI c), (3, aI h)]) (st' := [aI c]) (w' := wd N L) (P := []) rfl (trivial) (pc' := 8) rfl ?_
    by_cases h2 : 0 ≤ c.toInt ∧ c.toInt < 3
    case neg =>
      refine Sem.cSx (as := [aI c]) (rst := []) (c' := 2) (s' := 12) d30_8 mk31 rfl co31 lk4_85 ss31 (show 1 ≤ mL 31 by decide) rfl (show 0 ≤ 8 by decide) (by decide) (by decide) rfl rfl (by decide) (by decide) (m31x N L c (by omega)) ?_
      intro N_ L_ hq_
      rw [hq_.1, hq_.2]
      exact SemX.up rfl (by decide) (by decide) ⟨_, _, rfl, 0, by decide, rfl, by refine ⟨?_, by decide, rfl, rfl⟩; show cMade x c h = _; unfold cMade; have := bo_le (TD N); (repeat' split) <;> omega⟩
    case pos =>
      refine Sem.cSp0 (as := [aI c]) (rst := []) (c' := 2) (s' := 12) d30_8 mk31 rfl co31 lk4_85 ss31 (show 1 ≤ mL 31 by decide) rfl (show 0 ≤ 8 by decide) (by decide) (by decide) rfl rfl (by decide) (by decide) (m31o N L c h2.1 h2.2) ?_
      refine Sem.seg [(.iload_n 3, 0, 0), (.iconst 0, 0, 0), (.bipush 9, 0, 0)] ⟨⟨d30_11, trivial⟩, ⟨d30_12, trivial⟩, ⟨d30_13, trivial⟩, trivial⟩ (lv' := [(4, aR 19 x.toInt.toNat), (0, aR 0 0), (1, aI x), (2, aI c), (3, aI h)]) (st' := [aN 9, aN 0, aI h]) (w' := wd N L) (P := []) rfl (trivial) (pc' := 15) rfl ?_
      by_cases h3 : ((0 : Nat) : Int) ≤ h.toInt ∧ h.toInt ≤ ((9 : Nat) : Int)
      case neg =>
        refine Sem.cSx (as := [aI h, aN 0, aN 9]) (rst := []) (c' := 3) (s' := 18) d30_15 mk26 rfl co26 lk4_54 ss26 (show 3 ≤ mL 26 by decide) rfl (show 0 ≤ 8 by decide) (by decide) (by decide) rfl rfl (by decide) (by decide) (m26x N L h 0 9 (by decide) (by decide) (by omega)) ?_
        intro N_ L_ hq_
        rw [hq_.1, hq_.2]
        exact SemX.up rfl (by decide) (by decide) ⟨_, _, rfl, 1, by decide, rfl, by refine ⟨?_, by decide, rfl, rfl⟩; show cMade x c h = _; unfold cMade; have := bo_le (TD N); (repeat' split) <;> omega⟩
      case pos =>
        refine Sem.cSp0 (as := [aI h, aN 0, aN 9]) (rst := []) (c' := 3) (s' := 18) d30_15 mk26 rfl co26 lk4_54 ss26 (show 3 ≤ mL 26 by decide) rfl (show 0 ≤ 8 by decide) (by decide) (by decide) rfl rfl (by decide) (by decide) (m26o N L h 0 9 (by decide) (by decide) h3.1 h3.2) ?_
        refine Sem.seg [(.aload 4, 0, 0), (.iload_n 2, 0, 0), (.putfield 89, 2, 8), (.aload 4, 0, 0), (.iload_n 3, 0, 0), (.putfield 92, 2, 9)] ⟨⟨d30_18, trivial⟩, ⟨d30_20, trivial⟩, ⟨d30_21, gf4_89⟩, ⟨d30_24, trivial⟩, ⟨d30_26, trivial⟩, ⟨d30_27, gf4_92⟩, trivial⟩ (lv' := [(4, aR 19 x.toInt.toNat), (0, aR 0 0), (1, aI x), (2, aI c), (3, aI h)]) (st' := []) (w' := wd (upN (upN N 19 x.toInt.toNat 8 (tn c)) 19 x.toInt.toNat 9 (tn h)) L) (P := [vld NN 19 x.toInt.toNat, vld NN 19 x.toInt.toNat]) rfl (⟨vN (t := 19) (i := x.toInt.toNat) (show x.toInt.toNat < 12 by omega), vN (t := 19) (i := x.toInt.toNat) (show x.toInt.toNat < 12 by omega)⟩) (pc' := 30) rfl ?_
        exact Sem.vret d30_30 rfl (by decide) (by decide) hzW ⟨_, _, rfl, by refine ⟨?_, rfl, rfl, rfl⟩; unfold cMade; have := bo_le (TD N); (repeat' split) <;> omega⟩

theorem m41 {sc : XT} (N : TN) (L : TL) (x n : Int32) : Sem sc 41 0 [(0, aR 0 0), (1, aI x), (2, aI n)] [] (wd N L) 0 0 (QC (fun v N' L' => cStock x n = 0 ∧ v = some (aN (N 19 x.toInt.toNat 7)) ∧ N' = upN (upN N 19 x.toInt.toNat 7 (tn n)) 19 x.toInt.toNat 10 1 ∧ L' = L) (fun e N' L' => cStock x n = e + 1 ∧ e ≤ 1 ∧ N' = N ∧ L' = L)) := by
  refine Sem.seg [(.aload_n 0, 0, 0), (.iload_n 1, 0, 0)] ⟨⟨d41_0, trivial⟩, ⟨d41_1, trivial⟩, trivial⟩ (lv' := [(0, aR 0 0), (1, aI x), (2, aI n)]) (st' := [aI x, aR 0 0]) (w' := wd N L) (P := []) rfl (trivial) (pc' := 2) rfl ?_
  by_cases h1 : 0 ≤ x.toInt ∧ x.toInt < 12
  case neg =>
    refine Sem.cVx (t := 0) (i := 0) (as := [aI x]) (rst := []) (c' := 1) (s' := 6) d41_2 mk24 rfl co24 lk4_50 im24 se24 rfl (vN (t := 0) (i := 0) (by decide)) (show 2 ≤ mL 24 by decide) rfl (show 0 ≤ 8 by decide) (by decide) (by decide) rfl rfl (by decide) (by decide) (m24x N L x (by omega)) ?_
    intro N_ L_ hq_
    rw [hq_.1, hq_.2]
    exact SemX.up rfl (by decide) (by decide) ⟨_, _, rfl, 0, by decide, rfl, by refine ⟨?_, by decide, rfl, rfl⟩; show cStock x n = _; unfold cStock; have := bo_le (TD N); (repeat' split) <;> omega⟩
  case pos =>
    refine Sem.cVp1 (t := 0) (i := 0) (as := [aI x]) (rst := []) (c' := 1) (s' := 6) d41_2 mk24 rfl co24 lk4_50 im24 se24 rfl (vN (t := 0) (i := 0) (by decide)) (show 2 ≤ mL 24 by decide) rfl (show 0 ≤ 8 by decide) (by decide) (by decide) rfl rfl (by decide) (by decide) (m24o N L x.toInt.toNat x (i_nI2 h1.1) (by omega)) ?_
    refine Sem.seg [(.astore_n 3, 0, 0), (.iload_n 2, 0, 0), (.iconst 0, 0, 0), (.sipush 10000, 0, 0)] ⟨⟨d41_5, trivial⟩, ⟨d41_6, trivial⟩, ⟨d41_7, trivial⟩, ⟨d41_8, trivial⟩, trivial⟩ (lv' := [(3, aR 19 x.toInt.toNat), (0, aR 0 0), (1, aI x), (2, aI n)]) (st' := [aN 10000, aN 0, aI n]) (w' := wd N L) (P := []) rfl (trivial) (pc' := 11) rfl ?_
    by_cases h2 : ((0 : Nat) : Int) ≤ n.toInt ∧ n.toInt ≤ ((10000 : Nat) : Int)
    case neg =>
      refine Sem.cSx (as := [aI n, aN 0, aN 10000]) (rst := []) (c' := 2) (s' := 12) d41_11 mk26 rfl co26 lk4_54 ss26 (show 3 ≤ mL 26 by decide) rfl (show 0 ≤ 8 by decide) (by decide) (by decide) rfl rfl (by decide) (by decide) (m26x N L n 0 10000 (by decide) (by decide) (by omega)) ?_
      intro N_ L_ hq_
      rw [hq_.1, hq_.2]
      exact SemX.up rfl (by decide) (by decide) ⟨_, _, rfl, 1, by decide, rfl, by refine ⟨?_, by decide, rfl, rfl⟩; show cStock x n = _; unfold cStock; have := bo_le (TD N); (repeat' split) <;> omega⟩
    case pos =>
      refine Sem.cSp0 (as := [aI n, aN 0, aN 10000]) (rst := []) (c' := 2) (s' := 12) d41_11 mk26 rfl co26 lk4_54 ss26 (show 3 ≤ mL 26 by decide) rfl (show 0 ≤ 8 by decide) (by decide) (by decide) rfl rfl (by decide) (by decide) (m26o N L n 0 10000 (by decide) (by decide) h2.1 h2.2) ?_
      refine Sem.seg [(.aload_n 3, 0, 0), (.getfield 120, 2, 7), (.istore 4, 0, 0), (.aload_n 3, 0, 0), (.iload_n 2, 0, 0), (.putfield 120, 2, 7), (.aload_n 3, 0, 0), (.iconst 1, 0, 0), (.putfield 71, 2, 10), (.iload 4, 0, 0)] ⟨⟨d41_14, trivial⟩, ⟨d41_15, gf4_120⟩, ⟨d41_18, trivial⟩, ⟨d41_20, trivial⟩, ⟨d41_21, trivial⟩, ⟨d41_22, gf4_120⟩, ⟨d41_25, trivial⟩, ⟨d41_26, trivial⟩, ⟨d41_27, gf4_71⟩, ⟨d41_30, trivial⟩, trivial⟩ (lv' := [(4, aN (N 19 x.toInt.toNat 7)), (3, aR 19 x.toInt.toNat), (0, aR 0 0), (1, aI x), (2, aI n)]) (st' := [aN (N 19 x.toInt.toNat 7)]) (w' := wd (upN (upN N 19 x.toInt.toNat 7 (tn n)) 19 x.toInt.toNat 10 1) L) (P := [vld NN 19 x.toInt.toNat, vld NN 19 x.toInt.toNat, vld NN 19 x.toInt.toNat, 1 = 0 ∨ 1 = 1]) rfl (⟨vN (t := 19) (i := x.toInt.toNat) (show x.toInt.toNat < 12 by omega), vN (t := 19) (i := x.toInt.toNat) (show x.toInt.toNat < 12 by omega), vN (t := 19) (i := x.toInt.toNat) (show x.toInt.toNat < 12 by omega), (show (1 : Nat) = 0 ∨ (1 : Nat) = 1 by decide)⟩) (pc' := 32) rfl ?_
      exact Sem.iret rfl d41_32 (Or.inl rfl) (by decide) (by decide) hzW ⟨_, _, rfl, by refine ⟨?_, rfl, rfl, rfl⟩; unfold cStock; have := bo_le (TD N); (repeat' split) <;> omega⟩

theorem m44_0 {sc : XT} (N : TN) (L : TL) (x w n : Int32) (hs : N 8 0 3 ≤ 24) : Sem sc 44 0 [(0, aR 0 0), (1, aR 8 0), (2, aI x), (3, aI w), (4, aI n)] [] (wd N L) 0 0 (QC (fun v N' L' => cTell (N 8 0 3) x w n = 0 ∧ v = some (aN (N 8 0 3)) ∧ N' = upN (upN (upN (upN (upN N 19 x.toInt.toNat 10 1) 9 0 (N 8 0 3) x.toInt.toNat) 10 0 (N 8 0 3) w.toInt.toNat) 11 0 (N 8 0 3) n.toInt.toNat) 8 0 3 (N 8 0 3 + 1) ∧ L' = L) (fun e N' L' => cTell (N 8 0 3) x w n = e + 1 ∧ e ≤ 2 ∧ N' = N ∧ L' = L)) := by
  refine Sem.seg [(.aload_n 0, 0, 0), (.iload_n 2, 0, 0)] ⟨⟨d44_0, trivial⟩, ⟨d44_1, trivial⟩, trivial⟩ (lv' := [(0, aR 0 0), (1, aR 8 0), (2, aI x), (3, aI w), (4, aI n)]) (st' := [aI x, aR 0 0]) (w' := wd N L) (P := []) rfl (trivial) (pc' := 2) rfl ?_
  by_cases h1 : 0 ≤ x.toInt ∧ x.toInt < 12
  case neg =>
    refine Sem.cVx (t := 0) (i := 0) (as := [aI x]) (rst := []) (c' := 1) (s' := 6) d44_2 mk24 rfl co24 lk4_50 im24 se24 rfl (vN (t := 0) (i := 0) (by decide)) (show 2 ≤ mL 24 by decide) rfl (show 0 ≤ 8 by decide) (by decide) (by decide) rfl rfl (by decide) (by decide) (m24x N L x (by omega)) ?_
    intro N_ L_ hq_
    rw [hq_.1, hq_.2]
    exact SemX.up rfl (by decide) (by decide) ⟨_, _, rfl, 0, by decide, rfl, by refine ⟨?_, by decide, rfl, rfl⟩; show cTell (N 8 0 3) x w n = _; unfold cTell; have := bo_le (TD N); (repeat' split) <;> omega⟩
  case pos =>
    refine Sem.cVp1 (t := 0) (i := 0) (as := [aI x]) (rst := []) (c' := 1) (s' := 6) d44_2 mk24 rfl co24 lk4_50 im24 se24 rfl (vN (t := 0) (i := 0) (by decide)) (show 2 ≤ mL 24 by decide) rfl (show 0 ≤ 8 by decide) (by decide) (by decide) rfl rfl (by decide) (by decide) (m24o N L x.toInt.toNat x (i_nI2 h1.1) (by omega)) ?_
    refine Sem.seg [(.astore 5, 0, 0), (.iload_n 3, 0, 0)] ⟨⟨d44_5, trivial⟩, ⟨d44_7, trivial⟩, trivial⟩ (lv' := [(5, aR 19 x.toInt.toNat), (0, aR 0 0), (1, aR 8 0), (2, aI x), (3, aI w), (4, aI n)]) (st' := [aI w]) (w' := wd N L) (P := []) rfl (trivial) (pc' := 8) rfl ?_
    by_cases h2 : 0 ≤ w.toInt ∧ w.toInt < 12
    case neg =>
      refine Sem.cSx (as := [aI w]) (rst := []) (c' := 2) (s' := 12) d44_8 mk45 rfl co45 lk4_143 ss45 (show 1 ≤ mL 45 by decide) rfl (show 0 ≤ 8 by decide) (by decide) (by decide) rfl rfl (by decide) (by decide) (m45x N L w (by omega)) ?_
      intro N_ L_ hq_
      rw [hq_.1, hq_.2]
      exact SemX.up rfl (by decide) (by decide) ⟨_, _, rfl, 0, by decide, rfl, by refine ⟨?_, by decide, rfl, rfl⟩; show cTell (N 8 0 3) x w n = _; unfold cTell; have := bo_le (TD N); (repeat' split) <;> omega⟩
    case pos =>
      refine Sem.cSp0 (as := [aI w]) (rst := []) (c' := 2) (s' := 12) d44_8 mk45 rfl co45 lk4_143 ss45 (show 1 ≤ mL 45 by decide) rfl (show 0 ≤ 8 by decide) (by decide) (by decide) rfl rfl (by decide) (by decide) (m45o N L w h2.1 h2.2) ?_
      refine Sem.seg [(.iload 4, 0, 0), (.iconst 0, 0, 0), (.sipush 1000, 0, 0)] ⟨⟨d44_11, trivial⟩, ⟨d44_13, trivial⟩, ⟨d44_14, trivial⟩, trivial⟩ (lv' := [(5, aR 19 x.toInt.toNat), (0, aR 0 0), (1, aR 8 0), (2, aI x), (3, aI w), (4, aI n)]) (st' := [aN 1000, aN 0, aI n]) (w' := wd N L) (P := []) rfl (trivial) (pc' := 17) rfl ?_
      by_cases h3 : ((0 : Nat) : Int) ≤ n.toInt ∧ n.toInt ≤ ((1000 : Nat) : Int)
      case neg =>
        refine Sem.cSx (as := [aI n, aN 0, aN 1000]) (rst := []) (c' := 3) (s' := 18) d44_17 mk26 rfl co26 lk4_54 ss26 (show 3 ≤ mL 26 by decide) rfl (show 0 ≤ 8 by decide) (by decide) (by decide) rfl rfl (by decide) (by decide) (m26x N L n 0 1000 (by decide) (by decide) (by omega)) ?_
        intro N_ L_ hq_
        rw [hq_.1, hq_.2]
        exact SemX.up rfl (by decide) (by decide) ⟨_, _, rfl, 1, by decide, rfl, by refine ⟨?_, by decide, rfl, rfl⟩; show cTell (N 8 0 3) x w n = _; unfold cTell; have := bo_le (TD N); (repeat' split) <;> omega⟩
      case pos =>
        refine Sem.cSp0 (as := [aI n, aN 0, aN 1000]) (rst := []) (c' := 3) (s' := 18) d44_17 mk26 rfl co26 lk4_54 ss26 (show 3 ≤ mL 26 by decide) rfl (show 0 ≤ 8 by decide) (by decide) (by decide) rfl rfl (by decide) (by decide) (m26o N L n 0 1000 (by decide) (by decide) h3.1 h3.2) ?_
        refine Sem.seg [(.aload_n 1, 0, 0)] ⟨⟨d44_20, trivial⟩, trivial⟩ (lv' := [(5, aR 19 x.toInt.toNat), (0, aR 0 0), (1, aR 8 0), (2, aI x), (3, aI w), (4, aI n)]) (st' := [aR 8 0]) (w' := wd N L) (P := []) rfl (trivial) (pc' := 21) rfl ?_
        by_cases h4 : N 8 0 3 < 24
        case neg =>
          refine Sem.cSx (as := [aR 8 0]) (rst := []) (c' := 4) (s' := 24) d44_21 mk46 rfl co46 lk4_173 ss46 (show 1 ≤ mL 46 by decide) rfl (show 0 ≤ 8 by decide) (by decide) (by decide) rfl rfl (by decide) (by decide) (m46x N L 0 (by decide) (by omega) (by omega)) ?_
          intro N_ L_ hq_
          rw [hq_.1, hq_.2]
          exact SemX.up rfl (by decide) (by decide) ⟨_, _, rfl, 2, by decide, rfl, by refine ⟨?_, by decide, rfl, rfl⟩; show cTell (N 8 0 3) x w n = _; unfold cTell; have := bo_le (TD N); (repeat' split) <;> omega⟩
        case pos =>
          refine Sem.cSp0 (as := [aR 8 0]) (rst := []) (c' := 4) (s' := 24) d44_21 mk46 rfl co46 lk4_173 ss46 (show 1 ≤ mL 46 by decide) rfl (show 0 ≤ 8 by decide) (by decide) (by decide) rfl rfl (by decide) (by decide) (m46o N L 0 (by decide) h4) ?_
          refine Sem.seg [(.aload 5, 0, 0), (.iconst 1, 0, 0), (.putfield 71, 2, 10)] ⟨⟨d44_24, trivial⟩, ⟨d44_26, trivial⟩, ⟨d44_27, gf4_71⟩, trivial⟩ (lv' := [(5, aR 19 x.toInt.toNat), (0, aR 0 0), (1, aR 8 0), (2, aI x), (3, aI w), (4, aI n)]) (st' := []) (w' := wd (upN N 19 x.toInt.toNat 10 1) L) (P := [vld NN 19 x.toInt.toNat, 1 = 0 ∨ 1 = 1]) rfl (⟨vN (t := 19) (i := x.toInt.toNat) (show x.toInt.toNat < 12 by omega), (show (1 : Nat) = 0 ∨ (1 : Nat) = 1 by decide)⟩) (pc' := 30) rfl ?_
          refine Sem.pick [3, 0, 1, 2, 4, 5] (lv' := [(2, aI x), (5, aR 19 x.toInt.toNat), (0, aR 0 0), (1, aR 8 0), (3, aI w), (4, aI n)]) rfl ?_
          refine Sem.loc0 (show x = nI x.toInt.toNat from i_nI2 (by omega)) ?_
          refine Sem.pick [4, 0, 1, 2, 3, 5] (lv' := [(3, aI w), (2, aN x.toInt.toNat), (5, aR 19 x.toInt.toNat), (0, aR 0 0), (1, aR 8 0), (4, aI n)]) rfl ?_
          refine Sem.loc0 (show w = nI w.toInt.toNat from i_nI2 (by omega)) ?_
          refine Sem.pick [5, 0, 1, 2, 3, 4] (lv' := [(4, aI n), (3, aN w.toInt.toNat), (2, aN x.toInt.toNat), (5, aR 19 x.toInt.toNat), (0, aR 0 0), (1, aR 8 0)]) rfl ?_
          refine Sem.loc0 (show n = nI n.toInt.toNat from i_nI2 (by omega)) ?_
          refine Sem.seg [(.aload_n 1, 0, 0), (.iload_n 2, 0, 0), (.iload_n 3, 0, 0), (.iload 4, 0, 0)] ⟨⟨d44_30, trivial⟩, ⟨d44_31, trivial⟩, ⟨d44_32, trivial⟩, ⟨d44_33, trivial⟩, trivial⟩ (lv' := [(4, aN n.toInt.toNat), (3, aN w.toInt.toNat), (2, aN x.toInt.toNat), (5, aR 19 x.toInt.toNat), (0, aR 0 0), (1, aR 8 0)]) (st' := [aN n.toInt.toNat, aN w.toInt.toNat, aN x.toInt.toNat, aR 8 0]) (w' := wd (upN N 19 x.toInt.toNat 10 1) L) (P := []) rfl (trivial) (pc' := 35) rfl ?_
          refine Sem.cVp1 (t := 8) (i := 0) (as := [aN x.toInt.toNat, aN w.toInt.toNat, aN n.toInt.toNat]) (rst := []) (c' := 4) (s' := 24) d44_35 mk48 rfl co48 lk4_177 im48 se48 rfl (vN (t := 8) (i := 0) (by decide)) (show 4 ≤ mL 48 by decide) rfl (show 0 ≤ 8 by decide) (by decide) (by decide) rfl rfl (by decide) (by decide) (m48 (upN N 19 x.toInt.toNat 10 1) L 0 x.toInt.toNat w.toInt.toNat n.toInt.toNat (by decide) (show N 8 0 3 < 24 by omega)) ?_
          exact Sem.iret rfl d44_38 (Or.inl rfl) (by decide) (by decide) hzW ⟨_, _, rfl, by refine ⟨?_, rfl, rfl, rfl⟩; unfold cTell; have := bo_le (TD N); (repeat' split) <;> omega⟩

theorem m43 {sc : XT} (N : TN) (L : TL) (x w n : Int32) (hs : N 8 0 3 ≤ 24) : Sem sc 43 0 [(0, aR 0 0), (1, aI x), (2, aI w), (3, aI n)] [] (wd N L) 0 0 (QC (fun v N' L' => cTell (N 8 0 3) x w n = 0 ∧ v = some (aN (N 8 0 3)) ∧ N' = upN (upN (upN (upN (upN N 19 x.toInt.toNat 10 1) 9 0 (N 8 0 3) x.toInt.toNat) 10 0 (N 8 0 3) w.toInt.toNat) 11 0 (N 8 0 3) n.toInt.toNat) 8 0 3 (N 8 0 3 + 1) ∧ L' = L) (fun e N' L' => cTell (N 8 0 3) x w n = e + 1 ∧ e ≤ 2 ∧ N' = N ∧ L' = L)) := by
  refine Sem.seg [(.aload_n 0, 0, 0), (.aload_n 0, 0, 0), (.getfield 25, 4, 2), (.iload_n 1, 0, 0), (.iload_n 2, 0, 0), (.iload_n 3, 0, 0)] ⟨⟨d43_0, trivial⟩, ⟨d43_1, trivial⟩, ⟨d43_2, gf4_25⟩, ⟨d43_5, trivial⟩, ⟨d43_6, trivial⟩, ⟨d43_7, trivial⟩, trivial⟩ (lv' := [(0, aR 0 0), (1, aI x), (2, aI w), (3, aI n)]) (st' := [aI n, aI w, aI x, aR 8 0, aR 0 0]) (w' := wd N L) (P := [vld NN 0 0]) rfl (vN (t := 0) (i := 0) (by decide)) (pc' := 8) rfl ?_
  refine Sem.cVC (t := 0) (i := 0) (as := [aR 8 0, aI x, aI w, aI n]) (rst := []) (c' := 4) (s' := 24) d43_8 mk44 rfl co44 lk4_123 im44 se44 rfl (vN (t := 0) (i := 0) (by decide)) (show 5 ≤ mL 44 by decide) rfl (show 0 ≤ 8 by decide) (by decide) (by decide) rfl rfl (by decide) (by decide) (m44_0 N L x w n hs) ?_ ?_
  case refine_2 =>
    rintro e N_ L_ he_ hx_
    exact SemX.up rfl (by decide) (by decide) ⟨_, _, rfl, e, he_, rfl, hx_⟩
  case refine_1 =>
    rintro v_ N1 L1 ⟨hz, rfl, rfl, rfl⟩
    exact Sem.iret rfl d43_11 (Or.inl rfl) (by decide) (by decide) hzW ⟨_, _, rfl, by exact ⟨hz, rfl, rfl, rfl⟩⟩

theorem m44_1 {sc : XT} (N : TN) (L : TL) (x w n : Int32) (hs : N 8 1 3 ≤ 24) : Sem sc 44 0 [(0, aR 0 0), (1, aR 8 1), (2, aI x), (3, aI w), (4, aI n)] [] (wd N L) 0 0 (QC (fun v N' L' => cTell (N 8 1 3) x w n = 0 ∧ v = some (aN (N 8 1 3)) ∧ N' = upN (upN (upN (upN (upN N 19 x.toInt.toNat 10 1) 9 1 (N 8 1 3) x.toInt.toNat) 10 1 (N 8 1 3) w.toInt.toNat) 11 1 (N 8 1 3) n.toInt.toNat) 8 1 3 (N 8 1 3 + 1) ∧ L' = L) (fun e N' L' => cTell (N 8 1 3) x w n = e + 1 ∧ e ≤ 2 ∧ N' = N ∧ L' = L)) := by
  refine Sem.seg [(.aload_n 0, 0, 0), (.iload_n 2, 0, 0)] ⟨⟨d44_0, trivial⟩, ⟨d44_1, trivial⟩, trivial⟩ (lv' := [(0, aR 0 0), (1, aR 8 1), (2, aI x), (3, aI w), (4, aI n)]) (st' := [aI x, aR 0 0]) (w' := wd N L) (P := []) rfl (trivial) (pc' := 2) rfl ?_
  by_cases h1 : 0 ≤ x.toInt ∧ x.toInt < 12
  case neg =>
    refine Sem.cVx (t := 0) (i := 0) (as := [aI x]) (rst := []) (c' := 1) (s' := 6) d44_2 mk24 rfl co24 lk4_50 im24 se24 rfl (vN (t := 0) (i := 0) (by decide)) (show 2 ≤ mL 24 by decide) rfl (show 0 ≤ 8 by decide) (by decide) (by decide) rfl rfl (by decide) (by decide) (m24x N L x (by omega)) ?_
    intro N_ L_ hq_
    rw [hq_.1, hq_.2]
    exact SemX.up rfl (by decide) (by decide) ⟨_, _, rfl, 0, by decide, rfl, by refine ⟨?_, by decide, rfl, rfl⟩; show cTell (N 8 1 3) x w n = _; unfold cTell; have := bo_le (TD N); (repeat' split) <;> omega⟩
  case pos =>
    refine Sem.cVp1 (t := 0) (i := 0) (as := [aI x]) (rst := []) (c' := 1) (s' := 6) d44_2 mk24 rfl co24 lk4_50 im24 se24 rfl (vN (t := 0) (i := 0) (by decide)) (show 2 ≤ mL 24 by decide) rfl (show 0 ≤ 8 by decide) (by decide) (by decide) rfl rfl (by decide) (by decide) (m24o N L x.toInt.toNat x (i_nI2 h1.1) (by omega)) ?_
    refine Sem.seg [(.astore 5, 0, 0), (.iload_n 3, 0, 0)] ⟨⟨d44_5, trivial⟩, ⟨d44_7, trivial⟩, trivial⟩ (lv' := [(5, aR 19 x.toInt.toNat), (0, aR 0 0), (1, aR 8 1), (2, aI x), (3, aI w), (4, aI n)]) (st' := [aI w]) (w' := wd N L) (P := []) rfl (trivial) (pc' := 8) rfl ?_
    by_cases h2 : 0 ≤ w.toInt ∧ w.toInt < 12
    case neg =>
      refine Sem.cSx (as := [aI w]) (rst := []) (c' := 2) (s' := 12) d44_8 mk45 rfl co45 lk4_143 ss45 (show 1 ≤ mL 45 by decide) rfl (show 0 ≤ 8 by decide) (by decide) (by decide) rfl rfl (by decide) (by decide) (m45x N L w (by omega)) ?_
      intro N_ L_ hq_
      rw [hq_.1, hq_.2]
      exact SemX.up rfl (by decide) (by decide) ⟨_, _, rfl, 0, by decide, rfl, by refine ⟨?_, by decide, rfl, rfl⟩; show cTell (N 8 1 3) x w n = _; unfold cTell; have := bo_le (TD N); (repeat' split) <;> omega⟩
    case pos =>
      refine Sem.cSp0 (as := [aI w]) (rst := []) (c' := 2) (s' := 12) d44_8 mk45 rfl co45 lk4_143 ss45 (show 1 ≤ mL 45 by decide) rfl (show 0 ≤ 8 by decide) (by decide) (by decide) rfl rfl (by decide) (by decide) (m45o N L w h2.1 h2.2) ?_
      refine Sem.seg [(.iload 4, 0, 0), (.iconst 0, 0, 0), (.sipush 1000, 0, 0)] ⟨⟨d44_11, trivial⟩, ⟨d44_13, trivial⟩, ⟨d44_14, trivial⟩, trivial⟩ (lv' := [(5, aR 19 x.toInt.toNat), (0, aR 0 0), (1, aR 8 1), (2, aI x), (3, aI w), (4, aI n)]) (st' := [aN 1000, aN 0, aI n]) (w' := wd N L) (P := []) rfl (trivial) (pc' := 17) rfl ?_
      by_cases h3 : ((0 : Nat) : Int) ≤ n.toInt ∧ n.toInt ≤ ((1000 : Nat) : Int)
      case neg =>
        refine Sem.cSx (as := [aI n, aN 0, aN 1000]) (rst := []) (c' := 3) (s' := 18) d44_17 mk26 rfl co26 lk4_54 ss26 (show 3 ≤ mL 26 by decide) rfl (show 0 ≤ 8 by decide) (by decide) (by decide) rfl rfl (by decide) (by decide) (m26x N L n 0 1000 (by decide) (by decide) (by omega)) ?_
        intro N_ L_ hq_
        rw [hq_.1, hq_.2]
        exact SemX.up rfl (by decide) (by decide) ⟨_, _, rfl, 1, by decide, rfl, by refine ⟨?_, by decide, rfl, rfl⟩; show cTell (N 8 1 3) x w n = _; unfold cTell; have := bo_le (TD N); (repeat' split) <;> omega⟩
      case pos =>
        refine Sem.cSp0 (as := [aI n, aN 0, aN 1000]) (rst := []) (c' := 3) (s' := 18) d44_17 mk26 rfl co26 lk4_54 ss26 (show 3 ≤ mL 26 by decide) rfl (show 0 ≤ 8 by decide) (by decide) (by decide) rfl rfl (by decide) (by decide) (m26o N L n 0 1000 (by decide) (by decide) h3.1 h3.2) ?_
        refine Sem.seg [(.aload_n 1, 0, 0)] ⟨⟨d44_20, trivial⟩, trivial⟩ (lv' := [(5, aR 19 x.toInt.toNat), (0, aR 0 0), (1, aR 8 1), (2, aI x), (3, aI w), (4, aI n)]) (st' := [aR 8 1]) (w' := wd N L) (P := []) rfl (trivial) (pc' := 21) rfl ?_
        by_cases h4 : N 8 1 3 < 24
        case neg =>
          refine Sem.cSx (as := [aR 8 1]) (rst := []) (c' := 4) (s' := 24) d44_21 mk46 rfl co46 lk4_173 ss46 (show 1 ≤ mL 46 by decide) rfl (show 0 ≤ 8 by decide) (by decide) (by decide) rfl rfl (by decide) (by decide) (m46x N L 1 (by decide) (by omega) (by omega)) ?_
          intro N_ L_ hq_
          rw [hq_.1, hq_.2]
          exact SemX.up rfl (by decide) (by decide) ⟨_, _, rfl, 2, by decide, rfl, by refine ⟨?_, by decide, rfl, rfl⟩; show cTell (N 8 1 3) x w n = _; unfold cTell; have := bo_le (TD N); (repeat' split) <;> omega⟩
        case pos =>
          refine Sem.cSp0 (as := [aR 8 1]) (rst := []) (c' := 4) (s' := 24) d44_21 mk46 rfl co46 lk4_173 ss46 (show 1 ≤ mL 46 by decide) rfl (show 0 ≤ 8 by decide) (by decide) (by decide) rfl rfl (by decide) (by decide) (m46o N L 1 (by decide) h4) ?_
          refine Sem.seg [(.aload 5, 0, 0), (.iconst 1, 0, 0), (.putfield 71, 2, 10)] ⟨⟨d44_24, trivial⟩, ⟨d44_26, trivial⟩, ⟨d44_27, gf4_71⟩, trivial⟩ (lv' := [(5, aR 19 x.toInt.toNat), (0, aR 0 0), (1, aR 8 1), (2, aI x), (3, aI w), (4, aI n)]) (st' := []) (w' := wd (upN N 19 x.toInt.toNat 10 1) L) (P := [vld NN 19 x.toInt.toNat, 1 = 0 ∨ 1 = 1]) rfl (⟨vN (t := 19) (i := x.toInt.toNat) (show x.toInt.toNat < 12 by omega), (show (1 : Nat) = 0 ∨ (1 : Nat) = 1 by decide)⟩) (pc' := 30) rfl ?_
          refine Sem.pick [3, 0, 1, 2, 4, 5] (lv' := [(2, aI x), (5, aR 19 x.toInt.toNat), (0, aR 0 0), (1, aR 8 1), (3, aI w), (4, aI n)]) rfl ?_
          refine Sem.loc0 (show x = nI x.toInt.toNat from i_nI2 (by omega)) ?_
          refine Sem.pick [4, 0, 1, 2, 3, 5] (lv' := [(3, aI w), (2, aN x.toInt.toNat), (5, aR 19 x.toInt.toNat), (0, aR 0 0), (1, aR 8 1), (4, aI n)]) rfl ?_
          refine Sem.loc0 (show w = nI w.toInt.toNat from i_nI2 (by omega)) ?_
          refine Sem.pick [5, 0, 1, 2, 3, 4] (lv' := [(4, aI n), (3, aN w.toInt.toNat), (2, aN x.toInt.toNat), (5, aR 19 x.toInt.toNat), (0, aR 0 0), (1, aR 8 1)]) rfl ?_
          refine Sem.loc0 (show n = nI n.toInt.toNat from i_nI2 (by omega)) ?_
          refine Sem.seg [(.aload_n 1, 0, 0), (.iload_n 2, 0, 0), (.iload_n 3, 0, 0), (.iload 4, 0, 0)] ⟨⟨d44_30, trivial⟩, ⟨d44_31, trivial⟩, ⟨d44_32, trivial⟩, ⟨d44_33, trivial⟩, trivial⟩ (lv' := [(4, aN n.toInt.toNat), (3, aN w.toInt.toNat), (2, aN x.toInt.toNat), (5, aR 19 x.toInt.toNat), (0, aR 0 0), (1, aR 8 1)]) (st' := [aN n.toInt.toNat, aN w.toInt.toNat, aN x.toInt.toNat, aR 8 1]) (w' := wd (upN N 19 x.toInt.toNat 10 1) L) (P := []) rfl (trivial) (pc' := 35) rfl ?_
          refine Sem.cVp1 (t := 8) (i := 1) (as := [aN x.toInt.toNat, aN w.toInt.toNat, aN n.toInt.toNat]) (rst := []) (c' := 4) (s' := 24) d44_35 mk48 rfl co48 lk4_177 im48 se48 rfl (vN (t := 8) (i := 1) (by decide)) (show 4 ≤ mL 48 by decide) rfl (show 0 ≤ 8 by decide) (by decide) (by decide) rfl rfl (by decide) (by decide) (m48 (upN N 19 x.toInt.toNat 10 1) L 1 x.toInt.toNat w.toInt.toNat n.toInt.toNat (by decide) (show N 8 1 3 < 24 by omega)) ?_
          exact Sem.iret rfl d44_38 (Or.inl rfl) (by decide) (by decide) hzW ⟨_, _, rfl, by refine ⟨?_, rfl, rfl, rfl⟩; unfold cTell; have := bo_le (TD N); (repeat' split) <;> omega⟩

theorem m54 {sc : XT} (N : TN) (L : TL) (x w n : Int32) (hs : N 8 1 3 ≤ 24) : Sem sc 54 0 [(0, aR 0 0), (1, aI x), (2, aI w), (3, aI n)] [] (wd N L) 0 0 (QC (fun v N' L' => cTell (N 8 1 3) x w n = 0 ∧ v = some (aN (N 8 1 3)) ∧ N' = upN (upN (upN (upN (upN N 19 x.toInt.toNat 10 1) 9 1 (N 8 1 3) x.toInt.toNat) 10 1 (N 8 1 3) w.toInt.toNat) 11 1 (N 8 1 3) n.toInt.toNat) 8 1 3 (N 8 1 3 + 1) ∧ L' = L) (fun e N' L' => cTell (N 8 1 3) x w n = e + 1 ∧ e ≤ 2 ∧ N' = N ∧ L' = L)) := by
  refine Sem.seg [(.aload_n 0, 0, 0), (.aload_n 0, 0, 0), (.getfield 29, 4, 3), (.iload_n 1, 0, 0), (.iload_n 2, 0, 0), (.iload_n 3, 0, 0)] ⟨⟨d54_0, trivial⟩, ⟨d54_1, trivial⟩, ⟨d54_2, gf4_29⟩, ⟨d54_5, trivial⟩, ⟨d54_6, trivial⟩, ⟨d54_7, trivial⟩, trivial⟩ (lv' := [(0, aR 0 0), (1, aI x), (2, aI w), (3, aI n)]) (st' := [aI n, aI w, aI x, aR 8 1, aR 0 0]) (w' := wd N L) (P := [vld NN 0 0]) rfl (vN (t := 0) (i := 0) (by decide)) (pc' := 8) rfl ?_
  refine Sem.cVC (t := 0) (i := 0) (as := [aR 8 1, aI x, aI w, aI n]) (rst := []) (c' := 4) (s' := 24) d54_8 mk44 rfl co44 lk4_123 im44 se44 rfl (vN (t := 0) (i := 0) (by decide)) (show 5 ≤ mL 44 by decide) rfl (show 0 ≤ 8 by decide) (by decide) (by decide) rfl rfl (by decide) (by decide) (m44_1 N L x w n hs) ?_ ?_
  case refine_2 =>
    rintro e N_ L_ he_ hx_
    exact SemX.up rfl (by decide) (by decide) ⟨_, _, rfl, e, he_, rfl, hx_⟩
  case refine_1 =>
    rintro v_ N1 L1 ⟨hz, rfl, rfl, rfl⟩
    exact Sem.iret rfl d54_11 (Or.inl rfl) (by decide) (by decide) hzW ⟨_, _, rfl, by exact ⟨hz, rfl, rfl, rfl⟩⟩

theorem m50 {sc : XT} (N : TN) (L : TL) (k m n : Int32) (hc : CD N) : Sem sc 50 0 [(0, aR 0 0), (1, aI k), (2, aI m), (3, aI n)] [] (wd N L) 0 0 (QC (fun v N' L' => cChange (N 8 0 3) (N 8 1 3) k m n = 0 ∧ v = some (aN (N 11 k.toInt.toNat m.toInt.toNat)) ∧ N' = upN (upN N 19 (N 9 k.toInt.toNat m.toInt.toNat) 10 1) 11 k.toInt.toNat m.toInt.toNat n.toInt.toNat ∧ L' = L) (fun e N' L' => cChange (N 8 0 3) (N 8 1 3) k m n = 2 - e ∧ e ≤ 1 ∧ N' = N ∧ L' = L)) := by
  have hs0 := (hc.2.1 0 (by decide)).1
  have hs1 := (hc.2.1 1 (by decide)).1
  refine Sem.seg [(.iload_n 1, 0, 0), (.iconst 0, 0, 0), (.iconst 1, 0, 0)] ⟨⟨d50_0, trivial⟩, ⟨d50_1, trivial⟩, ⟨d50_2, trivial⟩, trivial⟩ (lv' := [(0, aR 0 0), (1, aI k), (2, aI m), (3, aI n)]) (st' := [aN 1, aN 0, aI k]) (w' := wd N L) (P := []) rfl (trivial) (pc' := 3) rfl ?_
  by_cases h1 : ((0 : Nat) : Int) ≤ k.toInt ∧ k.toInt ≤ ((1 : Nat) : Int)
  case neg =>
    refine Sem.cSx (as := [aI k, aN 0, aN 1]) (rst := []) (c' := 1) (s' := 6) d50_3 mk26 rfl co26 lk4_54 ss26 (show 3 ≤ mL 26 by decide) rfl (show 0 ≤ 8 by decide) (by decide) (by decide) rfl rfl (by decide) (by decide) (m26x N L k 0 1 (by decide) (by decide) (by omega)) ?_
    intro N_ L_ hq_
    rw [hq_.1, hq_.2]
    exact SemX.up rfl (by decide) (by decide) ⟨_, _, rfl, 1, by decide, rfl, by refine ⟨?_, by decide, rfl, rfl⟩; show cChange (N 8 0 3) (N 8 1 3) k m n = _; unfold cChange; have := bo_le (TD N); (repeat' split) <;> omega⟩
  case pos =>
    refine Sem.cSp0 (as := [aI k, aN 0, aN 1]) (rst := []) (c' := 1) (s' := 6) d50_3 mk26 rfl co26 lk4_54 ss26 (show 3 ≤ mL 26 by decide) rfl (show 0 ≤ 8 by decide) (by decide) (by decide) rfl rfl (by decide) (by decide) (m26o N L k 0 1 (by decide) (by decide) h1.1 h1.2) ?_
    refine Sem.seg [(.iload_n 1, 0, 0)] ⟨⟨d50_6, trivial⟩, trivial⟩ (lv' := [(0, aR 0 0), (1, aI k), (2, aI m), (3, aI n)]) (st' := [aI k]) (w' := wd N L) (P := []) rfl (trivial) (pc' := 7) rfl ?_
    refine Sem.ifc (tgt := 17) d50_7 (by decide) rfl (fun b2 => ?_) (fun b2 => ?_)
    · have b2_ : ¬ k.toInt = 0 := bT rfl rfl b2
      refine Sem.seg [(.aload_n 0, 0, 0), (.getfield 29, 4, 3), (.astore 4, 0, 0), (.aload 4, 0, 0), (.iload_n 2, 0, 0)] ⟨⟨d50_17, trivial⟩, ⟨d50_18, gf4_29⟩, ⟨d50_21, trivial⟩, ⟨d50_23, trivial⟩, ⟨d50_25, trivial⟩, trivial⟩ (lv' := [(4, aR 8 1), (0, aR 0 0), (1, aI k), (2, aI m), (3, aI n)]) (st' := [aI m, aR 8 1]) (w' := wd N L) (P := [vld NN 0 0]) rfl (vN (t := 0) (i := 0) (by decide)) (pc' := 26) rfl ?_
      by_cases h3 : 0 ≤ m.toInt ∧ m.toInt < (N 8 1 3 : Int)
      case neg =>
        refine Sem.cSx (as := [aR 8 1, aI m]) (rst := []) (c' := 2) (s' := 12) d50_26 mk51 rfl co51 lk4_127 ss51 (show 2 ≤ mL 51 by decide) rfl (show 0 ≤ 8 by decide) (by decide) (by decide) rfl rfl (by decide) (by decide) (m51x N L 1 (by decide) m (by omega) (by omega)) ?_
        intro N_ L_ hq_
        rw [hq_.1, hq_.2]
        exact SemX.up rfl (by decide) (by decide) ⟨_, _, rfl, 0, by decide, rfl, by refine ⟨?_, by decide, rfl, rfl⟩; show cChange (N 8 0 3) (N 8 1 3) k m n = _; unfold cChange; have := bo_le (TD N); (repeat' split) <;> omega⟩
      case pos =>
        refine Sem.cSp0 (as := [aR 8 1, aI m]) (rst := []) (c' := 2) (s' := 12) d50_26 mk51 rfl co51 lk4_127 ss51 (show 2 ≤ mL 51 by decide) rfl (show 0 ≤ 8 by decide) (by decide) (by decide) rfl rfl (by decide) (by decide) (m51o N L 1 (by decide) m (by omega) h3.1 h3.2) ?_
        refine Sem.seg [(.iload_n 3, 0, 0), (.iconst 0, 0, 0), (.sipush 1000, 0, 0)] ⟨⟨d50_29, trivial⟩, ⟨d50_30, trivial⟩, ⟨d50_31, trivial⟩, trivial⟩ (lv' := [(4, aR 8 1), (0, aR 0 0), (1, aI k), (2, aI m), (3, aI n)]) (st' := [aN 1000, aN 0, aI n]) (w' := wd N L) (P := []) rfl (trivial) (pc' := 34) rfl ?_
        by_cases h4 : ((0 : Nat) : Int) ≤ n.toInt ∧ n.toInt ≤ ((1000 : Nat) : Int)
        case neg =>
          refine Sem.cSx (as := [aI n, aN 0, aN 1000]) (rst := []) (c' := 3) (s' := 18) d50_34 mk26 rfl co26 lk4_54 ss26 (show 3 ≤ mL 26 by decide) rfl (show 0 ≤ 8 by decide) (by decide) (by decide) rfl rfl (by decide) (by decide) (m26x N L n 0 1000 (by decide) (by decide) (by omega)) ?_
          intro N_ L_ hq_
          rw [hq_.1, hq_.2]
          exact SemX.up rfl (by decide) (by decide) ⟨_, _, rfl, 1, by decide, rfl, by refine ⟨?_, by decide, rfl, rfl⟩; show cChange (N 8 0 3) (N 8 1 3) k m n = _; unfold cChange; have := bo_le (TD N); (repeat' split) <;> omega⟩
        case pos =>
          refine Sem.cSp0 (as := [aI n, aN 0, aN 1000]) (rst := []) (c' := 3) (s' := 18) d50_34 mk26 rfl co26 lk4_54 ss26 (show 3 ≤ mL 26 by decide) rfl (show 0 ≤ 8 by decide) (by decide) (by decide) rfl rfl (by decide) (by decide) (m26o N L n 0 1000 (by decide) (by decide) h4.1 h4.2) ?_
          refine Sem.pick [3, 0, 1, 2, 4] (lv' := [(2, aI m), (4, aR 8 1), (0, aR 0 0), (1, aI k), (3, aI n)]) rfl ?_
          refine Sem.loc0 (show m = nI m.toInt.toNat from i_nI2 (by omega)) ?_
          have hI := (hc.2.1 1 (by decide)).2.1 m.toInt.toNat (by omega)
          refine Sem.seg [(.aload_n 0, 0, 0), (.aload 4, 0, 0), (.getfield 131, 1, 0), (.iload_n 2, 0, 0), (.iaload, 0, 0)] ⟨⟨d50_37, trivial⟩, ⟨d50_38, trivial⟩, ⟨d50_40, gf4_131⟩, ⟨d50_43, trivial⟩, ⟨d50_44, trivial⟩, trivial⟩ (lv' := [(2, aN m.toInt.toNat), (4, aR 8 1), (0, aR 0 0), (1, aI k), (3, aI n)]) (st' := [aN (N 9 1 m.toInt.toNat), aR 0 0]) (w' := wd N L) (P := [vld NN 8 1, vld NN 9 1, m.toInt.toNat < 24]) rfl (⟨vN (t := 8) (i := 1) (by decide), vN (t := 9) (i := 1) (by decide), (show m.toInt.toNat < 24 by first | omega | exact hI)⟩) (pc' := 45) rfl ?_
          refine Sem.cVp1 (t := 0) (i := 0) (as := [aN (N 9 1 m.toInt.toNat)]) (rst := []) (c' := 4) (s' := 24) d50_45 mk24 rfl co24 lk4_50 im24 se24 rfl (vN (t := 0) (i := 0) (by decide)) (show 2 ≤ mL 24 by decide) rfl (show 0 ≤ 8 by decide) (by decide) (by decide) rfl rfl (by decide) (by decide) (m24n N L (N 9 1 m.toInt.toNat) hI) ?_
          refine Sem.seg [(.iconst 1, 0, 0), (.putfield 71, 2, 10)] ⟨⟨d50_48, trivial⟩, ⟨d50_49, gf4_71⟩, trivial⟩ (lv' := [(2, aN m.toInt.toNat), (4, aR 8 1), (0, aR 0 0), (1, aI k), (3, aI n)]) (st' := []) (w' := wd (upN N 19 (N 9 1 m.toInt.toNat) 10 1) L) (P := [vld NN 19 (N 9 1 m.toInt.toNat), 1 = 0 ∨ 1 = 1]) rfl (⟨vN (t := 19) (i := N 9 1 m.toInt.toNat) (show N 9 1 m.toInt.toNat < 12 by first | omega | exact hI), (show (1 : Nat) = 0 ∨ (1 : Nat) = 1 by decide)⟩) (pc' := 52) rfl ?_
          refine Sem.pick [4, 0, 1, 2, 3] (lv' := [(3, aI n), (2, aN m.toInt.toNat), (4, aR 8 1), (0, aR 0 0), (1, aI k)]) rfl ?_
          refine Sem.loc0 (show n = nI n.toInt.toNat from i_nI2 (by omega)) ?_
          refine Sem.seg [(.aload 4, 0, 0), (.iload_n 2, 0, 0), (.iload_n 3, 0, 0)] ⟨⟨d50_52, trivial⟩, ⟨d50_54, trivial⟩, ⟨d50_55, trivial⟩, trivial⟩ (lv' := [(3, aN n.toInt.toNat), (2, aN m.toInt.toNat), (4, aR 8 1), (0, aR 0 0), (1, aI k)]) (st' := [aN n.toInt.toNat, aN m.toInt.toNat, aR 8 1]) (w' := wd (upN N 19 (N 9 1 m.toInt.toNat) 10 1) L) (P := []) rfl (trivial) (pc' := 56) rfl ?_
          refine Sem.cVp1 (t := 8) (i := 1) (as := [aN m.toInt.toNat, aN n.toInt.toNat]) (rst := []) (c' := 4) (s' := 24) d50_56 mk52 rfl co52 lk4_134 im52 se52 rfl (vN (t := 8) (i := 1) (by decide)) (show 3 ≤ mL 52 by decide) rfl (show 0 ≤ 8 by decide) (by decide) (by decide) rfl rfl (by decide) (by decide) (m52 (upN N 19 (N 9 1 m.toInt.toNat) 10 1) L 1 m.toInt.toNat n.toInt.toNat (by decide) (by omega)) ?_
          exact Sem.iret rfl d50_59 (Or.inl rfl) (by decide) (by decide) hzW ⟨_, _, rfl, by refine ⟨?_, by rw [show k.toInt.toNat = 1 by omega]; rfl, by rw [show k.toInt.toNat = 1 by omega], rfl⟩; unfold cChange; have := bo_le (TD N); (repeat' split) <;> omega⟩
    · have b2_ : ¬ (¬ k.toInt = 0) := bF rfl rfl b2
      refine Sem.seg [(.aload_n 0, 0, 0), (.getfield 25, 4, 2)] ⟨⟨d50_10, trivial⟩, ⟨d50_11, gf4_25⟩, trivial⟩ (lv' := [(0, aR 0 0), (1, aI k), (2, aI m), (3, aI n)]) (st' := [aR 8 0]) (w' := wd N L) (P := [vld NN 0 0]) rfl (vN (t := 0) (i := 0) (by decide)) (pc' := 14) rfl ?_
      refine Sem.goto (tgt := 21) d50_14 (by decide) ?_
      refine Sem.seg [(.astore 4, 0, 0), (.aload 4, 0, 0), (.iload_n 2, 0, 0)] ⟨⟨d50_21, trivial⟩, ⟨d50_23, trivial⟩, ⟨d50_25, trivial⟩, trivial⟩ (lv' := [(4, aR 8 0), (0, aR 0 0), (1, aI k), (2, aI m), (3, aI n)]) (st' := [aI m, aR 8 0]) (w' := wd N L) (P := []) rfl (trivial) (pc' := 26) rfl ?_
      by_cases h5 : 0 ≤ m.toInt ∧ m.toInt < (N 8 0 3 : Int)
      case neg =>
        refine Sem.cSx (as := [aR 8 0, aI m]) (rst := []) (c' := 2) (s' := 12) d50_26 mk51 rfl co51 lk4_127 ss51 (show 2 ≤ mL 51 by decide) rfl (show 0 ≤ 8 by decide) (by decide) (by decide) rfl rfl (by decide) (by decide) (m51x N L 0 (by decide) m (by omega) (by omega)) ?_
        intro N_ L_ hq_
        rw [hq_.1, hq_.2]
        exact SemX.up rfl (by decide) (by decide) ⟨_, _, rfl, 0, by decide, rfl, by refine ⟨?_, by decide, rfl, rfl⟩; show cChange (N 8 0 3) (N 8 1 3) k m n = _; unfold cChange; have := bo_le (TD N); (repeat' split) <;> omega⟩
      case pos =>
        refine Sem.cSp0 (as := [aR 8 0, aI m]) (rst := []) (c' := 2) (s' := 12) d50_26 mk51 rfl co51 lk4_127 ss51 (show 2 ≤ mL 51 by decide) rfl (show 0 ≤ 8 by decide) (by decide) (by decide) rfl rfl (by decide) (by decide) (m51o N L 0 (by decide) m (by omega) h5.1 h5.2) ?_
        refine Sem.seg [(.iload_n 3, 0, 0), (.iconst 0, 0, 0), (.sipush 1000, 0, 0)] ⟨⟨d50_29, trivial⟩, ⟨d50_30, trivial⟩, ⟨d50_31, trivial⟩, trivial⟩ (lv' := [(4, aR 8 0), (0, aR 0 0), (1, aI k), (2, aI m), (3, aI n)]) (st' := [aN 1000, aN 0, aI n]) (w' := wd N L) (P := []) rfl (trivial) (pc' := 34) rfl ?_
        by_cases h6 : ((0 : Nat) : Int) ≤ n.toInt ∧ n.toInt ≤ ((1000 : Nat) : Int)
        case neg =>
          refine Sem.cSx (as := [aI n, aN 0, aN 1000]) (rst := []) (c' := 3) (s' := 18) d50_34 mk26 rfl co26 lk4_54 ss26 (show 3 ≤ mL 26 by decide) rfl (show 0 ≤ 8 by decide) (by decide) (by decide) rfl rfl (by decide) (by decide) (m26x N L n 0 1000 (by decide) (by decide) (by omega)) ?_
          intro N_ L_ hq_
          rw [hq_.1, hq_.2]
          exact SemX.up rfl (by decide) (by decide) ⟨_, _, rfl, 1, by decide, rfl, by refine ⟨?_, by decide, rfl, rfl⟩; show cChange (N 8 0 3) (N 8 1 3) k m n = _; unfold cChange; have := bo_le (TD N); (repeat' split) <;> omega⟩
        case pos =>
          refine Sem.cSp0 (as := [aI n, aN 0, aN 1000]) (rst := []) (c' := 3) (s' := 18) d50_34 mk26 rfl co26 lk4_54 ss26 (show 3 ≤ mL 26 by decide) rfl (show 0 ≤ 8 by decide) (by decide) (by decide) rfl rfl (by decide) (by decide) (m26o N L n 0 1000 (by decide) (by decide) h6.1 h6.2) ?_
          refine Sem.pick [3, 0, 1, 2, 4] (lv' := [(2, aI m), (4, aR 8 0), (0, aR 0 0), (1, aI k), (3, aI n)]) rfl ?_
          refine Sem.loc0 (show m = nI m.toInt.toNat from i_nI2 (by omega)) ?_
          have hI := (hc.2.1 0 (by decide)).2.1 m.toInt.toNat (by omega)
          refine Sem.seg [(.aload_n 0, 0, 0), (.aload 4, 0, 0), (.getfield 131, 1, 0), (.iload_n 2, 0, 0), (.iaload, 0, 0)] ⟨⟨d50_37, trivial⟩, ⟨d50_38, trivial⟩, ⟨d50_40, gf4_131⟩, ⟨d50_43, trivial⟩, ⟨d50_44, trivial⟩, trivial⟩ (lv' := [(2, aN m.toInt.toNat), (4, aR 8 0), (0, aR 0 0), (1, aI k), (3, aI n)]) (st' := [aN (N 9 0 m.toInt.toNat), aR 0 0]) (w' := wd N L) (P := [vld NN 8 0, vld NN 9 0, m.toInt.toNat < 24]) rfl (⟨vN (t := 8) (i := 0) (by decide), vN (t := 9) (i := 0) (by decide), (show m.toInt.toNat < 24 by first | omega | exact hI)⟩) (pc' := 45) rfl ?_
          refine Sem.cVp1 (t := 0) (i := 0) (as := [aN (N 9 0 m.toInt.toNat)]) (rst := []) (c' := 4) (s' := 24) d50_45 mk24 rfl co24 lk4_50 im24 se24 rfl (vN (t := 0) (i := 0) (by decide)) (show 2 ≤ mL 24 by decide) rfl (show 0 ≤ 8 by decide) (by decide) (by decide) rfl rfl (by decide) (by decide) (m24n N L (N 9 0 m.toInt.toNat) hI) ?_
          refine Sem.seg [(.iconst 1, 0, 0), (.putfield 71, 2, 10)] ⟨⟨d50_48, trivial⟩, ⟨d50_49, gf4_71⟩, trivial⟩ (lv' := [(2, aN m.toInt.toNat), (4, aR 8 0), (0, aR 0 0), (1, aI k), (3, aI n)]) (st' := []) (w' := wd (upN N 19 (N 9 0 m.toInt.toNat) 10 1) L) (P := [vld NN 19 (N 9 0 m.toInt.toNat), 1 = 0 ∨ 1 = 1]) rfl (⟨vN (t := 19) (i := N 9 0 m.toInt.toNat) (show N 9 0 m.toInt.toNat < 12 by first | omega | exact hI), (show (1 : Nat) = 0 ∨ (1 : Nat) = 1 by decide)⟩) (pc' := 52) rfl ?_
          refine Sem.pick [4, 0, 1, 2, 3] (lv' := [(3, aI n), (2, aN m.toInt.toNat), (4, aR 8 0), (0, aR 0 0), (1, aI k)]) rfl ?_
          refine Sem.loc0 (show n = nI n.toInt.toNat from i_nI2 (by omega)) ?_
          refine Sem.seg [(.aload 4, 0, 0), (.iload_n 2, 0, 0), (.iload_n 3, 0, 0)] ⟨⟨d50_52, trivial⟩, ⟨d50_54, trivial⟩, ⟨d50_55, trivial⟩, trivial⟩ (lv' := [(3, aN n.toInt.toNat), (2, aN m.toInt.toNat), (4, aR 8 0), (0, aR 0 0), (1, aI k)]) (st' := [aN n.toInt.toNat, aN m.toInt.toNat, aR 8 0]) (w' := wd (upN N 19 (N 9 0 m.toInt.toNat) 10 1) L) (P := []) rfl (trivial) (pc' := 56) rfl ?_
          refine Sem.cVp1 (t := 8) (i := 0) (as := [aN m.toInt.toNat, aN n.toInt.toNat]) (rst := []) (c' := 4) (s' := 24) d50_56 mk52 rfl co52 lk4_134 im52 se52 rfl (vN (t := 8) (i := 0) (by decide)) (show 3 ≤ mL 52 by decide) rfl (show 0 ≤ 8 by decide) (by decide) (by decide) rfl rfl (by decide) (by decide) (m52 (upN N 19 (N 9 0 m.toInt.toNat) 10 1) L 0 m.toInt.toNat n.toInt.toNat (by decide) (by omega)) ?_
          exact Sem.iret rfl d50_59 (Or.inl rfl) (by decide) (by decide) hzW ⟨_, _, rfl, by refine ⟨?_, by rw [show k.toInt.toNat = 0 by omega]; rfl, by rw [show k.toInt.toNat = 0 by omega], rfl⟩; unfold cChange; have := bo_le (TD N); (repeat' split) <;> omega⟩

theorem m56 {sc : XT} (N : TN) (L : TL) (x : Int32) : Sem sc 56 0 [(0, aR 0 0), (1, aI x)] [] (wd N L) 0 0 (QC (fun v N' L' => cLevel x = 0 ∧ v = some (aN (N 6 0 x.toInt.toNat)) ∧ N' = N ∧ L' = L) (fun e N' L' => cLevel x = e + 1 ∧ e = 0 ∧ N' = N ∧ L' = L)) := by
  refine Sem.seg [(.iload_n 1, 0, 0)] ⟨⟨d56_0, trivial⟩, trivial⟩ (lv' := [(0, aR 0 0), (1, aI x)]) (st' := [aI x]) (w' := wd N L) (P := []) rfl (trivial) (pc' := 1) rfl ?_
  by_cases h1 : 0 ≤ x.toInt ∧ x.toInt < 12
  case neg =>
    refine Sem.cSx (as := [aI x]) (rst := []) (c' := 1) (s' := 6) d56_1 mk25 rfl co25 lk4_95 ss25 (show 1 ≤ mL 25 by decide) rfl (show 0 ≤ 8 by decide) (by decide) (by decide) rfl rfl (by decide) (by decide) (m25x N L x (by omega)) ?_
    intro N_ L_ hq_
    rw [hq_.1, hq_.2]
    exact SemX.up rfl (by decide) (by decide) ⟨_, _, rfl, 0, by decide, rfl, by refine ⟨?_, by decide, rfl, rfl⟩; show cLevel x = _; unfold cLevel; have := bo_le (TD N); (repeat' split) <;> omega⟩
  case pos =>
    refine Sem.cSp0 (as := [aI x]) (rst := []) (c' := 1) (s' := 6) d56_1 mk25 rfl co25 lk4_95 ss25 (show 1 ≤ mL 25 by decide) rfl (show 0 ≤ 8 by decide) (by decide) (by decide) rfl rfl (by decide) (by decide) (m25o N L x h1.1 h1.2) ?_
    refine Sem.pick [1, 0] (lv' := [(1, aI x), (0, aR 0 0)]) rfl ?_
    refine Sem.loc0 (show x = nI x.toInt.toNat from i_nI2 (by omega)) ?_
    refine Sem.seg [(.aload_n 0, 0, 0), (.getfield 18, 4, 1), (.getfield 137, 0, 3), (.iload_n 1, 0, 0), (.iaload, 0, 0)] ⟨⟨d56_4, trivial⟩, ⟨d56_5, gf4_18⟩, ⟨d56_8, gf4_137⟩, ⟨d56_11, trivial⟩, ⟨d56_12, trivial⟩, trivial⟩ (lv' := [(1, aN x.toInt.toNat), (0, aR 0 0)]) (st' := [aN (N 6 0 x.toInt.toNat)]) (w' := wd N L) (P := [vld NN 0 0, vld NN 2 0, vld NN 6 0, x.toInt.toNat < 12]) rfl (⟨vN (t := 0) (i := 0) (by decide), vN (t := 2) (i := 0) (by decide), vN (t := 6) (i := 0) (by decide), (show x.toInt.toNat < 12 by omega)⟩) (pc' := 13) rfl ?_
    exact Sem.iret rfl d56_13 (Or.inl rfl) (by decide) (by decide) hzW ⟨_, _, rfl, by refine ⟨?_, rfl, rfl, rfl⟩; unfold cLevel; have := bo_le (TD N); (repeat' split) <;> omega⟩

theorem m58 {sc : XT} (N : TN) (L : TL) (x w : Int32) (ht : ∀ i, i < 12 → N 19 i 10 ≤ 1) : Sem sc 58 0 [(0, aR 0 0), (1, aI x), (2, aI w)] [] (wd N L) 0 0 (QC (fun v N' L' => cPlan (bo (TD N)) x w = 0 ∧ v = some (aL (L 20 x.toInt.toNat w.toInt.toNat)) ∧ N' = N ∧ L' = L) (fun e N' L' => cPlan (bo (TD N)) x w = (if e = 0 then 1 else 2) ∧ (e = 0 ∨ e = 2) ∧ N' = N ∧ L' = L)) := by
  refine Sem.seg [(.aload_n 0, 0, 0), (.iload_n 1, 0, 0)] ⟨⟨d58_0, trivial⟩, ⟨d58_1, trivial⟩, trivial⟩ (lv' := [(0, aR 0 0), (1, aI x), (2, aI w)]) (st' := [aI x, aR 0 0]) (w' := wd N L) (P := []) rfl (trivial) (pc' := 2) rfl ?_
  by_cases h1 : 0 ≤ x.toInt ∧ x.toInt < 12
  case neg =>
    refine Sem.cVx (t := 0) (i := 0) (as := [aI x]) (rst := []) (c' := 1) (s' := 6) d58_2 mk24 rfl co24 lk4_50 im24 se24 rfl (vN (t := 0) (i := 0) (by decide)) (show 2 ≤ mL 24 by decide) rfl (show 0 ≤ 8 by decide) (by decide) (by decide) rfl rfl (by decide) (by decide) (m24x N L x (by omega)) ?_
    intro N_ L_ hq_
    rw [hq_.1, hq_.2]
    exact SemX.up rfl (by decide) (by decide) ⟨_, _, rfl, 0, by decide, rfl, by refine ⟨?_, by decide, rfl, rfl⟩; show cPlan (bo (TD N)) x w = _; unfold cPlan; have := bo_le (TD N); (repeat' split) <;> omega⟩
  case pos =>
    refine Sem.cVp1 (t := 0) (i := 0) (as := [aI x]) (rst := []) (c' := 1) (s' := 6) d58_2 mk24 rfl co24 lk4_50 im24 se24 rfl (vN (t := 0) (i := 0) (by decide)) (show 2 ≤ mL 24 by decide) rfl (show 0 ≤ 8 by decide) (by decide) (by decide) rfl rfl (by decide) (by decide) (m24o N L x.toInt.toNat x (i_nI2 h1.1) (by omega)) ?_
    refine Sem.seg [(.astore_n 3, 0, 0), (.iload_n 2, 0, 0)] ⟨⟨d58_5, trivial⟩, ⟨d58_6, trivial⟩, trivial⟩ (lv' := [(3, aR 19 x.toInt.toNat), (0, aR 0 0), (1, aI x), (2, aI w)]) (st' := [aI w]) (w' := wd N L) (P := []) rfl (trivial) (pc' := 7) rfl ?_
    by_cases h2 : 0 ≤ w.toInt ∧ w.toInt < 12
    case neg =>
      refine Sem.cSx (as := [aI w]) (rst := []) (c' := 2) (s' := 12) d58_7 mk45 rfl co45 lk4_143 ss45 (show 1 ≤ mL 45 by decide) rfl (show 0 ≤ 8 by decide) (by decide) (by decide) rfl rfl (by decide) (by decide) (m45x N L w (by omega)) ?_
      intro N_ L_ hq_
      rw [hq_.1, hq_.2]
      exact SemX.up rfl (by decide) (by decide) ⟨_, _, rfl, 0, by decide, rfl, by refine ⟨?_, by decide, rfl, rfl⟩; show cPlan (bo (TD N)) x w = _; unfold cPlan; have := bo_le (TD N); (repeat' split) <;> omega⟩
    case pos =>
      refine Sem.cSp0 (as := [aI w]) (rst := []) (c' := 2) (s' := 12) d58_7 mk45 rfl co45 lk4_143 ss45 (show 1 ≤ mL 45 by decide) rfl (show 0 ≤ 8 by decide) (by decide) (by decide) rfl rfl (by decide) (by decide) (m45o N L w h2.1 h2.2) ?_
      refine Sem.seg [(.aload_n 0, 0, 0)] ⟨⟨d58_10, trivial⟩, trivial⟩ (lv' := [(3, aR 19 x.toInt.toNat), (0, aR 0 0), (1, aI x), (2, aI w)]) (st' := [aR 0 0]) (w' := wd N L) (P := []) rfl (trivial) (pc' := 11) rfl ?_
      by_cases h3 : bo (TD N) = 0
      case neg =>
        refine Sem.cVx (t := 0) (i := 0) (as := []) (rst := []) (c' := 3) (s' := 18) d58_11 mk59 rfl co59 lk4_146 im59 se59 rfl (vN (t := 0) (i := 0) (by decide)) (show 1 ≤ mL 59 by decide) rfl (show 0 ≤ 8 by decide) (by decide) (by decide) rfl rfl (by decide) (by decide) (m59x N L ht (by have := bo_le (TD N); omega)) ?_
        intro N_ L_ hq_
        rw [hq_.1, hq_.2]
        exact SemX.up rfl (by decide) (by decide) ⟨_, _, rfl, 2, by decide, rfl, by refine ⟨?_, by decide, rfl, rfl⟩; show cPlan (bo (TD N)) x w = _; unfold cPlan; have := bo_le (TD N); (repeat' split) <;> omega⟩
      case pos =>
        refine Sem.cVp0 (t := 0) (i := 0) (as := []) (rst := []) (c' := 3) (s' := 18) d58_11 mk59 rfl co59 lk4_146 im59 se59 rfl (vN (t := 0) (i := 0) (by decide)) (show 1 ≤ mL 59 by decide) rfl (show 0 ≤ 8 by decide) (by decide) (by decide) rfl rfl (by decide) (by decide) (m59o N L ht h3) ?_
        refine Sem.pick [3, 0, 1, 2] (lv' := [(2, aI w), (3, aR 19 x.toInt.toNat), (0, aR 0 0), (1, aI x)]) rfl ?_
        refine Sem.loc0 (show w = nI w.toInt.toNat from i_nI2 (by omega)) ?_
        refine Sem.seg [(.aload_n 3, 0, 0), (.getfield 149, 2, 11), (.iload_n 2, 0, 0), (.laload, 0, 0)] ⟨⟨d58_14, trivial⟩, ⟨d58_15, gf4_149⟩, ⟨d58_18, trivial⟩, ⟨d58_19, trivial⟩, trivial⟩ (lv' := [(2, aN w.toInt.toNat), (3, aR 19 x.toInt.toNat), (0, aR 0 0), (1, aI x)]) (st' := [aL (L 20 x.toInt.toNat w.toInt.toNat)]) (w' := wd N L) (P := [vld NN 19 x.toInt.toNat, vld NN 20 x.toInt.toNat, w.toInt.toNat < 12]) rfl (⟨vN (t := 19) (i := x.toInt.toNat) (show x.toInt.toNat < 12 by omega), vN (t := 20) (i := x.toInt.toNat) (show x.toInt.toNat < 12 by omega), (show w.toInt.toNat < 12 by omega)⟩) (pc' := 20) rfl ?_
        exact Sem.lret d58_20 rfl (by decide) (by decide) hzW ⟨_, _, rfl, by refine ⟨?_, rfl, rfl, rfl⟩; unfold cPlan; have := bo_le (TD N); (repeat' split) <;> omega⟩

theorem m62 {sc : XT} (N : TN) (L : TL) (x w : Int32) (ht : ∀ i, i < 12 → N 19 i 10 ≤ 1) : Sem sc 62 0 [(0, aR 0 0), (1, aI x), (2, aI w)] [] (wd N L) 0 0 (QC (fun v N' L' => cPlan (bo (TD N)) x w = 0 ∧ v = some (aL (L 21 x.toInt.toNat w.toInt.toNat)) ∧ N' = N ∧ L' = L) (fun e N' L' => cPlan (bo (TD N)) x w = (if e = 0 then 1 else 2) ∧ (e = 0 ∨ e = 2) ∧ N' = N ∧ L' = L)) := by
  refine Sem.seg [(.aload_n 0, 0, 0), (.iload_n 1, 0, 0)] ⟨⟨d62_0, trivial⟩, ⟨d62_1, trivial⟩, trivial⟩ (lv' := [(0, aR 0 0), (1, aI x), (2, aI w)]) (st' := [aI x, aR 0 0]) (w' := wd N L) (P := []) rfl (trivial) (pc' := 2) rfl ?_
  by_cases h1 : 0 ≤ x.toInt ∧ x.toInt < 12
  case neg =>
    refine Sem.cVx (t := 0) (i := 0) (as := [aI x]) (rst := []) (c' := 1) (s' := 6) d62_2 mk24 rfl co24 lk4_50 im24 se24 rfl (vN (t := 0) (i := 0) (by decide)) (show 2 ≤ mL 24 by decide) rfl (show 0 ≤ 8 by decide) (by decide) (by decide) rfl rfl (by decide) (by decide) (m24x N L x (by omega)) ?_
    intro N_ L_ hq_
    rw [hq_.1, hq_.2]
    exact SemX.up rfl (by decide) (by decide) ⟨_, _, rfl, 0, by decide, rfl, by refine ⟨?_, by decide, rfl, rfl⟩; show cPlan (bo (TD N)) x w = _; unfold cPlan; have := bo_le (TD N); (repeat' split) <;> omega⟩
  case pos =>
    refine Sem.cVp1 (t := 0) (i := 0) (as := [aI x]) (rst := []) (c' := 1) (s' := 6) d62_2 mk24 rfl co24 lk4_50 im24 se24 rfl (vN (t := 0) (i := 0) (by decide)) (show 2 ≤ mL 24 by decide) rfl (show 0 ≤ 8 by decide) (by decide) (by decide) rfl rfl (by decide) (by decide) (m24o N L x.toInt.toNat x (i_nI2 h1.1) (by omega)) ?_
    refine Sem.seg [(.astore_n 3, 0, 0), (.iload_n 2, 0, 0)] ⟨⟨d62_5, trivial⟩, ⟨d62_6, trivial⟩, trivial⟩ (lv' := [(3, aR 19 x.toInt.toNat), (0, aR 0 0), (1, aI x), (2, aI w)]) (st' := [aI w]) (w' := wd N L) (P := []) rfl (trivial) (pc' := 7) rfl ?_
    by_cases h2 : 0 ≤ w.toInt ∧ w.toInt < 12
    case neg =>
      refine Sem.cSx (as := [aI w]) (rst := []) (c' := 2) (s' := 12) d62_7 mk45 rfl co45 lk4_143 ss45 (show 1 ≤ mL 45 by decide) rfl (show 0 ≤ 8 by decide) (by decide) (by decide) rfl rfl (by decide) (by decide) (m45x N L w (by omega)) ?_
      intro N_ L_ hq_
      rw [hq_.1, hq_.2]
      exact SemX.up rfl (by decide) (by decide) ⟨_, _, rfl, 0, by decide, rfl, by refine ⟨?_, by decide, rfl, rfl⟩; show cPlan (bo (TD N)) x w = _; unfold cPlan; have := bo_le (TD N); (repeat' split) <;> omega⟩
    case pos =>
      refine Sem.cSp0 (as := [aI w]) (rst := []) (c' := 2) (s' := 12) d62_7 mk45 rfl co45 lk4_143 ss45 (show 1 ≤ mL 45 by decide) rfl (show 0 ≤ 8 by decide) (by decide) (by decide) rfl rfl (by decide) (by decide) (m45o N L w h2.1 h2.2) ?_
      refine Sem.seg [(.aload_n 0, 0, 0)] ⟨⟨d62_10, trivial⟩, trivial⟩ (lv' := [(3, aR 19 x.toInt.toNat), (0, aR 0 0), (1, aI x), (2, aI w)]) (st' := [aR 0 0]) (w' := wd N L) (P := []) rfl (trivial) (pc' := 11) rfl ?_
      by_cases h3 : bo (TD N) = 0
      case neg =>
        refine Sem.cVx (t := 0) (i := 0) (as := []) (rst := []) (c' := 3) (s' := 18) d62_11 mk59 rfl co59 lk4_146 im59 se59 rfl (vN (t := 0) (i := 0) (by decide)) (show 1 ≤ mL 59 by decide) rfl (show 0 ≤ 8 by decide) (by decide) (by decide) rfl rfl (by decide) (by decide) (m59x N L ht (by have := bo_le (TD N); omega)) ?_
        intro N_ L_ hq_
        rw [hq_.1, hq_.2]
        exact SemX.up rfl (by decide) (by decide) ⟨_, _, rfl, 2, by decide, rfl, by refine ⟨?_, by decide, rfl, rfl⟩; show cPlan (bo (TD N)) x w = _; unfold cPlan; have := bo_le (TD N); (repeat' split) <;> omega⟩
      case pos =>
        refine Sem.cVp0 (t := 0) (i := 0) (as := []) (rst := []) (c' := 3) (s' := 18) d62_11 mk59 rfl co59 lk4_146 im59 se59 rfl (vN (t := 0) (i := 0) (by decide)) (show 1 ≤ mL 59 by decide) rfl (show 0 ≤ 8 by decide) (by decide) (by decide) rfl rfl (by decide) (by decide) (m59o N L ht h3) ?_
        refine Sem.pick [3, 0, 1, 2] (lv' := [(2, aI w), (3, aR 19 x.toInt.toNat), (0, aR 0 0), (1, aI x)]) rfl ?_
        refine Sem.loc0 (show w = nI w.toInt.toNat from i_nI2 (by omega)) ?_
        refine Sem.seg [(.aload_n 3, 0, 0), (.getfield 152, 2, 12), (.iload_n 2, 0, 0), (.laload, 0, 0)] ⟨⟨d62_14, trivial⟩, ⟨d62_15, gf4_152⟩, ⟨d62_18, trivial⟩, ⟨d62_19, trivial⟩, trivial⟩ (lv' := [(2, aN w.toInt.toNat), (3, aR 19 x.toInt.toNat), (0, aR 0 0), (1, aI x)]) (st' := [aL (L 21 x.toInt.toNat w.toInt.toNat)]) (w' := wd N L) (P := [vld NN 19 x.toInt.toNat, vld NN 21 x.toInt.toNat, w.toInt.toNat < 12]) rfl (⟨vN (t := 19) (i := x.toInt.toNat) (show x.toInt.toNat < 12 by omega), vN (t := 21) (i := x.toInt.toNat) (show x.toInt.toNat < 12 by omega), (show w.toInt.toNat < 12 by omega)⟩) (pc' := 20) rfl ?_
        exact Sem.lret d62_20 rfl (by decide) (by decide) hzW ⟨_, _, rfl, by refine ⟨?_, rfl, rfl, rfl⟩; unfold cPlan; have := bo_le (TD N); (repeat' split) <;> omega⟩

theorem m64 {sc : XT} (N : TN) (L : TL) (x w : Int32) (ht : ∀ i, i < 12 → N 19 i 10 ≤ 1) : Sem sc 64 0 [(0, aR 0 0), (1, aI x), (2, aI w)] [] (wd N L) 0 0 (QC (fun v N' L' => cPlan (bo (TD N)) x w = 0 ∧ v = some (aL (L 22 x.toInt.toNat w.toInt.toNat)) ∧ N' = N ∧ L' = L) (fun e N' L' => cPlan (bo (TD N)) x w = (if e = 0 then 1 else 2) ∧ (e = 0 ∨ e = 2) ∧ N' = N ∧ L' = L)) := by
  refine Sem.seg [(.aload_n 0, 0, 0), (.iload_n 1, 0, 0)] ⟨⟨d64_0, trivial⟩, ⟨d64_1, trivial⟩, trivial⟩ (lv' := [(0, aR 0 0), (1, aI x), (2, aI w)]) (st' := [aI x, aR 0 0]) (w' := wd N L) (P := []) rfl (trivial) (pc' := 2) rfl ?_
  by_cases h1 : 0 ≤ x.toInt ∧ x.toInt < 12
  case neg =>
    refine Sem.cVx (t := 0) (i := 0) (as := [aI x]) (rst := []) (c' := 1) (s' := 6) d64_2 mk24 rfl co24 lk4_50 im24 se24 rfl (vN (t := 0) (i := 0) (by decide)) (show 2 ≤ mL 24 by decide) rfl (show 0 ≤ 8 by decide) (by decide) (by decide) rfl rfl (by decide) (by decide) (m24x N L x (by omega)) ?_
    intro N_ L_ hq_
    rw [hq_.1, hq_.2]
    exact SemX.up rfl (by decide) (by decide) ⟨_, _, rfl, 0, by decide, rfl, by refine ⟨?_, by decide, rfl, rfl⟩; show cPlan (bo (TD N)) x w = _; unfold cPlan; have := bo_le (TD N); (repeat' split) <;> omega⟩
  case pos =>
    refine Sem.cVp1 (t := 0) (i := 0) (as := [aI x]) (rst := []) (c' := 1) (s' := 6) d64_2 mk24 rfl co24 lk4_50 im24 se24 rfl (vN (t := 0) (i := 0) (by decide)) (show 2 ≤ mL 24 by decide) rfl (show 0 ≤ 8 by decide) (by decide) (by decide) rfl rfl (by decide) (by decide) (m24o N L x.toInt.toNat x (i_nI2 h1.1) (by omega)) ?_
    refine Sem.seg [(.astore_n 3, 0, 0), (.iload_n 2, 0, 0)] ⟨⟨d64_5, trivial⟩, ⟨d64_6, trivial⟩, trivial⟩ (lv' := [(3, aR 19 x.toInt.toNat), (0, aR 0 0), (1, aI x), (2, aI w)]) (st' := [aI w]) (w' := wd N L) (P := []) rfl (trivial) (pc' := 7) rfl ?_
    by_cases h2 : 0 ≤ w.toInt ∧ w.toInt < 12
    case neg =>
      refine Sem.cSx (as := [aI w]) (rst := []) (c' := 2) (s' := 12) d64_7 mk45 rfl co45 lk4_143 ss45 (show 1 ≤ mL 45 by decide) rfl (show 0 ≤ 8 by decide) (by decide) (by decide) rfl rfl (by decide) (by decide) (m45x N L w (by omega)) ?_
      intro N_ L_ hq_
      rw [hq_.1, hq_.2]
      exact SemX.up rfl (by decide) (by decide) ⟨_, _, rfl, 0, by decide, rfl, by refine ⟨?_, by decide, rfl, rfl⟩; show cPlan (bo (TD N)) x w = _; unfold cPlan; have := bo_le (TD N); (repeat' split) <;> omega⟩
    case pos =>
      refine Sem.cSp0 (as := [aI w]) (rst := []) (c' := 2) (s' := 12) d64_7 mk45 rfl co45 lk4_143 ss45 (show 1 ≤ mL 45 by decide) rfl (show 0 ≤ 8 by decide) (by decide) (by decide) rfl rfl (by decide) (by decide) (m45o N L w h2.1 h2.2) ?_
      refine Sem.seg [(.aload_n 0, 0, 0)] ⟨⟨d64_10, trivial⟩, trivial⟩ (lv' := [(3, aR 19 x.toInt.toNat), (0, aR 0 0), (1, aI x), (2, aI w)]) (st' := [aR 0 0]) (w' := wd N L) (P := []) rfl (trivial) (pc' := 11) rfl ?_
      by_cases h3 : bo (TD N) = 0
      case neg =>
        refine Sem.cVx (t := 0) (i := 0) (as := []) (rst := []) (c' := 3) (s' := 18) d64_11 mk59 rfl co59 lk4_146 im59 se59 rfl (vN (t := 0) (i := 0) (by decide)) (show 1 ≤ mL 59 by decide) rfl (show 0 ≤ 8 by decide) (by decide) (by decide) rfl rfl (by decide) (by decide) (m59x N L ht (by have := bo_le (TD N); omega)) ?_
        intro N_ L_ hq_
        rw [hq_.1, hq_.2]
        exact SemX.up rfl (by decide) (by decide) ⟨_, _, rfl, 2, by decide, rfl, by refine ⟨?_, by decide, rfl, rfl⟩; show cPlan (bo (TD N)) x w = _; unfold cPlan; have := bo_le (TD N); (repeat' split) <;> omega⟩
      case pos =>
        refine Sem.cVp0 (t := 0) (i := 0) (as := []) (rst := []) (c' := 3) (s' := 18) d64_11 mk59 rfl co59 lk4_146 im59 se59 rfl (vN (t := 0) (i := 0) (by decide)) (show 1 ≤ mL 59 by decide) rfl (show 0 ≤ 8 by decide) (by decide) (by decide) rfl rfl (by decide) (by decide) (m59o N L ht h3) ?_
        refine Sem.pick [3, 0, 1, 2] (lv' := [(2, aI w), (3, aR 19 x.toInt.toNat), (0, aR 0 0), (1, aI x)]) rfl ?_
        refine Sem.loc0 (show w = nI w.toInt.toNat from i_nI2 (by omega)) ?_
        refine Sem.seg [(.aload_n 3, 0, 0), (.getfield 155, 2, 13), (.iload_n 2, 0, 0), (.laload, 0, 0)] ⟨⟨d64_14, trivial⟩, ⟨d64_15, gf4_155⟩, ⟨d64_18, trivial⟩, ⟨d64_19, trivial⟩, trivial⟩ (lv' := [(2, aN w.toInt.toNat), (3, aR 19 x.toInt.toNat), (0, aR 0 0), (1, aI x)]) (st' := [aL (L 22 x.toInt.toNat w.toInt.toNat)]) (w' := wd N L) (P := [vld NN 19 x.toInt.toNat, vld NN 22 x.toInt.toNat, w.toInt.toNat < 12]) rfl (⟨vN (t := 19) (i := x.toInt.toNat) (show x.toInt.toNat < 12 by omega), vN (t := 22) (i := x.toInt.toNat) (show x.toInt.toNat < 12 by omega), (show w.toInt.toNat < 12 by omega)⟩) (pc' := 20) rfl ?_
        exact Sem.lret d64_20 rfl (by decide) (by decide) hzW ⟨_, _, rfl, by refine ⟨?_, rfl, rfl, rfl⟩; unfold cPlan; have := bo_le (TD N); (repeat' split) <;> omega⟩

theorem m79 {sc : XT} (N : TN) (L : TL) (x : Int32) (hs : N 8 2 3 ≤ 24) : Sem sc 79 0 [(0, aR 0 0), (1, aI x)] [] (wd N L) 0 0 (QC (fun v N' L' => cGive (N 8 2 3) x = 0 ∧ v = some (aN (N 11 2 x.toInt.toNat)) ∧ N' = upN N 11 2 x.toInt.toNat 0 ∧ L' = L) (fun e N' L' => cGive (N 8 2 3) x = e + 1 ∧ e = 0 ∧ N' = N ∧ L' = L)) := by
  refine Sem.seg [(.aload_n 0, 0, 0), (.getfield 32, 4, 4), (.iload_n 1, 0, 0)] ⟨⟨d79_0, trivial⟩, ⟨d79_1, gf4_32⟩, ⟨d79_4, trivial⟩, trivial⟩ (lv' := [(0, aR 0 0), (1, aI x)]) (st' := [aI x, aR 8 2]) (w' := wd N L) (P := [vld NN 0 0]) rfl (vN (t := 0) (i := 0) (by decide)) (pc' := 5) rfl ?_
  by_cases h1 : 0 ≤ x.toInt ∧ x.toInt < (N 8 2 3 : Int)
  case neg =>
    refine Sem.cSx (as := [aR 8 2, aI x]) (rst := []) (c' := 1) (s' := 6) d79_5 mk51 rfl co51 lk4_127 ss51 (show 2 ≤ mL 51 by decide) rfl (show 0 ≤ 8 by decide) (by decide) (by decide) rfl rfl (by decide) (by decide) (m51x N L 2 (by decide) x (by omega) (by omega)) ?_
    intro N_ L_ hq_
    rw [hq_.1, hq_.2]
    exact SemX.up rfl (by decide) (by decide) ⟨_, _, rfl, 0, by decide, rfl, by refine ⟨?_, by decide, rfl, rfl⟩; show cGive (N 8 2 3) x = _; unfold cGive; have := bo_le (TD N); (repeat' split) <;> omega⟩
  case pos =>
    refine Sem.cSp0 (as := [aR 8 2, aI x]) (rst := []) (c' := 1) (s' := 6) d79_5 mk51 rfl co51 lk4_127 ss51 (show 2 ≤ mL 51 by decide) rfl (show 0 ≤ 8 by decide) (by decide) (by decide) rfl rfl (by decide) (by decide) (m51o N L 2 (by decide) x (by omega) h1.1 h1.2) ?_
    refine Sem.pick [1, 0] (lv' := [(1, aI x), (0, aR 0 0)]) rfl ?_
    refine Sem.loc0 (show x = nI x.toInt.toNat from i_nI2 (by omega)) ?_
    refine Sem.seg [(.aload_n 0, 0, 0), (.getfield 32, 4, 4), (.iload_n 1, 0, 0), (.iconst 0, 0, 0)] ⟨⟨d79_8, trivial⟩, ⟨d79_9, gf4_32⟩, ⟨d79_12, trivial⟩, ⟨d79_13, trivial⟩, trivial⟩ (lv' := [(1, aN x.toInt.toNat), (0, aR 0 0)]) (st' := [aN 0, aN x.toInt.toNat, aR 8 2]) (w' := wd N L) (P := [vld NN 0 0]) rfl (vN (t := 0) (i := 0) (by decide)) (pc' := 14) rfl ?_
    refine Sem.cVp1 (t := 8) (i := 2) (as := [aN x.toInt.toNat, aN 0]) (rst := []) (c' := 1) (s' := 6) d79_14 mk52 rfl co52 lk4_134 im52 se52 rfl (vN (t := 8) (i := 2) (by decide)) (show 3 ≤ mL 52 by decide) rfl (show 0 ≤ 8 by decide) (by decide) (by decide) rfl rfl (by decide) (by decide) (m52 N L 2 x.toInt.toNat 0 (by decide) (by omega)) ?_
    exact Sem.iret rfl d79_17 (Or.inl rfl) (by decide) (by decide) hzW ⟨_, _, rfl, by refine ⟨?_, rfl, rfl, rfl⟩; unfold cGive; have := bo_le (TD N); (repeat' split) <;> omega⟩

