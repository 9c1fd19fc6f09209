-- ===== the model: what is told =====
theorem m87 {sc : XT} (N : TN) (L : TL) : Sem sc 87 0 [(0, aR 23 0)] [] (wd N L) 0 0 (QP (some (aN (N 23 0 0))) N L) := by
  refine Sem.seg [(.aload_n 0, 0, 0), (.getfield 85, 5, 0)] ⟨⟨d87_0, trivial⟩, ⟨d87_1, gf5_85⟩, trivial⟩ (lv' := [(0, aR 23 0)]) (st' := [aN (N 23 0 0)]) (w' := wd N L) (P := [vld NN 23 0]) rfl (vN (t := 23) (i := 0) (by decide)) (pc' := 4) rfl ?_
  exact Sem.iret rfl d87_4 (Or.inl rfl) (by decide) (by decide) hzW ⟨rfl, rfl⟩

theorem m89i {sc : XT} (N : TN) (L : TL) (x y : Int32) (a : Nat) (ha : a < 2 ^ 31) : Sem sc 89 0 [(0, aI x), (1, aN a), (2, aI y)] [] (wd N L) 0 0 (QP (some (aN (if (a : Int) ≤ x.toInt ∧ x.toInt ≤ y.toInt then 1 else 0))) N L) := by
  refine Sem.seg [(.iload_n 0, 0, 0), (.iload_n 1, 0, 0)] ⟨⟨d89_0, trivial⟩, ⟨d89_1, trivial⟩, trivial⟩ (lv' := [(0, aI x), (1, aN a), (2, aI y)]) (st' := [aN a, aI x]) (w' := wd N L) (P := []) rfl (trivial) (pc' := 2) rfl ?_
  refine Sem.icmp (tgt := 14) d89_2 (by decide) rfl rfl (fun b1 => ?_) (fun b1 => ?_)
  · have b1_ : x.toInt < ((a : Nat) : Int) := bT rfl (nI_toInt (show a < 2 ^ 31 by omega)) b1
    refine Sem.seg [(.iconst 0, 0, 0)] ⟨⟨d89_14, trivial⟩, trivial⟩ (lv' := [(0, aI x), (1, aN a), (2, aI y)]) (st' := [aN 0]) (w' := wd N L) (P := []) rfl (trivial) (pc' := 15) rfl ?_
    exact Sem.iret rfl d89_15 (Or.inr ⟨rfl, by decide⟩) (by decide) (by decide) hzW ⟨congrArg (fun z => Sum.inl (some (aN z))) (show 0 = (if (a : Int) ≤ x.toInt ∧ x.toInt ≤ y.toInt then 1 else 0) by first | (rw [if_pos (by omega)]; done) | (rw [if_neg (by omega)]; done)), rfl⟩
  · have b1_ : ¬ (x.toInt < ((a : Nat) : Int)) := bF rfl (nI_toInt (show a < 2 ^ 31 by omega)) b1
    refine Sem.seg [(.iload_n 0, 0, 0), (.iload_n 2, 0, 0)] ⟨⟨d89_5, trivial⟩, ⟨d89_6, trivial⟩, trivial⟩ (lv' := [(0, aI x), (1, aN a), (2, aI y)]) (st' := [aI y, aI x]) (w' := wd N L) (P := []) rfl (trivial) (pc' := 7) rfl ?_
    refine Sem.icmp (tgt := 14) d89_7 (by decide) rfl rfl (fun b2 => ?_) (fun b2 => ?_)
    · have b2_ : y.toInt < x.toInt := bT rfl rfl b2
      refine Sem.seg [(.iconst 0, 0, 0)] ⟨⟨d89_14, trivial⟩, trivial⟩ (lv' := [(0, aI x), (1, aN a), (2, aI y)]) (st' := [aN 0]) (w' := wd N L) (P := []) rfl (trivial) (pc' := 15) rfl ?_
      exact Sem.iret rfl d89_15 (Or.inr ⟨rfl, by decide⟩) (by decide) (by decide) hzW ⟨congrArg (fun z => Sum.inl (some (aN z))) (show 0 = (if (a : Int) ≤ x.toInt ∧ x.toInt ≤ y.toInt then 1 else 0) by first | (rw [if_pos (by omega)]; done) | (rw [if_neg (by omega)]; done)), rfl⟩
    · have b2_ : ¬ (y.toInt < x.toInt) := bF rfl rfl b2
      refine Sem.seg [(.iconst 1, 0, 0)] ⟨⟨d89_10, trivial⟩, trivial⟩ (lv' := [(0, aI x), (1, aN a), (2, aI y)]) (st' := [aN 1]) (w' := wd N L) (P := []) rfl (trivial) (pc' := 11) rfl ?_
      refine Sem.goto (tgt := 15) d89_11 (by decide) ?_
      exact Sem.iret rfl d89_15 (Or.inr ⟨rfl, by decide⟩) (by decide) (by decide) hzW ⟨congrArg (fun z => Sum.inl (some (aN z))) (show 1 = (if (a : Int) ≤ x.toInt ∧ x.toInt ≤ y.toInt then 1 else 0) by first | (rw [if_pos (by omega)]; done) | (rw [if_neg (by omega)]; done)), rfl⟩

theorem m89 {sc : XT} (N : TN) (L : TL) (x : Int32) (a b : Nat) (ha : a < 2 ^ 31) (hb : b < 2 ^ 31) : Sem sc 89 0 [(0, aI x), (1, aN a), (2, aN b)] [] (wd N L) 0 0 (QP (some (aN (if (a : Int) ≤ x.toInt ∧ x.toInt ≤ (b : Int) then 1 else 0))) N L) := by
  have h := m89i (sc := sc) N L x (nI b) a ha
  rw [nI_toInt hb] at h
  exact Sem.eqv (lv' := [(0, aI x), (1, aN a), (2, aI (nI b))]) (st' := []) (fun _ _ h => h) (fun _ => rfl) h

theorem m90 {sc : XT} (N : TN) (L : TL) (x : Int32) : Sem sc 90 0 [(0, aI x)] [] (wd N L) 0 0 (QP (some (aN (if 0 ≤ x.toInt ∧ x.toInt < 12 then 1 else 0))) N L) := by
  refine Sem.seg [(.iload_n 0, 0, 0), (.iconst 0, 0, 0), (.bipush 11, 0, 0)] ⟨⟨d90_0, trivial⟩, ⟨d90_1, trivial⟩, ⟨d90_2, trivial⟩, trivial⟩ (lv' := [(0, aI x)]) (st' := [aN 11, aN 0, aI x]) (w' := wd N L) (P := []) rfl (trivial) (pc' := 4) rfl ?_
  refine Sem.cSp1 (as := [aI x, aN 0, aN 11]) (rst := []) (c' := 0) (s' := 0) d90_4 mk89 rfl co89 lk5_89 ss89 (show 3 ≤ mL 89 by decide) rfl (show 0 ≤ 8 by decide) (by decide) (by decide) rfl rfl (by decide) (by decide) (m89 N L x 0 11 (by decide) (by decide)) ?_
  by_cases h : 0 ≤ x.toInt ∧ x.toInt < 12
  case pos =>
    refine Sem.topNN (if_pos (by omega)) ?_
    exact Sem.iret rfl d90_7 (Or.inr ⟨rfl, by decide⟩) (by decide) (by decide) hzW ⟨congrArg (fun z => Sum.inl (some (aN z))) (show 1 = (if 0 ≤ x.toInt ∧ x.toInt < 12 then 1 else 0) by first | (rw [if_pos (by omega)]; done) | (rw [if_neg (by omega)]; done)), rfl⟩
  case neg =>
    refine Sem.topNN (if_neg (by omega)) ?_
    exact Sem.iret rfl d90_7 (Or.inr ⟨rfl, by decide⟩) (by decide) (by decide) hzW ⟨congrArg (fun z => Sum.inl (some (aN z))) (show 0 = (if 0 ≤ x.toInt ∧ x.toInt < 12 then 1 else 0) by first | (rw [if_pos (by omega)]; done) | (rw [if_neg (by omega)]; done)), rfl⟩

theorem m91 {sc : XT} (N : TN) (L : TL) (c : Nat) (hc : c < 2 ^ 31) : Sem sc 91 0 [(0, aR 23 0), (1, aN c)] [] (wd N L) 0 0 (QP (some (aN (if 0 < c then 1 else 0))) (upN N 23 0 0 c) L) := by
  refine Sem.seg [(.aload_n 0, 0, 0), (.iload_n 1, 0, 0), (.putfield 85, 5, 0), (.iload_n 1, 0, 0)] ⟨⟨d91_0, trivial⟩, ⟨d91_1, trivial⟩, ⟨d91_2, gf5_85⟩, ⟨d91_5, trivial⟩, trivial⟩ (lv' := [(0, aR 23 0), (1, aN c)]) (st' := [aN c]) (w' := wd (upN N 23 0 0 c) L) (P := [vld NN 23 0]) rfl (vN (t := 23) (i := 0) (by decide)) (pc' := 6) rfl ?_
  refine Sem.ifN (tgt := 13) d91_6 (by decide) (show c < 2 ^ 31 by omega) (fun b1 => ?_) (fun b1 => ?_)
  · have b1_ : c ≤ 0 := b1
    refine Sem.seg [(.iconst 0, 0, 0)] ⟨⟨d91_13, trivial⟩, trivial⟩ (lv' := [(0, aR 23 0), (1, aN c)]) (st' := [aN 0]) (w' := wd (upN N 23 0 0 c) L) (P := []) rfl (trivial) (pc' := 14) rfl ?_
    exact Sem.iret rfl d91_14 (Or.inr ⟨rfl, by decide⟩) (by decide) (by decide) hzW ⟨congrArg (fun z => Sum.inl (some (aN z))) (show 0 = (if 0 < c then 1 else 0) by first | (rw [if_pos (by omega)]; done) | (rw [if_neg (by omega)]; done)), rfl⟩
  · have b1_ : ¬ (c ≤ 0) := b1
    refine Sem.seg [(.iconst 1, 0, 0)] ⟨⟨d91_9, trivial⟩, trivial⟩ (lv' := [(0, aR 23 0), (1, aN c)]) (st' := [aN 1]) (w' := wd (upN N 23 0 0 c) L) (P := []) rfl (trivial) (pc' := 10) rfl ?_
    refine Sem.goto (tgt := 14) d91_10 (by decide) ?_
    exact Sem.iret rfl d91_14 (Or.inr ⟨rfl, by decide⟩) (by decide) (by decide) hzW ⟨congrArg (fun z => Sum.inl (some (aN z))) (show 1 = (if 0 < c then 1 else 0) by first | (rw [if_pos (by omega)]; done) | (rw [if_neg (by omega)]; done)), rfl⟩

theorem m92 {sc : XT} (N : TN) (L : TL) (i : Nat) (hi : i < 12) : Sem sc 92 0 [(0, aR 23 0), (1, aN i)] [] (wd N L) 0 0 (QP none (upN (upN N 41 0 i 1) 23 0 20 1) L) := by
  refine Sem.seg [(.aload_n 0, 0, 0), (.getfield 65, 5, 21), (.iload_n 1, 0, 0), (.iconst 1, 0, 0), (.bastore, 0, 0), (.aload_n 0, 0, 0), (.iconst 1, 0, 0), (.putfield 61, 5, 20)] ⟨⟨d92_0, trivial⟩, ⟨d92_1, gf5_65⟩, ⟨d92_4, trivial⟩, ⟨d92_5, trivial⟩, ⟨d92_6, trivial⟩, ⟨d92_7, trivial⟩, ⟨d92_8, trivial⟩, ⟨d92_9, gf5_61⟩, trivial⟩ (lv' := [(0, aR 23 0), (1, aN i)]) (st' := []) (w' := wd (upN (upN N 41 0 i 1) 23 0 20 1) L) (P := [vld NN 23 0, vld NN 41 0, i < 12, 1 = 0 ∨ 1 = 1, vld NN 23 0, 1 = 0 ∨ 1 = 1]) rfl (⟨vN (t := 23) (i := 0) (by decide), vN (t := 41) (i := 0) (by decide), (show i < 12 by omega), (show (1 : Nat) = 0 ∨ (1 : Nat) = 1 by decide), vN (t := 23) (i := 0) (by decide), (show (1 : Nat) = 0 ∨ (1 : Nat) = 1 by decide)⟩) (pc' := 12) rfl ?_
  exact Sem.vret d92_12 rfl (by decide) (by decide) hzW ⟨rfl, rfl⟩

theorem subI2 {a : Nat} (h : a < 2 ^ 30) : (nI a - nI 1).toInt = (a : Int) - 1 := by
  rcases Nat.eq_zero_or_pos a with q | q
  · subst q; decide
  · rw [nI_sub q, nI_toInt (by omega)]; omega
theorem m89c {sc : XT} (N : TN) (L : TL) (x : Int32) (n : Nat) (hn : n < 2 ^ 30) : Sem sc 89 0 [(0, aI x), (1, aN 0), (2, aI (nI n - nI 1))] [] (wd N L) 0 0 (QP (some (aN (if 0 ≤ x.toInt ∧ x.toInt < (n : Int) then 1 else 0))) N L) := by
  have h := m89i (sc := sc) N L x (nI n - nI 1) 0 (by decide)
  rw [subI2 hn] at h
  have e : (((0 : Nat) : Int) ≤ x.toInt ∧ x.toInt ≤ (n : Int) - 1) = (0 ≤ x.toInt ∧ x.toInt < (n : Int)) := propext ⟨fun h => by omega, fun h => by omega⟩
  simp only [e] at h
  exact h

theorem m88 {sc : XT} (N : TN) (L : TL) (x r s l f : Int32) : Sem sc 88 0 [(0, aR 23 0), (1, aI x), (2, aI r), (3, aI s), (4, aI l), (5, aI f)] [] (wd N L) 0 0 (Q0 fun N' L' => L = L' ∧ (cItem x r s l f = 0 → N' = upN (upN (upN (upN (upN (upN (upN N 23 0 0 0) 24 0 x.toInt.toNat (tn r)) 25 0 x.toInt.toNat (tn s)) 26 0 x.toInt.toNat (tn l)) 27 0 x.toInt.toNat (tn f)) 41 0 x.toInt.toNat 1) 23 0 20 1) ∧ (¬ cItem x r s l f = 0 → N' = upN N 23 0 0 (cItem x r s l f))) := by
  refine Sem.seg [(.iload_n 2, 0, 0), (.iconst 0, 0, 0), (.iconst 3, 0, 0)] ⟨⟨d88_0, trivial⟩, ⟨d88_1, trivial⟩, ⟨d88_2, trivial⟩, trivial⟩ (lv' := [(0, aR 23 0), (1, aI x), (2, aI r), (3, aI s), (4, aI l), (5, aI f)]) (st' := [aN 3, aN 0, aI r]) (w' := wd N L) (P := []) rfl (trivial) (pc' := 3) rfl ?_
  by_cases h1 : ((0 : Nat) : Int) ≤ r.toInt ∧ r.toInt ≤ ((3 : Nat) : Int)
  case pos =>
    refine Sem.cSp1 (as := [aI r, aN 0, aN 3]) (rst := []) (c' := 0) (s' := 0) d88_3 mk89 rfl co89 lk5_89 ss89 (show 3 ≤ mL 89 by decide) rfl (show 0 ≤ 8 by decide) (by decide) (by decide) rfl rfl (by decide) (by decide) (m89 (N) L r 0 3 (by decide) (by decide)) ?_
    refine Sem.topNN (if_pos h1) ?_
    refine Sem.ifN (tgt := 46) d88_6 (by decide) (by decide) (fun b2 => ?_) (fun b2 => ?_)
    · exact absurd (show 1 = 0 from b2) (by decide)
    refine Sem.seg [(.iload_n 3, 0, 0), (.iconst 1, 0, 0), (.sipush 1000, 0, 0)] ⟨⟨d88_9, trivial⟩, ⟨d88_10, trivial⟩, ⟨d88_11, trivial⟩, trivial⟩ (lv' := [(0, aR 23 0), (1, aI x), (2, aI r), (3, aI s), (4, aI l), (5, aI f)]) (st' := [aN 1000, aN 1, aI s]) (w' := wd N L) (P := []) rfl (trivial) (pc' := 14) rfl ?_
    by_cases h3 : ((1 : Nat) : Int) ≤ s.toInt ∧ s.toInt ≤ ((1000 : Nat) : Int)
    case pos =>
      refine Sem.cSp1 (as := [aI s, aN 1, aN 1000]) (rst := []) (c' := 0) (s' := 0) d88_14 mk89 rfl co89 lk5_89 ss89 (show 3 ≤ mL 89 by decide) rfl (show 0 ≤ 8 by decide) (by decide) (by decide) rfl rfl (by decide) (by decide) (m89 (N) L s 1 1000 (by decide) (by decide)) ?_
      refine Sem.topNN (if_pos h3) ?_
      refine Sem.ifN (tgt := 46) d88_17 (by decide) (by decide) (fun b4 => ?_) (fun b4 => ?_)
      · exact absurd (show 1 = 0 from b4) (by decide)
      refine Sem.seg [(.iload 4, 0, 0), (.iconst 0, 0, 0), (.iconst 4, 0, 0)] ⟨⟨d88_20, trivial⟩, ⟨d88_22, trivial⟩, ⟨d88_23, trivial⟩, trivial⟩ (lv' := [(0, aR 23 0), (1, aI x), (2, aI r), (3, aI s), (4, aI l), (5, aI f)]) (st' := [aN 4, aN 0, aI l]) (w' := wd N L) (P := []) rfl (trivial) (pc' := 24) rfl ?_
      by_cases h5 : ((0 : Nat) : Int) ≤ l.toInt ∧ l.toInt ≤ ((4 : Nat) : Int)
      case pos =>
        refine Sem.cSp1 (as := [aI l, aN 0, aN 4]) (rst := []) (c' := 0) (s' := 0) d88_24 mk89 rfl co89 lk5_89 ss89 (show 3 ≤ mL 89 by decide) rfl (show 0 ≤ 8 by decide) (by decide) (by decide) rfl rfl (by decide) (by decide) (m89 (N) L l 0 4 (by decide) (by decide)) ?_
        refine Sem.topNN (if_pos h5) ?_
        refine Sem.ifN (tgt := 46) d88_27 (by decide) (by decide) (fun b6 => ?_) (fun b6 => ?_)
        · exact absurd (show 1 = 0 from b6) (by decide)
        refine Sem.seg [(.iload 5, 0, 0), (.iconst 0, 0, 0), (.sipush 1000, 0, 0)] ⟨⟨d88_30, trivial⟩, ⟨d88_32, trivial⟩, ⟨d88_33, trivial⟩, trivial⟩ (lv' := [(0, aR 23 0), (1, aI x), (2, aI r), (3, aI s), (4, aI l), (5, aI f)]) (st' := [aN 1000, aN 0, aI f]) (w' := wd N L) (P := []) rfl (trivial) (pc' := 36) rfl ?_
        by_cases h7 : ((0 : Nat) : Int) ≤ f.toInt ∧ f.toInt ≤ ((1000 : Nat) : Int)
        case pos =>
          refine Sem.cSp1 (as := [aI f, aN 0, aN 1000]) (rst := []) (c' := 0) (s' := 0) d88_36 mk89 rfl co89 lk5_89 ss89 (show 3 ≤ mL 89 by decide) rfl (show 0 ≤ 8 by decide) (by decide) (by decide) rfl rfl (by decide) (by decide) (m89 (N) L f 0 1000 (by decide) (by decide)) ?_
          refine Sem.topNN (if_pos h7) ?_
          refine Sem.ifN (tgt := 46) d88_39 (by decide) (by decide) (fun b8 => ?_) (fun b8 => ?_)
          · exact absurd (show 1 = 0 from b8) (by decide)
          refine Sem.seg [(.iconst 1, 0, 0)] ⟨⟨d88_42, trivial⟩, trivial⟩ (lv' := [(0, aR 23 0), (1, aI x), (2, aI r), (3, aI s), (4, aI l), (5, aI f)]) (st' := [aN 1]) (w' := wd N L) (P := []) rfl (trivial) (pc' := 43) rfl ?_
          refine Sem.goto (tgt := 47) d88_43 (by decide) ?_
          refine Sem.seg [(.istore 6, 0, 0), (.aload_n 0, 0, 0), (.iload_n 1, 0, 0)] ⟨⟨d88_47, trivial⟩, ⟨d88_49, trivial⟩, ⟨d88_50, trivial⟩, trivial⟩ (lv' := [(6, aN 1), (0, aR 23 0), (1, aI x), (2, aI r), (3, aI s), (4, aI l), (5, aI f)]) (st' := [aI x, aR 23 0]) (w' := wd N L) (P := []) rfl (trivial) (pc' := 51) rfl ?_
          by_cases h9 : 0 ≤ x.toInt ∧ x.toInt < 12
          case pos =>
            refine Sem.cSp1 (as := [aI x]) (rst := [aR 23 0]) (c' := 0) (s' := 0) d88_51 mk90 rfl co90 lk5_93 ss90 (show 1 ≤ mL 90 by decide) rfl (show 1 ≤ 8 by decide) (by decide) (by decide) rfl rfl (by decide) (by decide) (m90 (N) L x) ?_
            refine Sem.topNN (if_pos h9) ?_
            refine Sem.ifN (tgt := 61) d88_54 (by decide) (by decide) (fun b10 => ?_) (fun b10 => ?_)
            rotate_left
            · exact absurd (show ¬ 1 = 0 from by decide) b10
            refine Sem.seg [(.iload 6, 0, 0)] ⟨⟨d88_61, trivial⟩, trivial⟩ (lv' := [(6, aN 1), (0, aR 23 0), (1, aI x), (2, aI r), (3, aI s), (4, aI l), (5, aI f)]) (st' := [aN 1, aR 23 0]) (w' := wd N L) (P := []) rfl (trivial) (pc' := 63) rfl ?_
            refine Sem.ifN (tgt := 70) d88_63 (by decide) (by decide) (fun b11 => ?_) (fun b11 => ?_)
            rotate_left
            · exact absurd (show ¬ 1 = 0 from by decide) b11
            refine Sem.seg [(.iconst 0, 0, 0)] ⟨⟨d88_70, trivial⟩, trivial⟩ (lv' := [(6, aN 1), (0, aR 23 0), (1, aI x), (2, aI r), (3, aI s), (4, aI l), (5, aI f)]) (st' := [aN 0, aR 23 0]) (w' := wd N L) (P := []) rfl (trivial) (pc' := 71) rfl ?_
            refine Sem.cVp1 (t := 23) (i := 0) (as := [aN 0]) (rst := []) (c' := 0) (s' := 0) d88_71 mk91 rfl co91 lk5_97 im91 se91 rfl (vN (t := 23) (i := 0) (by decide)) (show 2 ≤ mL 91 by decide) rfl (show 0 ≤ 8 by decide) (by decide) (by decide) rfl rfl (by decide) (by decide) (m91 (N) L 0 (by decide)) ?_
            refine Sem.topNN (show (if 0 < 0 then 1 else 0) = 0 from rfl) ?_
            refine Sem.ifN (tgt := 112) d88_74 (by decide) (by decide) (fun b12 => ?_) (fun b12 => ?_)
            · exact absurd (show ¬ 0 = 0 from b12) (by decide)
            refine Sem.pick [2, 0, 1, 3, 4, 5, 6] (lv' := [(1, aI x), (6, aN 1), (0, aR 23 0), (2, aI r), (3, aI s), (4, aI l), (5, aI f)]) rfl ?_
            refine Sem.loc0 (show x = nI x.toInt.toNat from i_nI2 (by omega)) ?_
            refine Sem.seg [(.aload_n 0, 0, 0), (.getfield 7, 5, 1), (.iload_n 1, 0, 0), (.iload_n 2, 0, 0), (.iastore, 0, 0), (.aload_n 0, 0, 0), (.getfield 13, 5, 2), (.iload_n 1, 0, 0), (.iload_n 3, 0, 0)] ⟨⟨d88_77, trivial⟩, ⟨d88_78, gf5_7⟩, ⟨d88_81, trivial⟩, ⟨d88_82, trivial⟩, ⟨d88_83, trivial⟩, ⟨d88_84, trivial⟩, ⟨d88_85, gf5_13⟩, ⟨d88_88, trivial⟩, ⟨d88_89, trivial⟩, trivial⟩ (lv' := [(1, aN x.toInt.toNat), (6, aN 1), (0, aR 23 0), (2, aI r), (3, aI s), (4, aI l), (5, aI f)]) (st' := [aI s, aN x.toInt.toNat, aR 25 0]) (w' := wd (upN (upN N 23 0 0 0) 24 0 x.toInt.toNat (tn r)) L) (P := [vld NN 23 0, vld NN 24 0, x.toInt.toNat < 12, vld NN 23 0]) rfl (⟨vN (t := 23) (i := 0) (by decide), vN (t := 24) (i := 0) (by decide), (show x.toInt.toNat < 12 by omega), vN (t := 23) (i := 0) (by decide)⟩) (pc' := 90) rfl ?_
            refine Sem.seg [(.iastore, 0, 0), (.aload_n 0, 0, 0), (.getfield 16, 5, 3), (.iload_n 1, 0, 0), (.iload 4, 0, 0), (.iastore, 0, 0), (.aload_n 0, 0, 0), (.getfield 19, 5, 4), (.iload_n 1, 0, 0)] ⟨⟨d88_90, trivial⟩, ⟨d88_91, trivial⟩, ⟨d88_92, gf5_16⟩, ⟨d88_95, trivial⟩, ⟨d88_96, trivial⟩, ⟨d88_98, trivial⟩, ⟨d88_99, trivial⟩, ⟨d88_100, gf5_19⟩, ⟨d88_103, trivial⟩, trivial⟩ (lv' := [(1, aN x.toInt.toNat), (6, aN 1), (0, aR 23 0), (2, aI r), (3, aI s), (4, aI l), (5, aI f)]) (st' := [aN x.toInt.toNat, aR 27 0]) (w' := wd (upN (upN (upN (upN N 23 0 0 0) 24 0 x.toInt.toNat (tn r)) 25 0 x.toInt.toNat (tn s)) 26 0 x.toInt.toNat (tn l)) L) (P := [vld NN 25 0, x.toInt.toNat < 12, vld NN 23 0, vld NN 26 0, x.toInt.toNat < 12, vld NN 23 0]) rfl (⟨vN (t := 25) (i := 0) (by decide), (show x.toInt.toNat < 12 by omega), vN (t := 23) (i := 0) (by decide), vN (t := 26) (i := 0) (by decide), (show x.toInt.toNat < 12 by omega), vN (t := 23) (i := 0) (by decide)⟩) (pc' := 104) rfl ?_
            refine Sem.seg [(.iload 5, 0, 0), (.iastore, 0, 0), (.aload_n 0, 0, 0), (.iload_n 1, 0, 0)] ⟨⟨d88_104, trivial⟩, ⟨d88_106, trivial⟩, ⟨d88_107, trivial⟩, ⟨d88_108, trivial⟩, trivial⟩ (lv' := [(1, aN x.toInt.toNat), (6, aN 1), (0, aR 23 0), (2, aI r), (3, aI s), (4, aI l), (5, aI f)]) (st' := [aN x.toInt.toNat, aR 23 0]) (w' := wd (upN (upN (upN (upN (upN N 23 0 0 0) 24 0 x.toInt.toNat (tn r)) 25 0 x.toInt.toNat (tn s)) 26 0 x.toInt.toNat (tn l)) 27 0 x.toInt.toNat (tn f)) L) (P := [vld NN 27 0, x.toInt.toNat < 12]) rfl (⟨vN (t := 27) (i := 0) (by decide), (show x.toInt.toNat < 12 by omega)⟩) (pc' := 109) rfl ?_
            refine Sem.cVp0 (t := 23) (i := 0) (as := [aN x.toInt.toNat]) (rst := []) (c' := 0) (s' := 0) d88_109 mk92 rfl co92 lk5_100 im92 se92 rfl (vN (t := 23) (i := 0) (by decide)) (show 2 ≤ mL 92 by decide) rfl (show 0 ≤ 8 by decide) (by decide) (by decide) rfl rfl (by decide) (by decide) (m92 (upN (upN (upN (upN (upN N 23 0 0 0) 24 0 x.toInt.toNat (tn r)) 25 0 x.toInt.toNat (tn s)) 26 0 x.toInt.toNat (tn l)) 27 0 x.toInt.toNat (tn f)) L x.toInt.toNat (by first | omega | assumption)) ?_
            refine Sem.vret d88_112 rfl (by decide) (by decide) hzW ⟨rfl, _, _, rfl, ?_⟩
            have hcode : cItem x r s l f = 0 := by unfold cItem; (repeat' split) <;> omega
            exact ⟨rfl, fun _ => rfl, fun q => absurd hcode q⟩
          case neg =>
            refine Sem.cSp1 (as := [aI x]) (rst := [aR 23 0]) (c' := 0) (s' := 0) d88_51 mk90 rfl co90 lk5_93 ss90 (show 1 ≤ mL 90 by decide) rfl (show 1 ≤ 8 by decide) (by decide) (by decide) rfl rfl (by decide) (by decide) (m90 (N) L x) ?_
            refine Sem.topNN (if_neg h9) ?_
            refine Sem.ifN (tgt := 61) d88_54 (by decide) (by decide) (fun b13 => ?_) (fun b13 => ?_)
            · exact absurd (show ¬ 0 = 0 from b13) (by decide)
            refine Sem.seg [(.iconst 1, 0, 0)] ⟨⟨d88_57, trivial⟩, trivial⟩ (lv' := [(6, aN 1), (0, aR 23 0), (1, aI x), (2, aI r), (3, aI s), (4, aI l), (5, aI f)]) (st' := [aN 1, aR 23 0]) (w' := wd N L) (P := []) rfl (trivial) (pc' := 58) rfl ?_
            refine Sem.goto (tgt := 71) d88_58 (by decide) ?_
            refine Sem.cVp1 (t := 23) (i := 0) (as := [aN 1]) (rst := []) (c' := 0) (s' := 0) d88_71 mk91 rfl co91 lk5_97 im91 se91 rfl (vN (t := 23) (i := 0) (by decide)) (show 2 ≤ mL 91 by decide) rfl (show 0 ≤ 8 by decide) (by decide) (by decide) rfl rfl (by decide) (by decide) (m91 (N) L 1 (by decide)) ?_
            refine Sem.topNN (show (if 0 < 1 then 1 else 0) = 1 from rfl) ?_
            refine Sem.ifN (tgt := 112) d88_74 (by decide) (by decide) (fun b14 => ?_) (fun b14 => ?_)
            rotate_left
            · exact absurd (show ¬ 1 = 0 from by decide) b14
            refine Sem.vret d88_112 rfl (by decide) (by decide) hzW ⟨rfl, _, _, rfl, ?_⟩
            have hcode : cItem x r s l f = 1 := by unfold cItem; (repeat' split) <;> omega
            exact ⟨rfl, fun q => absurd (hcode.symm.trans q) (by decide), fun _ => by rw [hcode]⟩
        case neg =>
          refine Sem.cSp1 (as := [aI f, aN 0, aN 1000]) (rst := []) (c' := 0) (s' := 0) d88_36 mk89 rfl co89 lk5_89 ss89 (show 3 ≤ mL 89 by decide) rfl (show 0 ≤ 8 by decide) (by decide) (by decide) rfl rfl (by decide) (by decide) (m89 (N) L f 0 1000 (by decide) (by decide)) ?_
          refine Sem.topNN (if_neg h7) ?_
          refine Sem.ifN (tgt := 46) d88_39 (by decide) (by decide) (fun b15 => ?_) (fun b15 => ?_)
          rotate_left
          · exact absurd (show 0 = 0 from by decide) b15
          refine Sem.seg [(.iconst 0, 0, 0), (.istore 6, 0, 0), (.aload_n 0, 0, 0), (.iload_n 1, 0, 0)] ⟨⟨d88_46, trivial⟩, ⟨d88_47, trivial⟩, ⟨d88_49, trivial⟩, ⟨d88_50, trivial⟩, trivial⟩ (lv' := [(6, aN 0), (0, aR 23 0), (1, aI x), (2, aI r), (3, aI s), (4, aI l), (5, aI f)]) (st' := [aI x, aR 23 0]) (w' := wd N L) (P := []) rfl (trivial) (pc' := 51) rfl ?_
          by_cases h16 : 0 ≤ x.toInt ∧ x.toInt < 12
          case pos =>
            refine Sem.cSp1 (as := [aI x]) (rst := [aR 23 0]) (c' := 0) (s' := 0) d88_51 mk90 rfl co90 lk5_93 ss90 (show 1 ≤ mL 90 by decide) rfl (show 1 ≤ 8 by decide) (by decide) (by decide) rfl rfl (by decide) (by decide) (m90 (N) L x) ?_
            refine Sem.topNN (if_pos h16) ?_
            refine Sem.ifN (tgt := 61) d88_54 (by decide) (by decide) (fun b17 => ?_) (fun b17 => ?_)
            rotate_left
            · exact absurd (show ¬ 1 = 0 from by decide) b17
            refine Sem.seg [(.iload 6, 0, 0)] ⟨⟨d88_61, trivial⟩, trivial⟩ (lv' := [(6, aN 0), (0, aR 23 0), (1, aI x), (2, aI r), (3, aI s), (4, aI l), (5, aI f)]) (st' := [aN 0, aR 23 0]) (w' := wd N L) (P := []) rfl (trivial) (pc' := 63) rfl ?_
            refine Sem.ifN (tgt := 70) d88_63 (by decide) (by decide) (fun b18 => ?_) (fun b18 => ?_)
            · exact absurd (show ¬ 0 = 0 from b18) (by decide)
            refine Sem.seg [(.iconst 2, 0, 0)] ⟨⟨d88_66, trivial⟩, trivial⟩ (lv' := [(6, aN 0), (0, aR 23 0), (1, aI x), (2, aI r), (3, aI s), (4, aI l), (5, aI f)]) (st' := [aN 2, aR 23 0]) (w' := wd N L) (P := []) rfl (trivial) (pc' := 67) rfl ?_
            refine Sem.goto (tgt := 71) d88_67 (by decide) ?_
            refine Sem.cVp1 (t := 23) (i := 0) (as := [aN 2]) (rst := []) (c' := 0) (s' := 0) d88_71 mk91 rfl co91 lk5_97 im91 se91 rfl (vN (t := 23) (i := 0) (by decide)) (show 2 ≤ mL 91 by decide) rfl (show 0 ≤ 8 by decide) (by decide) (by decide) rfl rfl (by decide) (by decide) (m91 (N) L 2 (by decide)) ?_
            refine Sem.topNN (show (if 0 < 2 then 1 else 0) = 1 from rfl) ?_
            refine Sem.ifN (tgt := 112) d88_74 (by decide) (by decide) (fun b19 => ?_) (fun b19 => ?_)
            rotate_left
            · exact absurd (show ¬ 1 = 0 from by decide) b19
            refine Sem.vret d88_112 rfl (by decide) (by decide) hzW ⟨rfl, _, _, rfl, ?_⟩
            have hcode : cItem x r s l f = 2 := by unfold cItem; (repeat' split) <;> omega
            exact ⟨rfl, fun q => absurd (hcode.symm.trans q) (by decide), fun _ => by rw [hcode]⟩
          case neg =>
            refine Sem.cSp1 (as := [aI x]) (rst := [aR 23 0]) (c' := 0) (s' := 0) d88_51 mk90 rfl co90 lk5_93 ss90 (show 1 ≤ mL 90 by decide) rfl (show 1 ≤ 8 by decide) (by decide) (by decide) rfl rfl (by decide) (by decide) (m90 (N) L x) ?_
            refine Sem.topNN (if_neg h16) ?_
            refine Sem.ifN (tgt := 61) d88_54 (by decide) (by decide) (fun b20 => ?_) (fun b20 => ?_)
            · exact absurd (show ¬ 0 = 0 from b20) (by decide)
            refine Sem.seg [(.iconst 1, 0, 0)] ⟨⟨d88_57, trivial⟩, trivial⟩ (lv' := [(6, aN 0), (0, aR 23 0), (1, aI x), (2, aI r), (3, aI s), (4, aI l), (5, aI f)]) (st' := [aN 1, aR 23 0]) (w' := wd N L) (P := []) rfl (trivial) (pc' := 58) rfl ?_
            refine Sem.goto (tgt := 71) d88_58 (by decide) ?_
            refine Sem.cVp1 (t := 23) (i := 0) (as := [aN 1]) (rst := []) (c' := 0) (s' := 0) d88_71 mk91 rfl co91 lk5_97 im91 se91 rfl (vN (t := 23) (i := 0) (by decide)) (show 2 ≤ mL 91 by decide) rfl (show 0 ≤ 8 by decide) (by decide) (by decide) rfl rfl (by decide) (by decide) (m91 (N) L 1 (by decide)) ?_
            refine Sem.topNN (show (if 0 < 1 then 1 else 0) = 1 from rfl) ?_
            refine Sem.ifN (tgt := 112) d88_74 (by decide) (by decide) (fun b21 => ?_) (fun b21 => ?_)
            rotate_left
            · exact absurd (show ¬ 1 = 0 from by decide) b21
            refine Sem.vret d88_112 rfl (by decide) (by decide) hzW ⟨rfl, _, _, rfl, ?_⟩
            have hcode : cItem x r s l f = 1 := by unfold cItem; (repeat' split) <;> omega
            exact ⟨rfl, fun q => absurd (hcode.symm.trans q) (by decide), fun _ => by rw [hcode]⟩
      case neg =>
        refine Sem.cSp1 (as := [aI l, aN 0, aN 4]) (rst := []) (c' := 0) (s' := 0) d88_24 mk89 rfl co89 lk5_89 ss89 (show 3 ≤ mL 89 by decide) rfl (show 0 ≤ 8 by decide) (by decide) (by decide) rfl rfl (by decide) (by decide) (m89 (N) L l 0 4 (by decide) (by decide)) ?_
        refine Sem.topNN (if_neg h5) ?_
        refine Sem.ifN (tgt := 46) d88_27 (by decide) (by decide) (fun b22 => ?_) (fun b22 => ?_)
        rotate_left
        · exact absurd (show 0 = 0 from by decide) b22
        refine Sem.seg [(.iconst 0, 0, 0), (.istore 6, 0, 0), (.aload_n 0, 0, 0), (.iload_n 1, 0, 0)] ⟨⟨d88_46, trivial⟩, ⟨d88_47, trivial⟩, ⟨d88_49, trivial⟩, ⟨d88_50, trivial⟩, trivial⟩ (lv' := [(6, aN 0), (0, aR 23 0), (1, aI x), (2, aI r), (3, aI s), (4, aI l), (5, aI f)]) (st' := [aI x, aR 23 0]) (w' := wd N L) (P := []) rfl (trivial) (pc' := 51) rfl ?_
        by_cases h23 : 0 ≤ x.toInt ∧ x.toInt < 12
        case pos =>
          refine Sem.cSp1 (as := [aI x]) (rst := [aR 23 0]) (c' := 0) (s' := 0) d88_51 mk90 rfl co90 lk5_93 ss90 (show 1 ≤ mL 90 by decide) rfl (show 1 ≤ 8 by decide) (by decide) (by decide) rfl rfl (by decide) (by decide) (m90 (N) L x) ?_
          refine Sem.topNN (if_pos h23) ?_
          refine Sem.ifN (tgt := 61) d88_54 (by decide) (by decide) (fun b24 => ?_) (fun b24 => ?_)
          rotate_left
          · exact absurd (show ¬ 1 = 0 from by decide) b24
          refine Sem.seg [(.iload 6, 0, 0)] ⟨⟨d88_61, trivial⟩, trivial⟩ (lv' := [(6, aN 0), (0, aR 23 0), (1, aI x), (2, aI r), (3, aI s), (4, aI l), (5, aI f)]) (st' := [aN 0, aR 23 0]) (w' := wd N L) (P := []) rfl (trivial) (pc' := 63) rfl ?_
          refine Sem.ifN (tgt := 70) d88_63 (by decide) (by decide) (fun b25 => ?_) (fun b25 => ?_)
          · exact absurd (show ¬ 0 = 0 from b25) (by decide)
          refine Sem.seg [(.iconst 2, 0, 0)] ⟨⟨d88_66, trivial⟩, trivial⟩ (lv' := [(6, aN 0), (0, aR 23 0), (1, aI x), (2, aI r), (3, aI s), (4, aI l), (5, aI f)]) (st' := [aN 2, aR 23 0]) (w' := wd N L) (P := []) rfl (trivial) (pc' := 67) rfl ?_
          refine Sem.goto (tgt := 71) d88_67 (by decide) ?_
          refine Sem.cVp1 (t := 23) (i := 0) (as := [aN 2]) (rst := []) (c' := 0) (s' := 0) d88_71 mk91 rfl co91 lk5_97 im91 se91 rfl (vN (t := 23) (i := 0) (by decide)) (show 2 ≤ mL 91 by decide) rfl (show 0 ≤ 8 by decide) (by decide) (by decide) rfl rfl (by decide) (by decide) (m91 (N) L 2 (by decide)) ?_
          refine Sem.topNN (show (if 0 < 2 then 1 else 0) = 1 from rfl) ?_
          refine Sem.ifN (tgt := 112) d88_74 (by decide) (by decide) (fun b26 => ?_) (fun b26 => ?_)
          rotate_left
          · exact absurd (show ¬ 1 = 0 from by decide) b26
          refine Sem.vret d88_112 rfl (by decide) (by decide) hzW ⟨rfl, _, _, rfl, ?_⟩
          have hcode : cItem x r s l f = 2 := by unfold cItem; (repeat' split) <;> omega
          exact ⟨rfl, fun q => absurd (hcode.symm.trans q) (by decide), fun _ => by rw [hcode]⟩
        case neg =>
          refine Sem.cSp1 (as := [aI x]) (rst := [aR 23 0]) (c' := 0) (s' := 0) d88_51 mk90 rfl co90 lk5_93 ss90 (show 1 ≤ mL 90 by decide) rfl (show 1 ≤ 8 by decide) (by decide) (by decide) rfl rfl (by decide) (by decide) (m90 (N) L x) ?_
          refine Sem.topNN (if_neg h23) ?_
          refine Sem.ifN (tgt := 61) d88_54 (by decide) (by decide) (fun b27 => ?_) (fun b27 => ?_)
          · exact absurd (show ¬ 0 = 0 from b27) (by decide)
          refine Sem.seg [(.iconst 1, 0, 0)] ⟨⟨d88_57, trivial⟩, trivial⟩ (lv' := [(6, aN 0), (0, aR 23 0), (1, aI x), (2, aI r), (3, aI s), (4, aI l), (5, aI f)]) (st' := [aN 1, aR 23 0]) (w' := wd N L) (P := []) rfl (trivial) (pc' := 58) rfl ?_
          refine Sem.goto (tgt := 71) d88_58 (by decide) ?_
          refine Sem.cVp1 (t := 23) (i := 0) (as := [aN 1]) (rst := []) (c' := 0) (s' := 0) d88_71 mk91 rfl co91 lk5_97 im91 se91 rfl (vN (t := 23) (i := 0) (by decide)) (show 2 ≤ mL 91 by decide) rfl (show 0 ≤ 8 by decide) (by decide) (by decide) rfl rfl (by decide) (by decide) (m91 (N) L 1 (by decide)) ?_
          refine Sem.topNN (show (if 0 < 1 then 1 else 0) = 1 from rfl) ?_
          refine Sem.ifN (tgt := 112) d88_74 (by decide) (by decide) (fun b28 => ?_) (fun b28 => ?_)
          rotate_left
          · exact absurd (show ¬ 1 = 0 from by decide) b28
          refine Sem.vret d88_112 rfl (by decide) (by decide) hzW ⟨rfl, _, _, rfl, ?_⟩
          have hcode : cItem x r s l f = 1 := by unfold cItem; (repeat' split) <;> omega
          exact ⟨rfl, fun q => absurd (hcode.symm.trans q) (by decide), fun _ => by rw [hcode]⟩
    case neg =>
      refine Sem.cSp1 (as := [aI s, aN 1, aN 1000]) (rst := []) (c' := 0) (s' := 0) d88_14 mk89 rfl co89 lk5_89 ss89 (show 3 ≤ mL 89 by decide) rfl (show 0 ≤ 8 by decide) (by decide) (by decide) rfl rfl (by decide) (by decide) (m89 (N) L s 1 1000 (by decide) (by decide)) ?_
      refine Sem.topNN (if_neg h3) ?_
      refine Sem.ifN (tgt := 46) d88_17 (by decide) (by decide) (fun b29 => ?_) (fun b29 => ?_)
      rotate_left
      · exact absurd (show 0 = 0 from by decide) b29
      refine Sem.seg [(.iconst 0, 0, 0), (.istore 6, 0, 0), (.aload_n 0, 0, 0), (.iload_n 1, 0, 0)] ⟨⟨d88_46, trivial⟩, ⟨d88_47, trivial⟩, ⟨d88_49, trivial⟩, ⟨d88_50, trivial⟩, trivial⟩ (lv' := [(6, aN 0), (0, aR 23 0), (1, aI x), (2, aI r), (3, aI s), (4, aI l), (5, aI f)]) (st' := [aI x, aR 23 0]) (w' := wd N L) (P := []) rfl (trivial) (pc' := 51) rfl ?_
      by_cases h30 : 0 ≤ x.toInt ∧ x.toInt < 12
      case pos =>
        refine Sem.cSp1 (as := [aI x]) (rst := [aR 23 0]) (c' := 0) (s' := 0) d88_51 mk90 rfl co90 lk5_93 ss90 (show 1 ≤ mL 90 by decide) rfl (show 1 ≤ 8 by decide) (by decide) (by decide) rfl rfl (by decide) (by decide) (m90 (N) L x) ?_
        refine Sem.topNN (if_pos h30) ?_
        refine Sem.ifN (tgt := 61) d88_54 (by decide) (by decide) (fun b31 => ?_) (fun b31 => ?_)
        rotate_left
        · exact absurd (show ¬ 1 = 0 from by decide) b31
        refine Sem.seg [(.iload 6, 0, 0)] ⟨⟨d88_61, trivial⟩, trivial⟩ (lv' := [(6, aN 0), (0, aR 23 0), (1, aI x), (2, aI r), (3, aI s), (4, aI l), (5, aI f)]) (st' := [aN 0, aR 23 0]) (w' := wd N L) (P := []) rfl (trivial) (pc' := 63) rfl ?_
        refine Sem.ifN (tgt := 70) d88_63 (by decide) (by decide) (fun b32 => ?_) (fun b32 => ?_)
        · exact absurd (show ¬ 0 = 0 from b32) (by decide)
        refine Sem.seg [(.iconst 2, 0, 0)] ⟨⟨d88_66, trivial⟩, trivial⟩ (lv' := [(6, aN 0), (0, aR 23 0), (1, aI x), (2, aI r), (3, aI s), (4, aI l), (5, aI f)]) (st' := [aN 2, aR 23 0]) (w' := wd N L) (P := []) rfl (trivial) (pc' := 67) rfl ?_
        refine Sem.goto (tgt := 71) d88_67 (by decide) ?_
        refine Sem.cVp1 (t := 23) (i := 0) (as := [aN 2]) (rst := []) (c' := 0) (s' := 0) d88_71 mk91 rfl co91 lk5_97 im91 se91 rfl (vN (t := 23) (i := 0) (by decide)) (show 2 ≤ mL 91 by decide) rfl (show 0 ≤ 8 by decide) (by decide) (by decide) rfl rfl (by decide) (by decide) (m91 (N) L 2 (by decide)) ?_
        refine Sem.topNN (show (if 0 < 2 then 1 else 0) = 1 from rfl) ?_
        refine Sem.ifN (tgt := 112) d88_74 (by decide) (by decide) (fun b33 => ?_) (fun b33 => ?_)
        rotate_left
        · exact absurd (show ¬ 1 = 0 from by decide) b33
        refine Sem.vret d88_112 rfl (by decide) (by decide) hzW ⟨rfl, _, _, rfl, ?_⟩
        have hcode : cItem x r s l f = 2 := by unfold cItem; (repeat' split) <;> omega
        exact ⟨rfl, fun q => absurd (hcode.symm.trans q) (by decide), fun _ => by rw [hcode]⟩
      case neg =>
        refine Sem.cSp1 (as := [aI x]) (rst := [aR 23 0]) (c' := 0) (s' := 0) d88_51 mk90 rfl co90 lk5_93 ss90 (show 1 ≤ mL 90 by decide) rfl (show 1 ≤ 8 by decide) (by decide) (by decide) rfl rfl (by decide) (by decide) (m90 (N) L x) ?_
        refine Sem.topNN (if_neg h30) ?_
        refine Sem.ifN (tgt := 61) d88_54 (by decide) (by decide) (fun b34 => ?_) (fun b34 => ?_)
        · exact absurd (show ¬ 0 = 0 from b34) (by decide)
        refine Sem.seg [(.iconst 1, 0, 0)] ⟨⟨d88_57, trivial⟩, trivial⟩ (lv' := [(6, aN 0), (0, aR 23 0), (1, aI x), (2, aI r), (3, aI s), (4, aI l), (5, aI f)]) (st' := [aN 1, aR 23 0]) (w' := wd N L) (P := []) rfl (trivial) (pc' := 58) rfl ?_
        refine Sem.goto (tgt := 71) d88_58 (by decide) ?_
        refine Sem.cVp1 (t := 23) (i := 0) (as := [aN 1]) (rst := []) (c' := 0) (s' := 0) d88_71 mk91 rfl co91 lk5_97 im91 se91 rfl (vN (t := 23) (i := 0) (by decide)) (show 2 ≤ mL 91 by decide) rfl (show 0 ≤ 8 by decide) (by decide) (by decide) rfl rfl (by decide) (by decide) (m91 (N) L 1 (by decide)) ?_
        refine Sem.topNN (show (if 0 < 1 then 1 else 0) = 1 from rfl) ?_
        refine Sem.ifN (tgt := 112) d88_74 (by decide) (by decide) (fun b35 => ?_) (fun b35 => ?_)
        rotate_left
        · exact absurd (show ¬ 1 = 0 from by decide) b35
        refine Sem.vret d88_112 rfl (by decide) (by decide) hzW ⟨rfl, _, _, rfl, ?_⟩
        have hcode : cItem x r s l f = 1 := by unfold cItem; (repeat' split) <;> omega
        exact ⟨rfl, fun q => absurd (hcode.symm.trans q) (by decide), fun _ => by rw [hcode]⟩
  case neg =>
    refine Sem.cSp1 (as := [aI r, aN 0, aN 3]) (rst := []) (c' := 0) (s' := 0) d88_3 mk89 rfl co89 lk5_89 ss89 (show 3 ≤ mL 89 by decide) rfl (show 0 ≤ 8 by decide) (by decide) (by decide) rfl rfl (by decide) (by decide) (m89 (N) L r 0 3 (by decide) (by decide)) ?_
    refine Sem.topNN (if_neg h1) ?_
    refine Sem.ifN (tgt := 46) d88_6 (by decide) (by decide) (fun b36 => ?_) (fun b36 => ?_)
    rotate_left
    · exact absurd (show 0 = 0 from by decide) b36
    refine Sem.seg [(.iconst 0, 0, 0), (.istore 6, 0, 0), (.aload_n 0, 0, 0), (.iload_n 1, 0, 0)] ⟨⟨d88_46, trivial⟩, ⟨d88_47, trivial⟩, ⟨d88_49, trivial⟩, ⟨d88_50, trivial⟩, trivial⟩ (lv' := [(6, aN 0), (0, aR 23 0), (1, aI x), (2, aI r), (3, aI s), (4, aI l), (5, aI f)]) (st' := [aI x, aR 23 0]) (w' := wd N L) (P := []) rfl (trivial) (pc' := 51) rfl ?_
    by_cases h37 : 0 ≤ x.toInt ∧ x.toInt < 12
    case pos =>
      refine Sem.cSp1 (as := [aI x]) (rst := [aR 23 0]) (c' := 0) (s' := 0) d88_51 mk90 rfl co90 lk5_93 ss90 (show 1 ≤ mL 90 by decide) rfl (show 1 ≤ 8 by decide) (by decide) (by decide) rfl rfl (by decide) (by decide) (m90 (N) L x) ?_
      refine Sem.topNN (if_pos h37) ?_
      refine Sem.ifN (tgt := 61) d88_54 (by decide) (by decide) (fun b38 => ?_) (fun b38 => ?_)
      rotate_left
      · exact absurd (show ¬ 1 = 0 from by decide) b38
      refine Sem.seg [(.iload 6, 0, 0)] ⟨⟨d88_61, trivial⟩, trivial⟩ (lv' := [(6, aN 0), (0, aR 23 0), (1, aI x), (2, aI r), (3, aI s), (4, aI l), (5, aI f)]) (st' := [aN 0, aR 23 0]) (w' := wd N L) (P := []) rfl (trivial) (pc' := 63) rfl ?_
      refine Sem.ifN (tgt := 70) d88_63 (by decide) (by decide) (fun b39 => ?_) (fun b39 => ?_)
      · exact absurd (show ¬ 0 = 0 from b39) (by decide)
      refine Sem.seg [(.iconst 2, 0, 0)] ⟨⟨d88_66, trivial⟩, trivial⟩ (lv' := [(6, aN 0), (0, aR 23 0), (1, aI x), (2, aI r), (3, aI s), (4, aI l), (5, aI f)]) (st' := [aN 2, aR 23 0]) (w' := wd N L) (P := []) rfl (trivial) (pc' := 67) rfl ?_
      refine Sem.goto (tgt := 71) d88_67 (by decide) ?_
      refine Sem.cVp1 (t := 23) (i := 0) (as := [aN 2]) (rst := []) (c' := 0) (s' := 0) d88_71 mk91 rfl co91 lk5_97 im91 se91 rfl (vN (t := 23) (i := 0) (by decide)) (show 2 ≤ mL 91 by decide) rfl (show 0 ≤ 8 by decide) (by decide) (by decide) rfl rfl (by decide) (by decide) (m91 (N) L 2 (by decide)) ?_
      refine Sem.topNN (show (if 0 < 2 then 1 else 0) = 1 from rfl) ?_
      refine Sem.ifN (tgt := 112) d88_74 (by decide) (by decide) (fun b40 => ?_) (fun b40 => ?_)
      rotate_left
      · exact absurd (show ¬ 1 = 0 from by decide) b40
      refine Sem.vret d88_112 rfl (by decide) (by decide) hzW ⟨rfl, _, _, rfl, ?_⟩
      have hcode : cItem x r s l f = 2 := by unfold cItem; (repeat' split) <;> omega
      exact ⟨rfl, fun q => absurd (hcode.symm.trans q) (by decide), fun _ => by rw [hcode]⟩
    case neg =>
      refine Sem.cSp1 (as := [aI x]) (rst := [aR 23 0]) (c' := 0) (s' := 0) d88_51 mk90 rfl co90 lk5_93 ss90 (show 1 ≤ mL 90 by decide) rfl (show 1 ≤ 8 by decide) (by decide) (by decide) rfl rfl (by decide) (by decide) (m90 (N) L x) ?_
      refine Sem.topNN (if_neg h37) ?_
      refine Sem.ifN (tgt := 61) d88_54 (by decide) (by decide) (fun b41 => ?_) (fun b41 => ?_)
      · exact absurd (show ¬ 0 = 0 from b41) (by decide)
      refine Sem.seg [(.iconst 1, 0, 0)] ⟨⟨d88_57, trivial⟩, trivial⟩ (lv' := [(6, aN 0), (0, aR 23 0), (1, aI x), (2, aI r), (3, aI s), (4, aI l), (5, aI f)]) (st' := [aN 1, aR 23 0]) (w' := wd N L) (P := []) rfl (trivial) (pc' := 58) rfl ?_
      refine Sem.goto (tgt := 71) d88_58 (by decide) ?_
      refine Sem.cVp1 (t := 23) (i := 0) (as := [aN 1]) (rst := []) (c' := 0) (s' := 0) d88_71 mk91 rfl co91 lk5_97 im91 se91 rfl (vN (t := 23) (i := 0) (by decide)) (show 2 ≤ mL 91 by decide) rfl (show 0 ≤ 8 by decide) (by decide) (by decide) rfl rfl (by decide) (by decide) (m91 (N) L 1 (by decide)) ?_
      refine Sem.topNN (show (if 0 < 1 then 1 else 0) = 1 from rfl) ?_
      refine Sem.ifN (tgt := 112) d88_74 (by decide) (by decide) (fun b42 => ?_) (fun b42 => ?_)
      rotate_left
      · exact absurd (show ¬ 1 = 0 from by decide) b42
      refine Sem.vret d88_112 rfl (by decide) (by decide) hzW ⟨rfl, _, _, rfl, ?_⟩
      have hcode : cItem x r s l f = 1 := by unfold cItem; (repeat' split) <;> omega
      exact ⟨rfl, fun q => absurd (hcode.symm.trans q) (by decide), fun _ => by rw [hcode]⟩

theorem m93 {sc : XT} (N : TN) (L : TL) (x a b c : Int32) : Sem sc 93 0 [(0, aR 23 0), (1, aI x), (2, aI a), (3, aI b), (4, aI c)] [] (wd N L) 0 0 (Q0 fun N' L' => L = L' ∧ (cCosts x a b c = 0 → N' = upN (upN (upN (upN (upN (upN N 23 0 0 0) 28 0 x.toInt.toNat (tn a)) 29 0 x.toInt.toNat (tn b)) 30 0 x.toInt.toNat (tn c)) 41 0 x.toInt.toNat 1) 23 0 20 1) ∧ (¬ cCosts x a b c = 0 → N' = upN N 23 0 0 (cCosts x a b c))) := by
  refine Sem.seg [(.iload_n 2, 0, 0), (.iconst 0, 0, 0), (.sipush 200, 0, 0)] ⟨⟨d93_0, trivial⟩, ⟨d93_1, trivial⟩, ⟨d93_2, trivial⟩, trivial⟩ (lv' := [(0, aR 23 0), (1, aI x), (2, aI a), (3, aI b), (4, aI c)]) (st' := [aN 200, aN 0, aI a]) (w' := wd N L) (P := []) rfl (trivial) (pc' := 5) rfl ?_
  by_cases h1 : ((0 : Nat) : Int) ≤ a.toInt ∧ a.toInt ≤ ((200 : Nat) : Int)
  case pos =>
    refine Sem.cSp1 (as := [aI a, aN 0, aN 200]) (rst := []) (c' := 0) (s' := 0) d93_5 mk89 rfl co89 lk5_89 ss89 (show 3 ≤ mL 89 by decide) rfl (show 0 ≤ 8 by decide) (by decide) (by decide) rfl rfl (by decide) (by decide) (m89 (N) L a 0 200 (by decide) (by decide)) ?_
    refine Sem.topNN (if_pos h1) ?_
    refine Sem.ifN (tgt := 36) d93_8 (by decide) (by decide) (fun b2 => ?_) (fun b2 => ?_)
    · exact absurd (show 1 = 0 from b2) (by decide)
    refine Sem.seg [(.iload_n 3, 0, 0), (.iconst 0, 0, 0), (.ldc 104, 100000, 0)] ⟨⟨d93_11, trivial⟩, ⟨d93_12, trivial⟩, ⟨d93_13, cn5_104⟩, trivial⟩ (lv' := [(0, aR 23 0), (1, aI x), (2, aI a), (3, aI b), (4, aI c)]) (st' := [aN 100000, aN 0, aI b]) (w' := wd N L) (P := []) rfl (trivial) (pc' := 15) rfl ?_
    by_cases h3 : ((0 : Nat) : Int) ≤ b.toInt ∧ b.toInt ≤ ((100000 : Nat) : Int)
    case pos =>
      refine Sem.cSp1 (as := [aI b, aN 0, aN 100000]) (rst := []) (c' := 0) (s' := 0) d93_15 mk89 rfl co89 lk5_89 ss89 (show 3 ≤ mL 89 by decide) rfl (show 0 ≤ 8 by decide) (by decide) (by decide) rfl rfl (by decide) (by decide) (m89 (N) L b 0 100000 (by decide) (by decide)) ?_
      refine Sem.topNN (if_pos h3) ?_
      refine Sem.ifN (tgt := 36) d93_18 (by decide) (by decide) (fun b4 => ?_) (fun b4 => ?_)
      · exact absurd (show 1 = 0 from b4) (by decide)
      refine Sem.seg [(.iload 4, 0, 0), (.iconst 0, 0, 0), (.bipush 100, 0, 0)] ⟨⟨d93_21, trivial⟩, ⟨d93_23, trivial⟩, ⟨d93_24, trivial⟩, trivial⟩ (lv' := [(0, aR 23 0), (1, aI x), (2, aI a), (3, aI b), (4, aI c)]) (st' := [aN 100, aN 0, aI c]) (w' := wd N L) (P := []) rfl (trivial) (pc' := 26) rfl ?_
      by_cases h5 : ((0 : Nat) : Int) ≤ c.toInt ∧ c.toInt ≤ ((100 : Nat) : Int)
      case pos =>
        refine Sem.cSp1 (as := [aI c, aN 0, aN 100]) (rst := []) (c' := 0) (s' := 0) d93_26 mk89 rfl co89 lk5_89 ss89 (show 3 ≤ mL 89 by decide) rfl (show 0 ≤ 8 by decide) (by decide) (by decide) rfl rfl (by decide) (by decide) (m89 (N) L c 0 100 (by decide) (by decide)) ?_
        refine Sem.topNN (if_pos h5) ?_
        refine Sem.ifN (tgt := 36) d93_29 (by decide) (by decide) (fun b6 => ?_) (fun b6 => ?_)
        · exact absurd (show 1 = 0 from b6) (by decide)
        refine Sem.seg [(.iconst 1, 0, 0)] ⟨⟨d93_32, trivial⟩, trivial⟩ (lv' := [(0, aR 23 0), (1, aI x), (2, aI a), (3, aI b), (4, aI c)]) (st' := [aN 1]) (w' := wd N L) (P := []) rfl (trivial) (pc' := 33) rfl ?_
        refine Sem.goto (tgt := 37) d93_33 (by decide) ?_
        refine Sem.seg [(.istore 5, 0, 0), (.aload_n 0, 0, 0), (.iload_n 1, 0, 0)] ⟨⟨d93_37, trivial⟩, ⟨d93_39, trivial⟩, ⟨d93_40, trivial⟩, trivial⟩ (lv' := [(5, aN 1), (0, aR 23 0), (1, aI x), (2, aI a), (3, aI b), (4, aI c)]) (st' := [aI x, aR 23 0]) (w' := wd N L) (P := []) rfl (trivial) (pc' := 41) rfl ?_
        by_cases h7 : 0 ≤ x.toInt ∧ x.toInt < 12
        case pos =>
          refine Sem.cSp1 (as := [aI x]) (rst := [aR 23 0]) (c' := 0) (s' := 0) d93_41 mk90 rfl co90 lk5_93 ss90 (show 1 ≤ mL 90 by decide) rfl (show 1 ≤ 8 by decide) (by decide) (by decide) rfl rfl (by decide) (by decide) (m90 (N) L x) ?_
          refine Sem.topNN (if_pos h7) ?_
          refine Sem.ifN (tgt := 51) d93_44 (by decide) (by decide) (fun b8 => ?_) (fun b8 => ?_)
          rotate_left
          · exact absurd (show ¬ 1 = 0 from by decide) b8
          refine Sem.seg [(.iload 5, 0, 0)] ⟨⟨d93_51, trivial⟩, trivial⟩ (lv' := [(5, aN 1), (0, aR 23 0), (1, aI x), (2, aI a), (3, aI b), (4, aI c)]) (st' := [aN 1, aR 23 0]) (w' := wd N L) (P := []) rfl (trivial) (pc' := 53) rfl ?_
          refine Sem.ifN (tgt := 60) d93_53 (by decide) (by decide) (fun b9 => ?_) (fun b9 => ?_)
          rotate_left
          · exact absurd (show ¬ 1 = 0 from by decide) b9
          refine Sem.seg [(.iconst 0, 0, 0)] ⟨⟨d93_60, trivial⟩, trivial⟩ (lv' := [(5, aN 1), (0, aR 23 0), (1, aI x), (2, aI a), (3, aI b), (4, aI c)]) (st' := [aN 0, aR 23 0]) (w' := wd N L) (P := []) rfl (trivial) (pc' := 61) rfl ?_
          refine Sem.cVp1 (t := 23) (i := 0) (as := [aN 0]) (rst := []) (c' := 0) (s' := 0) d93_61 mk91 rfl co91 lk5_97 im91 se91 rfl (vN (t := 23) (i := 0) (by decide)) (show 2 ≤ mL 91 by decide) rfl (show 0 ≤ 8 by decide) (by decide) (by decide) rfl rfl (by decide) (by decide) (m91 (N) L 0 (by decide)) ?_
          refine Sem.topNN (show (if 0 < 0 then 1 else 0) = 0 from rfl) ?_
          refine Sem.ifN (tgt := 94) d93_64 (by decide) (by decide) (fun b10 => ?_) (fun b10 => ?_)
          · exact absurd (show ¬ 0 = 0 from b10) (by decide)
          refine Sem.pick [2, 0, 1, 3, 4, 5] (lv' := [(1, aI x), (5, aN 1), (0, aR 23 0), (2, aI a), (3, aI b), (4, aI c)]) rfl ?_
          refine Sem.loc0 (show x = nI x.toInt.toNat from i_nI2 (by omega)) ?_
          refine Sem.seg [(.aload_n 0, 0, 0), (.getfield 22, 5, 5), (.iload_n 1, 0, 0), (.iload_n 2, 0, 0), (.iastore, 0, 0), (.aload_n 0, 0, 0), (.getfield 25, 5, 6), (.iload_n 1, 0, 0), (.iload_n 3, 0, 0)] ⟨⟨d93_67, trivial⟩, ⟨d93_68, gf5_22⟩, ⟨d93_71, trivial⟩, ⟨d93_72, trivial⟩, ⟨d93_73, trivial⟩, ⟨d93_74, trivial⟩, ⟨d93_75, gf5_25⟩, ⟨d93_78, trivial⟩, ⟨d93_79, trivial⟩, trivial⟩ (lv' := [(1, aN x.toInt.toNat), (5, aN 1), (0, aR 23 0), (2, aI a), (3, aI b), (4, aI c)]) (st' := [aI b, aN x.toInt.toNat, aR 29 0]) (w' := wd (upN (upN N 23 0 0 0) 28 0 x.toInt.toNat (tn a)) L) (P := [vld NN 23 0, vld NN 28 0, x.toInt.toNat < 12, vld NN 23 0]) rfl (⟨vN (t := 23) (i := 0) (by decide), vN (t := 28) (i := 0) (by decide), (show x.toInt.toNat < 12 by omega), vN (t := 23) (i := 0) (by decide)⟩) (pc' := 80) rfl ?_
          refine Sem.seg [(.iastore, 0, 0), (.aload_n 0, 0, 0), (.getfield 28, 5, 7), (.iload_n 1, 0, 0), (.iload 4, 0, 0), (.iastore, 0, 0), (.aload_n 0, 0, 0), (.iload_n 1, 0, 0)] ⟨⟨d93_80, trivial⟩, ⟨d93_81, trivial⟩, ⟨d93_82, gf5_28⟩, ⟨d93_85, trivial⟩, ⟨d93_86, trivial⟩, ⟨d93_88, trivial⟩, ⟨d93_89, trivial⟩, ⟨d93_90, trivial⟩, trivial⟩ (lv' := [(1, aN x.toInt.toNat), (5, aN 1), (0, aR 23 0), (2, aI a), (3, aI b), (4, aI c)]) (st' := [aN x.toInt.toNat, aR 23 0]) (w' := wd (upN (upN (upN (upN N 23 0 0 0) 28 0 x.toInt.toNat (tn a)) 29 0 x.toInt.toNat (tn b)) 30 0 x.toInt.toNat (tn c)) L) (P := [vld NN 29 0, x.toInt.toNat < 12, vld NN 23 0, vld NN 30 0, x.toInt.toNat < 12]) rfl (⟨vN (t := 29) (i := 0) (by decide), (show x.toInt.toNat < 12 by omega), vN (t := 23) (i := 0) (by decide), vN (t := 30) (i := 0) (by decide), (show x.toInt.toNat < 12 by omega)⟩) (pc' := 91) rfl ?_
          refine Sem.cVp0 (t := 23) (i := 0) (as := [aN x.toInt.toNat]) (rst := []) (c' := 0) (s' := 0) d93_91 mk92 rfl co92 lk5_100 im92 se92 rfl (vN (t := 23) (i := 0) (by decide)) (show 2 ≤ mL 92 by decide) rfl (show 0 ≤ 8 by decide) (by decide) (by decide) rfl rfl (by decide) (by decide) (m92 (upN (upN (upN (upN N 23 0 0 0) 28 0 x.toInt.toNat (tn a)) 29 0 x.toInt.toNat (tn b)) 30 0 x.toInt.toNat (tn c)) L x.toInt.toNat (by first | omega | assumption)) ?_
          refine Sem.vret d93_94 rfl (by decide) (by decide) hzW ⟨rfl, _, _, rfl, ?_⟩
          have hcode : cCosts x a b c = 0 := by unfold cCosts; (repeat' split) <;> omega
          exact ⟨rfl, fun _ => rfl, fun q => absurd hcode q⟩
        case neg =>
          refine Sem.cSp1 (as := [aI x]) (rst := [aR 23 0]) (c' := 0) (s' := 0) d93_41 mk90 rfl co90 lk5_93 ss90 (show 1 ≤ mL 90 by decide) rfl (show 1 ≤ 8 by decide) (by decide) (by decide) rfl rfl (by decide) (by decide) (m90 (N) L x) ?_
          refine Sem.topNN (if_neg h7) ?_
          refine Sem.ifN (tgt := 51) d93_44 (by decide) (by decide) (fun b11 => ?_) (fun b11 => ?_)
          · exact absurd (show ¬ 0 = 0 from b11) (by decide)
          refine Sem.seg [(.iconst 1, 0, 0)] ⟨⟨d93_47, trivial⟩, trivial⟩ (lv' := [(5, aN 1), (0, aR 23 0), (1, aI x), (2, aI a), (3, aI b), (4, aI c)]) (st' := [aN 1, aR 23 0]) (w' := wd N L) (P := []) rfl (trivial) (pc' := 48) rfl ?_
          refine Sem.goto (tgt := 61) d93_48 (by decide) ?_
          refine Sem.cVp1 (t := 23) (i := 0) (as := [aN 1]) (rst := []) (c' := 0) (s' := 0) d93_61 mk91 rfl co91 lk5_97 im91 se91 rfl (vN (t := 23) (i := 0) (by decide)) (show 2 ≤ mL 91 by decide) rfl (show 0 ≤ 8 by decide) (by decide) (by decide) rfl rfl (by decide) (by decide) (m91 (N) L 1 (by decide)) ?_
          refine Sem.topNN (show (if 0 < 1 then 1 else 0) = 1 from rfl) ?_
          refine Sem.ifN (tgt := 94) d93_64 (by decide) (by decide) (fun b12 => ?_) (fun b12 => ?_)
          rotate_left
          · exact absurd (show ¬ 1 = 0 from by decide) b12
          refine Sem.vret d93_94 rfl (by decide) (by decide) hzW ⟨rfl, _, _, rfl, ?_⟩
          have hcode : cCosts x a b c = 1 := by unfold cCosts; (repeat' split) <;> omega
          exact ⟨rfl, fun q => absurd (hcode.symm.trans q) (by decide), fun _ => by rw [hcode]⟩
      case neg =>
        refine Sem.cSp1 (as := [aI c, aN 0, aN 100]) (rst := []) (c' := 0) (s' := 0) d93_26 mk89 rfl co89 lk5_89 ss89 (show 3 ≤ mL 89 by decide) rfl (show 0 ≤ 8 by decide) (by decide) (by decide) rfl rfl (by decide) (by decide) (m89 (N) L c 0 100 (by decide) (by decide)) ?_
        refine Sem.topNN (if_neg h5) ?_
        refine Sem.ifN (tgt := 36) d93_29 (by decide) (by decide) (fun b13 => ?_) (fun b13 => ?_)
        rotate_left
        · exact absurd (show 0 = 0 from by decide) b13
        refine Sem.seg [(.iconst 0, 0, 0), (.istore 5, 0, 0), (.aload_n 0, 0, 0), (.iload_n 1, 0, 0)] ⟨⟨d93_36, trivial⟩, ⟨d93_37, trivial⟩, ⟨d93_39, trivial⟩, ⟨d93_40, trivial⟩, trivial⟩ (lv' := [(5, aN 0), (0, aR 23 0), (1, aI x), (2, aI a), (3, aI b), (4, aI c)]) (st' := [aI x, aR 23 0]) (w' := wd N L) (P := []) rfl (trivial) (pc' := 41) rfl ?_
        by_cases h14 : 0 ≤ x.toInt ∧ x.toInt < 12
        case pos =>
          refine Sem.cSp1 (as := [aI x]) (rst := [aR 23 0]) (c' := 0) (s' := 0) d93_41 mk90 rfl co90 lk5_93 ss90 (show 1 ≤ mL 90 by decide) rfl (show 1 ≤ 8 by decide) (by decide) (by decide) rfl rfl (by decide) (by decide) (m90 (N) L x) ?_
          refine Sem.topNN (if_pos h14) ?_
          refine Sem.ifN (tgt := 51) d93_44 (by decide) (by decide) (fun b15 => ?_) (fun b15 => ?_)
          rotate_left
          · exact absurd (show ¬ 1 = 0 from by decide) b15
          refine Sem.seg [(.iload 5, 0, 0)] ⟨⟨d93_51, trivial⟩, trivial⟩ (lv' := [(5, aN 0), (0, aR 23 0), (1, aI x), (2, aI a), (3, aI b), (4, aI c)]) (st' := [aN 0, aR 23 0]) (w' := wd N L) (P := []) rfl (trivial) (pc' := 53) rfl ?_
          refine Sem.ifN (tgt := 60) d93_53 (by decide) (by decide) (fun b16 => ?_) (fun b16 => ?_)
          · exact absurd (show ¬ 0 = 0 from b16) (by decide)
          refine Sem.seg [(.iconst 2, 0, 0)] ⟨⟨d93_56, trivial⟩, trivial⟩ (lv' := [(5, aN 0), (0, aR 23 0), (1, aI x), (2, aI a), (3, aI b), (4, aI c)]) (st' := [aN 2, aR 23 0]) (w' := wd N L) (P := []) rfl (trivial) (pc' := 57) rfl ?_
          refine Sem.goto (tgt := 61) d93_57 (by decide) ?_
          refine Sem.cVp1 (t := 23) (i := 0) (as := [aN 2]) (rst := []) (c' := 0) (s' := 0) d93_61 mk91 rfl co91 lk5_97 im91 se91 rfl (vN (t := 23) (i := 0) (by decide)) (show 2 ≤ mL 91 by decide) rfl (show 0 ≤ 8 by decide) (by decide) (by decide) rfl rfl (by decide) (by decide) (m91 (N) L 2 (by decide)) ?_
          refine Sem.topNN (show (if 0 < 2 then 1 else 0) = 1 from rfl) ?_
          refine Sem.ifN (tgt := 94) d93_64 (by decide) (by decide) (fun b17 => ?_) (fun b17 => ?_)
          rotate_left
          · exact absurd (show ¬ 1 = 0 from by decide) b17
          refine Sem.vret d93_94 rfl (by decide) (by decide) hzW ⟨rfl, _, _, rfl, ?_⟩
          have hcode : cCosts x a b c = 2 := by unfold cCosts; (repeat' split) <;> omega
          exact ⟨rfl, fun q => absurd (hcode.symm.trans q) (by decide), fun _ => by rw [hcode]⟩
        case neg =>
          refine Sem.cSp1 (as := [aI x]) (rst := [aR 23 0]) (c' := 0) (s' := 0) d93_41 mk90 rfl co90 lk5_93 ss90 (show 1 ≤ mL 90 by decide) rfl (show 1 ≤ 8 by decide) (by decide) (by decide) rfl rfl (by decide) (by decide) (m90 (N) L x) ?_
          refine Sem.topNN (if_neg h14) ?_
          refine Sem.ifN (tgt := 51) d93_44 (by decide) (by decide) (fun b18 => ?_) (fun b18 => ?_)
          · exact absurd (show ¬ 0 = 0 from b18) (by decide)
          refine Sem.seg [(.iconst 1, 0, 0)] ⟨⟨d93_47, trivial⟩, trivial⟩ (lv' := [(5, aN 0), (0, aR 23 0), (1, aI x), (2, aI a), (3, aI b), (4, aI c)]) (st' := [aN 1, aR 23 0]) (w' := wd N L) (P := []) rfl (trivial) (pc' := 48) rfl ?_
          refine Sem.goto (tgt := 61) d93_48 (by decide) ?_
          refine Sem.cVp1 (t := 23) (i := 0) (as := [aN 1]) (rst := []) (c' := 0) (s' := 0) d93_61 mk91 rfl co91 lk5_97 im91 se91 rfl (vN (t := 23) (i := 0) (by decide)) (show 2 ≤ mL 91 by decide) rfl (show 0 ≤ 8 by decide) (by decide) (by decide) rfl rfl (by decide) (by decide) (m91 (N) L 1 (by decide)) ?_
          refine Sem.topNN (show (if 0 < 1 then 1 else 0) = 1 from rfl) ?_
          refine Sem.ifN (tgt := 94) d93_64 (by decide) (by decide) (fun b19 => ?_) (fun b19 => ?_)
          rotate_left
          · exact absurd (show ¬ 1 = 0 from by decide) b19
          refine Sem.vret d93_94 rfl (by decide) (by decide) hzW ⟨rfl, _, _, rfl, ?_⟩
          have hcode : cCosts x a b c = 1 := by unfold cCosts; (repeat' split) <;> omega
          exact ⟨rfl, fun q => absurd (hcode.symm.trans q) (by decide), fun _ => by rw [hcode]⟩
    case neg =>
      refine Sem.cSp1 (as := [aI b, aN 0, aN 100000]) (rst := []) (c' := 0) (s' := 0) d93_15 mk89 rfl co89 lk5_89 ss89 (show 3 ≤ mL 89 by decide) rfl (show 0 ≤ 8 by decide) (by decide) (by decide) rfl rfl (by decide) (by decide) (m89 (N) L b 0 100000 (by decide) (by decide)) ?_
      refine Sem.topNN (if_neg h3) ?_
      refine Sem.ifN (tgt := 36) d93_18 (by decide) (by decide) (fun b20 => ?_) (fun b20 => ?_)
      rotate_left
      · exact absurd (show 0 = 0 from by decide) b20
      refine Sem.seg [(.iconst 0, 0, 0), (.istore 5, 0, 0), (.aload_n 0, 0, 0), (.iload_n 1, 0, 0)] ⟨⟨d93_36, trivial⟩, ⟨d93_37, trivial⟩, ⟨d93_39, trivial⟩, ⟨d93_40, trivial⟩, trivial⟩ (lv' := [(5, aN 0), (0, aR 23 0), (1, aI x), (2, aI a), (3, aI b), (4, aI c)]) (st' := [aI x, aR 23 0]) (w' := wd N L) (P := []) rfl (trivial) (pc' := 41) rfl ?_
      by_cases h21 : 0 ≤ x.toInt ∧ x.toInt < 12
      case pos =>
        refine Sem.cSp1 (as := [aI x]) (rst := [aR 23 0]) (c' := 0) (s' := 0) d93_41 mk90 rfl co90 lk5_93 ss90 (show 1 ≤ mL 90 by decide) rfl (show 1 ≤ 8 by decide) (by decide) (by decide) rfl rfl (by decide) (by decide) (m90 (N) L x) ?_
        refine Sem.topNN (if_pos h21) ?_
        refine Sem.ifN (tgt := 51) d93_44 (by decide) (by decide) (fun b22 => ?_) (fun b22 => ?_)
        rotate_left
        · exact absurd (show ¬ 1 = 0 from by decide) b22
        refine Sem.seg [(.iload 5, 0, 0)] ⟨⟨d93_51, trivial⟩, trivial⟩ (lv' := [(5, aN 0), (0, aR 23 0), (1, aI x), (2, aI a), (3, aI b), (4, aI c)]) (st' := [aN 0, aR 23 0]) (w' := wd N L) (P := []) rfl (trivial) (pc' := 53) rfl ?_
        refine Sem.ifN (tgt := 60) d93_53 (by decide) (by decide) (fun b23 => ?_) (fun b23 => ?_)
        · exact absurd (show ¬ 0 = 0 from b23) (by decide)
        refine Sem.seg [(.iconst 2, 0, 0)] ⟨⟨d93_56, trivial⟩, trivial⟩ (lv' := [(5, aN 0), (0, aR 23 0), (1, aI x), (2, aI a), (3, aI b), (4, aI c)]) (st' := [aN 2, aR 23 0]) (w' := wd N L) (P := []) rfl (trivial) (pc' := 57) rfl ?_
        refine Sem.goto (tgt := 61) d93_57 (by decide) ?_
        refine Sem.cVp1 (t := 23) (i := 0) (as := [aN 2]) (rst := []) (c' := 0) (s' := 0) d93_61 mk91 rfl co91 lk5_97 im91 se91 rfl (vN (t := 23) (i := 0) (by decide)) (show 2 ≤ mL 91 by decide) rfl (show 0 ≤ 8 by decide) (by decide) (by decide) rfl rfl (by decide) (by decide) (m91 (N) L 2 (by decide)) ?_
        refine Sem.topNN (show (if 0 < 2 then 1 else 0) = 1 from rfl) ?_
        refine Sem.ifN (tgt := 94) d93_64 (by decide) (by decide) (fun b24 => ?_) (fun b24 => ?_)
        rotate_left
        · exact absurd (show ¬ 1 = 0 from by decide) b24
        refine Sem.vret d93_94 rfl (by decide) (by decide) hzW ⟨rfl, _, _, rfl, ?_⟩
        have hcode : cCosts x a b c = 2 := by unfold cCosts; (repeat' split) <;> omega
        exact ⟨rfl, fun q => absurd (hcode.symm.trans q) (by decide), fun _ => by rw [hcode]⟩
      case neg =>
        refine Sem.cSp1 (as := [aI x]) (rst := [aR 23 0]) (c' := 0) (s' := 0) d93_41 mk90 rfl co90 lk5_93 ss90 (show 1 ≤ mL 90 by decide) rfl (show 1 ≤ 8 by decide) (by decide) (by decide) rfl rfl (by decide) (by decide) (m90 (N) L x) ?_
        refine Sem.topNN (if_neg h21) ?_
        refine Sem.ifN (tgt := 51) d93_44 (by decide) (by decide) (fun b25 => ?_) (fun b25 => ?_)
        · exact absurd (show ¬ 0 = 0 from b25) (by decide)
        refine Sem.seg [(.iconst 1, 0, 0)] ⟨⟨d93_47, trivial⟩, trivial⟩ (lv' := [(5, aN 0), (0, aR 23 0), (1, aI x), (2, aI a), (3, aI b), (4, aI c)]) (st' := [aN 1, aR 23 0]) (w' := wd N L) (P := []) rfl (trivial) (pc' := 48) rfl ?_
        refine Sem.goto (tgt := 61) d93_48 (by decide) ?_
        refine Sem.cVp1 (t := 23) (i := 0) (as := [aN 1]) (rst := []) (c' := 0) (s' := 0) d93_61 mk91 rfl co91 lk5_97 im91 se91 rfl (vN (t := 23) (i := 0) (by decide)) (show 2 ≤ mL 91 by decide) rfl (show 0 ≤ 8 by decide) (by decide) (by decide) rfl rfl (by decide) (by decide) (m91 (N) L 1 (by decide)) ?_
        refine Sem.topNN (show (if 0 < 1 then 1 else 0) = 1 from rfl) ?_
        refine Sem.ifN (tgt := 94) d93_64 (by decide) (by decide) (fun b26 => ?_) (fun b26 => ?_)
        rotate_left
        · exact absurd (show ¬ 1 = 0 from by decide) b26
        refine Sem.vret d93_94 rfl (by decide) (by decide) hzW ⟨rfl, _, _, rfl, ?_⟩
        have hcode : cCosts x a b c = 1 := by unfold cCosts; (repeat' split) <;> omega
        exact ⟨rfl, fun q => absurd (hcode.symm.trans q) (by decide), fun _ => by rw [hcode]⟩
  case neg =>
    refine Sem.cSp1 (as := [aI a, aN 0, aN 200]) (rst := []) (c' := 0) (s' := 0) d93_5 mk89 rfl co89 lk5_89 ss89 (show 3 ≤ mL 89 by decide) rfl (show 0 ≤ 8 by decide) (by decide) (by decide) rfl rfl (by decide) (by decide) (m89 (N) L a 0 200 (by decide) (by decide)) ?_
    refine Sem.topNN (if_neg h1) ?_
    refine Sem.ifN (tgt := 36) d93_8 (by decide) (by decide) (fun b27 => ?_) (fun b27 => ?_)
    rotate_left
    · exact absurd (show 0 = 0 from by decide) b27
    refine Sem.seg [(.iconst 0, 0, 0), (.istore 5, 0, 0), (.aload_n 0, 0, 0), (.iload_n 1, 0, 0)] ⟨⟨d93_36, trivial⟩, ⟨d93_37, trivial⟩, ⟨d93_39, trivial⟩, ⟨d93_40, trivial⟩, trivial⟩ (lv' := [(5, aN 0), (0, aR 23 0), (1, aI x), (2, aI a), (3, aI b), (4, aI c)]) (st' := [aI x, aR 23 0]) (w' := wd N L) (P := []) rfl (trivial) (pc' := 41) rfl ?_
    by_cases h28 : 0 ≤ x.toInt ∧ x.toInt < 12
    case pos =>
      refine Sem.cSp1 (as := [aI x]) (rst := [aR 23 0]) (c' := 0) (s' := 0) d93_41 mk90 rfl co90 lk5_93 ss90 (show 1 ≤ mL 90 by decide) rfl (show 1 ≤ 8 by decide) (by decide) (by decide) rfl rfl (by decide) (by decide) (m90 (N) L x) ?_
      refine Sem.topNN (if_pos h28) ?_
      refine Sem.ifN (tgt := 51) d93_44 (by decide) (by decide) (fun b29 => ?_) (fun b29 => ?_)
      rotate_left
      · exact absurd (show ¬ 1 = 0 from by decide) b29
      refine Sem.seg [(.iload 5, 0, 0)] ⟨⟨d93_51, trivial⟩, trivial⟩ (lv' := [(5, aN 0), (0, aR 23 0), (1, aI x), (2, aI a), (3, aI b), (4, aI c)]) (st' := [aN 0, aR 23 0]) (w' := wd N L) (P := []) rfl (trivial) (pc' := 53) rfl ?_
      refine Sem.ifN (tgt := 60) d93_53 (by decide) (by decide) (fun b30 => ?_) (fun b30 => ?_)
      · exact absurd (show ¬ 0 = 0 from b30) (by decide)
      refine Sem.seg [(.iconst 2, 0, 0)] ⟨⟨d93_56, trivial⟩, trivial⟩ (lv' := [(5, aN 0), (0, aR 23 0), (1, aI x), (2, aI a), (3, aI b), (4, aI c)]) (st' := [aN 2, aR 23 0]) (w' := wd N L) (P := []) rfl (trivial) (pc' := 57) rfl ?_
      refine Sem.goto (tgt := 61) d93_57 (by decide) ?_
      refine Sem.cVp1 (t := 23) (i := 0) (as := [aN 2]) (rst := []) (c' := 0) (s' := 0) d93_61 mk91 rfl co91 lk5_97 im91 se91 rfl (vN (t := 23) (i := 0) (by decide)) (show 2 ≤ mL 91 by decide) rfl (show 0 ≤ 8 by decide) (by decide) (by decide) rfl rfl (by decide) (by decide) (m91 (N) L 2 (by decide)) ?_
      refine Sem.topNN (show (if 0 < 2 then 1 else 0) = 1 from rfl) ?_
      refine Sem.ifN (tgt := 94) d93_64 (by decide) (by decide) (fun b31 => ?_) (fun b31 => ?_)
      rotate_left
      · exact absurd (show ¬ 1 = 0 from by decide) b31
      refine Sem.vret d93_94 rfl (by decide) (by decide) hzW ⟨rfl, _, _, rfl, ?_⟩
      have hcode : cCosts x a b c = 2 := by unfold cCosts; (repeat' split) <;> omega
      exact ⟨rfl, fun q => absurd (hcode.symm.trans q) (by decide), fun _ => by rw [hcode]⟩
    case neg =>
      refine Sem.cSp1 (as := [aI x]) (rst := [aR 23 0]) (c' := 0) (s' := 0) d93_41 mk90 rfl co90 lk5_93 ss90 (show 1 ≤ mL 90 by decide) rfl (show 1 ≤ 8 by decide) (by decide) (by decide) rfl rfl (by decide) (by decide) (m90 (N) L x) ?_
      refine Sem.topNN (if_neg h28) ?_
      refine Sem.ifN (tgt := 51) d93_44 (by decide) (by decide) (fun b32 => ?_) (fun b32 => ?_)
      · exact absurd (show ¬ 0 = 0 from b32) (by decide)
      refine Sem.seg [(.iconst 1, 0, 0)] ⟨⟨d93_47, trivial⟩, trivial⟩ (lv' := [(5, aN 0), (0, aR 23 0), (1, aI x), (2, aI a), (3, aI b), (4, aI c)]) (st' := [aN 1, aR 23 0]) (w' := wd N L) (P := []) rfl (trivial) (pc' := 48) rfl ?_
      refine Sem.goto (tgt := 61) d93_48 (by decide) ?_
      refine Sem.cVp1 (t := 23) (i := 0) (as := [aN 1]) (rst := []) (c' := 0) (s' := 0) d93_61 mk91 rfl co91 lk5_97 im91 se91 rfl (vN (t := 23) (i := 0) (by decide)) (show 2 ≤ mL 91 by decide) rfl (show 0 ≤ 8 by decide) (by decide) (by decide) rfl rfl (by decide) (by decide) (m91 (N) L 1 (by decide)) ?_
      refine Sem.topNN (show (if 0 < 1 then 1 else 0) = 1 from rfl) ?_
      refine Sem.ifN (tgt := 94) d93_64 (by decide) (by decide) (fun b33 => ?_) (fun b33 => ?_)
      rotate_left
      · exact absurd (show ¬ 1 = 0 from by decide) b33
      refine Sem.vret d93_94 rfl (by decide) (by decide) hzW ⟨rfl, _, _, rfl, ?_⟩
      have hcode : cCosts x a b c = 1 := by unfold cCosts; (repeat' split) <;> omega
      exact ⟨rfl, fun q => absurd (hcode.symm.trans q) (by decide), fun _ => by rw [hcode]⟩

theorem m94 {sc : XT} (N : TN) (L : TL) (x c h : Int32) : Sem sc 94 0 [(0, aR 23 0), (1, aI x), (2, aI c), (3, aI h)] [] (wd N L) 0 0 (Q0 fun N' L' => L = L' ∧ (cMade x c h = 0 → N' = upN (upN (upN N 23 0 0 0) 32 0 x.toInt.toNat (tn c)) 33 0 x.toInt.toNat (tn h)) ∧ (¬ cMade x c h = 0 → N' = upN N 23 0 0 (cMade x c h))) := by
  refine Sem.seg [(.aload_n 0, 0, 0), (.iload_n 1, 0, 0)] ⟨⟨d94_0, trivial⟩, ⟨d94_1, trivial⟩, trivial⟩ (lv' := [(0, aR 23 0), (1, aI x), (2, aI c), (3, aI h)]) (st' := [aI x, aR 23 0]) (w' := wd N L) (P := []) rfl (trivial) (pc' := 2) rfl ?_
  by_cases h1 : 0 ≤ x.toInt ∧ x.toInt < 12
  case pos =>
    refine Sem.cSp1 (as := [aI x]) (rst := [aR 23 0]) (c' := 0) (s' := 0) d94_2 mk90 rfl co90 lk5_93 ss90 (show 1 ≤ mL 90 by decide) rfl (show 1 ≤ 8 by decide) (by decide) (by decide) rfl rfl (by decide) (by decide) (m90 (N) L x) ?_
    refine Sem.topNN (if_pos h1) ?_
    refine Sem.ifN (tgt := 17) d94_5 (by decide) (by decide) (fun b2 => ?_) (fun b2 => ?_)
    · exact absurd (show 1 = 0 from b2) (by decide)
    refine Sem.seg [(.iload_n 2, 0, 0), (.iconst 0, 0, 0), (.iconst 2, 0, 0)] ⟨⟨d94_8, trivial⟩, ⟨d94_9, trivial⟩, ⟨d94_10, trivial⟩, trivial⟩ (lv' := [(0, aR 23 0), (1, aI x), (2, aI c), (3, aI h)]) (st' := [aN 2, aN 0, aI c, aR 23 0]) (w' := wd N L) (P := []) rfl (trivial) (pc' := 11) rfl ?_
    by_cases h3 : ((0 : Nat) : Int) ≤ c.toInt ∧ c.toInt ≤ ((2 : Nat) : Int)
    case pos =>
      refine Sem.cSp1 (as := [aI c, aN 0, aN 2]) (rst := [aR 23 0]) (c' := 0) (s' := 0) d94_11 mk89 rfl co89 lk5_89 ss89 (show 3 ≤ mL 89 by decide) rfl (show 1 ≤ 8 by decide) (by decide) (by decide) rfl rfl (by decide) (by decide) (m89 (N) L c 0 2 (by decide) (by decide)) ?_
      refine Sem.topNN (if_pos h3) ?_
      refine Sem.ifN (tgt := 21) d94_14 (by decide) (by decide) (fun b4 => ?_) (fun b4 => ?_)
      rotate_left
      · exact absurd (show ¬ 1 = 0 from by decide) b4
      refine Sem.seg [(.iload_n 3, 0, 0), (.iconst 0, 0, 0), (.bipush 9, 0, 0)] ⟨⟨d94_21, trivial⟩, ⟨d94_22, trivial⟩, ⟨d94_23, trivial⟩, trivial⟩ (lv' := [(0, aR 23 0), (1, aI x), (2, aI c), (3, aI h)]) (st' := [aN 9, aN 0, aI h, aR 23 0]) (w' := wd N L) (P := []) rfl (trivial) (pc' := 25) rfl ?_
      by_cases h5 : ((0 : Nat) : Int) ≤ h.toInt ∧ h.toInt ≤ ((9 : Nat) : Int)
      case pos =>
        refine Sem.cSp1 (as := [aI h, aN 0, aN 9]) (rst := [aR 23 0]) (c' := 0) (s' := 0) d94_25 mk89 rfl co89 lk5_89 ss89 (show 3 ≤ mL 89 by decide) rfl (show 1 ≤ 8 by decide) (by decide) (by decide) rfl rfl (by decide) (by decide) (m89 (N) L h 0 9 (by decide) (by decide)) ?_
        refine Sem.topNN (if_pos h5) ?_
        refine Sem.ifN (tgt := 35) d94_28 (by decide) (by decide) (fun b6 => ?_) (fun b6 => ?_)
        rotate_left
        · exact absurd (show ¬ 1 = 0 from by decide) b6
        refine Sem.seg [(.iconst 0, 0, 0)] ⟨⟨d94_35, trivial⟩, trivial⟩ (lv' := [(0, aR 23 0), (1, aI x), (2, aI c), (3, aI h)]) (st' := [aN 0, aR 23 0]) (w' := wd N L) (P := []) rfl (trivial) (pc' := 36) rfl ?_
        refine Sem.cVp1 (t := 23) (i := 0) (as := [aN 0]) (rst := []) (c' := 0) (s' := 0) d94_36 mk91 rfl co91 lk5_97 im91 se91 rfl (vN (t := 23) (i := 0) (by decide)) (show 2 ≤ mL 91 by decide) rfl (show 0 ≤ 8 by decide) (by decide) (by decide) rfl rfl (by decide) (by decide) (m91 (N) L 0 (by decide)) ?_
        refine Sem.topNN (show (if 0 < 0 then 1 else 0) = 0 from rfl) ?_
        refine Sem.ifN (tgt := 56) d94_39 (by decide) (by decide) (fun b7 => ?_) (fun b7 => ?_)
        · exact absurd (show ¬ 0 = 0 from b7) (by decide)
        refine Sem.pick [1, 0, 2, 3] (lv' := [(1, aI x), (0, aR 23 0), (2, aI c), (3, aI h)]) rfl ?_
        refine Sem.loc0 (show x = nI x.toInt.toNat from i_nI2 (by omega)) ?_
        refine Sem.seg [(.aload_n 0, 0, 0), (.getfield 34, 5, 9), (.iload_n 1, 0, 0), (.iload_n 2, 0, 0), (.iastore, 0, 0), (.aload_n 0, 0, 0), (.getfield 37, 5, 10), (.iload_n 1, 0, 0), (.iload_n 3, 0, 0)] ⟨⟨d94_42, trivial⟩, ⟨d94_43, gf5_34⟩, ⟨d94_46, trivial⟩, ⟨d94_47, trivial⟩, ⟨d94_48, trivial⟩, ⟨d94_49, trivial⟩, ⟨d94_50, gf5_37⟩, ⟨d94_53, trivial⟩, ⟨d94_54, trivial⟩, trivial⟩ (lv' := [(1, aN x.toInt.toNat), (0, aR 23 0), (2, aI c), (3, aI h)]) (st' := [aI h, aN x.toInt.toNat, aR 33 0]) (w' := wd (upN (upN N 23 0 0 0) 32 0 x.toInt.toNat (tn c)) L) (P := [vld NN 23 0, vld NN 32 0, x.toInt.toNat < 12, vld NN 23 0]) rfl (⟨vN (t := 23) (i := 0) (by decide), vN (t := 32) (i := 0) (by decide), (show x.toInt.toNat < 12 by omega), vN (t := 23) (i := 0) (by decide)⟩) (pc' := 55) rfl ?_
        refine Sem.seg [(.iastore, 0, 0)] ⟨⟨d94_55, trivial⟩, trivial⟩ (lv' := [(1, aN x.toInt.toNat), (0, aR 23 0), (2, aI c), (3, aI h)]) (st' := []) (w' := wd (upN (upN (upN N 23 0 0 0) 32 0 x.toInt.toNat (tn c)) 33 0 x.toInt.toNat (tn h)) L) (P := [vld NN 33 0, x.toInt.toNat < 12]) rfl (⟨vN (t := 33) (i := 0) (by decide), (show x.toInt.toNat < 12 by omega)⟩) (pc' := 56) rfl ?_
        refine Sem.vret d94_56 rfl (by decide) (by decide) hzW ⟨rfl, _, _, rfl, ?_⟩
        have hcode : cMade x c h = 0 := by unfold cMade; (repeat' split) <;> omega
        exact ⟨rfl, fun _ => rfl, fun q => absurd hcode q⟩
      case neg =>
        refine Sem.cSp1 (as := [aI h, aN 0, aN 9]) (rst := [aR 23 0]) (c' := 0) (s' := 0) d94_25 mk89 rfl co89 lk5_89 ss89 (show 3 ≤ mL 89 by decide) rfl (show 1 ≤ 8 by decide) (by decide) (by decide) rfl rfl (by decide) (by decide) (m89 (N) L h 0 9 (by decide) (by decide)) ?_
        refine Sem.topNN (if_neg h5) ?_
        refine Sem.ifN (tgt := 35) d94_28 (by decide) (by decide) (fun b8 => ?_) (fun b8 => ?_)
        · exact absurd (show ¬ 0 = 0 from b8) (by decide)
        refine Sem.seg [(.iconst 2, 0, 0)] ⟨⟨d94_31, trivial⟩, trivial⟩ (lv' := [(0, aR 23 0), (1, aI x), (2, aI c), (3, aI h)]) (st' := [aN 2, aR 23 0]) (w' := wd N L) (P := []) rfl (trivial) (pc' := 32) rfl ?_
        refine Sem.goto (tgt := 36) d94_32 (by decide) ?_
        refine Sem.cVp1 (t := 23) (i := 0) (as := [aN 2]) (rst := []) (c' := 0) (s' := 0) d94_36 mk91 rfl co91 lk5_97 im91 se91 rfl (vN (t := 23) (i := 0) (by decide)) (show 2 ≤ mL 91 by decide) rfl (show 0 ≤ 8 by decide) (by decide) (by decide) rfl rfl (by decide) (by decide) (m91 (N) L 2 (by decide)) ?_
        refine Sem.topNN (show (if 0 < 2 then 1 else 0) = 1 from rfl) ?_
        refine Sem.ifN (tgt := 56) d94_39 (by decide) (by decide) (fun b9 => ?_) (fun b9 => ?_)
        rotate_left
        · exact absurd (show ¬ 1 = 0 from by decide) b9
        refine Sem.vret d94_56 rfl (by decide) (by decide) hzW ⟨rfl, _, _, rfl, ?_⟩
        have hcode : cMade x c h = 2 := by unfold cMade; (repeat' split) <;> omega
        exact ⟨rfl, fun q => absurd (hcode.symm.trans q) (by decide), fun _ => by rw [hcode]⟩
    case neg =>
      refine Sem.cSp1 (as := [aI c, aN 0, aN 2]) (rst := [aR 23 0]) (c' := 0) (s' := 0) d94_11 mk89 rfl co89 lk5_89 ss89 (show 3 ≤ mL 89 by decide) rfl (show 1 ≤ 8 by decide) (by decide) (by decide) rfl rfl (by decide) (by decide) (m89 (N) L c 0 2 (by decide) (by decide)) ?_
      refine Sem.topNN (if_neg h3) ?_
      refine Sem.ifN (tgt := 21) d94_14 (by decide) (by decide) (fun b10 => ?_) (fun b10 => ?_)
      · exact absurd (show ¬ 0 = 0 from b10) (by decide)
      refine Sem.seg [(.iconst 1, 0, 0)] ⟨⟨d94_17, trivial⟩, trivial⟩ (lv' := [(0, aR 23 0), (1, aI x), (2, aI c), (3, aI h)]) (st' := [aN 1, aR 23 0]) (w' := wd N L) (P := []) rfl (trivial) (pc' := 18) rfl ?_
      refine Sem.goto (tgt := 36) d94_18 (by decide) ?_
      refine Sem.cVp1 (t := 23) (i := 0) (as := [aN 1]) (rst := []) (c' := 0) (s' := 0) d94_36 mk91 rfl co91 lk5_97 im91 se91 rfl (vN (t := 23) (i := 0) (by decide)) (show 2 ≤ mL 91 by decide) rfl (show 0 ≤ 8 by decide) (by decide) (by decide) rfl rfl (by decide) (by decide) (m91 (N) L 1 (by decide)) ?_
      refine Sem.topNN (show (if 0 < 1 then 1 else 0) = 1 from rfl) ?_
      refine Sem.ifN (tgt := 56) d94_39 (by decide) (by decide) (fun b11 => ?_) (fun b11 => ?_)
      rotate_left
      · exact absurd (show ¬ 1 = 0 from by decide) b11
      refine Sem.vret d94_56 rfl (by decide) (by decide) hzW ⟨rfl, _, _, rfl, ?_⟩
      have hcode : cMade x c h = 1 := by unfold cMade; (repeat' split) <;> omega
      exact ⟨rfl, fun q => absurd (hcode.symm.trans q) (by decide), fun _ => by rw [hcode]⟩
  case neg =>
    refine Sem.cSp1 (as := [aI x]) (rst := [aR 23 0]) (c' := 0) (s' := 0) d94_2 mk90 rfl co90 lk5_93 ss90 (show 1 ≤ mL 90 by decide) rfl (show 1 ≤ 8 by decide) (by decide) (by decide) rfl rfl (by decide) (by decide) (m90 (N) L x) ?_
    refine Sem.topNN (if_neg h1) ?_
    refine Sem.ifN (tgt := 17) d94_5 (by decide) (by decide) (fun b12 => ?_) (fun b12 => ?_)
    rotate_left
    · exact absurd (show 0 = 0 from by decide) b12
    refine Sem.seg [(.iconst 1, 0, 0)] ⟨⟨d94_17, trivial⟩, trivial⟩ (lv' := [(0, aR 23 0), (1, aI x), (2, aI c), (3, aI h)]) (st' := [aN 1, aR 23 0]) (w' := wd N L) (P := []) rfl (trivial) (pc' := 18) rfl ?_
    refine Sem.goto (tgt := 36) d94_18 (by decide) ?_
    refine Sem.cVp1 (t := 23) (i := 0) (as := [aN 1]) (rst := []) (c' := 0) (s' := 0) d94_36 mk91 rfl co91 lk5_97 im91 se91 rfl (vN (t := 23) (i := 0) (by decide)) (show 2 ≤ mL 91 by decide) rfl (show 0 ≤ 8 by decide) (by decide) (by decide) rfl rfl (by decide) (by decide) (m91 (N) L 1 (by decide)) ?_
    refine Sem.topNN (show (if 0 < 1 then 1 else 0) = 1 from rfl) ?_
    refine Sem.ifN (tgt := 56) d94_39 (by decide) (by decide) (fun b13 => ?_) (fun b13 => ?_)
    rotate_left
    · exact absurd (show ¬ 1 = 0 from by decide) b13
    refine Sem.vret d94_56 rfl (by decide) (by decide) hzW ⟨rfl, _, _, rfl, ?_⟩
    have hcode : cMade x c h = 1 := by unfold cMade; (repeat' split) <;> omega
    exact ⟨rfl, fun q => absurd (hcode.symm.trans q) (by decide), fun _ => by rw [hcode]⟩

theorem m99 {sc : XT} (N : TN) (L : TL) (x n : Int32) : Sem sc 99 0 [(0, aR 23 0), (1, aI x), (2, aI n)] [] (wd N L) 0 0 (QZ fun z N' L' => L = L' ∧ (cStock x n = 0 → z = N 31 0 x.toInt.toNat ∧ N' = upN (upN (upN (upN N 23 0 0 0) 31 0 x.toInt.toNat (tn n)) 41 0 x.toInt.toNat 1) 23 0 20 1) ∧ (¬ cStock x n = 0 → N' = upN N 23 0 0 (cStock x n))) := by
  refine Sem.seg [(.aload_n 0, 0, 0), (.iload_n 1, 0, 0)] ⟨⟨d99_0, trivial⟩, ⟨d99_1, trivial⟩, trivial⟩ (lv' := [(0, aR 23 0), (1, aI x), (2, aI n)]) (st' := [aI x, aR 23 0]) (w' := wd N L) (P := []) rfl (trivial) (pc' := 2) rfl ?_
  by_cases h1 : 0 ≤ x.toInt ∧ x.toInt < 12
  case pos =>
    refine Sem.cSp1 (as := [aI x]) (rst := [aR 23 0]) (c' := 0) (s' := 0) d99_2 mk90 rfl co90 lk5_93 ss90 (show 1 ≤ mL 90 by decide) rfl (show 1 ≤ 8 by decide) (by decide) (by decide) rfl rfl (by decide) (by decide) (m90 (N) L x) ?_
    refine Sem.topNN (if_pos h1) ?_
    refine Sem.ifN (tgt := 12) d99_5 (by decide) (by decide) (fun b2 => ?_) (fun b2 => ?_)
    rotate_left
    · exact absurd (show ¬ 1 = 0 from by decide) b2
    refine Sem.seg [(.iload_n 2, 0, 0), (.iconst 0, 0, 0), (.sipush 10000, 0, 0)] ⟨⟨d99_12, trivial⟩, ⟨d99_13, trivial⟩, ⟨d99_14, trivial⟩, trivial⟩ (lv' := [(0, aR 23 0), (1, aI x), (2, aI n)]) (st' := [aN 10000, aN 0, aI n, aR 23 0]) (w' := wd N L) (P := []) rfl (trivial) (pc' := 17) rfl ?_
    by_cases h3 : ((0 : Nat) : Int) ≤ n.toInt ∧ n.toInt ≤ ((10000 : Nat) : Int)
    case pos =>
      refine Sem.cSp1 (as := [aI n, aN 0, aN 10000]) (rst := [aR 23 0]) (c' := 0) (s' := 0) d99_17 mk89 rfl co89 lk5_89 ss89 (show 3 ≤ mL 89 by decide) rfl (show 1 ≤ 8 by decide) (by decide) (by decide) rfl rfl (by decide) (by decide) (m89 (N) L n 0 10000 (by decide) (by decide)) ?_
      refine Sem.topNN (if_pos h3) ?_
      refine Sem.ifN (tgt := 27) d99_20 (by decide) (by decide) (fun b4 => ?_) (fun b4 => ?_)
      rotate_left
      · exact absurd (show ¬ 1 = 0 from by decide) b4
      refine Sem.seg [(.iconst 0, 0, 0)] ⟨⟨d99_27, trivial⟩, trivial⟩ (lv' := [(0, aR 23 0), (1, aI x), (2, aI n)]) (st' := [aN 0, aR 23 0]) (w' := wd N L) (P := []) rfl (trivial) (pc' := 28) rfl ?_
      refine Sem.cVp1 (t := 23) (i := 0) (as := [aN 0]) (rst := []) (c' := 0) (s' := 0) d99_28 mk91 rfl co91 lk5_97 im91 se91 rfl (vN (t := 23) (i := 0) (by decide)) (show 2 ≤ mL 91 by decide) rfl (show 0 ≤ 8 by decide) (by decide) (by decide) rfl rfl (by decide) (by decide) (m91 (N) L 0 (by decide)) ?_
      refine Sem.topNN (show (if 0 < 0 then 1 else 0) = 0 from rfl) ?_
      refine Sem.ifN (tgt := 36) d99_31 (by decide) (by decide) (fun b5 => ?_) (fun b5 => ?_)
      rotate_left
      · exact absurd (show 0 = 0 from by decide) b5
      refine Sem.pick [1, 0, 2] (lv' := [(1, aI x), (0, aR 23 0), (2, aI n)]) rfl ?_
      refine Sem.loc0 (show x = nI x.toInt.toNat from i_nI2 (by omega)) ?_
      refine Sem.seg [(.aload_n 0, 0, 0), (.getfield 31, 5, 8), (.iload_n 1, 0, 0), (.iaload, 0, 0), (.istore_n 3, 0, 0), (.aload_n 0, 0, 0), (.getfield 31, 5, 8), (.iload_n 1, 0, 0), (.iload_n 2, 0, 0)] ⟨⟨d99_36, trivial⟩, ⟨d99_37, gf5_31⟩, ⟨d99_40, trivial⟩, ⟨d99_41, trivial⟩, ⟨d99_42, trivial⟩, ⟨d99_43, trivial⟩, ⟨d99_44, gf5_31⟩, ⟨d99_47, trivial⟩, ⟨d99_48, trivial⟩, trivial⟩ (lv' := [(3, aN (N 31 0 x.toInt.toNat)), (1, aN x.toInt.toNat), (0, aR 23 0), (2, aI n)]) (st' := [aI n, aN x.toInt.toNat, aR 31 0]) (w' := wd (upN N 23 0 0 0) L) (P := [vld NN 23 0, vld NN 31 0, x.toInt.toNat < 12, vld NN 23 0]) rfl (⟨vN (t := 23) (i := 0) (by decide), vN (t := 31) (i := 0) (by decide), (show x.toInt.toNat < 12 by omega), vN (t := 23) (i := 0) (by decide)⟩) (pc' := 49) rfl ?_
      refine Sem.seg [(.iastore, 0, 0), (.aload_n 0, 0, 0), (.iload_n 1, 0, 0)] ⟨⟨d99_49, trivial⟩, ⟨d99_50, trivial⟩, ⟨d99_51, trivial⟩, trivial⟩ (lv' := [(3, aN (N 31 0 x.toInt.toNat)), (1, aN x.toInt.toNat), (0, aR 23 0), (2, aI n)]) (st' := [aN x.toInt.toNat, aR 23 0]) (w' := wd (upN (upN N 23 0 0 0) 31 0 x.toInt.toNat (tn n)) L) (P := [vld NN 31 0, x.toInt.toNat < 12]) rfl (⟨vN (t := 31) (i := 0) (by decide), (show x.toInt.toNat < 12 by omega)⟩) (pc' := 52) rfl ?_
      refine Sem.cVp0 (t := 23) (i := 0) (as := [aN x.toInt.toNat]) (rst := []) (c' := 0) (s' := 0) d99_52 mk92 rfl co92 lk5_100 im92 se92 rfl (vN (t := 23) (i := 0) (by decide)) (show 2 ≤ mL 92 by decide) rfl (show 0 ≤ 8 by decide) (by decide) (by decide) rfl rfl (by decide) (by decide) (m92 (upN (upN N 23 0 0 0) 31 0 x.toInt.toNat (tn n)) L x.toInt.toNat (by first | omega | assumption)) ?_
      refine Sem.seg [(.iload_n 3, 0, 0)] ⟨⟨d99_55, trivial⟩, trivial⟩ (lv' := [(3, aN (N 31 0 x.toInt.toNat)), (1, aN x.toInt.toNat), (0, aR 23 0), (2, aI n)]) (st' := [aN (N 31 0 x.toInt.toNat)]) (w' := wd (upN (upN (upN (upN N 23 0 0 0) 31 0 x.toInt.toNat (tn n)) 41 0 x.toInt.toNat 1) 23 0 20 1) L) (P := []) rfl (trivial) (pc' := 56) rfl ?_
      refine Sem.iret rfl d99_56 (Or.inl rfl) (by decide) (by decide) hzW ⟨_, _, _, rfl, rfl, ?_⟩
      have hcode : cStock x n = 0 := by unfold cStock; (repeat' split) <;> omega
      exact ⟨rfl, fun _ => ⟨rfl, rfl⟩, fun q => absurd hcode q⟩
    case neg =>
      refine Sem.cSp1 (as := [aI n, aN 0, aN 10000]) (rst := [aR 23 0]) (c' := 0) (s' := 0) d99_17 mk89 rfl co89 lk5_89 ss89 (show 3 ≤ mL 89 by decide) rfl (show 1 ≤ 8 by decide) (by decide) (by decide) rfl rfl (by decide) (by decide) (m89 (N) L n 0 10000 (by decide) (by decide)) ?_
      refine Sem.topNN (if_neg h3) ?_
      refine Sem.ifN (tgt := 27) d99_20 (by decide) (by decide) (fun b6 => ?_) (fun b6 => ?_)
      · exact absurd (show ¬ 0 = 0 from b6) (by decide)
      refine Sem.seg [(.iconst 2, 0, 0)] ⟨⟨d99_23, trivial⟩, trivial⟩ (lv' := [(0, aR 23 0), (1, aI x), (2, aI n)]) (st' := [aN 2, aR 23 0]) (w' := wd N L) (P := []) rfl (trivial) (pc' := 24) rfl ?_
      refine Sem.goto (tgt := 28) d99_24 (by decide) ?_
      refine Sem.cVp1 (t := 23) (i := 0) (as := [aN 2]) (rst := []) (c' := 0) (s' := 0) d99_28 mk91 rfl co91 lk5_97 im91 se91 rfl (vN (t := 23) (i := 0) (by decide)) (show 2 ≤ mL 91 by decide) rfl (show 0 ≤ 8 by decide) (by decide) (by decide) rfl rfl (by decide) (by decide) (m91 (N) L 2 (by decide)) ?_
      refine Sem.topNN (show (if 0 < 2 then 1 else 0) = 1 from rfl) ?_
      refine Sem.ifN (tgt := 36) d99_31 (by decide) (by decide) (fun b7 => ?_) (fun b7 => ?_)
      · exact absurd (show 1 = 0 from b7) (by decide)
      refine Sem.seg [(.iconst 0, 0, 0)] ⟨⟨d99_34, trivial⟩, trivial⟩ (lv' := [(0, aR 23 0), (1, aI x), (2, aI n)]) (st' := [aN 0]) (w' := wd (upN N 23 0 0 2) L) (P := []) rfl (trivial) (pc' := 35) rfl ?_
      refine Sem.iret rfl d99_35 (Or.inl rfl) (by decide) (by decide) hzW ⟨_, _, _, rfl, rfl, ?_⟩
      have hcode : cStock x n = 2 := by unfold cStock; (repeat' split) <;> omega
      exact ⟨rfl, fun q => absurd (hcode.symm.trans q) (by decide), fun _ => by rw [hcode]⟩
  case neg =>
    refine Sem.cSp1 (as := [aI x]) (rst := [aR 23 0]) (c' := 0) (s' := 0) d99_2 mk90 rfl co90 lk5_93 ss90 (show 1 ≤ mL 90 by decide) rfl (show 1 ≤ 8 by decide) (by decide) (by decide) rfl rfl (by decide) (by decide) (m90 (N) L x) ?_
    refine Sem.topNN (if_neg h1) ?_
    refine Sem.ifN (tgt := 12) d99_5 (by decide) (by decide) (fun b8 => ?_) (fun b8 => ?_)
    · exact absurd (show ¬ 0 = 0 from b8) (by decide)
    refine Sem.seg [(.iconst 1, 0, 0)] ⟨⟨d99_8, trivial⟩, trivial⟩ (lv' := [(0, aR 23 0), (1, aI x), (2, aI n)]) (st' := [aN 1, aR 23 0]) (w' := wd N L) (P := []) rfl (trivial) (pc' := 9) rfl ?_
    refine Sem.goto (tgt := 28) d99_9 (by decide) ?_
    refine Sem.cVp1 (t := 23) (i := 0) (as := [aN 1]) (rst := []) (c' := 0) (s' := 0) d99_28 mk91 rfl co91 lk5_97 im91 se91 rfl (vN (t := 23) (i := 0) (by decide)) (show 2 ≤ mL 91 by decide) rfl (show 0 ≤ 8 by decide) (by decide) (by decide) rfl rfl (by decide) (by decide) (m91 (N) L 1 (by decide)) ?_
    refine Sem.topNN (show (if 0 < 1 then 1 else 0) = 1 from rfl) ?_
    refine Sem.ifN (tgt := 36) d99_31 (by decide) (by decide) (fun b9 => ?_) (fun b9 => ?_)
    · exact absurd (show 1 = 0 from b9) (by decide)
    refine Sem.seg [(.iconst 0, 0, 0)] ⟨⟨d99_34, trivial⟩, trivial⟩ (lv' := [(0, aR 23 0), (1, aI x), (2, aI n)]) (st' := [aN 0]) (w' := wd (upN N 23 0 0 1) L) (P := []) rfl (trivial) (pc' := 35) rfl ?_
    refine Sem.iret rfl d99_35 (Or.inl rfl) (by decide) (by decide) hzW ⟨_, _, _, rfl, rfl, ?_⟩
    have hcode : cStock x n = 1 := by unfold cStock; (repeat' split) <;> omega
    exact ⟨rfl, fun q => absurd (hcode.symm.trans q) (by decide), fun _ => by rw [hcode]⟩

theorem m102_0 {sc : XT} (N : TN) (L : TL) (i w n : Nat) (hs : N 37 0 0 < 24) : Sem sc 102 0 [(0, aR 23 0), (1, aN 0), (2, aN i), (3, aN w), (4, aN n)] [] (wd N L) 0 0 (QP (some (aN (N 37 0 0))) (upN (upN (upN (upN N 38 0 (24 * 0 + N 37 0 0) i) 39 0 (24 * 0 + N 37 0 0) w) 40 0 (24 * 0 + N 37 0 0) n) 37 0 0 (N 37 0 0 + 1)) L) := by
  refine Sem.seg [(.bipush 24, 0, 0), (.iload_n 1, 0, 0), (.imul, 0, 0), (.aload_n 0, 0, 0), (.getfield 49, 5, 15), (.iload_n 1, 0, 0), (.iaload, 0, 0), (.iadd, 0, 0), (.istore 5, 0, 0)] ⟨⟨d102_0, trivial⟩, ⟨d102_2, trivial⟩, ⟨d102_3, trivial⟩, ⟨d102_4, trivial⟩, ⟨d102_5, gf5_49⟩, ⟨d102_8, trivial⟩, ⟨d102_9, trivial⟩, ⟨d102_10, trivial⟩, ⟨d102_11, trivial⟩, trivial⟩ (lv' := [(5, aN ((24 * 0) + (N 37 0 0))), (0, aR 23 0), (1, aN 0), (2, aN i), (3, aN w), (4, aN n)]) (st' := []) (w' := wd N L) (P := [vld NN 23 0, vld NN 37 0, 0 < 3]) rfl (⟨vN (t := 23) (i := 0) (by decide), vN (t := 37) (i := 0) (by decide), (by decide : (0 : Nat) < 3)⟩) (pc' := 13) rfl ?_
  refine Sem.seg [(.aload_n 0, 0, 0), (.getfield 52, 5, 16), (.iload 5, 0, 0), (.iload_n 2, 0, 0), (.iastore, 0, 0), (.aload_n 0, 0, 0), (.getfield 55, 5, 17), (.iload 5, 0, 0), (.iload_n 3, 0, 0)] ⟨⟨d102_13, trivial⟩, ⟨d102_14, gf5_52⟩, ⟨d102_17, trivial⟩, ⟨d102_19, trivial⟩, ⟨d102_20, trivial⟩, ⟨d102_21, trivial⟩, ⟨d102_22, gf5_55⟩, ⟨d102_25, trivial⟩, ⟨d102_27, trivial⟩, trivial⟩ (lv' := [(5, aN ((24 * 0) + (N 37 0 0))), (0, aR 23 0), (1, aN 0), (2, aN i), (3, aN w), (4, aN n)]) (st' := [aN w, aN ((24 * 0) + (N 37 0 0)), aR 39 0]) (w' := wd (upN N 38 0 ((24 * 0) + (N 37 0 0)) i) L) (P := [vld NN 23 0, vld NN 38 0, (24 * 0) + (N 37 0 0) < 72, vld NN 23 0]) rfl (⟨vN (t := 23) (i := 0) (by decide), vN (t := 38) (i := 0) (by decide), (show (24 * 0) + (N 37 0 0) < 72 by omega), vN (t := 23) (i := 0) (by decide)⟩) (pc' := 28) rfl ?_
  refine Sem.seg [(.iastore, 0, 0), (.aload_n 0, 0, 0), (.getfield 58, 5, 18), (.iload 5, 0, 0), (.iload 4, 0, 0), (.iastore, 0, 0), (.aload_n 0, 0, 0), (.getfield 49, 5, 15), (.iload_n 1, 0, 0)] ⟨⟨d102_28, trivial⟩, ⟨d102_29, trivial⟩, ⟨d102_30, gf5_58⟩, ⟨d102_33, trivial⟩, ⟨d102_35, trivial⟩, ⟨d102_37, trivial⟩, ⟨d102_38, trivial⟩, ⟨d102_39, gf5_49⟩, ⟨d102_42, trivial⟩, trivial⟩ (lv' := [(5, aN ((24 * 0) + (N 37 0 0))), (0, aR 23 0), (1, aN 0), (2, aN i), (3, aN w), (4, aN n)]) (st' := [aN 0, aR 37 0]) (w' := wd (upN (upN (upN N 38 0 ((24 * 0) + (N 37 0 0)) i) 39 0 ((24 * 0) + (N 37 0 0)) w) 40 0 ((24 * 0) + (N 37 0 0)) n) L) (P := [vld NN 39 0, (24 * 0) + (N 37 0 0) < 72, vld NN 23 0, vld NN 40 0, (24 * 0) + (N 37 0 0) < 72, vld NN 23 0]) rfl (⟨vN (t := 39) (i := 0) (by decide), (show (24 * 0) + (N 37 0 0) < 72 by omega), vN (t := 23) (i := 0) (by decide), vN (t := 40) (i := 0) (by decide), (show (24 * 0) + (N 37 0 0) < 72 by omega), vN (t := 23) (i := 0) (by decide)⟩) (pc' := 43) rfl ?_
  refine Sem.seg [(.dup2, 0, 0), (.iaload, 0, 0), (.iconst 1, 0, 0), (.iadd, 0, 0), (.iastore, 0, 0), (.aload_n 0, 0, 0), (.getfield 49, 5, 15), (.iload_n 1, 0, 0), (.iaload, 0, 0)] ⟨⟨d102_43, trivial⟩, ⟨d102_44, trivial⟩, ⟨d102_45, trivial⟩, ⟨d102_46, trivial⟩, ⟨d102_47, trivial⟩, ⟨d102_48, trivial⟩, ⟨d102_49, gf5_49⟩, ⟨d102_52, trivial⟩, ⟨d102_53, trivial⟩, trivial⟩ (lv' := [(5, aN ((24 * 0) + (N 37 0 0))), (0, aR 23 0), (1, aN 0), (2, aN i), (3, aN w), (4, aN n)]) (st' := [aN ((N 37 0 0) + 1)]) (w' := wd (upN (upN (upN (upN N 38 0 ((24 * 0) + (N 37 0 0)) i) 39 0 ((24 * 0) + (N 37 0 0)) w) 40 0 ((24 * 0) + (N 37 0 0)) n) 37 0 0 ((N 37 0 0) + 1)) L) (P := [vld NN 37 0, 0 < 3, vld NN 37 0, 0 < 3, vld NN 23 0, vld NN 37 0, 0 < 3]) rfl (⟨vN (t := 37) (i := 0) (by decide), (by decide : (0 : Nat) < 3), vN (t := 37) (i := 0) (by decide), (by decide : (0 : Nat) < 3), vN (t := 23) (i := 0) (by decide), vN (t := 37) (i := 0) (by decide), (by decide : (0 : Nat) < 3)⟩) (pc' := 54) rfl ?_
  refine Sem.seg [(.iconst 1, 0, 0), (.isub, 0, 0)] ⟨⟨d102_54, trivial⟩, ⟨d102_55, trivial⟩, trivial⟩ (lv' := [(5, aN ((24 * 0) + (N 37 0 0))), (0, aR 23 0), (1, aN 0), (2, aN i), (3, aN w), (4, aN n)]) (st' := [aI ((nI ((N 37 0 0) + 1)) - (nI 1))]) (w' := wd (upN (upN (upN (upN N 38 0 ((24 * 0) + (N 37 0 0)) i) 39 0 ((24 * 0) + (N 37 0 0)) w) 40 0 ((24 * 0) + (N 37 0 0)) n) 37 0 0 ((N 37 0 0) + 1)) L) (P := []) rfl (trivial) (pc' := 56) rfl ?_
  refine Sem.topN (show (nI ((N 37 0 0) + 1)) - (nI 1) = nI (N 37 0 0) from nI_sub (a := N 37 0 0 + 1) (b := 1) (by omega)) ?_
  exact Sem.iret rfl d102_56 (Or.inl rfl) (by decide) (by decide) hzW ⟨rfl, rfl⟩

theorem m102_1 {sc : XT} (N : TN) (L : TL) (i w n : Nat) (hs : N 37 0 1 < 24) : Sem sc 102 0 [(0, aR 23 0), (1, aN 1), (2, aN i), (3, aN w), (4, aN n)] [] (wd N L) 0 0 (QP (some (aN (N 37 0 1))) (upN (upN (upN (upN N 38 0 (24 * 1 + N 37 0 1) i) 39 0 (24 * 1 + N 37 0 1) w) 40 0 (24 * 1 + N 37 0 1) n) 37 0 1 (N 37 0 1 + 1)) L) := by
  refine Sem.seg [(.bipush 24, 0, 0), (.iload_n 1, 0, 0), (.imul, 0, 0), (.aload_n 0, 0, 0), (.getfield 49, 5, 15), (.iload_n 1, 0, 0), (.iaload, 0, 0), (.iadd, 0, 0), (.istore 5, 0, 0)] ⟨⟨d102_0, trivial⟩, ⟨d102_2, trivial⟩, ⟨d102_3, trivial⟩, ⟨d102_4, trivial⟩, ⟨d102_5, gf5_49⟩, ⟨d102_8, trivial⟩, ⟨d102_9, trivial⟩, ⟨d102_10, trivial⟩, ⟨d102_11, trivial⟩, trivial⟩ (lv' := [(5, aN ((24 * 1) + (N 37 0 1))), (0, aR 23 0), (1, aN 1), (2, aN i), (3, aN w), (4, aN n)]) (st' := []) (w' := wd N L) (P := [vld NN 23 0, vld NN 37 0, 1 < 3]) rfl (⟨vN (t := 23) (i := 0) (by decide), vN (t := 37) (i := 0) (by decide), (by decide : (1 : Nat) < 3)⟩) (pc' := 13) rfl ?_
  refine Sem.seg [(.aload_n 0, 0, 0), (.getfield 52, 5, 16), (.iload 5, 0, 0), (.iload_n 2, 0, 0), (.iastore, 0, 0), (.aload_n 0, 0, 0), (.getfield 55, 5, 17), (.iload 5, 0, 0), (.iload_n 3, 0, 0)] ⟨⟨d102_13, trivial⟩, ⟨d102_14, gf5_52⟩, ⟨d102_17, trivial⟩, ⟨d102_19, trivial⟩, ⟨d102_20, trivial⟩, ⟨d102_21, trivial⟩, ⟨d102_22, gf5_55⟩, ⟨d102_25, trivial⟩, ⟨d102_27, trivial⟩, trivial⟩ (lv' := [(5, aN ((24 * 1) + (N 37 0 1))), (0, aR 23 0), (1, aN 1), (2, aN i), (3, aN w), (4, aN n)]) (st' := [aN w, aN ((24 * 1) + (N 37 0 1)), aR 39 0]) (w' := wd (upN N 38 0 ((24 * 1) + (N 37 0 1)) i) L) (P := [vld NN 23 0, vld NN 38 0, (24 * 1) + (N 37 0 1) < 72, vld NN 23 0]) rfl (⟨vN (t := 23) (i := 0) (by decide), vN (t := 38) (i := 0) (by decide), (show (24 * 1) + (N 37 0 1) < 72 by omega), vN (t := 23) (i := 0) (by decide)⟩) (pc' := 28) rfl ?_
  refine Sem.seg [(.iastore, 0, 0), (.aload_n 0, 0, 0), (.getfield 58, 5, 18), (.iload 5, 0, 0), (.iload 4, 0, 0), (.iastore, 0, 0), (.aload_n 0, 0, 0), (.getfield 49, 5, 15), (.iload_n 1, 0, 0)] ⟨⟨d102_28, trivial⟩, ⟨d102_29, trivial⟩, ⟨d102_30, gf5_58⟩, ⟨d102_33, trivial⟩, ⟨d102_35, trivial⟩, ⟨d102_37, trivial⟩, ⟨d102_38, trivial⟩, ⟨d102_39, gf5_49⟩, ⟨d102_42, trivial⟩, trivial⟩ (lv' := [(5, aN ((24 * 1) + (N 37 0 1))), (0, aR 23 0), (1, aN 1), (2, aN i), (3, aN w), (4, aN n)]) (st' := [aN 1, aR 37 0]) (w' := wd (upN (upN (upN N 38 0 ((24 * 1) + (N 37 0 1)) i) 39 0 ((24 * 1) + (N 37 0 1)) w) 40 0 ((24 * 1) + (N 37 0 1)) n) L) (P := [vld NN 39 0, (24 * 1) + (N 37 0 1) < 72, vld NN 23 0, vld NN 40 0, (24 * 1) + (N 37 0 1) < 72, vld NN 23 0]) rfl (⟨vN (t := 39) (i := 0) (by decide), (show (24 * 1) + (N 37 0 1) < 72 by omega), vN (t := 23) (i := 0) (by decide), vN (t := 40) (i := 0) (by decide), (show (24 * 1) + (N 37 0 1) < 72 by omega), vN (t := 23) (i := 0) (by decide)⟩) (pc' := 43) rfl ?_
  refine Sem.seg [(.dup2, 0, 0), (.iaload, 0, 0), (.iconst 1, 0, 0), (.iadd, 0, 0), (.iastore, 0, 0), (.aload_n 0, 0, 0), (.getfield 49, 5, 15), (.iload_n 1, 0, 0), (.iaload, 0, 0)] ⟨⟨d102_43, trivial⟩, ⟨d102_44, trivial⟩, ⟨d102_45, trivial⟩, ⟨d102_46, trivial⟩, ⟨d102_47, trivial⟩, ⟨d102_48, trivial⟩, ⟨d102_49, gf5_49⟩, ⟨d102_52, trivial⟩, ⟨d102_53, trivial⟩, trivial⟩ (lv' := [(5, aN ((24 * 1) + (N 37 0 1))), (0, aR 23 0), (1, aN 1), (2, aN i), (3, aN w), (4, aN n)]) (st' := [aN ((N 37 0 1) + 1)]) (w' := wd (upN (upN (upN (upN N 38 0 ((24 * 1) + (N 37 0 1)) i) 39 0 ((24 * 1) + (N 37 0 1)) w) 40 0 ((24 * 1) + (N 37 0 1)) n) 37 0 1 ((N 37 0 1) + 1)) L) (P := [vld NN 37 0, 1 < 3, vld NN 37 0, 1 < 3, vld NN 23 0, vld NN 37 0, 1 < 3]) rfl (⟨vN (t := 37) (i := 0) (by decide), (by decide : (1 : Nat) < 3), vN (t := 37) (i := 0) (by decide), (by decide : (1 : Nat) < 3), vN (t := 23) (i := 0) (by decide), vN (t := 37) (i := 0) (by decide), (by decide : (1 : Nat) < 3)⟩) (pc' := 54) rfl ?_
  refine Sem.seg [(.iconst 1, 0, 0), (.isub, 0, 0)] ⟨⟨d102_54, trivial⟩, ⟨d102_55, trivial⟩, trivial⟩ (lv' := [(5, aN ((24 * 1) + (N 37 0 1))), (0, aR 23 0), (1, aN 1), (2, aN i), (3, aN w), (4, aN n)]) (st' := [aI ((nI ((N 37 0 1) + 1)) - (nI 1))]) (w' := wd (upN (upN (upN (upN N 38 0 ((24 * 1) + (N 37 0 1)) i) 39 0 ((24 * 1) + (N 37 0 1)) w) 40 0 ((24 * 1) + (N 37 0 1)) n) 37 0 1 ((N 37 0 1) + 1)) L) (P := []) rfl (trivial) (pc' := 56) rfl ?_
  refine Sem.topN (show (nI ((N 37 0 1) + 1)) - (nI 1) = nI (N 37 0 1) from nI_sub (a := N 37 0 1 + 1) (b := 1) (by omega)) ?_
  exact Sem.iret rfl d102_56 (Or.inl rfl) (by decide) (by decide) hzW ⟨rfl, rfl⟩

theorem m102_2 {sc : XT} (N : TN) (L : TL) (i w n : Nat) (hs : N 37 0 2 < 24) : Sem sc 102 0 [(0, aR 23 0), (1, aN 2), (2, aN i), (3, aN w), (4, aN n)] [] (wd N L) 0 0 (QP (some (aN (N 37 0 2))) (upN (upN (upN (upN N 38 0 (24 * 2 + N 37 0 2) i) 39 0 (24 * 2 + N 37 0 2) w) 40 0 (24 * 2 + N 37 0 2) n) 37 0 2 (N 37 0 2 + 1)) L) := by
  refine Sem.seg [(.bipush 24, 0, 0), (.iload_n 1, 0, 0), (.imul, 0, 0), (.aload_n 0, 0, 0), (.getfield 49, 5, 15), (.iload_n 1, 0, 0), (.iaload, 0, 0), (.iadd, 0, 0), (.istore 5, 0, 0)] ⟨⟨d102_0, trivial⟩, ⟨d102_2, trivial⟩, ⟨d102_3, trivial⟩, ⟨d102_4, trivial⟩, ⟨d102_5, gf5_49⟩, ⟨d102_8, trivial⟩, ⟨d102_9, trivial⟩, ⟨d102_10, trivial⟩, ⟨d102_11, trivial⟩, trivial⟩ (lv' := [(5, aN ((24 * 2) + (N 37 0 2))), (0, aR 23 0), (1, aN 2), (2, aN i), (3, aN w), (4, aN n)]) (st' := []) (w' := wd N L) (P := [vld NN 23 0, vld NN 37 0, 2 < 3]) rfl (⟨vN (t := 23) (i := 0) (by decide), vN (t := 37) (i := 0) (by decide), (by decide : (2 : Nat) < 3)⟩) (pc' := 13) rfl ?_
  refine Sem.seg [(.aload_n 0, 0, 0), (.getfield 52, 5, 16), (.iload 5, 0, 0), (.iload_n 2, 0, 0), (.iastore, 0, 0), (.aload_n 0, 0, 0), (.getfield 55, 5, 17), (.iload 5, 0, 0), (.iload_n 3, 0, 0)] ⟨⟨d102_13, trivial⟩, ⟨d102_14, gf5_52⟩, ⟨d102_17, trivial⟩, ⟨d102_19, trivial⟩, ⟨d102_20, trivial⟩, ⟨d102_21, trivial⟩, ⟨d102_22, gf5_55⟩, ⟨d102_25, trivial⟩, ⟨d102_27, trivial⟩, trivial⟩ (lv' := [(5, aN ((24 * 2) + (N 37 0 2))), (0, aR 23 0), (1, aN 2), (2, aN i), (3, aN w), (4, aN n)]) (st' := [aN w, aN ((24 * 2) + (N 37 0 2)), aR 39 0]) (w' := wd (upN N 38 0 ((24 * 2) + (N 37 0 2)) i) L) (P := [vld NN 23 0, vld NN 38 0, (24 * 2) + (N 37 0 2) < 72, vld NN 23 0]) rfl (⟨vN (t := 23) (i := 0) (by decide), vN (t := 38) (i := 0) (by decide), (show (24 * 2) + (N 37 0 2) < 72 by omega), vN (t := 23) (i := 0) (by decide)⟩) (pc' := 28) rfl ?_
  refine Sem.seg [(.iastore, 0, 0), (.aload_n 0, 0, 0), (.getfield 58, 5, 18), (.iload 5, 0, 0), (.iload 4, 0, 0), (.iastore, 0, 0), (.aload_n 0, 0, 0), (.getfield 49, 5, 15), (.iload_n 1, 0, 0)] ⟨⟨d102_28, trivial⟩, ⟨d102_29, trivial⟩, ⟨d102_30, gf5_58⟩, ⟨d102_33, trivial⟩, ⟨d102_35, trivial⟩, ⟨d102_37, trivial⟩, ⟨d102_38, trivial⟩, ⟨d102_39, gf5_49⟩, ⟨d102_42, trivial⟩, trivial⟩ (lv' := [(5, aN ((24 * 2) + (N 37 0 2))), (0, aR 23 0), (1, aN 2), (2, aN i), (3, aN w), (4, aN n)]) (st' := [aN 2, aR 37 0]) (w' := wd (upN (upN (upN N 38 0 ((24 * 2) + (N 37 0 2)) i) 39 0 ((24 * 2) + (N 37 0 2)) w) 40 0 ((24 * 2) + (N 37 0 2)) n) L) (P := [vld NN 39 0, (24 * 2) + (N 37 0 2) < 72, vld NN 23 0, vld NN 40 0, (24 * 2) + (N 37 0 2) < 72, vld NN 23 0]) rfl (⟨vN (t := 39) (i := 0) (by decide), (show (24 * 2) + (N 37 0 2) < 72 by omega), vN (t := 23) (i := 0) (by decide), vN (t := 40) (i := 0) (by decide), (show (24 * 2) + (N 37 0 2) < 72 by omega), vN (t := 23) (i := 0) (by decide)⟩) (pc' := 43) rfl ?_
  refine Sem.seg [(.dup2, 0, 0), (.iaload, 0, 0), (.iconst 1, 0, 0), (.iadd, 0, 0), (.iastore, 0, 0), (.aload_n 0, 0, 0), (.getfield 49, 5, 15), (.iload_n 1, 0, 0), (.iaload, 0, 0)] ⟨⟨d102_43, trivial⟩, ⟨d102_44, trivial⟩, ⟨d102_45, trivial⟩, ⟨d102_46, trivial⟩, ⟨d102_47, trivial⟩, ⟨d102_48, trivial⟩, ⟨d102_49, gf5_49⟩, ⟨d102_52, trivial⟩, ⟨d102_53, trivial⟩, trivial⟩ (lv' := [(5, aN ((24 * 2) + (N 37 0 2))), (0, aR 23 0), (1, aN 2), (2, aN i), (3, aN w), (4, aN n)]) (st' := [aN ((N 37 0 2) + 1)]) (w' := wd (upN (upN (upN (upN N 38 0 ((24 * 2) + (N 37 0 2)) i) 39 0 ((24 * 2) + (N 37 0 2)) w) 40 0 ((24 * 2) + (N 37 0 2)) n) 37 0 2 ((N 37 0 2) + 1)) L) (P := [vld NN 37 0, 2 < 3, vld NN 37 0, 2 < 3, vld NN 23 0, vld NN 37 0, 2 < 3]) rfl (⟨vN (t := 37) (i := 0) (by decide), (by decide : (2 : Nat) < 3), vN (t := 37) (i := 0) (by decide), (by decide : (2 : Nat) < 3), vN (t := 23) (i := 0) (by decide), vN (t := 37) (i := 0) (by decide), (by decide : (2 : Nat) < 3)⟩) (pc' := 54) rfl ?_
  refine Sem.seg [(.iconst 1, 0, 0), (.isub, 0, 0)] ⟨⟨d102_54, trivial⟩, ⟨d102_55, trivial⟩, trivial⟩ (lv' := [(5, aN ((24 * 2) + (N 37 0 2))), (0, aR 23 0), (1, aN 2), (2, aN i), (3, aN w), (4, aN n)]) (st' := [aI ((nI ((N 37 0 2) + 1)) - (nI 1))]) (w' := wd (upN (upN (upN (upN N 38 0 ((24 * 2) + (N 37 0 2)) i) 39 0 ((24 * 2) + (N 37 0 2)) w) 40 0 ((24 * 2) + (N 37 0 2)) n) 37 0 2 ((N 37 0 2) + 1)) L) (P := []) rfl (trivial) (pc' := 56) rfl ?_
  refine Sem.topN (show (nI ((N 37 0 2) + 1)) - (nI 1) = nI (N 37 0 2) from nI_sub (a := N 37 0 2 + 1) (b := 1) (by omega)) ?_
  exact Sem.iret rfl d102_56 (Or.inl rfl) (by decide) (by decide) hzW ⟨rfl, rfl⟩

theorem m101_0 {sc : XT} (N : TN) (L : TL) (x w n : Int32) (hs : N 37 0 0 ≤ 24) : Sem sc 101 0 [(0, aR 23 0), (1, aN 0), (2, aI x), (3, aI w), (4, aI n)] [] (wd N L) 0 0 (QZ fun z N' L' => L = L' ∧ (cTell (N 37 0 0) x w n = 0 → z = N 37 0 0 ∧ N' = upN (upN (upN (upN (upN (upN (upN N 23 0 0 0) 41 0 x.toInt.toNat 1) 23 0 20 1) 38 0 (24 * 0 + N 37 0 0) x.toInt.toNat) 39 0 (24 * 0 + N 37 0 0) w.toInt.toNat) 40 0 (24 * 0 + N 37 0 0) n.toInt.toNat) 37 0 0 (N 37 0 0 + 1)) ∧ (¬ cTell (N 37 0 0) x w n = 0 → N' = upN N 23 0 0 (cTell (N 37 0 0) x w n))) := by
  refine Sem.seg [(.aload_n 0, 0, 0), (.iload_n 2, 0, 0)] ⟨⟨d101_0, trivial⟩, ⟨d101_1, trivial⟩, trivial⟩ (lv' := [(0, aR 23 0), (1, aN 0), (2, aI x), (3, aI w), (4, aI n)]) (st' := [aI x, aR 23 0]) (w' := wd N L) (P := []) rfl (trivial) (pc' := 2) rfl ?_
  by_cases h1 : 0 ≤ x.toInt ∧ x.toInt < 12
  case pos =>
    refine Sem.cSp1 (as := [aI x]) (rst := [aR 23 0]) (c' := 0) (s' := 0) d101_2 mk90 rfl co90 lk5_93 ss90 (show 1 ≤ mL 90 by decide) rfl (show 1 ≤ 8 by decide) (by decide) (by decide) rfl rfl (by decide) (by decide) (m90 (N) L x) ?_
    refine Sem.topNN (if_pos h1) ?_
    refine Sem.ifN (tgt := 15) d101_5 (by decide) (by decide) (fun b2 => ?_) (fun b2 => ?_)
    · exact absurd (show 1 = 0 from b2) (by decide)
    refine Sem.seg [(.iload_n 3, 0, 0)] ⟨⟨d101_8, trivial⟩, trivial⟩ (lv' := [(0, aR 23 0), (1, aN 0), (2, aI x), (3, aI w), (4, aI n)]) (st' := [aI w, aR 23 0]) (w' := wd N L) (P := []) rfl (trivial) (pc' := 9) rfl ?_
    by_cases h3 : 0 ≤ w.toInt ∧ w.toInt < 12
    case pos =>
      refine Sem.cSp1 (as := [aI w]) (rst := [aR 23 0]) (c' := 0) (s' := 0) d101_9 mk90 rfl co90 lk5_93 ss90 (show 1 ≤ mL 90 by decide) rfl (show 1 ≤ 8 by decide) (by decide) (by decide) rfl rfl (by decide) (by decide) (m90 (N) L w) ?_
      refine Sem.topNN (if_pos h3) ?_
      refine Sem.ifN (tgt := 19) d101_12 (by decide) (by decide) (fun b4 => ?_) (fun b4 => ?_)
      rotate_left
      · exact absurd (show ¬ 1 = 0 from by decide) b4
      refine Sem.seg [(.iload 4, 0, 0), (.iconst 0, 0, 0), (.sipush 1000, 0, 0)] ⟨⟨d101_19, trivial⟩, ⟨d101_21, trivial⟩, ⟨d101_22, trivial⟩, trivial⟩ (lv' := [(0, aR 23 0), (1, aN 0), (2, aI x), (3, aI w), (4, aI n)]) (st' := [aN 1000, aN 0, aI n, aR 23 0]) (w' := wd N L) (P := []) rfl (trivial) (pc' := 25) rfl ?_
      by_cases h5 : ((0 : Nat) : Int) ≤ n.toInt ∧ n.toInt ≤ ((1000 : Nat) : Int)
      case pos =>
        refine Sem.cSp1 (as := [aI n, aN 0, aN 1000]) (rst := [aR 23 0]) (c' := 0) (s' := 0) d101_25 mk89 rfl co89 lk5_89 ss89 (show 3 ≤ mL 89 by decide) rfl (show 1 ≤ 8 by decide) (by decide) (by decide) rfl rfl (by decide) (by decide) (m89 (N) L n 0 1000 (by decide) (by decide)) ?_
        refine Sem.topNN (if_pos h5) ?_
        refine Sem.ifN (tgt := 35) d101_28 (by decide) (by decide) (fun b6 => ?_) (fun b6 => ?_)
        rotate_left
        · exact absurd (show ¬ 1 = 0 from by decide) b6
        refine Sem.seg [(.aload_n 0, 0, 0), (.getfield 49, 5, 15), (.iload_n 1, 0, 0), (.iaload, 0, 0), (.bipush 24, 0, 0)] ⟨⟨d101_35, trivial⟩, ⟨d101_36, gf5_49⟩, ⟨d101_39, trivial⟩, ⟨d101_40, trivial⟩, ⟨d101_41, trivial⟩, trivial⟩ (lv' := [(0, aR 23 0), (1, aN 0), (2, aI x), (3, aI w), (4, aI n)]) (st' := [aN 24, aN (N 37 0 0), aR 23 0]) (w' := wd N L) (P := [vld NN 23 0, vld NN 37 0, 0 < 3]) rfl (⟨vN (t := 23) (i := 0) (by decide), vN (t := 37) (i := 0) (by decide), (by decide : (0 : Nat) < 3)⟩) (pc' := 43) rfl ?_
        refine Sem.icmpN (tgt := 50) d101_43 (by decide) (show N 37 0 0 < 2 ^ 31 by omega) (by decide) (fun b7 => ?_) (fun b7 => ?_)
        · have b7_ : ¬ N 37 0 0 = 24 := b7
          refine Sem.seg [(.iconst 0, 0, 0)] ⟨⟨d101_50, trivial⟩, trivial⟩ (lv' := [(0, aR 23 0), (1, aN 0), (2, aI x), (3, aI w), (4, aI n)]) (st' := [aN 0, aR 23 0]) (w' := wd N L) (P := []) rfl (trivial) (pc' := 51) rfl ?_
          refine Sem.cVp1 (t := 23) (i := 0) (as := [aN 0]) (rst := []) (c' := 0) (s' := 0) d101_51 mk91 rfl co91 lk5_97 im91 se91 rfl (vN (t := 23) (i := 0) (by decide)) (show 2 ≤ mL 91 by decide) rfl (show 0 ≤ 8 by decide) (by decide) (by decide) rfl rfl (by decide) (by decide) (m91 (N) L 0 (by decide)) ?_
          refine Sem.topNN (show (if 0 < 0 then 1 else 0) = 0 from rfl) ?_
          refine Sem.ifN (tgt := 59) d101_54 (by decide) (by decide) (fun b8 => ?_) (fun b8 => ?_)
          rotate_left
          · exact absurd (show 0 = 0 from by decide) b8
          refine Sem.pick [2, 0, 1, 3, 4] (lv' := [(2, aI x), (0, aR 23 0), (1, aN 0), (3, aI w), (4, aI n)]) rfl ?_
          refine Sem.loc0 (show x = nI x.toInt.toNat from i_nI2 (by omega)) ?_
          refine Sem.pick [3, 0, 1, 2, 4] (lv' := [(3, aI w), (2, aN x.toInt.toNat), (0, aR 23 0), (1, aN 0), (4, aI n)]) rfl ?_
          refine Sem.loc0 (show w = nI w.toInt.toNat from i_nI2 (by omega)) ?_
          refine Sem.pick [4, 0, 1, 2, 3] (lv' := [(4, aI n), (3, aN w.toInt.toNat), (2, aN x.toInt.toNat), (0, aR 23 0), (1, aN 0)]) rfl ?_
          refine Sem.loc0 (show n = nI n.toInt.toNat from i_nI2 (by omega)) ?_
          refine Sem.seg [(.aload_n 0, 0, 0), (.iload_n 2, 0, 0)] ⟨⟨d101_59, trivial⟩, ⟨d101_60, trivial⟩, trivial⟩ (lv' := [(4, aN n.toInt.toNat), (3, aN w.toInt.toNat), (2, aN x.toInt.toNat), (0, aR 23 0), (1, aN 0)]) (st' := [aN x.toInt.toNat, aR 23 0]) (w' := wd (upN N 23 0 0 0) L) (P := []) rfl (trivial) (pc' := 61) rfl ?_
          refine Sem.cVp0 (t := 23) (i := 0) (as := [aN x.toInt.toNat]) (rst := []) (c' := 0) (s' := 0) d101_61 mk92 rfl co92 lk5_100 im92 se92 rfl (vN (t := 23) (i := 0) (by decide)) (show 2 ≤ mL 92 by decide) rfl (show 0 ≤ 8 by decide) (by decide) (by decide) rfl rfl (by decide) (by decide) (m92 (upN N 23 0 0 0) L x.toInt.toNat (by first | omega | assumption)) ?_
          refine Sem.seg [(.aload_n 0, 0, 0), (.iload_n 1, 0, 0), (.iload_n 2, 0, 0), (.iload_n 3, 0, 0), (.iload 4, 0, 0)] ⟨⟨d101_64, trivial⟩, ⟨d101_65, trivial⟩, ⟨d101_66, trivial⟩, ⟨d101_67, trivial⟩, ⟨d101_68, trivial⟩, trivial⟩ (lv' := [(4, aN n.toInt.toNat), (3, aN w.toInt.toNat), (2, aN x.toInt.toNat), (0, aR 23 0), (1, aN 0)]) (st' := [aN n.toInt.toNat, aN w.toInt.toNat, aN x.toInt.toNat, aN 0, aR 23 0]) (w' := wd (upN (upN (upN N 23 0 0 0) 41 0 x.toInt.toNat 1) 23 0 20 1) L) (P := []) rfl (trivial) (pc' := 70) rfl ?_
          refine Sem.cVp1 (t := 23) (i := 0) (as := [aN 0, aN x.toInt.toNat, aN w.toInt.toNat, aN n.toInt.toNat]) (rst := []) (c' := 0) (s' := 0) d101_70 mk102 rfl co102 lk5_120 im102 se102 rfl (vN (t := 23) (i := 0) (by decide)) (show 5 ≤ mL 102 by decide) rfl (show 0 ≤ 8 by decide) (by decide) (by decide) rfl rfl (by decide) (by decide) (m102_0 (upN (upN (upN N 23 0 0 0) 41 0 x.toInt.toNat 1) 23 0 20 1) L x.toInt.toNat w.toInt.toNat n.toInt.toNat (show N 37 0 0 < 24 by omega)) ?_
          refine Sem.iret rfl d101_73 (Or.inl rfl) (by decide) (by decide) hzW ⟨_, _, _, rfl, rfl, ?_⟩
          have hcode : cTell (N 37 0 0) x w n = 0 := by unfold cTell; (repeat' split) <;> omega
          exact ⟨rfl, fun _ => ⟨rfl, rfl⟩, fun q => absurd hcode q⟩
        · have b7_ : ¬ (¬ N 37 0 0 = 24) := b7
          refine Sem.seg [(.iconst 3, 0, 0)] ⟨⟨d101_46, trivial⟩, trivial⟩ (lv' := [(0, aR 23 0), (1, aN 0), (2, aI x), (3, aI w), (4, aI n)]) (st' := [aN 3, aR 23 0]) (w' := wd N L) (P := []) rfl (trivial) (pc' := 47) rfl ?_
          refine Sem.goto (tgt := 51) d101_47 (by decide) ?_
          refine Sem.cVp1 (t := 23) (i := 0) (as := [aN 3]) (rst := []) (c' := 0) (s' := 0) d101_51 mk91 rfl co91 lk5_97 im91 se91 rfl (vN (t := 23) (i := 0) (by decide)) (show 2 ≤ mL 91 by decide) rfl (show 0 ≤ 8 by decide) (by decide) (by decide) rfl rfl (by decide) (by decide) (m91 (N) L 3 (by decide)) ?_
          refine Sem.topNN (show (if 0 < 3 then 1 else 0) = 1 from rfl) ?_
          refine Sem.ifN (tgt := 59) d101_54 (by decide) (by decide) (fun b9 => ?_) (fun b9 => ?_)
          · exact absurd (show 1 = 0 from b9) (by decide)
          refine Sem.seg [(.iconst 0, 0, 0)] ⟨⟨d101_57, trivial⟩, trivial⟩ (lv' := [(0, aR 23 0), (1, aN 0), (2, aI x), (3, aI w), (4, aI n)]) (st' := [aN 0]) (w' := wd (upN N 23 0 0 3) L) (P := []) rfl (trivial) (pc' := 58) rfl ?_
          refine Sem.iret rfl d101_58 (Or.inl rfl) (by decide) (by decide) hzW ⟨_, _, _, rfl, rfl, ?_⟩
          have hcode : cTell (N 37 0 0) x w n = 3 := by unfold cTell; (repeat' split) <;> omega
          exact ⟨rfl, fun q => absurd (hcode.symm.trans q) (by decide), fun _ => by rw [hcode]⟩
      case neg =>
        refine Sem.cSp1 (as := [aI n, aN 0, aN 1000]) (rst := [aR 23 0]) (c' := 0) (s' := 0) d101_25 mk89 rfl co89 lk5_89 ss89 (show 3 ≤ mL 89 by decide) rfl (show 1 ≤ 8 by decide) (by decide) (by decide) rfl rfl (by decide) (by decide) (m89 (N) L n 0 1000 (by decide) (by decide)) ?_
        refine Sem.topNN (if_neg h5) ?_
        refine Sem.ifN (tgt := 35) d101_28 (by decide) (by decide) (fun b10 => ?_) (fun b10 => ?_)
        · exact absurd (show ¬ 0 = 0 from b10) (by decide)
        refine Sem.seg [(.iconst 2, 0, 0)] ⟨⟨d101_31, trivial⟩, trivial⟩ (lv' := [(0, aR 23 0), (1, aN 0), (2, aI x), (3, aI w), (4, aI n)]) (st' := [aN 2, aR 23 0]) (w' := wd N L) (P := []) rfl (trivial) (pc' := 32) rfl ?_
        refine Sem.goto (tgt := 51) d101_32 (by decide) ?_
        refine Sem.cVp1 (t := 23) (i := 0) (as := [aN 2]) (rst := []) (c' := 0) (s' := 0) d101_51 mk91 rfl co91 lk5_97 im91 se91 rfl (vN (t := 23) (i := 0) (by decide)) (show 2 ≤ mL 91 by decide) rfl (show 0 ≤ 8 by decide) (by decide) (by decide) rfl rfl (by decide) (by decide) (m91 (N) L 2 (by decide)) ?_
        refine Sem.topNN (show (if 0 < 2 then 1 else 0) = 1 from rfl) ?_
        refine Sem.ifN (tgt := 59) d101_54 (by decide) (by decide) (fun b11 => ?_) (fun b11 => ?_)
        · exact absurd (show 1 = 0 from b11) (by decide)
        refine Sem.seg [(.iconst 0, 0, 0)] ⟨⟨d101_57, trivial⟩, trivial⟩ (lv' := [(0, aR 23 0), (1, aN 0), (2, aI x), (3, aI w), (4, aI n)]) (st' := [aN 0]) (w' := wd (upN N 23 0 0 2) L) (P := []) rfl (trivial) (pc' := 58) rfl ?_
        refine Sem.iret rfl d101_58 (Or.inl rfl) (by decide) (by decide) hzW ⟨_, _, _, rfl, rfl, ?_⟩
        have hcode : cTell (N 37 0 0) x w n = 2 := by unfold cTell; (repeat' split) <;> omega
        exact ⟨rfl, fun q => absurd (hcode.symm.trans q) (by decide), fun _ => by rw [hcode]⟩
    case neg =>
      refine Sem.cSp1 (as := [aI w]) (rst := [aR 23 0]) (c' := 0) (s' := 0) d101_9 mk90 rfl co90 lk5_93 ss90 (show 1 ≤ mL 90 by decide) rfl (show 1 ≤ 8 by decide) (by decide) (by decide) rfl rfl (by decide) (by decide) (m90 (N) L w) ?_
      refine Sem.topNN (if_neg h3) ?_
      refine Sem.ifN (tgt := 19) d101_12 (by decide) (by decide) (fun b12 => ?_) (fun b12 => ?_)
      · exact absurd (show ¬ 0 = 0 from b12) (by decide)
      refine Sem.seg [(.iconst 1, 0, 0)] ⟨⟨d101_15, trivial⟩, trivial⟩ (lv' := [(0, aR 23 0), (1, aN 0), (2, aI x), (3, aI w), (4, aI n)]) (st' := [aN 1, aR 23 0]) (w' := wd N L) (P := []) rfl (trivial) (pc' := 16) rfl ?_
      refine Sem.goto (tgt := 51) d101_16 (by decide) ?_
      refine Sem.cVp1 (t := 23) (i := 0) (as := [aN 1]) (rst := []) (c' := 0) (s' := 0) d101_51 mk91 rfl co91 lk5_97 im91 se91 rfl (vN (t := 23) (i := 0) (by decide)) (show 2 ≤ mL 91 by decide) rfl (show 0 ≤ 8 by decide) (by decide) (by decide) rfl rfl (by decide) (by decide) (m91 (N) L 1 (by decide)) ?_
      refine Sem.topNN (show (if 0 < 1 then 1 else 0) = 1 from rfl) ?_
      refine Sem.ifN (tgt := 59) d101_54 (by decide) (by decide) (fun b13 => ?_) (fun b13 => ?_)
      · exact absurd (show 1 = 0 from b13) (by decide)
      refine Sem.seg [(.iconst 0, 0, 0)] ⟨⟨d101_57, trivial⟩, trivial⟩ (lv' := [(0, aR 23 0), (1, aN 0), (2, aI x), (3, aI w), (4, aI n)]) (st' := [aN 0]) (w' := wd (upN N 23 0 0 1) L) (P := []) rfl (trivial) (pc' := 58) rfl ?_
      refine Sem.iret rfl d101_58 (Or.inl rfl) (by decide) (by decide) hzW ⟨_, _, _, rfl, rfl, ?_⟩
      have hcode : cTell (N 37 0 0) x w n = 1 := by unfold cTell; (repeat' split) <;> omega
      exact ⟨rfl, fun q => absurd (hcode.symm.trans q) (by decide), fun _ => by rw [hcode]⟩
  case neg =>
    refine Sem.cSp1 (as := [aI x]) (rst := [aR 23 0]) (c' := 0) (s' := 0) d101_2 mk90 rfl co90 lk5_93 ss90 (show 1 ≤ mL 90 by decide) rfl (show 1 ≤ 8 by decide) (by decide) (by decide) rfl rfl (by decide) (by decide) (m90 (N) L x) ?_
    refine Sem.topNN (if_neg h1) ?_
    refine Sem.ifN (tgt := 15) d101_5 (by decide) (by decide) (fun b14 => ?_) (fun b14 => ?_)
    rotate_left
    · exact absurd (show 0 = 0 from by decide) b14
    refine Sem.seg [(.iconst 1, 0, 0)] ⟨⟨d101_15, trivial⟩, trivial⟩ (lv' := [(0, aR 23 0), (1, aN 0), (2, aI x), (3, aI w), (4, aI n)]) (st' := [aN 1, aR 23 0]) (w' := wd N L) (P := []) rfl (trivial) (pc' := 16) rfl ?_
    refine Sem.goto (tgt := 51) d101_16 (by decide) ?_
    refine Sem.cVp1 (t := 23) (i := 0) (as := [aN 1]) (rst := []) (c' := 0) (s' := 0) d101_51 mk91 rfl co91 lk5_97 im91 se91 rfl (vN (t := 23) (i := 0) (by decide)) (show 2 ≤ mL 91 by decide) rfl (show 0 ≤ 8 by decide) (by decide) (by decide) rfl rfl (by decide) (by decide) (m91 (N) L 1 (by decide)) ?_
    refine Sem.topNN (show (if 0 < 1 then 1 else 0) = 1 from rfl) ?_
    refine Sem.ifN (tgt := 59) d101_54 (by decide) (by decide) (fun b15 => ?_) (fun b15 => ?_)
    · exact absurd (show 1 = 0 from b15) (by decide)
    refine Sem.seg [(.iconst 0, 0, 0)] ⟨⟨d101_57, trivial⟩, trivial⟩ (lv' := [(0, aR 23 0), (1, aN 0), (2, aI x), (3, aI w), (4, aI n)]) (st' := [aN 0]) (w' := wd (upN N 23 0 0 1) L) (P := []) rfl (trivial) (pc' := 58) rfl ?_
    refine Sem.iret rfl d101_58 (Or.inl rfl) (by decide) (by decide) hzW ⟨_, _, _, rfl, rfl, ?_⟩
    have hcode : cTell (N 37 0 0) x w n = 1 := by unfold cTell; (repeat' split) <;> omega
    exact ⟨rfl, fun q => absurd (hcode.symm.trans q) (by decide), fun _ => by rw [hcode]⟩

theorem m100 {sc : XT} (N : TN) (L : TL) (x w n : Int32) (hs : N 37 0 0 ≤ 24) : Sem sc 100 0 [(0, aR 23 0), (1, aI x), (2, aI w), (3, aI n)] [] (wd N L) 0 0 (QZ fun z N' L' => L = L' ∧ (cTell (N 37 0 0) x w n = 0 → z = N 37 0 0 ∧ N' = upN (upN (upN (upN (upN (upN (upN N 23 0 0 0) 41 0 x.toInt.toNat 1) 23 0 20 1) 38 0 (24 * 0 + N 37 0 0) x.toInt.toNat) 39 0 (24 * 0 + N 37 0 0) w.toInt.toNat) 40 0 (24 * 0 + N 37 0 0) n.toInt.toNat) 37 0 0 (N 37 0 0 + 1)) ∧ (¬ cTell (N 37 0 0) x w n = 0 → N' = upN N 23 0 0 (cTell (N 37 0 0) x w n))) := by
  refine Sem.seg [(.aload_n 0, 0, 0), (.iconst 0, 0, 0), (.iload_n 1, 0, 0), (.iload_n 2, 0, 0), (.iload_n 3, 0, 0)] ⟨⟨d100_0, trivial⟩, ⟨d100_1, trivial⟩, ⟨d100_2, trivial⟩, ⟨d100_3, trivial⟩, ⟨d100_4, trivial⟩, trivial⟩ (lv' := [(0, aR 23 0), (1, aI x), (2, aI w), (3, aI n)]) (st' := [aI n, aI w, aI x, aN 0, aR 23 0]) (w' := wd N L) (P := []) rfl (trivial) (pc' := 5) rfl ?_
  refine Sem.cVmN (t := 23) (i := 0) (as := [aN 0, aI x, aI w, aI n]) (rst := []) (c' := 0) (s' := 0) d100_5 mk101 rfl co101 lk5_124 im101 se101 rfl (vN (t := 23) (i := 0) (by decide)) (show 5 ≤ mL 101 by decide) rfl (show 0 ≤ 8 by decide) (by decide) (by decide) rfl rfl (by decide) (by decide) (m101_0 N L x w n hs) ?_
  rintro z N1 L1 hq
  exact Sem.iret rfl d100_8 (Or.inl rfl) (by decide) (by decide) hzW ⟨_, _, _, rfl, rfl, by exact hq⟩

theorem m101_1 {sc : XT} (N : TN) (L : TL) (x w n : Int32) (hs : N 37 0 1 ≤ 24) : Sem sc 101 0 [(0, aR 23 0), (1, aN 1), (2, aI x), (3, aI w), (4, aI n)] [] (wd N L) 0 0 (QZ fun z N' L' => L = L' ∧ (cTell (N 37 0 1) x w n = 0 → z = N 37 0 1 ∧ N' = upN (upN (upN (upN (upN (upN (upN N 23 0 0 0) 41 0 x.toInt.toNat 1) 23 0 20 1) 38 0 (24 * 1 + N 37 0 1) x.toInt.toNat) 39 0 (24 * 1 + N 37 0 1) w.toInt.toNat) 40 0 (24 * 1 + N 37 0 1) n.toInt.toNat) 37 0 1 (N 37 0 1 + 1)) ∧ (¬ cTell (N 37 0 1) x w n = 0 → N' = upN N 23 0 0 (cTell (N 37 0 1) x w n))) := by
  refine Sem.seg [(.aload_n 0, 0, 0), (.iload_n 2, 0, 0)] ⟨⟨d101_0, trivial⟩, ⟨d101_1, trivial⟩, trivial⟩ (lv' := [(0, aR 23 0), (1, aN 1), (2, aI x), (3, aI w), (4, aI n)]) (st' := [aI x, aR 23 0]) (w' := wd N L) (P := []) rfl (trivial) (pc' := 2) rfl ?_
  by_cases h1 : 0 ≤ x.toInt ∧ x.toInt < 12
  case pos =>
    refine Sem.cSp1 (as := [aI x]) (rst := [aR 23 0]) (c' := 0) (s' := 0) d101_2 mk90 rfl co90 lk5_93 ss90 (show 1 ≤ mL 90 by decide) rfl (show 1 ≤ 8 by decide) (by decide) (by decide) rfl rfl (by decide) (by decide) (m90 (N) L x) ?_
    refine Sem.topNN (if_pos h1) ?_
    refine Sem.ifN (tgt := 15) d101_5 (by decide) (by decide) (fun b2 => ?_) (fun b2 => ?_)
    · exact absurd (show 1 = 0 from b2) (by decide)
    refine Sem.seg [(.iload_n 3, 0, 0)] ⟨⟨d101_8, trivial⟩, trivial⟩ (lv' := [(0, aR 23 0), (1, aN 1), (2, aI x), (3, aI w), (4, aI n)]) (st' := [aI w, aR 23 0]) (w' := wd N L) (P := []) rfl (trivial) (pc' := 9) rfl ?_
    by_cases h3 : 0 ≤ w.toInt ∧ w.toInt < 12
    case pos =>
      refine Sem.cSp1 (as := [aI w]) (rst := [aR 23 0]) (c' := 0) (s' := 0) d101_9 mk90 rfl co90 lk5_93 ss90 (show 1 ≤ mL 90 by decide) rfl (show 1 ≤ 8 by decide) (by decide) (by decide) rfl rfl (by decide) (by decide) (m90 (N) L w) ?_
      refine Sem.topNN (if_pos h3) ?_
      refine Sem.ifN (tgt := 19) d101_12 (by decide) (by decide) (fun b4 => ?_) (fun b4 => ?_)
      rotate_left
      · exact absurd (show ¬ 1 = 0 from by decide) b4
      refine Sem.seg [(.iload 4, 0, 0), (.iconst 0, 0, 0), (.sipush 1000, 0, 0)] ⟨⟨d101_19, trivial⟩, ⟨d101_21, trivial⟩, ⟨d101_22, trivial⟩, trivial⟩ (lv' := [(0, aR 23 0), (1, aN 1), (2, aI x), (3, aI w), (4, aI n)]) (st' := [aN 1000, aN 0, aI n, aR 23 0]) (w' := wd N L) (P := []) rfl (trivial) (pc' := 25) rfl ?_
      by_cases h5 : ((0 : Nat) : Int) ≤ n.toInt ∧ n.toInt ≤ ((1000 : Nat) : Int)
      case pos =>
        refine Sem.cSp1 (as := [aI n, aN 0, aN 1000]) (rst := [aR 23 0]) (c' := 0) (s' := 0) d101_25 mk89 rfl co89 lk5_89 ss89 (show 3 ≤ mL 89 by decide) rfl (show 1 ≤ 8 by decide) (by decide) (by decide) rfl rfl (by decide) (by decide) (m89 (N) L n 0 1000 (by decide) (by decide)) ?_
        refine Sem.topNN (if_pos h5) ?_
        refine Sem.ifN (tgt := 35) d101_28 (by decide) (by decide) (fun b6 => ?_) (fun b6 => ?_)
        rotate_left
        · exact absurd (show ¬ 1 = 0 from by decide) b6
        refine Sem.seg [(.aload_n 0, 0, 0), (.getfield 49, 5, 15), (.iload_n 1, 0, 0), (.iaload, 0, 0), (.bipush 24, 0, 0)] ⟨⟨d101_35, trivial⟩, ⟨d101_36, gf5_49⟩, ⟨d101_39, trivial⟩, ⟨d101_40, trivial⟩, ⟨d101_41, trivial⟩, trivial⟩ (lv' := [(0, aR 23 0), (1, aN 1), (2, aI x), (3, aI w), (4, aI n)]) (st' := [aN 24, aN (N 37 0 1), aR 23 0]) (w' := wd N L) (P := [vld NN 23 0, vld NN 37 0, 1 < 3]) rfl (⟨vN (t := 23) (i := 0) (by decide), vN (t := 37) (i := 0) (by decide), (by decide : (1 : Nat) < 3)⟩) (pc' := 43) rfl ?_
        refine Sem.icmpN (tgt := 50) d101_43 (by decide) (show N 37 0 1 < 2 ^ 31 by omega) (by decide) (fun b7 => ?_) (fun b7 => ?_)
        · have b7_ : ¬ N 37 0 1 = 24 := b7
          refine Sem.seg [(.iconst 0, 0, 0)] ⟨⟨d101_50, trivial⟩, trivial⟩ (lv' := [(0, aR 23 0), (1, aN 1), (2, aI x), (3, aI w), (4, aI n)]) (st' := [aN 0, aR 23 0]) (w' := wd N L) (P := []) rfl (trivial) (pc' := 51) rfl ?_
          refine Sem.cVp1 (t := 23) (i := 0) (as := [aN 0]) (rst := []) (c' := 0) (s' := 0) d101_51 mk91 rfl co91 lk5_97 im91 se91 rfl (vN (t := 23) (i := 0) (by decide)) (show 2 ≤ mL 91 by decide) rfl (show 0 ≤ 8 by decide) (by decide) (by decide) rfl rfl (by decide) (by decide) (m91 (N) L 0 (by decide)) ?_
          refine Sem.topNN (show (if 0 < 0 then 1 else 0) = 0 from rfl) ?_
          refine Sem.ifN (tgt := 59) d101_54 (by decide) (by decide) (fun b8 => ?_) (fun b8 => ?_)
          rotate_left
          · exact absurd (show 0 = 0 from by decide) b8
          refine Sem.pick [2, 0, 1, 3, 4] (lv' := [(2, aI x), (0, aR 23 0), (1, aN 1), (3, aI w), (4, aI n)]) rfl ?_
          refine Sem.loc0 (show x = nI x.toInt.toNat from i_nI2 (by omega)) ?_
          refine Sem.pick [3, 0, 1, 2, 4] (lv' := [(3, aI w), (2, aN x.toInt.toNat), (0, aR 23 0), (1, aN 1), (4, aI n)]) rfl ?_
          refine Sem.loc0 (show w = nI w.toInt.toNat from i_nI2 (by omega)) ?_
          refine Sem.pick [4, 0, 1, 2, 3] (lv' := [(4, aI n), (3, aN w.toInt.toNat), (2, aN x.toInt.toNat), (0, aR 23 0), (1, aN 1)]) rfl ?_
          refine Sem.loc0 (show n = nI n.toInt.toNat from i_nI2 (by omega)) ?_
          refine Sem.seg [(.aload_n 0, 0, 0), (.iload_n 2, 0, 0)] ⟨⟨d101_59, trivial⟩, ⟨d101_60, trivial⟩, trivial⟩ (lv' := [(4, aN n.toInt.toNat), (3, aN w.toInt.toNat), (2, aN x.toInt.toNat), (0, aR 23 0), (1, aN 1)]) (st' := [aN x.toInt.toNat, aR 23 0]) (w' := wd (upN N 23 0 0 0) L) (P := []) rfl (trivial) (pc' := 61) rfl ?_
          refine Sem.cVp0 (t := 23) (i := 0) (as := [aN x.toInt.toNat]) (rst := []) (c' := 0) (s' := 0) d101_61 mk92 rfl co92 lk5_100 im92 se92 rfl (vN (t := 23) (i := 0) (by decide)) (show 2 ≤ mL 92 by decide) rfl (show 0 ≤ 8 by decide) (by decide) (by decide) rfl rfl (by decide) (by decide) (m92 (upN N 23 0 0 0) L x.toInt.toNat (by first | omega | assumption)) ?_
          refine Sem.seg [(.aload_n 0, 0, 0), (.iload_n 1, 0, 0), (.iload_n 2, 0, 0), (.iload_n 3, 0, 0), (.iload 4, 0, 0)] ⟨⟨d101_64, trivial⟩, ⟨d101_65, trivial⟩, ⟨d101_66, trivial⟩, ⟨d101_67, trivial⟩, ⟨d101_68, trivial⟩, trivial⟩ (lv' := [(4, aN n.toInt.toNat), (3, aN w.toInt.toNat), (2, aN x.toInt.toNat), (0, aR 23 0), (1, aN 1)]) (st' := [aN n.toInt.toNat, aN w.toInt.toNat, aN x.toInt.toNat, aN 1, aR 23 0]) (w' := wd (upN (upN (upN N 23 0 0 0) 41 0 x.toInt.toNat 1) 23 0 20 1) L) (P := []) rfl (trivial) (pc' := 70) rfl ?_
          refine Sem.cVp1 (t := 23) (i := 0) (as := [aN 1, aN x.toInt.toNat, aN w.toInt.toNat, aN n.toInt.toNat]) (rst := []) (c' := 0) (s' := 0) d101_70 mk102 rfl co102 lk5_120 im102 se102 rfl (vN (t := 23) (i := 0) (by decide)) (show 5 ≤ mL 102 by decide) rfl (show 0 ≤ 8 by decide) (by decide) (by decide) rfl rfl (by decide) (by decide) (m102_1 (upN (upN (upN N 23 0 0 0) 41 0 x.toInt.toNat 1) 23 0 20 1) L x.toInt.toNat w.toInt.toNat n.toInt.toNat (show N 37 0 1 < 24 by omega)) ?_
          refine Sem.iret rfl d101_73 (Or.inl rfl) (by decide) (by decide) hzW ⟨_, _, _, rfl, rfl, ?_⟩
          have hcode : cTell (N 37 0 1) x w n = 0 := by unfold cTell; (repeat' split) <;> omega
          exact ⟨rfl, fun _ => ⟨rfl, rfl⟩, fun q => absurd hcode q⟩
        · have b7_ : ¬ (¬ N 37 0 1 = 24) := b7
          refine Sem.seg [(.iconst 3, 0, 0)] ⟨⟨d101_46, trivial⟩, trivial⟩ (lv' := [(0, aR 23 0), (1, aN 1), (2, aI x), (3, aI w), (4, aI n)]) (st' := [aN 3, aR 23 0]) (w' := wd N L) (P := []) rfl (trivial) (pc' := 47) rfl ?_
          refine Sem.goto (tgt := 51) d101_47 (by decide) ?_
          refine Sem.cVp1 (t := 23) (i := 0) (as := [aN 3]) (rst := []) (c' := 0) (s' := 0) d101_51 mk91 rfl co91 lk5_97 im91 se91 rfl (vN (t := 23) (i := 0) (by decide)) (show 2 ≤ mL 91 by decide) rfl (show 0 ≤ 8 by decide) (by decide) (by decide) rfl rfl (by decide) (by decide) (m91 (N) L 3 (by decide)) ?_
          refine Sem.topNN (show (if 0 < 3 then 1 else 0) = 1 from rfl) ?_
          refine Sem.ifN (tgt := 59) d101_54 (by decide) (by decide) (fun b9 => ?_) (fun b9 => ?_)
          · exact absurd (show 1 = 0 from b9) (by decide)
          refine Sem.seg [(.iconst 0, 0, 0)] ⟨⟨d101_57, trivial⟩, trivial⟩ (lv' := [(0, aR 23 0), (1, aN 1), (2, aI x), (3, aI w), (4, aI n)]) (st' := [aN 0]) (w' := wd (upN N 23 0 0 3) L) (P := []) rfl (trivial) (pc' := 58) rfl ?_
          refine Sem.iret rfl d101_58 (Or.inl rfl) (by decide) (by decide) hzW ⟨_, _, _, rfl, rfl, ?_⟩
          have hcode : cTell (N 37 0 1) x w n = 3 := by unfold cTell; (repeat' split) <;> omega
          exact ⟨rfl, fun q => absurd (hcode.symm.trans q) (by decide), fun _ => by rw [hcode]⟩
      case neg =>
        refine Sem.cSp1 (as := [aI n, aN 0, aN 1000]) (rst := [aR 23 0]) (c' := 0) (s' := 0) d101_25 mk89 rfl co89 lk5_89 ss89 (show 3 ≤ mL 89 by decide) rfl (show 1 ≤ 8 by decide) (by decide) (by decide) rfl rfl (by decide) (by decide) (m89 (N) L n 0 1000 (by decide) (by decide)) ?_
        refine Sem.topNN (if_neg h5) ?_
        refine Sem.ifN (tgt := 35) d101_28 (by decide) (by decide) (fun b10 => ?_) (fun b10 => ?_)
        · exact absurd (show ¬ 0 = 0 from b10) (by decide)
        refine Sem.seg [(.iconst 2, 0, 0)] ⟨⟨d101_31, trivial⟩, trivial⟩ (lv' := [(0, aR 23 0), (1, aN 1), (2, aI x), (3, aI w), (4, aI n)]) (st' := [aN 2, aR 23 0]) (w' := wd N L) (P := []) rfl (trivial) (pc' := 32) rfl ?_
        refine Sem.goto (tgt := 51) d101_32 (by decide) ?_
        refine Sem.cVp1 (t := 23) (i := 0) (as := [aN 2]) (rst := []) (c' := 0) (s' := 0) d101_51 mk91 rfl co91 lk5_97 im91 se91 rfl (vN (t := 23) (i := 0) (by decide)) (show 2 ≤ mL 91 by decide) rfl (show 0 ≤ 8 by decide) (by decide) (by decide) rfl rfl (by decide) (by decide) (m91 (N) L 2 (by decide)) ?_
        refine Sem.topNN (show (if 0 < 2 then 1 else 0) = 1 from rfl) ?_
        refine Sem.ifN (tgt := 59) d101_54 (by decide) (by decide) (fun b11 => ?_) (fun b11 => ?_)
        · exact absurd (show 1 = 0 from b11) (by decide)
        refine Sem.seg [(.iconst 0, 0, 0)] ⟨⟨d101_57, trivial⟩, trivial⟩ (lv' := [(0, aR 23 0), (1, aN 1), (2, aI x), (3, aI w), (4, aI n)]) (st' := [aN 0]) (w' := wd (upN N 23 0 0 2) L) (P := []) rfl (trivial) (pc' := 58) rfl ?_
        refine Sem.iret rfl d101_58 (Or.inl rfl) (by decide) (by decide) hzW ⟨_, _, _, rfl, rfl, ?_⟩
        have hcode : cTell (N 37 0 1) x w n = 2 := by unfold cTell; (repeat' split) <;> omega
        exact ⟨rfl, fun q => absurd (hcode.symm.trans q) (by decide), fun _ => by rw [hcode]⟩
    case neg =>
      refine Sem.cSp1 (as := [aI w]) (rst := [aR 23 0]) (c' := 0) (s' := 0) d101_9 mk90 rfl co90 lk5_93 ss90 (show 1 ≤ mL 90 by decide) rfl (show 1 ≤ 8 by decide) (by decide) (by decide) rfl rfl (by decide) (by decide) (m90 (N) L w) ?_
      refine Sem.topNN (if_neg h3) ?_
      refine Sem.ifN (tgt := 19) d101_12 (by decide) (by decide) (fun b12 => ?_) (fun b12 => ?_)
      · exact absurd (show ¬ 0 = 0 from b12) (by decide)
      refine Sem.seg [(.iconst 1, 0, 0)] ⟨⟨d101_15, trivial⟩, trivial⟩ (lv' := [(0, aR 23 0), (1, aN 1), (2, aI x), (3, aI w), (4, aI n)]) (st' := [aN 1, aR 23 0]) (w' := wd N L) (P := []) rfl (trivial) (pc' := 16) rfl ?_
      refine Sem.goto (tgt := 51) d101_16 (by decide) ?_
      refine Sem.cVp1 (t := 23) (i := 0) (as := [aN 1]) (rst := []) (c' := 0) (s' := 0) d101_51 mk91 rfl co91 lk5_97 im91 se91 rfl (vN (t := 23) (i := 0) (by decide)) (show 2 ≤ mL 91 by decide) rfl (show 0 ≤ 8 by decide) (by decide) (by decide) rfl rfl (by decide) (by decide) (m91 (N) L 1 (by decide)) ?_
      refine Sem.topNN (show (if 0 < 1 then 1 else 0) = 1 from rfl) ?_
      refine Sem.ifN (tgt := 59) d101_54 (by decide) (by decide) (fun b13 => ?_) (fun b13 => ?_)
      · exact absurd (show 1 = 0 from b13) (by decide)
      refine Sem.seg [(.iconst 0, 0, 0)] ⟨⟨d101_57, trivial⟩, trivial⟩ (lv' := [(0, aR 23 0), (1, aN 1), (2, aI x), (3, aI w), (4, aI n)]) (st' := [aN 0]) (w' := wd (upN N 23 0 0 1) L) (P := []) rfl (trivial) (pc' := 58) rfl ?_
      refine Sem.iret rfl d101_58 (Or.inl rfl) (by decide) (by decide) hzW ⟨_, _, _, rfl, rfl, ?_⟩
      have hcode : cTell (N 37 0 1) x w n = 1 := by unfold cTell; (repeat' split) <;> omega
      exact ⟨rfl, fun q => absurd (hcode.symm.trans q) (by decide), fun _ => by rw [hcode]⟩
  case neg =>
    refine Sem.cSp1 (as := [aI x]) (rst := [aR 23 0]) (c' := 0) (s' := 0) d101_2 mk90 rfl co90 lk5_93 ss90 (show 1 ≤ mL 90 by decide) rfl (show 1 ≤ 8 by decide) (by decide) (by decide) rfl rfl (by decide) (by decide) (m90 (N) L x) ?_
    refine Sem.topNN (if_neg h1) ?_
    refine Sem.ifN (tgt := 15) d101_5 (by decide) (by decide) (fun b14 => ?_) (fun b14 => ?_)
    rotate_left
    · exact absurd (show 0 = 0 from by decide) b14
    refine Sem.seg [(.iconst 1, 0, 0)] ⟨⟨d101_15, trivial⟩, trivial⟩ (lv' := [(0, aR 23 0), (1, aN 1), (2, aI x), (3, aI w), (4, aI n)]) (st' := [aN 1, aR 23 0]) (w' := wd N L) (P := []) rfl (trivial) (pc' := 16) rfl ?_
    refine Sem.goto (tgt := 51) d101_16 (by decide) ?_
    refine Sem.cVp1 (t := 23) (i := 0) (as := [aN 1]) (rst := []) (c' := 0) (s' := 0) d101_51 mk91 rfl co91 lk5_97 im91 se91 rfl (vN (t := 23) (i := 0) (by decide)) (show 2 ≤ mL 91 by decide) rfl (show 0 ≤ 8 by decide) (by decide) (by decide) rfl rfl (by decide) (by decide) (m91 (N) L 1 (by decide)) ?_
    refine Sem.topNN (show (if 0 < 1 then 1 else 0) = 1 from rfl) ?_
    refine Sem.ifN (tgt := 59) d101_54 (by decide) (by decide) (fun b15 => ?_) (fun b15 => ?_)
    · exact absurd (show 1 = 0 from b15) (by decide)
    refine Sem.seg [(.iconst 0, 0, 0)] ⟨⟨d101_57, trivial⟩, trivial⟩ (lv' := [(0, aR 23 0), (1, aN 1), (2, aI x), (3, aI w), (4, aI n)]) (st' := [aN 0]) (w' := wd (upN N 23 0 0 1) L) (P := []) rfl (trivial) (pc' := 58) rfl ?_
    refine Sem.iret rfl d101_58 (Or.inl rfl) (by decide) (by decide) hzW ⟨_, _, _, rfl, rfl, ?_⟩
    have hcode : cTell (N 37 0 1) x w n = 1 := by unfold cTell; (repeat' split) <;> omega
    exact ⟨rfl, fun q => absurd (hcode.symm.trans q) (by decide), fun _ => by rw [hcode]⟩

theorem m103 {sc : XT} (N : TN) (L : TL) (x w n : Int32) (hs : N 37 0 1 ≤ 24) : Sem sc 103 0 [(0, aR 23 0), (1, aI x), (2, aI w), (3, aI n)] [] (wd N L) 0 0 (QZ fun z N' L' => L = L' ∧ (cTell (N 37 0 1) x w n = 0 → z = N 37 0 1 ∧ N' = upN (upN (upN (upN (upN (upN (upN N 23 0 0 0) 41 0 x.toInt.toNat 1) 23 0 20 1) 38 0 (24 * 1 + N 37 0 1) x.toInt.toNat) 39 0 (24 * 1 + N 37 0 1) w.toInt.toNat) 40 0 (24 * 1 + N 37 0 1) n.toInt.toNat) 37 0 1 (N 37 0 1 + 1)) ∧ (¬ cTell (N 37 0 1) x w n = 0 → N' = upN N 23 0 0 (cTell (N 37 0 1) x w n))) := by
  refine Sem.seg [(.aload_n 0, 0, 0), (.iconst 1, 0, 0), (.iload_n 1, 0, 0), (.iload_n 2, 0, 0), (.iload_n 3, 0, 0)] ⟨⟨d103_0, trivial⟩, ⟨d103_1, trivial⟩, ⟨d103_2, trivial⟩, ⟨d103_3, trivial⟩, ⟨d103_4, trivial⟩, trivial⟩ (lv' := [(0, aR 23 0), (1, aI x), (2, aI w), (3, aI n)]) (st' := [aI n, aI w, aI x, aN 1, aR 23 0]) (w' := wd N L) (P := []) rfl (trivial) (pc' := 5) rfl ?_
  refine Sem.cVmN (t := 23) (i := 0) (as := [aN 1, aI x, aI w, aI n]) (rst := []) (c' := 0) (s' := 0) d103_5 mk101 rfl co101 lk5_124 im101 se101 rfl (vN (t := 23) (i := 0) (by decide)) (show 5 ≤ mL 101 by decide) rfl (show 0 ≤ 8 by decide) (by decide) (by decide) rfl rfl (by decide) (by decide) (m101_1 N L x w n hs) ?_
  rintro z N1 L1 hq
  exact Sem.iret rfl d103_8 (Or.inl rfl) (by decide) (by decide) hzW ⟨_, _, _, rfl, rfl, by exact hq⟩

theorem m104 {sc : XT} (N : TN) (L : TL) (k m n : Int32) (h0 : N 37 0 0 ≤ 24) (h1 : N 37 0 1 ≤ 24) (hI : ∀ q, q < N 37 0 0 → N 38 0 (24 * 0 + q) < 12) (hI1 : ∀ q, q < N 37 0 1 → N 38 0 (24 * 1 + q) < 12) : Sem sc 104 0 [(0, aR 23 0), (1, aI k), (2, aI m), (3, aI n)] [] (wd N L) 0 0 (QZ fun z N' L' => L = L' ∧ (cChange (N 37 0 0) (N 37 0 1) k m n = 0 → z = N 40 0 (24 * k.toInt.toNat + m.toInt.toNat) ∧ N' = upN (upN (upN (upN N 23 0 0 0) 40 0 (24 * k.toInt.toNat + m.toInt.toNat) (tn n)) 41 0 (N 38 0 (24 * k.toInt.toNat + m.toInt.toNat)) 1) 23 0 20 1) ∧ (¬ cChange (N 37 0 0) (N 37 0 1) k m n = 0 → N' = upN N 23 0 0 (cChange (N 37 0 0) (N 37 0 1) k m n))) := by
  refine Sem.seg [(.iload_n 1, 0, 0)] ⟨⟨d104_0, trivial⟩, trivial⟩ (lv' := [(0, aR 23 0), (1, aI k), (2, aI m), (3, aI n)]) (st' := [aI k]) (w' := wd N L) (P := []) rfl (trivial) (pc' := 1) rfl ?_
  refine Sem.ifc (tgt := 9) d104_1 (by decide) rfl (fun b1 => ?_) (fun b1 => ?_)
  · have b1_ : k.toInt = 0 := bT rfl rfl b1
    refine Sem.seg [(.iconst 1, 0, 0)] ⟨⟨d104_9, trivial⟩, trivial⟩ (lv' := [(0, aR 23 0), (1, aI k), (2, aI m), (3, aI n)]) (st' := [aN 1]) (w' := wd N L) (P := []) rfl (trivial) (pc' := 10) rfl ?_
    refine Sem.goto (tgt := 14) d104_10 (by decide) ?_
    refine Sem.seg [(.istore 4, 0, 0), (.aload_n 0, 0, 0), (.iload 4, 0, 0)] ⟨⟨d104_14, trivial⟩, ⟨d104_16, trivial⟩, ⟨d104_17, trivial⟩, trivial⟩ (lv' := [(4, aN 1), (0, aR 23 0), (1, aI k), (2, aI m), (3, aI n)]) (st' := [aN 1, aR 23 0]) (w' := wd N L) (P := []) rfl (trivial) (pc' := 19) rfl ?_
    refine Sem.ifN (tgt := 26) d104_19 (by decide) (by decide) (fun b2 => ?_) (fun b2 => ?_)
    rotate_left
    · exact absurd (show ¬ 1 = 0 from by decide) b2
    by_cases hk : k.toInt = 0
    case pos =>
      refine Sem.pick [2, 0, 1, 3, 4] (lv' := [(1, aI k), (4, aN 1), (0, aR 23 0), (2, aI m), (3, aI n)]) rfl ?_
      refine Sem.loc0 (show k = nI 0 from i_nI (by omega)) ?_
      refine Sem.seg [(.iload_n 2, 0, 0), (.iconst 0, 0, 0), (.aload_n 0, 0, 0), (.getfield 49, 5, 15), (.iload_n 1, 0, 0), (.iaload, 0, 0), (.iconst 1, 0, 0), (.isub, 0, 0)] ⟨⟨d104_26, trivial⟩, ⟨d104_27, trivial⟩, ⟨d104_28, trivial⟩, ⟨d104_29, gf5_49⟩, ⟨d104_32, trivial⟩, ⟨d104_33, trivial⟩, ⟨d104_34, trivial⟩, ⟨d104_35, trivial⟩, trivial⟩ (lv' := [(1, aN 0), (4, aN 1), (0, aR 23 0), (2, aI m), (3, aI n)]) (st' := [aI ((nI (N 37 0 0)) - (nI 1)), aN 0, aI m, aR 23 0]) (w' := wd N L) (P := [vld NN 23 0, vld NN 37 0, 0 < 3]) rfl (⟨vN (t := 23) (i := 0) (by decide), vN (t := 37) (i := 0) (by decide), (by decide : (0 : Nat) < 3)⟩) (pc' := 36) rfl ?_
      by_cases h3 : 0 ≤ m.toInt ∧ m.toInt < (N 37 0 0 : Int)
      case pos =>
        refine Sem.cSp1 (as := [aI m, aN 0, aI ((nI (N 37 0 0)) - (nI 1))]) (rst := [aR 23 0]) (c' := 0) (s' := 0) d104_36 mk89 rfl co89 lk5_89 ss89 (show 3 ≤ mL 89 by decide) rfl (show 1 ≤ 8 by decide) (by decide) (by decide) rfl rfl (by decide) (by decide) (m89c (N) L m (N 37 0 0) (by omega)) ?_
        refine Sem.topNN (if_pos h3) ?_
        refine Sem.ifN (tgt := 46) d104_39 (by decide) (by decide) (fun b4 => ?_) (fun b4 => ?_)
        rotate_left
        · exact absurd (show ¬ 1 = 0 from by decide) b4
        refine Sem.seg [(.iload_n 3, 0, 0), (.iconst 0, 0, 0), (.sipush 1000, 0, 0)] ⟨⟨d104_46, trivial⟩, ⟨d104_47, trivial⟩, ⟨d104_48, trivial⟩, trivial⟩ (lv' := [(1, aN 0), (4, aN 1), (0, aR 23 0), (2, aI m), (3, aI n)]) (st' := [aN 1000, aN 0, aI n, aR 23 0]) (w' := wd N L) (P := []) rfl (trivial) (pc' := 51) rfl ?_
        by_cases h5 : ((0 : Nat) : Int) ≤ n.toInt ∧ n.toInt ≤ ((1000 : Nat) : Int)
        case pos =>
          refine Sem.cSp1 (as := [aI n, aN 0, aN 1000]) (rst := [aR 23 0]) (c' := 0) (s' := 0) d104_51 mk89 rfl co89 lk5_89 ss89 (show 3 ≤ mL 89 by decide) rfl (show 1 ≤ 8 by decide) (by decide) (by decide) rfl rfl (by decide) (by decide) (m89 (N) L n 0 1000 (by decide) (by decide)) ?_
          refine Sem.topNN (if_pos h5) ?_
          refine Sem.ifN (tgt := 61) d104_54 (by decide) (by decide) (fun b6 => ?_) (fun b6 => ?_)
          rotate_left
          · exact absurd (show ¬ 1 = 0 from by decide) b6
          refine Sem.seg [(.iconst 0, 0, 0)] ⟨⟨d104_61, trivial⟩, trivial⟩ (lv' := [(1, aN 0), (4, aN 1), (0, aR 23 0), (2, aI m), (3, aI n)]) (st' := [aN 0, aR 23 0]) (w' := wd N L) (P := []) rfl (trivial) (pc' := 62) rfl ?_
          refine Sem.cVp1 (t := 23) (i := 0) (as := [aN 0]) (rst := []) (c' := 0) (s' := 0) d104_62 mk91 rfl co91 lk5_97 im91 se91 rfl (vN (t := 23) (i := 0) (by decide)) (show 2 ≤ mL 91 by decide) rfl (show 0 ≤ 8 by decide) (by decide) (by decide) rfl rfl (by decide) (by decide) (m91 (N) L 0 (by decide)) ?_
          refine Sem.topNN (show (if 0 < 0 then 1 else 0) = 0 from rfl) ?_
          refine Sem.ifN (tgt := 70) d104_65 (by decide) (by decide) (fun b7 => ?_) (fun b7 => ?_)
          rotate_left
          · exact absurd (show 0 = 0 from by decide) b7
          refine Sem.pick [3, 0, 1, 2, 4] (lv' := [(2, aI m), (1, aN 0), (4, aN 1), (0, aR 23 0), (3, aI n)]) rfl ?_
          refine Sem.loc0 (show m = nI m.toInt.toNat from i_nI2 (by omega)) ?_
          have hI_ := hI m.toInt.toNat (by omega)
          refine Sem.seg [(.bipush 24, 0, 0), (.iload_n 1, 0, 0), (.imul, 0, 0), (.iload_n 2, 0, 0), (.iadd, 0, 0), (.istore 5, 0, 0), (.aload_n 0, 0, 0), (.getfield 58, 5, 18), (.iload 5, 0, 0)] ⟨⟨d104_70, trivial⟩, ⟨d104_72, trivial⟩, ⟨d104_73, trivial⟩, ⟨d104_74, trivial⟩, ⟨d104_75, trivial⟩, ⟨d104_76, trivial⟩, ⟨d104_78, trivial⟩, ⟨d104_79, gf5_58⟩, ⟨d104_82, trivial⟩, trivial⟩ (lv' := [(5, aN ((24 * 0) + m.toInt.toNat)), (2, aN m.toInt.toNat), (1, aN 0), (4, aN 1), (0, aR 23 0), (3, aI n)]) (st' := [aN ((24 * 0) + m.toInt.toNat), aR 40 0]) (w' := wd (upN N 23 0 0 0) L) (P := [vld NN 23 0]) rfl (vN (t := 23) (i := 0) (by decide)) (pc' := 84) rfl ?_
          refine Sem.seg [(.iaload, 0, 0), (.istore 6, 0, 0), (.aload_n 0, 0, 0), (.getfield 58, 5, 18), (.iload 5, 0, 0), (.iload_n 3, 0, 0), (.iastore, 0, 0), (.aload_n 0, 0, 0), (.aload_n 0, 0, 0)] ⟨⟨d104_84, trivial⟩, ⟨d104_85, trivial⟩, ⟨d104_87, trivial⟩, ⟨d104_88, gf5_58⟩, ⟨d104_91, trivial⟩, ⟨d104_93, trivial⟩, ⟨d104_94, trivial⟩, ⟨d104_95, trivial⟩, ⟨d104_96, trivial⟩, trivial⟩ (lv' := [(6, aN (N 40 0 ((24 * 0) + m.toInt.toNat))), (5, aN ((24 * 0) + m.toInt.toNat)), (2, aN m.toInt.toNat), (1, aN 0), (4, aN 1), (0, aR 23 0), (3, aI n)]) (st' := [aR 23 0, aR 23 0]) (w' := wd (upN (upN N 23 0 0 0) 40 0 ((24 * 0) + m.toInt.toNat) (tn n)) L) (P := [vld NN 40 0, (24 * 0) + m.toInt.toNat < 72, vld NN 23 0, vld NN 40 0, (24 * 0) + m.toInt.toNat < 72]) rfl (⟨vN (t := 40) (i := 0) (by decide), (show (24 * 0) + m.toInt.toNat < 72 by first | omega | exact hI_), vN (t := 23) (i := 0) (by decide), vN (t := 40) (i := 0) (by decide), (show (24 * 0) + m.toInt.toNat < 72 by first | omega | exact hI_)⟩) (pc' := 97) rfl ?_
          refine Sem.seg [(.getfield 52, 5, 16), (.iload 5, 0, 0), (.iaload, 0, 0)] ⟨⟨d104_97, gf5_52⟩, ⟨d104_100, trivial⟩, ⟨d104_102, trivial⟩, trivial⟩ (lv' := [(6, aN (N 40 0 ((24 * 0) + m.toInt.toNat))), (5, aN ((24 * 0) + m.toInt.toNat)), (2, aN m.toInt.toNat), (1, aN 0), (4, aN 1), (0, aR 23 0), (3, aI n)]) (st' := [aN (N 38 0 ((24 * 0) + m.toInt.toNat)), aR 23 0]) (w' := wd (upN (upN N 23 0 0 0) 40 0 ((24 * 0) + m.toInt.toNat) (tn n)) L) (P := [vld NN 23 0, vld NN 38 0, (24 * 0) + m.toInt.toNat < 72]) rfl (⟨vN (t := 23) (i := 0) (by decide), vN (t := 38) (i := 0) (by decide), (show (24 * 0) + m.toInt.toNat < 72 by first | omega | exact hI_)⟩) (pc' := 103) rfl ?_
          refine Sem.cVp0 (t := 23) (i := 0) (as := [aN (N 38 0 ((24 * 0) + m.toInt.toNat))]) (rst := []) (c' := 0) (s' := 0) d104_103 mk92 rfl co92 lk5_100 im92 se92 rfl (vN (t := 23) (i := 0) (by decide)) (show 2 ≤ mL 92 by decide) rfl (show 0 ≤ 8 by decide) (by decide) (by decide) rfl rfl (by decide) (by decide) (m92 (upN (upN N 23 0 0 0) 40 0 ((24 * 0) + m.toInt.toNat) (tn n)) L (N 38 0 ((24 * 0) + m.toInt.toNat)) (by first | omega | assumption)) ?_
          refine Sem.seg [(.iload 6, 0, 0)] ⟨⟨d104_106, trivial⟩, trivial⟩ (lv' := [(6, aN (N 40 0 ((24 * 0) + m.toInt.toNat))), (5, aN ((24 * 0) + m.toInt.toNat)), (2, aN m.toInt.toNat), (1, aN 0), (4, aN 1), (0, aR 23 0), (3, aI n)]) (st' := [aN (N 40 0 ((24 * 0) + m.toInt.toNat))]) (w' := wd (upN (upN (upN (upN N 23 0 0 0) 40 0 ((24 * 0) + m.toInt.toNat) (tn n)) 41 0 (N 38 0 ((24 * 0) + m.toInt.toNat)) 1) 23 0 20 1) L) (P := []) rfl (trivial) (pc' := 108) rfl ?_
          refine Sem.iret rfl d104_108 (Or.inl rfl) (by decide) (by decide) hzW ⟨_, _, _, rfl, rfl, ?_⟩
          have hcode : cChange (N 37 0 0) (N 37 0 1) k m n = 0 := by unfold cChange; (repeat' split) <;> omega
          have hkk : k.toInt.toNat = 0 := by omega
          exact ⟨rfl, fun _ => by rw [hkk]; exact ⟨rfl, rfl⟩, fun q => absurd hcode q⟩
        case neg =>
          refine Sem.cSp1 (as := [aI n, aN 0, aN 1000]) (rst := [aR 23 0]) (c' := 0) (s' := 0) d104_51 mk89 rfl co89 lk5_89 ss89 (show 3 ≤ mL 89 by decide) rfl (show 1 ≤ 8 by decide) (by decide) (by decide) rfl rfl (by decide) (by decide) (m89 (N) L n 0 1000 (by decide) (by decide)) ?_
          refine Sem.topNN (if_neg h5) ?_
          refine Sem.ifN (tgt := 61) d104_54 (by decide) (by decide) (fun b8 => ?_) (fun b8 => ?_)
          · exact absurd (show ¬ 0 = 0 from b8) (by decide)
          refine Sem.seg [(.iconst 1, 0, 0)] ⟨⟨d104_57, trivial⟩, trivial⟩ (lv' := [(1, aN 0), (4, aN 1), (0, aR 23 0), (2, aI m), (3, aI n)]) (st' := [aN 1, aR 23 0]) (w' := wd N L) (P := []) rfl (trivial) (pc' := 58) rfl ?_
          refine Sem.goto (tgt := 62) d104_58 (by decide) ?_
          refine Sem.cVp1 (t := 23) (i := 0) (as := [aN 1]) (rst := []) (c' := 0) (s' := 0) d104_62 mk91 rfl co91 lk5_97 im91 se91 rfl (vN (t := 23) (i := 0) (by decide)) (show 2 ≤ mL 91 by decide) rfl (show 0 ≤ 8 by decide) (by decide) (by decide) rfl rfl (by decide) (by decide) (m91 (N) L 1 (by decide)) ?_
          refine Sem.topNN (show (if 0 < 1 then 1 else 0) = 1 from rfl) ?_
          refine Sem.ifN (tgt := 70) d104_65 (by decide) (by decide) (fun b9 => ?_) (fun b9 => ?_)
          · exact absurd (show 1 = 0 from b9) (by decide)
          refine Sem.seg [(.iconst 0, 0, 0)] ⟨⟨d104_68, trivial⟩, trivial⟩ (lv' := [(1, aN 0), (4, aN 1), (0, aR 23 0), (2, aI m), (3, aI n)]) (st' := [aN 0]) (w' := wd (upN N 23 0 0 1) L) (P := []) rfl (trivial) (pc' := 69) rfl ?_
          refine Sem.iret rfl d104_69 (Or.inl rfl) (by decide) (by decide) hzW ⟨_, _, _, rfl, rfl, ?_⟩
          have hcode : cChange (N 37 0 0) (N 37 0 1) k m n = 1 := by unfold cChange; (repeat' split) <;> omega
          exact ⟨rfl, fun q => absurd (hcode.symm.trans q) (by decide), fun _ => by rw [hcode]⟩
      case neg =>
        refine Sem.cSp1 (as := [aI m, aN 0, aI ((nI (N 37 0 0)) - (nI 1))]) (rst := [aR 23 0]) (c' := 0) (s' := 0) d104_36 mk89 rfl co89 lk5_89 ss89 (show 3 ≤ mL 89 by decide) rfl (show 1 ≤ 8 by decide) (by decide) (by decide) rfl rfl (by decide) (by decide) (m89c (N) L m (N 37 0 0) (by omega)) ?_
        refine Sem.topNN (if_neg h3) ?_
        refine Sem.ifN (tgt := 46) d104_39 (by decide) (by decide) (fun b10 => ?_) (fun b10 => ?_)
        · exact absurd (show ¬ 0 = 0 from b10) (by decide)
        refine Sem.seg [(.iconst 2, 0, 0)] ⟨⟨d104_42, trivial⟩, trivial⟩ (lv' := [(1, aN 0), (4, aN 1), (0, aR 23 0), (2, aI m), (3, aI n)]) (st' := [aN 2, aR 23 0]) (w' := wd N L) (P := []) rfl (trivial) (pc' := 43) rfl ?_
        refine Sem.goto (tgt := 62) d104_43 (by decide) ?_
        refine Sem.cVp1 (t := 23) (i := 0) (as := [aN 2]) (rst := []) (c' := 0) (s' := 0) d104_62 mk91 rfl co91 lk5_97 im91 se91 rfl (vN (t := 23) (i := 0) (by decide)) (show 2 ≤ mL 91 by decide) rfl (show 0 ≤ 8 by decide) (by decide) (by decide) rfl rfl (by decide) (by decide) (m91 (N) L 2 (by decide)) ?_
        refine Sem.topNN (show (if 0 < 2 then 1 else 0) = 1 from rfl) ?_
        refine Sem.ifN (tgt := 70) d104_65 (by decide) (by decide) (fun b11 => ?_) (fun b11 => ?_)
        · exact absurd (show 1 = 0 from b11) (by decide)
        refine Sem.seg [(.iconst 0, 0, 0)] ⟨⟨d104_68, trivial⟩, trivial⟩ (lv' := [(1, aN 0), (4, aN 1), (0, aR 23 0), (2, aI m), (3, aI n)]) (st' := [aN 0]) (w' := wd (upN N 23 0 0 2) L) (P := []) rfl (trivial) (pc' := 69) rfl ?_
        refine Sem.iret rfl d104_69 (Or.inl rfl) (by decide) (by decide) hzW ⟨_, _, _, rfl, rfl, ?_⟩
        have hcode : cChange (N 37 0 0) (N 37 0 1) k m n = 2 := by unfold cChange; (repeat' split) <;> omega
        exact ⟨rfl, fun q => absurd (hcode.symm.trans q) (by decide), fun _ => by rw [hcode]⟩
    case neg =>
      refine Sem.pick [2, 0, 1, 3, 4] (lv' := [(1, aI k), (4, aN 1), (0, aR 23 0), (2, aI m), (3, aI n)]) rfl ?_
      refine Sem.loc0 (show k = nI 1 from i_nI (by omega)) ?_
      refine Sem.seg [(.iload_n 2, 0, 0), (.iconst 0, 0, 0), (.aload_n 0, 0, 0), (.getfield 49, 5, 15), (.iload_n 1, 0, 0), (.iaload, 0, 0), (.iconst 1, 0, 0), (.isub, 0, 0)] ⟨⟨d104_26, trivial⟩, ⟨d104_27, trivial⟩, ⟨d104_28, trivial⟩, ⟨d104_29, gf5_49⟩, ⟨d104_32, trivial⟩, ⟨d104_33, trivial⟩, ⟨d104_34, trivial⟩, ⟨d104_35, trivial⟩, trivial⟩ (lv' := [(1, aN 1), (4, aN 1), (0, aR 23 0), (2, aI m), (3, aI n)]) (st' := [aI ((nI (N 37 0 1)) - (nI 1)), aN 0, aI m, aR 23 0]) (w' := wd N L) (P := [vld NN 23 0, vld NN 37 0, 1 < 3]) rfl (⟨vN (t := 23) (i := 0) (by decide), vN (t := 37) (i := 0) (by decide), (by decide : (1 : Nat) < 3)⟩) (pc' := 36) rfl ?_
      by_cases h12 : 0 ≤ m.toInt ∧ m.toInt < (N 37 0 1 : Int)
      case pos =>
        refine Sem.cSp1 (as := [aI m, aN 0, aI ((nI (N 37 0 1)) - (nI 1))]) (rst := [aR 23 0]) (c' := 0) (s' := 0) d104_36 mk89 rfl co89 lk5_89 ss89 (show 3 ≤ mL 89 by decide) rfl (show 1 ≤ 8 by decide) (by decide) (by decide) rfl rfl (by decide) (by decide) (m89c (N) L m (N 37 0 1) (by omega)) ?_
        refine Sem.topNN (if_pos h12) ?_
        refine Sem.ifN (tgt := 46) d104_39 (by decide) (by decide) (fun b13 => ?_) (fun b13 => ?_)
        rotate_left
        · exact absurd (show ¬ 1 = 0 from by decide) b13
        refine Sem.seg [(.iload_n 3, 0, 0), (.iconst 0, 0, 0), (.sipush 1000, 0, 0)] ⟨⟨d104_46, trivial⟩, ⟨d104_47, trivial⟩, ⟨d104_48, trivial⟩, trivial⟩ (lv' := [(1, aN 1), (4, aN 1), (0, aR 23 0), (2, aI m), (3, aI n)]) (st' := [aN 1000, aN 0, aI n, aR 23 0]) (w' := wd N L) (P := []) rfl (trivial) (pc' := 51) rfl ?_
        by_cases h14 : ((0 : Nat) : Int) ≤ n.toInt ∧ n.toInt ≤ ((1000 : Nat) : Int)
        case pos =>
          refine Sem.cSp1 (as := [aI n, aN 0, aN 1000]) (rst := [aR 23 0]) (c' := 0) (s' := 0) d104_51 mk89 rfl co89 lk5_89 ss89 (show 3 ≤ mL 89 by decide) rfl (show 1 ≤ 8 by decide) (by decide) (by decide) rfl rfl (by decide) (by decide) (m89 (N) L n 0 1000 (by decide) (by decide)) ?_
          refine Sem.topNN (if_pos h14) ?_
          refine Sem.ifN (tgt := 61) d104_54 (by decide) (by decide) (fun b15 => ?_) (fun b15 => ?_)
          rotate_left
          · exact absurd (show ¬ 1 = 0 from by decide) b15
          refine Sem.seg [(.iconst 0, 0, 0)] ⟨⟨d104_61, trivial⟩, trivial⟩ (lv' := [(1, aN 1), (4, aN 1), (0, aR 23 0), (2, aI m), (3, aI n)]) (st' := [aN 0, aR 23 0]) (w' := wd N L) (P := []) rfl (trivial) (pc' := 62) rfl ?_
          refine Sem.cVp1 (t := 23) (i := 0) (as := [aN 0]) (rst := []) (c' := 0) (s' := 0) d104_62 mk91 rfl co91 lk5_97 im91 se91 rfl (vN (t := 23) (i := 0) (by decide)) (show 2 ≤ mL 91 by decide) rfl (show 0 ≤ 8 by decide) (by decide) (by decide) rfl rfl (by decide) (by decide) (m91 (N) L 0 (by decide)) ?_
          refine Sem.topNN (show (if 0 < 0 then 1 else 0) = 0 from rfl) ?_
          refine Sem.ifN (tgt := 70) d104_65 (by decide) (by decide) (fun b16 => ?_) (fun b16 => ?_)
          rotate_left
          · exact absurd (show 0 = 0 from by decide) b16
          refine Sem.pick [3, 0, 1, 2, 4] (lv' := [(2, aI m), (1, aN 1), (4, aN 1), (0, aR 23 0), (3, aI n)]) rfl ?_
          refine Sem.loc0 (show m = nI m.toInt.toNat from i_nI2 (by omega)) ?_
          have hI_ := hI1 m.toInt.toNat (by omega)
          refine Sem.seg [(.bipush 24, 0, 0), (.iload_n 1, 0, 0), (.imul, 0, 0), (.iload_n 2, 0, 0), (.iadd, 0, 0), (.istore 5, 0, 0), (.aload_n 0, 0, 0), (.getfield 58, 5, 18), (.iload 5, 0, 0)] ⟨⟨d104_70, trivial⟩, ⟨d104_72, trivial⟩, ⟨d104_73, trivial⟩, ⟨d104_74, trivial⟩, ⟨d104_75, trivial⟩, ⟨d104_76, trivial⟩, ⟨d104_78, trivial⟩, ⟨d104_79, gf5_58⟩, ⟨d104_82, trivial⟩, trivial⟩ (lv' := [(5, aN ((24 * 1) + m.toInt.toNat)), (2, aN m.toInt.toNat), (1, aN 1), (4, aN 1), (0, aR 23 0), (3, aI n)]) (st' := [aN ((24 * 1) + m.toInt.toNat), aR 40 0]) (w' := wd (upN N 23 0 0 0) L) (P := [vld NN 23 0]) rfl (vN (t := 23) (i := 0) (by decide)) (pc' := 84) rfl ?_
          refine Sem.seg [(.iaload, 0, 0), (.istore 6, 0, 0), (.aload_n 0, 0, 0), (.getfield 58, 5, 18), (.iload 5, 0, 0), (.iload_n 3, 0, 0), (.iastore, 0, 0), (.aload_n 0, 0, 0), (.aload_n 0, 0, 0)] ⟨⟨d104_84, trivial⟩, ⟨d104_85, trivial⟩, ⟨d104_87, trivial⟩, ⟨d104_88, gf5_58⟩, ⟨d104_91, trivial⟩, ⟨d104_93, trivial⟩, ⟨d104_94, trivial⟩, ⟨d104_95, trivial⟩, ⟨d104_96, trivial⟩, trivial⟩ (lv' := [(6, aN (N 40 0 ((24 * 1) + m.toInt.toNat))), (5, aN ((24 * 1) + m.toInt.toNat)), (2, aN m.toInt.toNat), (1, aN 1), (4, aN 1), (0, aR 23 0), (3, aI n)]) (st' := [aR 23 0, aR 23 0]) (w' := wd (upN (upN N 23 0 0 0) 40 0 ((24 * 1) + m.toInt.toNat) (tn n)) L) (P := [vld NN 40 0, (24 * 1) + m.toInt.toNat < 72, vld NN 23 0, vld NN 40 0, (24 * 1) + m.toInt.toNat < 72]) rfl (⟨vN (t := 40) (i := 0) (by decide), (show (24 * 1) + m.toInt.toNat < 72 by first | omega | exact hI_), vN (t := 23) (i := 0) (by decide), vN (t := 40) (i := 0) (by decide), (show (24 * 1) + m.toInt.toNat < 72 by first | omega | exact hI_)⟩) (pc' := 97) rfl ?_
          refine Sem.seg [(.getfield 52, 5, 16), (.iload 5, 0, 0), (.iaload, 0, 0)] ⟨⟨d104_97, gf5_52⟩, ⟨d104_100, trivial⟩, ⟨d104_102, trivial⟩, trivial⟩ (lv' := [(6, aN (N 40 0 ((24 * 1) + m.toInt.toNat))), (5, aN ((24 * 1) + m.toInt.toNat)), (2, aN m.toInt.toNat), (1, aN 1), (4, aN 1), (0, aR 23 0), (3, aI n)]) (st' := [aN (N 38 0 ((24 * 1) + m.toInt.toNat)), aR 23 0]) (w' := wd (upN (upN N 23 0 0 0) 40 0 ((24 * 1) + m.toInt.toNat) (tn n)) L) (P := [vld NN 23 0, vld NN 38 0, (24 * 1) + m.toInt.toNat < 72]) rfl (⟨vN (t := 23) (i := 0) (by decide), vN (t := 38) (i := 0) (by decide), (show (24 * 1) + m.toInt.toNat < 72 by first | omega | exact hI_)⟩) (pc' := 103) rfl ?_
          refine Sem.cVp0 (t := 23) (i := 0) (as := [aN (N 38 0 ((24 * 1) + m.toInt.toNat))]) (rst := []) (c' := 0) (s' := 0) d104_103 mk92 rfl co92 lk5_100 im92 se92 rfl (vN (t := 23) (i := 0) (by decide)) (show 2 ≤ mL 92 by decide) rfl (show 0 ≤ 8 by decide) (by decide) (by decide) rfl rfl (by decide) (by decide) (m92 (upN (upN N 23 0 0 0) 40 0 ((24 * 1) + m.toInt.toNat) (tn n)) L (N 38 0 ((24 * 1) + m.toInt.toNat)) (by first | omega | assumption)) ?_
          refine Sem.seg [(.iload 6, 0, 0)] ⟨⟨d104_106, trivial⟩, trivial⟩ (lv' := [(6, aN (N 40 0 ((24 * 1) + m.toInt.toNat))), (5, aN ((24 * 1) + m.toInt.toNat)), (2, aN m.toInt.toNat), (1, aN 1), (4, aN 1), (0, aR 23 0), (3, aI n)]) (st' := [aN (N 40 0 ((24 * 1) + m.toInt.toNat))]) (w' := wd (upN (upN (upN (upN N 23 0 0 0) 40 0 ((24 * 1) + m.toInt.toNat) (tn n)) 41 0 (N 38 0 ((24 * 1) + m.toInt.toNat)) 1) 23 0 20 1) L) (P := []) rfl (trivial) (pc' := 108) rfl ?_
          refine Sem.iret rfl d104_108 (Or.inl rfl) (by decide) (by decide) hzW ⟨_, _, _, rfl, rfl, ?_⟩
          have hcode : cChange (N 37 0 0) (N 37 0 1) k m n = 0 := by unfold cChange; (repeat' split) <;> omega
          have hkk : k.toInt.toNat = 1 := by omega
          exact ⟨rfl, fun _ => by rw [hkk]; exact ⟨rfl, rfl⟩, fun q => absurd hcode q⟩
        case neg =>
          refine Sem.cSp1 (as := [aI n, aN 0, aN 1000]) (rst := [aR 23 0]) (c' := 0) (s' := 0) d104_51 mk89 rfl co89 lk5_89 ss89 (show 3 ≤ mL 89 by decide) rfl (show 1 ≤ 8 by decide) (by decide) (by decide) rfl rfl (by decide) (by decide) (m89 (N) L n 0 1000 (by decide) (by decide)) ?_
          refine Sem.topNN (if_neg h14) ?_
          refine Sem.ifN (tgt := 61) d104_54 (by decide) (by decide) (fun b17 => ?_) (fun b17 => ?_)
          · exact absurd (show ¬ 0 = 0 from b17) (by decide)
          refine Sem.seg [(.iconst 1, 0, 0)] ⟨⟨d104_57, trivial⟩, trivial⟩ (lv' := [(1, aN 1), (4, aN 1), (0, aR 23 0), (2, aI m), (3, aI n)]) (st' := [aN 1, aR 23 0]) (w' := wd N L) (P := []) rfl (trivial) (pc' := 58) rfl ?_
          refine Sem.goto (tgt := 62) d104_58 (by decide) ?_
          refine Sem.cVp1 (t := 23) (i := 0) (as := [aN 1]) (rst := []) (c' := 0) (s' := 0) d104_62 mk91 rfl co91 lk5_97 im91 se91 rfl (vN (t := 23) (i := 0) (by decide)) (show 2 ≤ mL 91 by decide) rfl (show 0 ≤ 8 by decide) (by decide) (by decide) rfl rfl (by decide) (by decide) (m91 (N) L 1 (by decide)) ?_
          refine Sem.topNN (show (if 0 < 1 then 1 else 0) = 1 from rfl) ?_
          refine Sem.ifN (tgt := 70) d104_65 (by decide) (by decide) (fun b18 => ?_) (fun b18 => ?_)
          · exact absurd (show 1 = 0 from b18) (by decide)
          refine Sem.seg [(.iconst 0, 0, 0)] ⟨⟨d104_68, trivial⟩, trivial⟩ (lv' := [(1, aN 1), (4, aN 1), (0, aR 23 0), (2, aI m), (3, aI n)]) (st' := [aN 0]) (w' := wd (upN N 23 0 0 1) L) (P := []) rfl (trivial) (pc' := 69) rfl ?_
          refine Sem.iret rfl d104_69 (Or.inl rfl) (by decide) (by decide) hzW ⟨_, _, _, rfl, rfl, ?_⟩
          have hcode : cChange (N 37 0 0) (N 37 0 1) k m n = 1 := by unfold cChange; (repeat' split) <;> omega
          exact ⟨rfl, fun q => absurd (hcode.symm.trans q) (by decide), fun _ => by rw [hcode]⟩
      case neg =>
        refine Sem.cSp1 (as := [aI m, aN 0, aI ((nI (N 37 0 1)) - (nI 1))]) (rst := [aR 23 0]) (c' := 0) (s' := 0) d104_36 mk89 rfl co89 lk5_89 ss89 (show 3 ≤ mL 89 by decide) rfl (show 1 ≤ 8 by decide) (by decide) (by decide) rfl rfl (by decide) (by decide) (m89c (N) L m (N 37 0 1) (by omega)) ?_
        refine Sem.topNN (if_neg h12) ?_
        refine Sem.ifN (tgt := 46) d104_39 (by decide) (by decide) (fun b19 => ?_) (fun b19 => ?_)
        · exact absurd (show ¬ 0 = 0 from b19) (by decide)
        refine Sem.seg [(.iconst 2, 0, 0)] ⟨⟨d104_42, trivial⟩, trivial⟩ (lv' := [(1, aN 1), (4, aN 1), (0, aR 23 0), (2, aI m), (3, aI n)]) (st' := [aN 2, aR 23 0]) (w' := wd N L) (P := []) rfl (trivial) (pc' := 43) rfl ?_
        refine Sem.goto (tgt := 62) d104_43 (by decide) ?_
        refine Sem.cVp1 (t := 23) (i := 0) (as := [aN 2]) (rst := []) (c' := 0) (s' := 0) d104_62 mk91 rfl co91 lk5_97 im91 se91 rfl (vN (t := 23) (i := 0) (by decide)) (show 2 ≤ mL 91 by decide) rfl (show 0 ≤ 8 by decide) (by decide) (by decide) rfl rfl (by decide) (by decide) (m91 (N) L 2 (by decide)) ?_
        refine Sem.topNN (show (if 0 < 2 then 1 else 0) = 1 from rfl) ?_
        refine Sem.ifN (tgt := 70) d104_65 (by decide) (by decide) (fun b20 => ?_) (fun b20 => ?_)
        · exact absurd (show 1 = 0 from b20) (by decide)
        refine Sem.seg [(.iconst 0, 0, 0)] ⟨⟨d104_68, trivial⟩, trivial⟩ (lv' := [(1, aN 1), (4, aN 1), (0, aR 23 0), (2, aI m), (3, aI n)]) (st' := [aN 0]) (w' := wd (upN N 23 0 0 2) L) (P := []) rfl (trivial) (pc' := 69) rfl ?_
        refine Sem.iret rfl d104_69 (Or.inl rfl) (by decide) (by decide) hzW ⟨_, _, _, rfl, rfl, ?_⟩
        have hcode : cChange (N 37 0 0) (N 37 0 1) k m n = 2 := by unfold cChange; (repeat' split) <;> omega
        exact ⟨rfl, fun q => absurd (hcode.symm.trans q) (by decide), fun _ => by rw [hcode]⟩
  · have b1_ : ¬ (k.toInt = 0) := bF rfl rfl b1
    refine Sem.seg [(.iload_n 1, 0, 0), (.iconst 1, 0, 0)] ⟨⟨d104_4, trivial⟩, ⟨d104_5, trivial⟩, trivial⟩ (lv' := [(0, aR 23 0), (1, aI k), (2, aI m), (3, aI n)]) (st' := [aN 1, aI k]) (w' := wd N L) (P := []) rfl (trivial) (pc' := 6) rfl ?_
    refine Sem.icmp (tgt := 13) d104_6 (by decide) rfl rfl (fun b21 => ?_) (fun b21 => ?_)
    · have b21_ : ¬ k.toInt = 1 := bT rfl (nI_toInt (by decide)) b21
      refine Sem.seg [(.iconst 0, 0, 0), (.istore 4, 0, 0), (.aload_n 0, 0, 0), (.iload 4, 0, 0)] ⟨⟨d104_13, trivial⟩, ⟨d104_14, trivial⟩, ⟨d104_16, trivial⟩, ⟨d104_17, trivial⟩, trivial⟩ (lv' := [(4, aN 0), (0, aR 23 0), (1, aI k), (2, aI m), (3, aI n)]) (st' := [aN 0, aR 23 0]) (w' := wd N L) (P := []) rfl (trivial) (pc' := 19) rfl ?_
      refine Sem.ifN (tgt := 26) d104_19 (by decide) (by decide) (fun b22 => ?_) (fun b22 => ?_)
      · exact absurd (show ¬ 0 = 0 from b22) (by decide)
      refine Sem.seg [(.iconst 1, 0, 0)] ⟨⟨d104_22, trivial⟩, trivial⟩ (lv' := [(4, aN 0), (0, aR 23 0), (1, aI k), (2, aI m), (3, aI n)]) (st' := [aN 1, aR 23 0]) (w' := wd N L) (P := []) rfl (trivial) (pc' := 23) rfl ?_
      refine Sem.goto (tgt := 62) d104_23 (by decide) ?_
      refine Sem.cVp1 (t := 23) (i := 0) (as := [aN 1]) (rst := []) (c' := 0) (s' := 0) d104_62 mk91 rfl co91 lk5_97 im91 se91 rfl (vN (t := 23) (i := 0) (by decide)) (show 2 ≤ mL 91 by decide) rfl (show 0 ≤ 8 by decide) (by decide) (by decide) rfl rfl (by decide) (by decide) (m91 (N) L 1 (by decide)) ?_
      refine Sem.topNN (show (if 0 < 1 then 1 else 0) = 1 from rfl) ?_
      refine Sem.ifN (tgt := 70) d104_65 (by decide) (by decide) (fun b23 => ?_) (fun b23 => ?_)
      · exact absurd (show 1 = 0 from b23) (by decide)
      refine Sem.seg [(.iconst 0, 0, 0)] ⟨⟨d104_68, trivial⟩, trivial⟩ (lv' := [(4, aN 0), (0, aR 23 0), (1, aI k), (2, aI m), (3, aI n)]) (st' := [aN 0]) (w' := wd (upN N 23 0 0 1) L) (P := []) rfl (trivial) (pc' := 69) rfl ?_
      refine Sem.iret rfl d104_69 (Or.inl rfl) (by decide) (by decide) hzW ⟨_, _, _, rfl, rfl, ?_⟩
      have hcode : cChange (N 37 0 0) (N 37 0 1) k m n = 1 := by unfold cChange; (repeat' split) <;> omega
      exact ⟨rfl, fun q => absurd (hcode.symm.trans q) (by decide), fun _ => by rw [hcode]⟩
    · have b21_ : ¬ (¬ k.toInt = 1) := bF rfl (nI_toInt (by decide)) b21
      refine Sem.seg [(.iconst 1, 0, 0)] ⟨⟨d104_9, trivial⟩, trivial⟩ (lv' := [(0, aR 23 0), (1, aI k), (2, aI m), (3, aI n)]) (st' := [aN 1]) (w' := wd N L) (P := []) rfl (trivial) (pc' := 10) rfl ?_
      refine Sem.goto (tgt := 14) d104_10 (by decide) ?_
      refine Sem.seg [(.istore 4, 0, 0), (.aload_n 0, 0, 0), (.iload 4, 0, 0)] ⟨⟨d104_14, trivial⟩, ⟨d104_16, trivial⟩, ⟨d104_17, trivial⟩, trivial⟩ (lv' := [(4, aN 1), (0, aR 23 0), (1, aI k), (2, aI m), (3, aI n)]) (st' := [aN 1, aR 23 0]) (w' := wd N L) (P := []) rfl (trivial) (pc' := 19) rfl ?_
      refine Sem.ifN (tgt := 26) d104_19 (by decide) (by decide) (fun b24 => ?_) (fun b24 => ?_)
      rotate_left
      · exact absurd (show ¬ 1 = 0 from by decide) b24
      by_cases hk : k.toInt = 0
      case pos =>
        refine Sem.pick [2, 0, 1, 3, 4] (lv' := [(1, aI k), (4, aN 1), (0, aR 23 0), (2, aI m), (3, aI n)]) rfl ?_
        refine Sem.loc0 (show k = nI 0 from i_nI (by omega)) ?_
        refine Sem.seg [(.iload_n 2, 0, 0), (.iconst 0, 0, 0), (.aload_n 0, 0, 0), (.getfield 49, 5, 15), (.iload_n 1, 0, 0), (.iaload, 0, 0), (.iconst 1, 0, 0), (.isub, 0, 0)] ⟨⟨d104_26, trivial⟩, ⟨d104_27, trivial⟩, ⟨d104_28, trivial⟩, ⟨d104_29, gf5_49⟩, ⟨d104_32, trivial⟩, ⟨d104_33, trivial⟩, ⟨d104_34, trivial⟩, ⟨d104_35, trivial⟩, trivial⟩ (lv' := [(1, aN 0), (4, aN 1), (0, aR 23 0), (2, aI m), (3, aI n)]) (st' := [aI ((nI (N 37 0 0)) - (nI 1)), aN 0, aI m, aR 23 0]) (w' := wd N L) (P := [vld NN 23 0, vld NN 37 0, 0 < 3]) rfl (⟨vN (t := 23) (i := 0) (by decide), vN (t := 37) (i := 0) (by decide), (by decide : (0 : Nat) < 3)⟩) (pc' := 36) rfl ?_
        by_cases h25 : 0 ≤ m.toInt ∧ m.toInt < (N 37 0 0 : Int)
        case pos =>
          refine Sem.cSp1 (as := [aI m, aN 0, aI ((nI (N 37 0 0)) - (nI 1))]) (rst := [aR 23 0]) (c' := 0) (s' := 0) d104_36 mk89 rfl co89 lk5_89 ss89 (show 3 ≤ mL 89 by decide) rfl (show 1 ≤ 8 by decide) (by decide) (by decide) rfl rfl (by decide) (by decide) (m89c (N) L m (N 37 0 0) (by omega)) ?_
          refine Sem.topNN (if_pos h25) ?_
          refine Sem.ifN (tgt := 46) d104_39 (by decide) (by decide) (fun b26 => ?_) (fun b26 => ?_)
          rotate_left
          · exact absurd (show ¬ 1 = 0 from by decide) b26
          refine Sem.seg [(.iload_n 3, 0, 0), (.iconst 0, 0, 0), (.sipush 1000, 0, 0)] ⟨⟨d104_46, trivial⟩, ⟨d104_47, trivial⟩, ⟨d104_48, trivial⟩, trivial⟩ (lv' := [(1, aN 0), (4, aN 1), (0, aR 23 0), (2, aI m), (3, aI n)]) (st' := [aN 1000, aN 0, aI n, aR 23 0]) (w' := wd N L) (P := []) rfl (trivial) (pc' := 51) rfl ?_
          by_cases h27 : ((0 : Nat) : Int) ≤ n.toInt ∧ n.toInt ≤ ((1000 : Nat) : Int)
          case pos =>
            refine Sem.cSp1 (as := [aI n, aN 0, aN 1000]) (rst := [aR 23 0]) (c' := 0) (s' := 0) d104_51 mk89 rfl co89 lk5_89 ss89 (show 3 ≤ mL 89 by decide) rfl (show 1 ≤ 8 by decide) (by decide) (by decide) rfl rfl (by decide) (by decide) (m89 (N) L n 0 1000 (by decide) (by decide)) ?_
            refine Sem.topNN (if_pos h27) ?_
            refine Sem.ifN (tgt := 61) d104_54 (by decide) (by decide) (fun b28 => ?_) (fun b28 => ?_)
            rotate_left
            · exact absurd (show ¬ 1 = 0 from by decide) b28
            refine Sem.seg [(.iconst 0, 0, 0)] ⟨⟨d104_61, trivial⟩, trivial⟩ (lv' := [(1, aN 0), (4, aN 1), (0, aR 23 0), (2, aI m), (3, aI n)]) (st' := [aN 0, aR 23 0]) (w' := wd N L) (P := []) rfl (trivial) (pc' := 62) rfl ?_
            refine Sem.cVp1 (t := 23) (i := 0) (as := [aN 0]) (rst := []) (c' := 0) (s' := 0) d104_62 mk91 rfl co91 lk5_97 im91 se91 rfl (vN (t := 23) (i := 0) (by decide)) (show 2 ≤ mL 91 by decide) rfl (show 0 ≤ 8 by decide) (by decide) (by decide) rfl rfl (by decide) (by decide) (m91 (N) L 0 (by decide)) ?_
            refine Sem.topNN (show (if 0 < 0 then 1 else 0) = 0 from rfl) ?_
            refine Sem.ifN (tgt := 70) d104_65 (by decide) (by decide) (fun b29 => ?_) (fun b29 => ?_)
            rotate_left
            · exact absurd (show 0 = 0 from by decide) b29
            refine Sem.pick [3, 0, 1, 2, 4] (lv' := [(2, aI m), (1, aN 0), (4, aN 1), (0, aR 23 0), (3, aI n)]) rfl ?_
            refine Sem.loc0 (show m = nI m.toInt.toNat from i_nI2 (by omega)) ?_
            have hI_ := hI m.toInt.toNat (by omega)
            refine Sem.seg [(.bipush 24, 0, 0), (.iload_n 1, 0, 0), (.imul, 0, 0), (.iload_n 2, 0, 0), (.iadd, 0, 0), (.istore 5, 0, 0), (.aload_n 0, 0, 0), (.getfield 58, 5, 18), (.iload 5, 0, 0)] ⟨⟨d104_70, trivial⟩, ⟨d104_72, trivial⟩, ⟨d104_73, trivial⟩, ⟨d104_74, trivial⟩, ⟨d104_75, trivial⟩, ⟨d104_76, trivial⟩, ⟨d104_78, trivial⟩, ⟨d104_79, gf5_58⟩, ⟨d104_82, trivial⟩, trivial⟩ (lv' := [(5, aN ((24 * 0) + m.toInt.toNat)), (2, aN m.toInt.toNat), (1, aN 0), (4, aN 1), (0, aR 23 0), (3, aI n)]) (st' := [aN ((24 * 0) + m.toInt.toNat), aR 40 0]) (w' := wd (upN N 23 0 0 0) L) (P := [vld NN 23 0]) rfl (vN (t := 23) (i := 0) (by decide)) (pc' := 84) rfl ?_
            refine Sem.seg [(.iaload, 0, 0), (.istore 6, 0, 0), (.aload_n 0, 0, 0), (.getfield 58, 5, 18), (.iload 5, 0, 0), (.iload_n 3, 0, 0), (.iastore, 0, 0), (.aload_n 0, 0, 0), (.aload_n 0, 0, 0)] ⟨⟨d104_84, trivial⟩, ⟨d104_85, trivial⟩, ⟨d104_87, trivial⟩, ⟨d104_88, gf5_58⟩, ⟨d104_91, trivial⟩, ⟨d104_93, trivial⟩, ⟨d104_94, trivial⟩, ⟨d104_95, trivial⟩, ⟨d104_96, trivial⟩, trivial⟩ (lv' := [(6, aN (N 40 0 ((24 * 0) + m.toInt.toNat))), (5, aN ((24 * 0) + m.toInt.toNat)), (2, aN m.toInt.toNat), (1, aN 0), (4, aN 1), (0, aR 23 0), (3, aI n)]) (st' := [aR 23 0, aR 23 0]) (w' := wd (upN (upN N 23 0 0 0) 40 0 ((24 * 0) + m.toInt.toNat) (tn n)) L) (P := [vld NN 40 0, (24 * 0) + m.toInt.toNat < 72, vld NN 23 0, vld NN 40 0, (24 * 0) + m.toInt.toNat < 72]) rfl (⟨vN (t := 40) (i := 0) (by decide), (show (24 * 0) + m.toInt.toNat < 72 by first | omega | exact hI_), vN (t := 23) (i := 0) (by decide), vN (t := 40) (i := 0) (by decide), (show (24 * 0) + m.toInt.toNat < 72 by first | omega | exact hI_)⟩) (pc' := 97) rfl ?_
            refine Sem.seg [(.getfield 52, 5, 16), (.iload 5, 0, 0), (.iaload, 0, 0)] ⟨⟨d104_97, gf5_52⟩, ⟨d104_100, trivial⟩, ⟨d104_102, trivial⟩, trivial⟩ (lv' := [(6, aN (N 40 0 ((24 * 0) + m.toInt.toNat))), (5, aN ((24 * 0) + m.toInt.toNat)), (2, aN m.toInt.toNat), (1, aN 0), (4, aN 1), (0, aR 23 0), (3, aI n)]) (st' := [aN (N 38 0 ((24 * 0) + m.toInt.toNat)), aR 23 0]) (w' := wd (upN (upN N 23 0 0 0) 40 0 ((24 * 0) + m.toInt.toNat) (tn n)) L) (P := [vld NN 23 0, vld NN 38 0, (24 * 0) + m.toInt.toNat < 72]) rfl (⟨vN (t := 23) (i := 0) (by decide), vN (t := 38) (i := 0) (by decide), (show (24 * 0) + m.toInt.toNat < 72 by first | omega | exact hI_)⟩) (pc' := 103) rfl ?_
            refine Sem.cVp0 (t := 23) (i := 0) (as := [aN (N 38 0 ((24 * 0) + m.toInt.toNat))]) (rst := []) (c' := 0) (s' := 0) d104_103 mk92 rfl co92 lk5_100 im92 se92 rfl (vN (t := 23) (i := 0) (by decide)) (show 2 ≤ mL 92 by decide) rfl (show 0 ≤ 8 by decide) (by decide) (by decide) rfl rfl (by decide) (by decide) (m92 (upN (upN N 23 0 0 0) 40 0 ((24 * 0) + m.toInt.toNat) (tn n)) L (N 38 0 ((24 * 0) + m.toInt.toNat)) (by first | omega | assumption)) ?_
            refine Sem.seg [(.iload 6, 0, 0)] ⟨⟨d104_106, trivial⟩, trivial⟩ (lv' := [(6, aN (N 40 0 ((24 * 0) + m.toInt.toNat))), (5, aN ((24 * 0) + m.toInt.toNat)), (2, aN m.toInt.toNat), (1, aN 0), (4, aN 1), (0, aR 23 0), (3, aI n)]) (st' := [aN (N 40 0 ((24 * 0) + m.toInt.toNat))]) (w' := wd (upN (upN (upN (upN N 23 0 0 0) 40 0 ((24 * 0) + m.toInt.toNat) (tn n)) 41 0 (N 38 0 ((24 * 0) + m.toInt.toNat)) 1) 23 0 20 1) L) (P := []) rfl (trivial) (pc' := 108) rfl ?_
            refine Sem.iret rfl d104_108 (Or.inl rfl) (by decide) (by decide) hzW ⟨_, _, _, rfl, rfl, ?_⟩
            have hcode : cChange (N 37 0 0) (N 37 0 1) k m n = 0 := by unfold cChange; (repeat' split) <;> omega
            have hkk : k.toInt.toNat = 0 := by omega
            exact ⟨rfl, fun _ => by rw [hkk]; exact ⟨rfl, rfl⟩, fun q => absurd hcode q⟩
          case neg =>
            refine Sem.cSp1 (as := [aI n, aN 0, aN 1000]) (rst := [aR 23 0]) (c' := 0) (s' := 0) d104_51 mk89 rfl co89 lk5_89 ss89 (show 3 ≤ mL 89 by decide) rfl (show 1 ≤ 8 by decide) (by decide) (by decide) rfl rfl (by decide) (by decide) (m89 (N) L n 0 1000 (by decide) (by decide)) ?_
            refine Sem.topNN (if_neg h27) ?_
            refine Sem.ifN (tgt := 61) d104_54 (by decide) (by decide) (fun b30 => ?_) (fun b30 => ?_)
            · exact absurd (show ¬ 0 = 0 from b30) (by decide)
            refine Sem.seg [(.iconst 1, 0, 0)] ⟨⟨d104_57, trivial⟩, trivial⟩ (lv' := [(1, aN 0), (4, aN 1), (0, aR 23 0), (2, aI m), (3, aI n)]) (st' := [aN 1, aR 23 0]) (w' := wd N L) (P := []) rfl (trivial) (pc' := 58) rfl ?_
            refine Sem.goto (tgt := 62) d104_58 (by decide) ?_
            refine Sem.cVp1 (t := 23) (i := 0) (as := [aN 1]) (rst := []) (c' := 0) (s' := 0) d104_62 mk91 rfl co91 lk5_97 im91 se91 rfl (vN (t := 23) (i := 0) (by decide)) (show 2 ≤ mL 91 by decide) rfl (show 0 ≤ 8 by decide) (by decide) (by decide) rfl rfl (by decide) (by decide) (m91 (N) L 1 (by decide)) ?_
            refine Sem.topNN (show (if 0 < 1 then 1 else 0) = 1 from rfl) ?_
            refine Sem.ifN (tgt := 70) d104_65 (by decide) (by decide) (fun b31 => ?_) (fun b31 => ?_)
            · exact absurd (show 1 = 0 from b31) (by decide)
            refine Sem.seg [(.iconst 0, 0, 0)] ⟨⟨d104_68, trivial⟩, trivial⟩ (lv' := [(1, aN 0), (4, aN 1), (0, aR 23 0), (2, aI m), (3, aI n)]) (st' := [aN 0]) (w' := wd (upN N 23 0 0 1) L) (P := []) rfl (trivial) (pc' := 69) rfl ?_
            refine Sem.iret rfl d104_69 (Or.inl rfl) (by decide) (by decide) hzW ⟨_, _, _, rfl, rfl, ?_⟩
            have hcode : cChange (N 37 0 0) (N 37 0 1) k m n = 1 := by unfold cChange; (repeat' split) <;> omega
            exact ⟨rfl, fun q => absurd (hcode.symm.trans q) (by decide), fun _ => by rw [hcode]⟩
        case neg =>
          refine Sem.cSp1 (as := [aI m, aN 0, aI ((nI (N 37 0 0)) - (nI 1))]) (rst := [aR 23 0]) (c' := 0) (s' := 0) d104_36 mk89 rfl co89 lk5_89 ss89 (show 3 ≤ mL 89 by decide) rfl (show 1 ≤ 8 by decide) (by decide) (by decide) rfl rfl (by decide) (by decide) (m89c (N) L m (N 37 0 0) (by omega)) ?_
          refine Sem.topNN (if_neg h25) ?_
          refine Sem.ifN (tgt := 46) d104_39 (by decide) (by decide) (fun b32 => ?_) (fun b32 => ?_)
          · exact absurd (show ¬ 0 = 0 from b32) (by decide)
          refine Sem.seg [(.iconst 2, 0, 0)] ⟨⟨d104_42, trivial⟩, trivial⟩ (lv' := [(1, aN 0), (4, aN 1), (0, aR 23 0), (2, aI m), (3, aI n)]) (st' := [aN 2, aR 23 0]) (w' := wd N L) (P := []) rfl (trivial) (pc' := 43) rfl ?_
          refine Sem.goto (tgt := 62) d104_43 (by decide) ?_
          refine Sem.cVp1 (t := 23) (i := 0) (as := [aN 2]) (rst := []) (c' := 0) (s' := 0) d104_62 mk91 rfl co91 lk5_97 im91 se91 rfl (vN (t := 23) (i := 0) (by decide)) (show 2 ≤ mL 91 by decide) rfl (show 0 ≤ 8 by decide) (by decide) (by decide) rfl rfl (by decide) (by decide) (m91 (N) L 2 (by decide)) ?_
          refine Sem.topNN (show (if 0 < 2 then 1 else 0) = 1 from rfl) ?_
          refine Sem.ifN (tgt := 70) d104_65 (by decide) (by decide) (fun b33 => ?_) (fun b33 => ?_)
          · exact absurd (show 1 = 0 from b33) (by decide)
          refine Sem.seg [(.iconst 0, 0, 0)] ⟨⟨d104_68, trivial⟩, trivial⟩ (lv' := [(1, aN 0), (4, aN 1), (0, aR 23 0), (2, aI m), (3, aI n)]) (st' := [aN 0]) (w' := wd (upN N 23 0 0 2) L) (P := []) rfl (trivial) (pc' := 69) rfl ?_
          refine Sem.iret rfl d104_69 (Or.inl rfl) (by decide) (by decide) hzW ⟨_, _, _, rfl, rfl, ?_⟩
          have hcode : cChange (N 37 0 0) (N 37 0 1) k m n = 2 := by unfold cChange; (repeat' split) <;> omega
          exact ⟨rfl, fun q => absurd (hcode.symm.trans q) (by decide), fun _ => by rw [hcode]⟩
      case neg =>
        refine Sem.pick [2, 0, 1, 3, 4] (lv' := [(1, aI k), (4, aN 1), (0, aR 23 0), (2, aI m), (3, aI n)]) rfl ?_
        refine Sem.loc0 (show k = nI 1 from i_nI (by omega)) ?_
        refine Sem.seg [(.iload_n 2, 0, 0), (.iconst 0, 0, 0), (.aload_n 0, 0, 0), (.getfield 49, 5, 15), (.iload_n 1, 0, 0), (.iaload, 0, 0), (.iconst 1, 0, 0), (.isub, 0, 0)] ⟨⟨d104_26, trivial⟩, ⟨d104_27, trivial⟩, ⟨d104_28, trivial⟩, ⟨d104_29, gf5_49⟩, ⟨d104_32, trivial⟩, ⟨d104_33, trivial⟩, ⟨d104_34, trivial⟩, ⟨d104_35, trivial⟩, trivial⟩ (lv' := [(1, aN 1), (4, aN 1), (0, aR 23 0), (2, aI m), (3, aI n)]) (st' := [aI ((nI (N 37 0 1)) - (nI 1)), aN 0, aI m, aR 23 0]) (w' := wd N L) (P := [vld NN 23 0, vld NN 37 0, 1 < 3]) rfl (⟨vN (t := 23) (i := 0) (by decide), vN (t := 37) (i := 0) (by decide), (by decide : (1 : Nat) < 3)⟩) (pc' := 36) rfl ?_
        by_cases h34 : 0 ≤ m.toInt ∧ m.toInt < (N 37 0 1 : Int)
        case pos =>
          refine Sem.cSp1 (as := [aI m, aN 0, aI ((nI (N 37 0 1)) - (nI 1))]) (rst := [aR 23 0]) (c' := 0) (s' := 0) d104_36 mk89 rfl co89 lk5_89 ss89 (show 3 ≤ mL 89 by decide) rfl (show 1 ≤ 8 by decide) (by decide) (by decide) rfl rfl (by decide) (by decide) (m89c (N) L m (N 37 0 1) (by omega)) ?_
          refine Sem.topNN (if_pos h34) ?_
          refine Sem.ifN (tgt := 46) d104_39 (by decide) (by decide) (fun b35 => ?_) (fun b35 => ?_)
          rotate_left
          · exact absurd (show ¬ 1 = 0 from by decide) b35
          refine Sem.seg [(.iload_n 3, 0, 0), (.iconst 0, 0, 0), (.sipush 1000, 0, 0)] ⟨⟨d104_46, trivial⟩, ⟨d104_47, trivial⟩, ⟨d104_48, trivial⟩, trivial⟩ (lv' := [(1, aN 1), (4, aN 1), (0, aR 23 0), (2, aI m), (3, aI n)]) (st' := [aN 1000, aN 0, aI n, aR 23 0]) (w' := wd N L) (P := []) rfl (trivial) (pc' := 51) rfl ?_
          by_cases h36 : ((0 : Nat) : Int) ≤ n.toInt ∧ n.toInt ≤ ((1000 : Nat) : Int)
          case pos =>
            refine Sem.cSp1 (as := [aI n, aN 0, aN 1000]) (rst := [aR 23 0]) (c' := 0) (s' := 0) d104_51 mk89 rfl co89 lk5_89 ss89 (show 3 ≤ mL 89 by decide) rfl (show 1 ≤ 8 by decide) (by decide) (by decide) rfl rfl (by decide) (by decide) (m89 (N) L n 0 1000 (by decide) (by decide)) ?_
            refine Sem.topNN (if_pos h36) ?_
            refine Sem.ifN (tgt := 61) d104_54 (by decide) (by decide) (fun b37 => ?_) (fun b37 => ?_)
            rotate_left
            · exact absurd (show ¬ 1 = 0 from by decide) b37
            refine Sem.seg [(.iconst 0, 0, 0)] ⟨⟨d104_61, trivial⟩, trivial⟩ (lv' := [(1, aN 1), (4, aN 1), (0, aR 23 0), (2, aI m), (3, aI n)]) (st' := [aN 0, aR 23 0]) (w' := wd N L) (P := []) rfl (trivial) (pc' := 62) rfl ?_
            refine Sem.cVp1 (t := 23) (i := 0) (as := [aN 0]) (rst := []) (c' := 0) (s' := 0) d104_62 mk91 rfl co91 lk5_97 im91 se91 rfl (vN (t := 23) (i := 0) (by decide)) (show 2 ≤ mL 91 by decide) rfl (show 0 ≤ 8 by decide) (by decide) (by decide) rfl rfl (by decide) (by decide) (m91 (N) L 0 (by decide)) ?_
            refine Sem.topNN (show (if 0 < 0 then 1 else 0) = 0 from rfl) ?_
            refine Sem.ifN (tgt := 70) d104_65 (by decide) (by decide) (fun b38 => ?_) (fun b38 => ?_)
            rotate_left
            · exact absurd (show 0 = 0 from by decide) b38
            refine Sem.pick [3, 0, 1, 2, 4] (lv' := [(2, aI m), (1, aN 1), (4, aN 1), (0, aR 23 0), (3, aI n)]) rfl ?_
            refine Sem.loc0 (show m = nI m.toInt.toNat from i_nI2 (by omega)) ?_
            have hI_ := hI1 m.toInt.toNat (by omega)
            refine Sem.seg [(.bipush 24, 0, 0), (.iload_n 1, 0, 0), (.imul, 0, 0), (.iload_n 2, 0, 0), (.iadd, 0, 0), (.istore 5, 0, 0), (.aload_n 0, 0, 0), (.getfield 58, 5, 18), (.iload 5, 0, 0)] ⟨⟨d104_70, trivial⟩, ⟨d104_72, trivial⟩, ⟨d104_73, trivial⟩, ⟨d104_74, trivial⟩, ⟨d104_75, trivial⟩, ⟨d104_76, trivial⟩, ⟨d104_78, trivial⟩, ⟨d104_79, gf5_58⟩, ⟨d104_82, trivial⟩, trivial⟩ (lv' := [(5, aN ((24 * 1) + m.toInt.toNat)), (2, aN m.toInt.toNat), (1, aN 1), (4, aN 1), (0, aR 23 0), (3, aI n)]) (st' := [aN ((24 * 1) + m.toInt.toNat), aR 40 0]) (w' := wd (upN N 23 0 0 0) L) (P := [vld NN 23 0]) rfl (vN (t := 23) (i := 0) (by decide)) (pc' := 84) rfl ?_
            refine Sem.seg [(.iaload, 0, 0), (.istore 6, 0, 0), (.aload_n 0, 0, 0), (.getfield 58, 5, 18), (.iload 5, 0, 0), (.iload_n 3, 0, 0), (.iastore, 0, 0), (.aload_n 0, 0, 0), (.aload_n 0, 0, 0)] ⟨⟨d104_84, trivial⟩, ⟨d104_85, trivial⟩, ⟨d104_87, trivial⟩, ⟨d104_88, gf5_58⟩, ⟨d104_91, trivial⟩, ⟨d104_93, trivial⟩, ⟨d104_94, trivial⟩, ⟨d104_95, trivial⟩, ⟨d104_96, trivial⟩, trivial⟩ (lv' := [(6, aN (N 40 0 ((24 * 1) + m.toInt.toNat))), (5, aN ((24 * 1) + m.toInt.toNat)), (2, aN m.toInt.toNat), (1, aN 1), (4, aN 1), (0, aR 23 0), (3, aI n)]) (st' := [aR 23 0, aR 23 0]) (w' := wd (upN (upN N 23 0 0 0) 40 0 ((24 * 1) + m.toInt.toNat) (tn n)) L) (P := [vld NN 40 0, (24 * 1) + m.toInt.toNat < 72, vld NN 23 0, vld NN 40 0, (24 * 1) + m.toInt.toNat < 72]) rfl (⟨vN (t := 40) (i := 0) (by decide), (show (24 * 1) + m.toInt.toNat < 72 by first | omega | exact hI_), vN (t := 23) (i := 0) (by decide), vN (t := 40) (i := 0) (by decide), (show (24 * 1) + m.toInt.toNat < 72 by first | omega | exact hI_)⟩) (pc' := 97) rfl ?_
            refine Sem.seg [(.getfield 52, 5, 16), (.iload 5, 0, 0), (.iaload, 0, 0)] ⟨⟨d104_97, gf5_52⟩, ⟨d104_100, trivial⟩, ⟨d104_102, trivial⟩, trivial⟩ (lv' := [(6, aN (N 40 0 ((24 * 1) + m.toInt.toNat))), (5, aN ((24 * 1) + m.toInt.toNat)), (2, aN m.toInt.toNat), (1, aN 1), (4, aN 1), (0, aR 23 0), (3, aI n)]) (st' := [aN (N 38 0 ((24 * 1) + m.toInt.toNat)), aR 23 0]) (w' := wd (upN (upN N 23 0 0 0) 40 0 ((24 * 1) + m.toInt.toNat) (tn n)) L) (P := [vld NN 23 0, vld NN 38 0, (24 * 1) + m.toInt.toNat < 72]) rfl (⟨vN (t := 23) (i := 0) (by decide), vN (t := 38) (i := 0) (by decide), (show (24 * 1) + m.toInt.toNat < 72 by first | omega | exact hI_)⟩) (pc' := 103) rfl ?_
            refine Sem.cVp0 (t := 23) (i := 0) (as := [aN (N 38 0 ((24 * 1) + m.toInt.toNat))]) (rst := []) (c' := 0) (s' := 0) d104_103 mk92 rfl co92 lk5_100 im92 se92 rfl (vN (t := 23) (i := 0) (by decide)) (show 2 ≤ mL 92 by decide) rfl (show 0 ≤ 8 by decide) (by decide) (by decide) rfl rfl (by decide) (by decide) (m92 (upN (upN N 23 0 0 0) 40 0 ((24 * 1) + m.toInt.toNat) (tn n)) L (N 38 0 ((24 * 1) + m.toInt.toNat)) (by first | omega | assumption)) ?_
            refine Sem.seg [(.iload 6, 0, 0)] ⟨⟨d104_106, trivial⟩, trivial⟩ (lv' := [(6, aN (N 40 0 ((24 * 1) + m.toInt.toNat))), (5, aN ((24 * 1) + m.toInt.toNat)), (2, aN m.toInt.toNat), (1, aN 1), (4, aN 1), (0, aR 23 0), (3, aI n)]) (st' := [aN (N 40 0 ((24 * 1) + m.toInt.toNat))]) (w' := wd (upN (upN (upN (upN N 23 0 0 0) 40 0 ((24 * 1) + m.toInt.toNat) (tn n)) 41 0 (N 38 0 ((24 * 1) + m.toInt.toNat)) 1) 23 0 20 1) L) (P := []) rfl (trivial) (pc' := 108) rfl ?_
            refine Sem.iret rfl d104_108 (Or.inl rfl) (by decide) (by decide) hzW ⟨_, _, _, rfl, rfl, ?_⟩
            have hcode : cChange (N 37 0 0) (N 37 0 1) k m n = 0 := by unfold cChange; (repeat' split) <;> omega
            have hkk : k.toInt.toNat = 1 := by omega
            exact ⟨rfl, fun _ => by rw [hkk]; exact ⟨rfl, rfl⟩, fun q => absurd hcode q⟩
          case neg =>
            refine Sem.cSp1 (as := [aI n, aN 0, aN 1000]) (rst := [aR 23 0]) (c' := 0) (s' := 0) d104_51 mk89 rfl co89 lk5_89 ss89 (show 3 ≤ mL 89 by decide) rfl (show 1 ≤ 8 by decide) (by decide) (by decide) rfl rfl (by decide) (by decide) (m89 (N) L n 0 1000 (by decide) (by decide)) ?_
            refine Sem.topNN (if_neg h36) ?_
            refine Sem.ifN (tgt := 61) d104_54 (by decide) (by decide) (fun b39 => ?_) (fun b39 => ?_)
            · exact absurd (show ¬ 0 = 0 from b39) (by decide)
            refine Sem.seg [(.iconst 1, 0, 0)] ⟨⟨d104_57, trivial⟩, trivial⟩ (lv' := [(1, aN 1), (4, aN 1), (0, aR 23 0), (2, aI m), (3, aI n)]) (st' := [aN 1, aR 23 0]) (w' := wd N L) (P := []) rfl (trivial) (pc' := 58) rfl ?_
            refine Sem.goto (tgt := 62) d104_58 (by decide) ?_
            refine Sem.cVp1 (t := 23) (i := 0) (as := [aN 1]) (rst := []) (c' := 0) (s' := 0) d104_62 mk91 rfl co91 lk5_97 im91 se91 rfl (vN (t := 23) (i := 0) (by decide)) (show 2 ≤ mL 91 by decide) rfl (show 0 ≤ 8 by decide) (by decide) (by decide) rfl rfl (by decide) (by decide) (m91 (N) L 1 (by decide)) ?_
            refine Sem.topNN (show (if 0 < 1 then 1 else 0) = 1 from rfl) ?_
            refine Sem.ifN (tgt := 70) d104_65 (by decide) (by decide) (fun b40 => ?_) (fun b40 => ?_)
            · exact absurd (show 1 = 0 from b40) (by decide)
            refine Sem.seg [(.iconst 0, 0, 0)] ⟨⟨d104_68, trivial⟩, trivial⟩ (lv' := [(1, aN 1), (4, aN 1), (0, aR 23 0), (2, aI m), (3, aI n)]) (st' := [aN 0]) (w' := wd (upN N 23 0 0 1) L) (P := []) rfl (trivial) (pc' := 69) rfl ?_
            refine Sem.iret rfl d104_69 (Or.inl rfl) (by decide) (by decide) hzW ⟨_, _, _, rfl, rfl, ?_⟩
            have hcode : cChange (N 37 0 0) (N 37 0 1) k m n = 1 := by unfold cChange; (repeat' split) <;> omega
            exact ⟨rfl, fun q => absurd (hcode.symm.trans q) (by decide), fun _ => by rw [hcode]⟩
        case neg =>
          refine Sem.cSp1 (as := [aI m, aN 0, aI ((nI (N 37 0 1)) - (nI 1))]) (rst := [aR 23 0]) (c' := 0) (s' := 0) d104_36 mk89 rfl co89 lk5_89 ss89 (show 3 ≤ mL 89 by decide) rfl (show 1 ≤ 8 by decide) (by decide) (by decide) rfl rfl (by decide) (by decide) (m89c (N) L m (N 37 0 1) (by omega)) ?_
          refine Sem.topNN (if_neg h34) ?_
          refine Sem.ifN (tgt := 46) d104_39 (by decide) (by decide) (fun b41 => ?_) (fun b41 => ?_)
          · exact absurd (show ¬ 0 = 0 from b41) (by decide)
          refine Sem.seg [(.iconst 2, 0, 0)] ⟨⟨d104_42, trivial⟩, trivial⟩ (lv' := [(1, aN 1), (4, aN 1), (0, aR 23 0), (2, aI m), (3, aI n)]) (st' := [aN 2, aR 23 0]) (w' := wd N L) (P := []) rfl (trivial) (pc' := 43) rfl ?_
          refine Sem.goto (tgt := 62) d104_43 (by decide) ?_
          refine Sem.cVp1 (t := 23) (i := 0) (as := [aN 2]) (rst := []) (c' := 0) (s' := 0) d104_62 mk91 rfl co91 lk5_97 im91 se91 rfl (vN (t := 23) (i := 0) (by decide)) (show 2 ≤ mL 91 by decide) rfl (show 0 ≤ 8 by decide) (by decide) (by decide) rfl rfl (by decide) (by decide) (m91 (N) L 2 (by decide)) ?_
          refine Sem.topNN (show (if 0 < 2 then 1 else 0) = 1 from rfl) ?_
          refine Sem.ifN (tgt := 70) d104_65 (by decide) (by decide) (fun b42 => ?_) (fun b42 => ?_)
          · exact absurd (show 1 = 0 from b42) (by decide)
          refine Sem.seg [(.iconst 0, 0, 0)] ⟨⟨d104_68, trivial⟩, trivial⟩ (lv' := [(1, aN 1), (4, aN 1), (0, aR 23 0), (2, aI m), (3, aI n)]) (st' := [aN 0]) (w' := wd (upN N 23 0 0 2) L) (P := []) rfl (trivial) (pc' := 69) rfl ?_
          refine Sem.iret rfl d104_69 (Or.inl rfl) (by decide) (by decide) hzW ⟨_, _, _, rfl, rfl, ?_⟩
          have hcode : cChange (N 37 0 0) (N 37 0 1) k m n = 2 := by unfold cChange; (repeat' split) <;> omega
          exact ⟨rfl, fun q => absurd (hcode.symm.trans q) (by decide), fun _ => by rw [hcode]⟩

theorem m129 {sc : XT} (N : TN) (L : TL) (x : Int32) (h2 : N 37 0 2 ≤ 24) : Sem sc 129 0 [(0, aR 23 0), (1, aI x)] [] (wd N L) 0 0 (QZ fun z N' L' => L = L' ∧ (cGive (N 37 0 2) x = 0 → z = N 40 0 (48 + x.toInt.toNat) ∧ N' = upN (upN N 23 0 0 0) 40 0 (48 + x.toInt.toNat) 0) ∧ (¬ cGive (N 37 0 2) x = 0 → N' = upN N 23 0 0 (cGive (N 37 0 2) x))) := by
  refine Sem.seg [(.aload_n 0, 0, 0), (.iload_n 1, 0, 0), (.iconst 0, 0, 0), (.aload_n 0, 0, 0), (.getfield 49, 5, 15), (.iconst 2, 0, 0), (.iaload, 0, 0), (.iconst 1, 0, 0), (.isub, 0, 0)] ⟨⟨d129_0, trivial⟩, ⟨d129_1, trivial⟩, ⟨d129_2, trivial⟩, ⟨d129_3, trivial⟩, ⟨d129_4, gf5_49⟩, ⟨d129_7, trivial⟩, ⟨d129_8, trivial⟩, ⟨d129_9, trivial⟩, ⟨d129_10, trivial⟩, trivial⟩ (lv' := [(0, aR 23 0), (1, aI x)]) (st' := [aI ((nI (N 37 0 2)) - (nI 1)), aN 0, aI x, aR 23 0]) (w' := wd N L) (P := [vld NN 23 0, vld NN 37 0, 2 < 3]) rfl (⟨vN (t := 23) (i := 0) (by decide), vN (t := 37) (i := 0) (by decide), (by decide : (2 : Nat) < 3)⟩) (pc' := 11) rfl ?_
  by_cases h1 : 0 ≤ x.toInt ∧ x.toInt < (N 37 0 2 : Int)
  case pos =>
    refine Sem.cSp1 (as := [aI x, aN 0, aI ((nI (N 37 0 2)) - (nI 1))]) (rst := [aR 23 0]) (c' := 0) (s' := 0) d129_11 mk89 rfl co89 lk5_89 ss89 (show 3 ≤ mL 89 by decide) rfl (show 1 ≤ 8 by decide) (by decide) (by decide) rfl rfl (by decide) (by decide) (m89c (N) L x (N 37 0 2) (by omega)) ?_
    refine Sem.topNN (if_pos h1) ?_
    refine Sem.ifN (tgt := 21) d129_14 (by decide) (by decide) (fun b2 => ?_) (fun b2 => ?_)
    · exact absurd (show 1 = 0 from b2) (by decide)
    refine Sem.seg [(.iconst 0, 0, 0)] ⟨⟨d129_17, trivial⟩, trivial⟩ (lv' := [(0, aR 23 0), (1, aI x)]) (st' := [aN 0, aR 23 0]) (w' := wd N L) (P := []) rfl (trivial) (pc' := 18) rfl ?_
    refine Sem.goto (tgt := 22) d129_18 (by decide) ?_
    refine Sem.cVp1 (t := 23) (i := 0) (as := [aN 0]) (rst := []) (c' := 0) (s' := 0) d129_22 mk91 rfl co91 lk5_97 im91 se91 rfl (vN (t := 23) (i := 0) (by decide)) (show 2 ≤ mL 91 by decide) rfl (show 0 ≤ 8 by decide) (by decide) (by decide) rfl rfl (by decide) (by decide) (m91 (N) L 0 (by decide)) ?_
    refine Sem.topNN (show (if 0 < 0 then 1 else 0) = 0 from rfl) ?_
    refine Sem.ifN (tgt := 30) d129_25 (by decide) (by decide) (fun b3 => ?_) (fun b3 => ?_)
    rotate_left
    · exact absurd (show 0 = 0 from by decide) b3
    refine Sem.pick [1, 0] (lv' := [(1, aI x), (0, aR 23 0)]) rfl ?_
    refine Sem.loc0 (show x = nI x.toInt.toNat from i_nI2 (by omega)) ?_
    refine Sem.seg [(.aload_n 0, 0, 0), (.getfield 58, 5, 18), (.bipush 48, 0, 0), (.iload_n 1, 0, 0), (.iadd, 0, 0), (.iaload, 0, 0), (.istore_n 2, 0, 0), (.aload_n 0, 0, 0), (.getfield 58, 5, 18)] ⟨⟨d129_30, trivial⟩, ⟨d129_31, gf5_58⟩, ⟨d129_34, trivial⟩, ⟨d129_36, trivial⟩, ⟨d129_37, trivial⟩, ⟨d129_38, trivial⟩, ⟨d129_39, trivial⟩, ⟨d129_40, trivial⟩, ⟨d129_41, gf5_58⟩, trivial⟩ (lv' := [(2, aN (N 40 0 (48 + x.toInt.toNat))), (1, aN x.toInt.toNat), (0, aR 23 0)]) (st' := [aR 40 0]) (w' := wd (upN N 23 0 0 0) L) (P := [vld NN 23 0, vld NN 40 0, 48 + x.toInt.toNat < 72, vld NN 23 0]) rfl (⟨vN (t := 23) (i := 0) (by decide), vN (t := 40) (i := 0) (by decide), (show 48 + x.toInt.toNat < 72 by omega), vN (t := 23) (i := 0) (by decide)⟩) (pc' := 44) rfl ?_
    refine Sem.seg [(.bipush 48, 0, 0), (.iload_n 1, 0, 0), (.iadd, 0, 0), (.iconst 0, 0, 0), (.iastore, 0, 0), (.iload_n 2, 0, 0)] ⟨⟨d129_44, trivial⟩, ⟨d129_46, trivial⟩, ⟨d129_47, trivial⟩, ⟨d129_48, trivial⟩, ⟨d129_49, trivial⟩, ⟨d129_50, trivial⟩, trivial⟩ (lv' := [(2, aN (N 40 0 (48 + x.toInt.toNat))), (1, aN x.toInt.toNat), (0, aR 23 0)]) (st' := [aN (N 40 0 (48 + x.toInt.toNat))]) (w' := wd (upN (upN N 23 0 0 0) 40 0 (48 + x.toInt.toNat) 0) L) (P := [vld NN 40 0, 48 + x.toInt.toNat < 72]) rfl (⟨vN (t := 40) (i := 0) (by decide), (show 48 + x.toInt.toNat < 72 by omega)⟩) (pc' := 51) rfl ?_
    refine Sem.iret rfl d129_51 (Or.inl rfl) (by decide) (by decide) hzW ⟨_, _, _, rfl, rfl, ?_⟩
    have hcode : cGive (N 37 0 2) x = 0 := by unfold cGive; (repeat' split) <;> omega
    exact ⟨rfl, fun _ => ⟨rfl, rfl⟩, fun q => absurd hcode q⟩
  case neg =>
    refine Sem.cSp1 (as := [aI x, aN 0, aI ((nI (N 37 0 2)) - (nI 1))]) (rst := [aR 23 0]) (c' := 0) (s' := 0) d129_11 mk89 rfl co89 lk5_89 ss89 (show 3 ≤ mL 89 by decide) rfl (show 1 ≤ 8 by decide) (by decide) (by decide) rfl rfl (by decide) (by decide) (m89c (N) L x (N 37 0 2) (by omega)) ?_
    refine Sem.topNN (if_neg h1) ?_
    refine Sem.ifN (tgt := 21) d129_14 (by decide) (by decide) (fun b4 => ?_) (fun b4 => ?_)
    rotate_left
    · exact absurd (show 0 = 0 from by decide) b4
    refine Sem.seg [(.iconst 1, 0, 0)] ⟨⟨d129_21, trivial⟩, trivial⟩ (lv' := [(0, aR 23 0), (1, aI x)]) (st' := [aN 1, aR 23 0]) (w' := wd N L) (P := []) rfl (trivial) (pc' := 22) rfl ?_
    refine Sem.cVp1 (t := 23) (i := 0) (as := [aN 1]) (rst := []) (c' := 0) (s' := 0) d129_22 mk91 rfl co91 lk5_97 im91 se91 rfl (vN (t := 23) (i := 0) (by decide)) (show 2 ≤ mL 91 by decide) rfl (show 0 ≤ 8 by decide) (by decide) (by decide) rfl rfl (by decide) (by decide) (m91 (N) L 1 (by decide)) ?_
    refine Sem.topNN (show (if 0 < 1 then 1 else 0) = 1 from rfl) ?_
    refine Sem.ifN (tgt := 30) d129_25 (by decide) (by decide) (fun b5 => ?_) (fun b5 => ?_)
    · exact absurd (show 1 = 0 from b5) (by decide)
    refine Sem.seg [(.iconst 0, 0, 0)] ⟨⟨d129_28, trivial⟩, trivial⟩ (lv' := [(0, aR 23 0), (1, aI x)]) (st' := [aN 0]) (w' := wd (upN N 23 0 0 1) L) (P := []) rfl (trivial) (pc' := 29) rfl ?_
    refine Sem.iret rfl d129_29 (Or.inl rfl) (by decide) (by decide) hzW ⟨_, _, _, rfl, rfl, ?_⟩
    have hcode : cGive (N 37 0 2) x = 1 := by unfold cGive; (repeat' split) <;> omega
    exact ⟨rfl, fun q => absurd (hcode.symm.trans q) (by decide), fun _ => by rw [hcode]⟩

