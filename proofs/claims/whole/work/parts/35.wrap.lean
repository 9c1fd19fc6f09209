-- ===== the law's calls of the class =====
theorem m22 {sc : XT} (N : TN) (L : TL) (x r s l f : Int32)  : Sem sc 22 0 [(0, aR 0 0), (1, aI x), (2, aI r), (3, aI s), (4, aI l), (5, aI f)] [] (wd N L) 0 0 (QZ fun z N' L' => z = cItem x r s l f ∧ (cItem x r s l f = 0 → N' = upN (upN (upN (upN (upN N 19 x.toInt.toNat 0 (tn r)) 19 x.toInt.toNat 1 (tn s)) 19 x.toInt.toNat 2 (tn l)) 19 x.toInt.toNat 3 (tn f)) 19 x.toInt.toNat 10 1 ∧ L' = L) ∧ (¬ cItem x r s l f = 0 → N' = N ∧ L' = L)) := by
  refine Sem.seg [(.aload_n 0, 0, 0), (.iload_n 1, 0, 0), (.iload_n 2, 0, 0), (.iload_n 3, 0, 0), (.iload 4, 0, 0), (.iload 5, 0, 0)] ⟨⟨d22_0, trivial⟩, ⟨d22_1, trivial⟩, ⟨d22_2, trivial⟩, ⟨d22_3, trivial⟩, ⟨d22_4, trivial⟩, ⟨d22_6, trivial⟩, trivial⟩ (lv' := [(0, aR 0 0), (1, aI x), (2, aI r), (3, aI s), (4, aI l), (5, aI f)]) (st' := [aI f, aI l, aI s, aI r, aI x, aR 0 0]) (w' := wd N L) (P := []) rfl (trivial) (pc' := 8) rfl ?_
  refine Sem.cVC (t := 0) (i := 0) (as := [aI x, aI r, aI s, aI l, aI f]) (rst := []) (c' := 5) (s' := 30) d22_8 mk23 rfl co23 lk6_7 im23 se23 rfl (vN (t := 0) (i := 0) (by decide)) (show 6 ≤ mL 23 by decide) rfl (show 0 ≤ 8 by decide) (by decide) (by decide) rfl rfl (by decide) (by decide) (m23 N L x r s l f) ?_ ?_
  case refine_2 =>
    rintro e N_ L_ he_ hx_
    have he3_ : e = 0 ∨ e = 1 := by omega
    rcases he3_ with he_1 | he_1
    · subst he_1
      refine SemX.catch (en9 := 0) (by decide) [] ⟨0, 11, 14, 13⟩ [⟨0, 11, 18, 15⟩] rfl (fun z hz => by cases hz) (by decide) (by decide) cl6_13 (fun q => ?_)
      refine Sem.seg [(.astore 6, 0, 0), (.iconst 1, 0, 0)] ⟨⟨d22_14, trivial⟩, ⟨d22_16, trivial⟩, trivial⟩ (lv' := [(6, aV (.ref q)), (0, aR 0 0), (1, aI x), (2, aI r), (3, aI s), (4, aI l), (5, aI f)]) (st' := [aN 1]) (w' := wd N_ L_) (P := []) rfl (trivial) (pc' := 17) rfl ?_
      exact Sem.iret rfl d22_17 (Or.inl rfl) (by decide) (by decide) hzW ⟨_, _, _, rfl, rfl, by have hq_ := hx_.1; exact ⟨by first | omega | (rw [hq_]; rfl), fun q => absurd (hq_.symm.trans q) (by decide), fun _ => ⟨hx_.2.2.1, hx_.2.2.2⟩⟩⟩
    · subst he_1
      refine SemX.catch (en9 := 1) (by decide) [⟨0, 11, 14, 13⟩] ⟨0, 11, 18, 15⟩ [] rfl (fun z hz => by
            rcases List.mem_cons.mp hz with rfl | hz
            · exact Or.inr ⟨by decide, _, cl6_13, List.mem_of_getElem? (i := 0) rfl⟩
            · cases hz) (by decide) (by decide) cl6_15 (fun q => ?_)
      refine Sem.seg [(.astore 6, 0, 0), (.iconst 2, 0, 0)] ⟨⟨d22_18, trivial⟩, ⟨d22_20, trivial⟩, trivial⟩ (lv' := [(6, aV (.ref q)), (0, aR 0 0), (1, aI x), (2, aI r), (3, aI s), (4, aI l), (5, aI f)]) (st' := [aN 2]) (w' := wd N_ L_) (P := []) rfl (trivial) (pc' := 21) rfl ?_
      exact Sem.iret rfl d22_21 (Or.inl rfl) (by decide) (by decide) hzW ⟨_, _, _, rfl, rfl, by have hq_ := hx_.1; exact ⟨by first | omega | (rw [hq_]; rfl), fun q => absurd (hq_.symm.trans q) (by decide), fun _ => ⟨hx_.2.2.1, hx_.2.2.2⟩⟩⟩
  case refine_1 =>
    rintro v_ N1 L1 ⟨hz, rfl, hN, hL⟩
    refine Sem.goto (tgt := 22) d22_11 (by decide) ?_
    refine Sem.seg [(.iconst 0, 0, 0)] ⟨⟨d22_22, trivial⟩, trivial⟩ (lv' := [(0, aR 0 0), (1, aI x), (2, aI r), (3, aI s), (4, aI l), (5, aI f)]) (st' := [aN 0]) (w' := wd N1 L1) (P := []) rfl (trivial) (pc' := 23) rfl ?_
    exact Sem.iret rfl d22_23 (Or.inl rfl) (by decide) (by decide) hzW ⟨_, _, _, rfl, rfl, by exact ⟨hz.symm, fun _ => ⟨hN, hL⟩, fun q => absurd hz q⟩⟩

theorem m27 {sc : XT} (N : TN) (L : TL) (x a b c : Int32)  : Sem sc 27 0 [(0, aR 0 0), (1, aI x), (2, aI a), (3, aI b), (4, aI c)] [] (wd N L) 0 0 (QZ fun z N' L' => z = cCosts x a b c ∧ (cCosts x a b c = 0 → N' = upN (upN (upN (upN N 19 x.toInt.toNat 4 (tn a)) 19 x.toInt.toNat 5 (tn b)) 19 x.toInt.toNat 6 (tn c)) 19 x.toInt.toNat 10 1 ∧ L' = L) ∧ (¬ cCosts x a b c = 0 → N' = N ∧ L' = L)) := by
  refine Sem.seg [(.aload_n 0, 0, 0), (.iload_n 1, 0, 0), (.iload_n 2, 0, 0), (.iload_n 3, 0, 0), (.iload 4, 0, 0)] ⟨⟨d27_0, trivial⟩, ⟨d27_1, trivial⟩, ⟨d27_2, trivial⟩, ⟨d27_3, trivial⟩, ⟨d27_4, trivial⟩, trivial⟩ (lv' := [(0, aR 0 0), (1, aI x), (2, aI a), (3, aI b), (4, aI c)]) (st' := [aI c, aI b, aI a, aI x, aR 0 0]) (w' := wd N L) (P := []) rfl (trivial) (pc' := 6) rfl ?_
  refine Sem.cVC (t := 0) (i := 0) (as := [aI x, aI a, aI b, aI c]) (rst := []) (c' := 4) (s' := 24) d27_6 mk28 rfl co28 lk6_17 im28 se28 rfl (vN (t := 0) (i := 0) (by decide)) (show 5 ≤ mL 28 by decide) rfl (show 0 ≤ 8 by decide) (by decide) (by decide) rfl rfl (by decide) (by decide) (m28 N L x a b c) ?_ ?_
  case refine_2 =>
    rintro e N_ L_ he_ hx_
    have he3_ : e = 0 ∨ e = 1 := by omega
    rcases he3_ with he_1 | he_1
    · subst he_1
      refine SemX.catch (en9 := 0) (by decide) [] ⟨0, 9, 12, 13⟩ [⟨0, 9, 16, 15⟩] rfl (fun z hz => by cases hz) (by decide) (by decide) cl6_13 (fun q => ?_)
      refine Sem.seg [(.astore 5, 0, 0), (.iconst 1, 0, 0)] ⟨⟨d27_12, trivial⟩, ⟨d27_14, trivial⟩, trivial⟩ (lv' := [(5, aV (.ref q)), (0, aR 0 0), (1, aI x), (2, aI a), (3, aI b), (4, aI c)]) (st' := [aN 1]) (w' := wd N_ L_) (P := []) rfl (trivial) (pc' := 15) rfl ?_
      exact Sem.iret rfl d27_15 (Or.inl rfl) (by decide) (by decide) hzW ⟨_, _, _, rfl, rfl, by have hq_ := hx_.1; exact ⟨by first | omega | (rw [hq_]; rfl), fun q => absurd (hq_.symm.trans q) (by decide), fun _ => ⟨hx_.2.2.1, hx_.2.2.2⟩⟩⟩
    · subst he_1
      refine SemX.catch (en9 := 1) (by decide) [⟨0, 9, 12, 13⟩] ⟨0, 9, 16, 15⟩ [] rfl (fun z hz => by
            rcases List.mem_cons.mp hz with rfl | hz
            · exact Or.inr ⟨by decide, _, cl6_13, List.mem_of_getElem? (i := 0) rfl⟩
            · cases hz) (by decide) (by decide) cl6_15 (fun q => ?_)
      refine Sem.seg [(.astore 5, 0, 0), (.iconst 2, 0, 0)] ⟨⟨d27_16, trivial⟩, ⟨d27_18, trivial⟩, trivial⟩ (lv' := [(5, aV (.ref q)), (0, aR 0 0), (1, aI x), (2, aI a), (3, aI b), (4, aI c)]) (st' := [aN 2]) (w' := wd N_ L_) (P := []) rfl (trivial) (pc' := 19) rfl ?_
      exact Sem.iret rfl d27_19 (Or.inl rfl) (by decide) (by decide) hzW ⟨_, _, _, rfl, rfl, by have hq_ := hx_.1; exact ⟨by first | omega | (rw [hq_]; rfl), fun q => absurd (hq_.symm.trans q) (by decide), fun _ => ⟨hx_.2.2.1, hx_.2.2.2⟩⟩⟩
  case refine_1 =>
    rintro v_ N1 L1 ⟨hz, rfl, hN, hL⟩
    refine Sem.goto (tgt := 20) d27_9 (by decide) ?_
    refine Sem.seg [(.iconst 0, 0, 0)] ⟨⟨d27_20, trivial⟩, trivial⟩ (lv' := [(0, aR 0 0), (1, aI x), (2, aI a), (3, aI b), (4, aI c)]) (st' := [aN 0]) (w' := wd N1 L1) (P := []) rfl (trivial) (pc' := 21) rfl ?_
    exact Sem.iret rfl d27_21 (Or.inl rfl) (by decide) (by decide) hzW ⟨_, _, _, rfl, rfl, by exact ⟨hz.symm, fun _ => ⟨hN, hL⟩, fun q => absurd hz q⟩⟩

theorem m29 {sc : XT} (N : TN) (L : TL) (x c h : Int32)  : Sem sc 29 0 [(0, aR 0 0), (1, aI x), (2, aI c), (3, aI h)] [] (wd N L) 0 0 (QZ fun z N' L' => z = cMade x c h ∧ (cMade x c h = 0 → N' = upN (upN N 19 x.toInt.toNat 8 (tn c)) 19 x.toInt.toNat 9 (tn h) ∧ L' = L) ∧ (¬ cMade x c h = 0 → N' = N ∧ L' = L)) := by
  refine Sem.seg [(.aload_n 0, 0, 0), (.iload_n 1, 0, 0), (.iload_n 2, 0, 0), (.iload_n 3, 0, 0)] ⟨⟨d29_0, trivial⟩, ⟨d29_1, trivial⟩, ⟨d29_2, trivial⟩, ⟨d29_3, trivial⟩, trivial⟩ (lv' := [(0, aR 0 0), (1, aI x), (2, aI c), (3, aI h)]) (st' := [aI h, aI c, aI x, aR 0 0]) (w' := wd N L) (P := []) rfl (trivial) (pc' := 4) rfl ?_
  refine Sem.cVC (t := 0) (i := 0) (as := [aI x, aI c, aI h]) (rst := []) (c' := 3) (s' := 18) d29_4 mk30 rfl co30 lk6_21 im30 se30 rfl (vN (t := 0) (i := 0) (by decide)) (show 4 ≤ mL 30 by decide) rfl (show 0 ≤ 8 by decide) (by decide) (by decide) rfl rfl (by decide) (by decide) (m30 N L x c h) ?_ ?_
  case refine_2 =>
    rintro e N_ L_ he_ hx_
    have he3_ : e = 0 ∨ e = 1 := by omega
    rcases he3_ with he_1 | he_1
    · subst he_1
      refine SemX.catch (en9 := 0) (by decide) [] ⟨0, 7, 10, 13⟩ [⟨0, 7, 14, 15⟩] rfl (fun z hz => by cases hz) (by decide) (by decide) cl6_13 (fun q => ?_)
      refine Sem.seg [(.astore 4, 0, 0), (.iconst 1, 0, 0)] ⟨⟨d29_10, trivial⟩, ⟨d29_12, trivial⟩, trivial⟩ (lv' := [(4, aV (.ref q)), (0, aR 0 0), (1, aI x), (2, aI c), (3, aI h)]) (st' := [aN 1]) (w' := wd N_ L_) (P := []) rfl (trivial) (pc' := 13) rfl ?_
      exact Sem.iret rfl d29_13 (Or.inl rfl) (by decide) (by decide) hzW ⟨_, _, _, rfl, rfl, by have hq_ := hx_.1; exact ⟨by first | omega | (rw [hq_]; rfl), fun q => absurd (hq_.symm.trans q) (by decide), fun _ => ⟨hx_.2.2.1, hx_.2.2.2⟩⟩⟩
    · subst he_1
      refine SemX.catch (en9 := 1) (by decide) [⟨0, 7, 10, 13⟩] ⟨0, 7, 14, 15⟩ [] rfl (fun z hz => by
            rcases List.mem_cons.mp hz with rfl | hz
            · exact Or.inr ⟨by decide, _, cl6_13, List.mem_of_getElem? (i := 0) rfl⟩
            · cases hz) (by decide) (by decide) cl6_15 (fun q => ?_)
      refine Sem.seg [(.astore 4, 0, 0), (.iconst 2, 0, 0)] ⟨⟨d29_14, trivial⟩, ⟨d29_16, trivial⟩, trivial⟩ (lv' := [(4, aV (.ref q)), (0, aR 0 0), (1, aI x), (2, aI c), (3, aI h)]) (st' := [aN 2]) (w' := wd N_ L_) (P := []) rfl (trivial) (pc' := 17) rfl ?_
      exact Sem.iret rfl d29_17 (Or.inl rfl) (by decide) (by decide) hzW ⟨_, _, _, rfl, rfl, by have hq_ := hx_.1; exact ⟨by first | omega | (rw [hq_]; rfl), fun q => absurd (hq_.symm.trans q) (by decide), fun _ => ⟨hx_.2.2.1, hx_.2.2.2⟩⟩⟩
  case refine_1 =>
    rintro v_ N1 L1 ⟨hz, rfl, hN, hL⟩
    refine Sem.goto (tgt := 18) d29_7 (by decide) ?_
    refine Sem.seg [(.iconst 0, 0, 0)] ⟨⟨d29_18, trivial⟩, trivial⟩ (lv' := [(0, aR 0 0), (1, aI x), (2, aI c), (3, aI h)]) (st' := [aN 0]) (w' := wd N1 L1) (P := []) rfl (trivial) (pc' := 19) rfl ?_
    exact Sem.iret rfl d29_19 (Or.inl rfl) (by decide) (by decide) hzW ⟨_, _, _, rfl, rfl, by exact ⟨hz.symm, fun _ => ⟨hN, hL⟩, fun q => absurd hz q⟩⟩

theorem m32 {sc : XT} (N : TN) (L : TL) (p c n f u : Int32) (hc : CD N) (hl : N 2 0 5 = lineS N) : Sem sc 32 0 [(0, aR 0 0), (1, aI p), (2, aI c), (3, aI n), (4, aI f), (5, aI u)] [] (wd N L) 0 0 (QZ fun z N' L' => z = cLine N p c n f u ∧ (cLine N p c n f u = 0 → (∃ N1, LN N (p.toInt.toNat * 12 + c.toInt.toNat) n.toInt.toNat f.toInt.toNat u.toInt.toNat N1 ∧ N' = upN N1 19 c.toInt.toNat 10 1) ∧ L' = L) ∧ (¬ cLine N p c n f u = 0 → (∀ t a b, t ≠ 7 → N' t a b = N t a b) ∧ L' = L)) := by
  refine Sem.seg [(.aload_n 0, 0, 0), (.iload_n 1, 0, 0), (.iload_n 2, 0, 0), (.iload_n 3, 0, 0), (.iload 4, 0, 0), (.iload 5, 0, 0)] ⟨⟨d32_0, trivial⟩, ⟨d32_1, trivial⟩, ⟨d32_2, trivial⟩, ⟨d32_3, trivial⟩, ⟨d32_4, trivial⟩, ⟨d32_6, trivial⟩, trivial⟩ (lv' := [(0, aR 0 0), (1, aI p), (2, aI c), (3, aI n), (4, aI f), (5, aI u)]) (st' := [aI u, aI f, aI n, aI c, aI p, aR 0 0]) (w' := wd N L) (P := []) rfl (trivial) (pc' := 8) rfl ?_
  refine Sem.cVC (t := 0) (i := 0) (as := [aI p, aI c, aI n, aI f, aI u]) (rst := []) (c' := 6) (s' := 36) d32_8 mk33 rfl co33 lk6_25 im33 se33 rfl (vN (t := 0) (i := 0) (by decide)) (show 6 ≤ mL 33 by decide) rfl (show 0 ≤ 8 by decide) (by decide) (by decide) rfl rfl (by decide) (by decide) (m33 N L p c n f u hc hl) ?_ ?_
  case refine_2 =>
    rintro e N_ L_ he_ hx_
    have he3_ : e = 0 ∨ e = 1 ∨ e = 2 := by omega
    rcases he3_ with he_1 | he_1 | he_1
    · subst he_1
      refine SemX.catch (en9 := 0) (by decide) [] ⟨0, 11, 14, 13⟩ [⟨0, 11, 18, 15⟩, ⟨0, 11, 22, 28⟩] rfl (fun z hz => by cases hz) (by decide) (by decide) cl6_13 (fun q => ?_)
      refine Sem.seg [(.astore 6, 0, 0), (.iconst 1, 0, 0)] ⟨⟨d32_14, trivial⟩, ⟨d32_16, trivial⟩, trivial⟩ (lv' := [(6, aV (.ref q)), (0, aR 0 0), (1, aI p), (2, aI c), (3, aI n), (4, aI f), (5, aI u)]) (st' := [aN 1]) (w' := wd N_ L_) (P := []) rfl (trivial) (pc' := 17) rfl ?_
      exact Sem.iret rfl d32_17 (Or.inl rfl) (by decide) (by decide) hzW ⟨_, _, _, rfl, rfl, by have hq_ := hx_.1; exact ⟨by first | omega | (rw [hq_]; rfl), fun q => absurd (hq_.symm.trans q) (by decide), fun _ => ⟨hx_.2.2.1, hx_.2.2.2⟩⟩⟩
    · subst he_1
      refine SemX.catch (en9 := 1) (by decide) [⟨0, 11, 14, 13⟩] ⟨0, 11, 18, 15⟩ [⟨0, 11, 22, 28⟩] rfl (fun z hz => by
            rcases List.mem_cons.mp hz with rfl | hz
            · exact Or.inr ⟨by decide, _, cl6_13, List.mem_of_getElem? (i := 0) rfl⟩
            · cases hz) (by decide) (by decide) cl6_15 (fun q => ?_)
      refine Sem.seg [(.astore 6, 0, 0), (.iconst 2, 0, 0)] ⟨⟨d32_18, trivial⟩, ⟨d32_20, trivial⟩, trivial⟩ (lv' := [(6, aV (.ref q)), (0, aR 0 0), (1, aI p), (2, aI c), (3, aI n), (4, aI f), (5, aI u)]) (st' := [aN 2]) (w' := wd N_ L_) (P := []) rfl (trivial) (pc' := 21) rfl ?_
      exact Sem.iret rfl d32_21 (Or.inl rfl) (by decide) (by decide) hzW ⟨_, _, _, rfl, rfl, by have hq_ := hx_.1; exact ⟨by first | omega | (rw [hq_]; rfl), fun q => absurd (hq_.symm.trans q) (by decide), fun _ => ⟨hx_.2.2.1, hx_.2.2.2⟩⟩⟩
    · subst he_1
      refine SemX.catch (en9 := 2) (by decide) [⟨0, 11, 14, 13⟩, ⟨0, 11, 18, 15⟩] ⟨0, 11, 22, 28⟩ [] rfl (fun z hz => by
            rcases List.mem_cons.mp hz with rfl | hz
            · exact Or.inr ⟨by decide, _, cl6_13, List.mem_of_getElem? (i := 1) rfl⟩
            · rcases List.mem_cons.mp hz with rfl | hz
              · exact Or.inr ⟨by decide, _, cl6_15, List.mem_of_getElem? (i := 3) rfl⟩
              · cases hz) (by decide) (by decide) cl6_28 (fun q => ?_)
      refine Sem.seg [(.astore 6, 0, 0), (.iconst 3, 0, 0)] ⟨⟨d32_22, trivial⟩, ⟨d32_24, trivial⟩, trivial⟩ (lv' := [(6, aV (.ref q)), (0, aR 0 0), (1, aI p), (2, aI c), (3, aI n), (4, aI f), (5, aI u)]) (st' := [aN 3]) (w' := wd N_ L_) (P := []) rfl (trivial) (pc' := 25) rfl ?_
      exact Sem.iret rfl d32_25 (Or.inl rfl) (by decide) (by decide) hzW ⟨_, _, _, rfl, rfl, by have hq_ := hx_.1; exact ⟨by first | omega | (rw [hq_]; rfl), fun q => absurd (hq_.symm.trans q) (by decide), fun _ => ⟨hx_.2.2.1, hx_.2.2.2⟩⟩⟩
  case refine_1 =>
    rintro v_ N1 L1 ⟨hz, rfl, hN, hL⟩
    refine Sem.goto (tgt := 26) d32_11 (by decide) ?_
    refine Sem.seg [(.iconst 0, 0, 0)] ⟨⟨d32_26, trivial⟩, trivial⟩ (lv' := [(0, aR 0 0), (1, aI p), (2, aI c), (3, aI n), (4, aI f), (5, aI u)]) (st' := [aN 0]) (w' := wd N1 L1) (P := []) rfl (trivial) (pc' := 27) rfl ?_
    exact Sem.iret rfl d32_27 (Or.inl rfl) (by decide) (by decide) hzW ⟨_, _, _, rfl, rfl, by exact ⟨hz.symm, fun _ => ⟨hN, hL⟩, fun q => absurd hz q⟩⟩

theorem m40 {sc : XT} (N : TN) (L : TL) (x n : Int32)  : Sem sc 40 0 [(0, aR 0 0), (1, aI x), (2, aI n), (3, aR 47 0)] [] (wd N L) 0 0 (QZ fun z N' L' => z = cStock x n ∧ (cStock x n = 0 → N' = upN (upN N 19 x.toInt.toNat 7 (tn n)) 19 x.toInt.toNat 10 1 ∧ L' = upL L 47 0 0 (q64 (N 19 x.toInt.toNat 7))) ∧ (¬ cStock x n = 0 → N' = N ∧ L' = L)) := by
  refine Sem.seg [(.aload_n 3, 0, 0), (.iconst 0, 0, 0), (.aload_n 0, 0, 0), (.iload_n 1, 0, 0), (.iload_n 2, 0, 0)] ⟨⟨d40_0, trivial⟩, ⟨d40_1, trivial⟩, ⟨d40_2, trivial⟩, ⟨d40_3, trivial⟩, ⟨d40_4, trivial⟩, trivial⟩ (lv' := [(0, aR 0 0), (1, aI x), (2, aI n), (3, aR 47 0)]) (st' := [aI n, aI x, aR 0 0, aN 0, aR 47 0]) (w' := wd N L) (P := []) rfl (trivial) (pc' := 5) rfl ?_
  refine Sem.cVC (t := 0) (i := 0) (as := [aI x, aI n]) (rst := [aN 0, aR 47 0]) (c' := 2) (s' := 12) d40_5 mk41 rfl co41 lk6_30 im41 se41 rfl (vN (t := 0) (i := 0) (by decide)) (show 3 ≤ mL 41 by decide) rfl (show 2 ≤ 8 by decide) (by decide) (by decide) rfl rfl (by decide) (by decide) (m41 N L x n) ?_ ?_
  case refine_2 =>
    rintro e N_ L_ he_ hx_
    have he3_ : e = 0 ∨ e = 1 := by omega
    rcases he3_ with he_1 | he_1
    · subst he_1
      refine SemX.catch (en9 := 0) (by decide) [] ⟨0, 10, 13, 13⟩ [⟨0, 10, 17, 15⟩] rfl (fun z hz => by cases hz) (by decide) (by decide) cl6_13 (fun q => ?_)
      refine Sem.seg [(.astore 4, 0, 0), (.iconst 1, 0, 0)] ⟨⟨d40_13, trivial⟩, ⟨d40_15, trivial⟩, trivial⟩ (lv' := [(4, aV (.ref q)), (0, aR 0 0), (1, aI x), (2, aI n), (3, aR 47 0)]) (st' := [aN 1]) (w' := wd N_ L_) (P := []) rfl (trivial) (pc' := 16) rfl ?_
      exact Sem.iret rfl d40_16 (Or.inl rfl) (by decide) (by decide) hzW ⟨_, _, _, rfl, rfl, by have hq_ := hx_.1; exact ⟨by first | omega | (rw [hq_]; rfl), fun q => absurd (hq_.symm.trans q) (by decide), fun _ => ⟨hx_.2.2.1, hx_.2.2.2⟩⟩⟩
    · subst he_1
      refine SemX.catch (en9 := 1) (by decide) [⟨0, 10, 13, 13⟩] ⟨0, 10, 17, 15⟩ [] rfl (fun z hz => by
            rcases List.mem_cons.mp hz with rfl | hz
            · exact Or.inr ⟨by decide, _, cl6_13, List.mem_of_getElem? (i := 0) rfl⟩
            · cases hz) (by decide) (by decide) cl6_15 (fun q => ?_)
      refine Sem.seg [(.astore 4, 0, 0), (.iconst 2, 0, 0)] ⟨⟨d40_17, trivial⟩, ⟨d40_19, trivial⟩, trivial⟩ (lv' := [(4, aV (.ref q)), (0, aR 0 0), (1, aI x), (2, aI n), (3, aR 47 0)]) (st' := [aN 2]) (w' := wd N_ L_) (P := []) rfl (trivial) (pc' := 20) rfl ?_
      exact Sem.iret rfl d40_20 (Or.inl rfl) (by decide) (by decide) hzW ⟨_, _, _, rfl, rfl, by have hq_ := hx_.1; exact ⟨by first | omega | (rw [hq_]; rfl), fun q => absurd (hq_.symm.trans q) (by decide), fun _ => ⟨hx_.2.2.1, hx_.2.2.2⟩⟩⟩
  case refine_1 =>
    rintro v_ N1 L1 ⟨hz, rfl, hN, hL⟩
    refine Sem.seg [(.i2l, 0, 0), (.lastore, 0, 0)] ⟨⟨d40_8, trivial⟩, ⟨d40_9, trivial⟩, trivial⟩ (lv' := [(0, aR 0 0), (1, aI x), (2, aI n), (3, aR 47 0)]) (st' := []) (w' := wd N1 (upL L1 47 0 0 ((nI (N 19 x.toInt.toNat 7)).toInt64))) (P := [vld NN 47 0, 0 < 1]) rfl (⟨vN (t := 47) (i := 0) (by decide), (by decide : (0 : Nat) < 1)⟩) (pc' := 10) rfl ?_
    refine Sem.goto (tgt := 21) d40_10 (by decide) ?_
    refine Sem.seg [(.iconst 0, 0, 0)] ⟨⟨d40_21, trivial⟩, trivial⟩ (lv' := [(0, aR 0 0), (1, aI x), (2, aI n), (3, aR 47 0)]) (st' := [aN 0]) (w' := wd N1 (upL L1 47 0 0 ((nI (N 19 x.toInt.toNat 7)).toInt64))) (P := []) rfl (trivial) (pc' := 22) rfl ?_
    exact Sem.iret rfl d40_22 (Or.inl rfl) (by decide) (by decide) hzW ⟨_, _, _, rfl, rfl, by exact ⟨hz.symm, fun _ => ⟨hN, by rw [hL]⟩, fun q => absurd hz q⟩⟩

theorem m42 {sc : XT} (N : TN) (L : TL) (x w n : Int32) (hs : N 8 0 3 ≤ 24) : Sem sc 42 0 [(0, aR 0 0), (1, aI x), (2, aI w), (3, aI n), (4, aR 47 0)] [] (wd N L) 0 0 (QZ fun z N' L' => z = cTell (N 8 0 3) x w n ∧ (cTell (N 8 0 3) x w n = 0 → N' = upN (upN (upN (upN (upN N 19 x.toInt.toNat 10 1) 9 0 (N 8 0 3) x.toInt.toNat) 10 0 (N 8 0 3) w.toInt.toNat) 11 0 (N 8 0 3) n.toInt.toNat) 8 0 3 (N 8 0 3 + 1) ∧ L' = upL L 47 0 0 (q64 (N 8 0 3))) ∧ (¬ cTell (N 8 0 3) x w n = 0 → N' = N ∧ L' = L)) := by
  refine Sem.seg [(.aload 4, 0, 0), (.iconst 0, 0, 0), (.aload_n 0, 0, 0), (.iload_n 1, 0, 0), (.iload_n 2, 0, 0), (.iload_n 3, 0, 0)] ⟨⟨d42_0, trivial⟩, ⟨d42_2, trivial⟩, ⟨d42_3, trivial⟩, ⟨d42_4, trivial⟩, ⟨d42_5, trivial⟩, ⟨d42_6, trivial⟩, trivial⟩ (lv' := [(0, aR 0 0), (1, aI x), (2, aI w), (3, aI n), (4, aR 47 0)]) (st' := [aI n, aI w, aI x, aR 0 0, aN 0, aR 47 0]) (w' := wd N L) (P := []) rfl (trivial) (pc' := 7) rfl ?_
  refine Sem.cVC (t := 0) (i := 0) (as := [aI x, aI w, aI n]) (rst := [aN 0, aR 47 0]) (c' := 4) (s' := 24) d42_7 mk43 rfl co43 lk6_34 im43 se43 rfl (vN (t := 0) (i := 0) (by decide)) (show 4 ≤ mL 43 by decide) rfl (show 2 ≤ 8 by decide) (by decide) (by decide) rfl rfl (by decide) (by decide) (m43 N L x w n hs) ?_ ?_
  case refine_2 =>
    rintro e N_ L_ he_ hx_
    have he3_ : e = 0 ∨ e = 1 ∨ e = 2 := by omega
    rcases he3_ with he_1 | he_1 | he_1
    · subst he_1
      refine SemX.catch (en9 := 0) (by decide) [] ⟨0, 12, 15, 13⟩ [⟨0, 12, 19, 15⟩, ⟨0, 12, 23, 28⟩] rfl (fun z hz => by cases hz) (by decide) (by decide) cl6_13 (fun q => ?_)
      refine Sem.seg [(.astore 5, 0, 0), (.iconst 1, 0, 0)] ⟨⟨d42_15, trivial⟩, ⟨d42_17, trivial⟩, trivial⟩ (lv' := [(5, aV (.ref q)), (0, aR 0 0), (1, aI x), (2, aI w), (3, aI n), (4, aR 47 0)]) (st' := [aN 1]) (w' := wd N_ L_) (P := []) rfl (trivial) (pc' := 18) rfl ?_
      exact Sem.iret rfl d42_18 (Or.inl rfl) (by decide) (by decide) hzW ⟨_, _, _, rfl, rfl, by have hq_ := hx_.1; exact ⟨by first | omega | (rw [hq_]; rfl), fun q => absurd (hq_.symm.trans q) (by decide), fun _ => ⟨hx_.2.2.1, hx_.2.2.2⟩⟩⟩
    · subst he_1
      refine SemX.catch (en9 := 1) (by decide) [⟨0, 12, 15, 13⟩] ⟨0, 12, 19, 15⟩ [⟨0, 12, 23, 28⟩] rfl (fun z hz => by
            rcases List.mem_cons.mp hz with rfl | hz
            · exact Or.inr ⟨by decide, _, cl6_13, List.mem_of_getElem? (i := 0) rfl⟩
            · cases hz) (by decide) (by decide) cl6_15 (fun q => ?_)
      refine Sem.seg [(.astore 5, 0, 0), (.iconst 2, 0, 0)] ⟨⟨d42_19, trivial⟩, ⟨d42_21, trivial⟩, trivial⟩ (lv' := [(5, aV (.ref q)), (0, aR 0 0), (1, aI x), (2, aI w), (3, aI n), (4, aR 47 0)]) (st' := [aN 2]) (w' := wd N_ L_) (P := []) rfl (trivial) (pc' := 22) rfl ?_
      exact Sem.iret rfl d42_22 (Or.inl rfl) (by decide) (by decide) hzW ⟨_, _, _, rfl, rfl, by have hq_ := hx_.1; exact ⟨by first | omega | (rw [hq_]; rfl), fun q => absurd (hq_.symm.trans q) (by decide), fun _ => ⟨hx_.2.2.1, hx_.2.2.2⟩⟩⟩
    · subst he_1
      refine SemX.catch (en9 := 2) (by decide) [⟨0, 12, 15, 13⟩, ⟨0, 12, 19, 15⟩] ⟨0, 12, 23, 28⟩ [] rfl (fun z hz => by
            rcases List.mem_cons.mp hz with rfl | hz
            · exact Or.inr ⟨by decide, _, cl6_13, List.mem_of_getElem? (i := 1) rfl⟩
            · rcases List.mem_cons.mp hz with rfl | hz
              · exact Or.inr ⟨by decide, _, cl6_15, List.mem_of_getElem? (i := 3) rfl⟩
              · cases hz) (by decide) (by decide) cl6_28 (fun q => ?_)
      refine Sem.seg [(.astore 5, 0, 0), (.iconst 3, 0, 0)] ⟨⟨d42_23, trivial⟩, ⟨d42_25, trivial⟩, trivial⟩ (lv' := [(5, aV (.ref q)), (0, aR 0 0), (1, aI x), (2, aI w), (3, aI n), (4, aR 47 0)]) (st' := [aN 3]) (w' := wd N_ L_) (P := []) rfl (trivial) (pc' := 26) rfl ?_
      exact Sem.iret rfl d42_26 (Or.inl rfl) (by decide) (by decide) hzW ⟨_, _, _, rfl, rfl, by have hq_ := hx_.1; exact ⟨by first | omega | (rw [hq_]; rfl), fun q => absurd (hq_.symm.trans q) (by decide), fun _ => ⟨hx_.2.2.1, hx_.2.2.2⟩⟩⟩
  case refine_1 =>
    rintro v_ N1 L1 ⟨hz, rfl, hN, hL⟩
    refine Sem.seg [(.i2l, 0, 0), (.lastore, 0, 0)] ⟨⟨d42_10, trivial⟩, ⟨d42_11, trivial⟩, trivial⟩ (lv' := [(0, aR 0 0), (1, aI x), (2, aI w), (3, aI n), (4, aR 47 0)]) (st' := []) (w' := wd N1 (upL L1 47 0 0 ((nI (N 8 0 3)).toInt64))) (P := [vld NN 47 0, 0 < 1]) rfl (⟨vN (t := 47) (i := 0) (by decide), (by decide : (0 : Nat) < 1)⟩) (pc' := 12) rfl ?_
    refine Sem.goto (tgt := 27) d42_12 (by decide) ?_
    refine Sem.seg [(.iconst 0, 0, 0)] ⟨⟨d42_27, trivial⟩, trivial⟩ (lv' := [(0, aR 0 0), (1, aI x), (2, aI w), (3, aI n), (4, aR 47 0)]) (st' := [aN 0]) (w' := wd N1 (upL L1 47 0 0 ((nI (N 8 0 3)).toInt64))) (P := []) rfl (trivial) (pc' := 28) rfl ?_
    exact Sem.iret rfl d42_28 (Or.inl rfl) (by decide) (by decide) hzW ⟨_, _, _, rfl, rfl, by exact ⟨hz.symm, fun _ => ⟨hN, by rw [hL]⟩, fun q => absurd hz q⟩⟩

theorem m53 {sc : XT} (N : TN) (L : TL) (x w n : Int32) (hs : N 8 1 3 ≤ 24) : Sem sc 53 0 [(0, aR 0 0), (1, aI x), (2, aI w), (3, aI n), (4, aR 47 0)] [] (wd N L) 0 0 (QZ fun z N' L' => z = cTell (N 8 1 3) x w n ∧ (cTell (N 8 1 3) x w n = 0 → N' = upN (upN (upN (upN (upN N 19 x.toInt.toNat 10 1) 9 1 (N 8 1 3) x.toInt.toNat) 10 1 (N 8 1 3) w.toInt.toNat) 11 1 (N 8 1 3) n.toInt.toNat) 8 1 3 (N 8 1 3 + 1) ∧ L' = upL L 47 0 0 (q64 (N 8 1 3))) ∧ (¬ cTell (N 8 1 3) x w n = 0 → N' = N ∧ L' = L)) := by
  refine Sem.seg [(.aload 4, 0, 0), (.iconst 0, 0, 0), (.aload_n 0, 0, 0), (.iload_n 1, 0, 0), (.iload_n 2, 0, 0), (.iload_n 3, 0, 0)] ⟨⟨d53_0, trivial⟩, ⟨d53_2, trivial⟩, ⟨d53_3, trivial⟩, ⟨d53_4, trivial⟩, ⟨d53_5, trivial⟩, ⟨d53_6, trivial⟩, trivial⟩ (lv' := [(0, aR 0 0), (1, aI x), (2, aI w), (3, aI n), (4, aR 47 0)]) (st' := [aI n, aI w, aI x, aR 0 0, aN 0, aR 47 0]) (w' := wd N L) (P := []) rfl (trivial) (pc' := 7) rfl ?_
  refine Sem.cVC (t := 0) (i := 0) (as := [aI x, aI w, aI n]) (rst := [aN 0, aR 47 0]) (c' := 4) (s' := 24) d53_7 mk54 rfl co54 lk6_41 im54 se54 rfl (vN (t := 0) (i := 0) (by decide)) (show 4 ≤ mL 54 by decide) rfl (show 2 ≤ 8 by decide) (by decide) (by decide) rfl rfl (by decide) (by decide) (m54 N L x w n hs) ?_ ?_
  case refine_2 =>
    rintro e N_ L_ he_ hx_
    have he3_ : e = 0 ∨ e = 1 ∨ e = 2 := by omega
    rcases he3_ with he_1 | he_1 | he_1
    · subst he_1
      refine SemX.catch (en9 := 0) (by decide) [] ⟨0, 12, 15, 13⟩ [⟨0, 12, 19, 15⟩, ⟨0, 12, 23, 28⟩] rfl (fun z hz => by cases hz) (by decide) (by decide) cl6_13 (fun q => ?_)
      refine Sem.seg [(.astore 5, 0, 0), (.iconst 1, 0, 0)] ⟨⟨d53_15, trivial⟩, ⟨d53_17, trivial⟩, trivial⟩ (lv' := [(5, aV (.ref q)), (0, aR 0 0), (1, aI x), (2, aI w), (3, aI n), (4, aR 47 0)]) (st' := [aN 1]) (w' := wd N_ L_) (P := []) rfl (trivial) (pc' := 18) rfl ?_
      exact Sem.iret rfl d53_18 (Or.inl rfl) (by decide) (by decide) hzW ⟨_, _, _, rfl, rfl, by have hq_ := hx_.1; exact ⟨by first | omega | (rw [hq_]; rfl), fun q => absurd (hq_.symm.trans q) (by decide), fun _ => ⟨hx_.2.2.1, hx_.2.2.2⟩⟩⟩
    · subst he_1
      refine SemX.catch (en9 := 1) (by decide) [⟨0, 12, 15, 13⟩] ⟨0, 12, 19, 15⟩ [⟨0, 12, 23, 28⟩] rfl (fun z hz => by
            rcases List.mem_cons.mp hz with rfl | hz
            · exact Or.inr ⟨by decide, _, cl6_13, List.mem_of_getElem? (i := 0) rfl⟩
            · cases hz) (by decide) (by decide) cl6_15 (fun q => ?_)
      refine Sem.seg [(.astore 5, 0, 0), (.iconst 2, 0, 0)] ⟨⟨d53_19, trivial⟩, ⟨d53_21, trivial⟩, trivial⟩ (lv' := [(5, aV (.ref q)), (0, aR 0 0), (1, aI x), (2, aI w), (3, aI n), (4, aR 47 0)]) (st' := [aN 2]) (w' := wd N_ L_) (P := []) rfl (trivial) (pc' := 22) rfl ?_
      exact Sem.iret rfl d53_22 (Or.inl rfl) (by decide) (by decide) hzW ⟨_, _, _, rfl, rfl, by have hq_ := hx_.1; exact ⟨by first | omega | (rw [hq_]; rfl), fun q => absurd (hq_.symm.trans q) (by decide), fun _ => ⟨hx_.2.2.1, hx_.2.2.2⟩⟩⟩
    · subst he_1
      refine SemX.catch (en9 := 2) (by decide) [⟨0, 12, 15, 13⟩, ⟨0, 12, 19, 15⟩] ⟨0, 12, 23, 28⟩ [] rfl (fun z hz => by
            rcases List.mem_cons.mp hz with rfl | hz
            · exact Or.inr ⟨by decide, _, cl6_13, List.mem_of_getElem? (i := 1) rfl⟩
            · rcases List.mem_cons.mp hz with rfl | hz
              · exact Or.inr ⟨by decide, _, cl6_15, List.mem_of_getElem? (i := 3) rfl⟩
              · cases hz) (by decide) (by decide) cl6_28 (fun q => ?_)
      refine Sem.seg [(.astore 5, 0, 0), (.iconst 3, 0, 0)] ⟨⟨d53_23, trivial⟩, ⟨d53_25, trivial⟩, trivial⟩ (lv' := [(5, aV (.ref q)), (0, aR 0 0), (1, aI x), (2, aI w), (3, aI n), (4, aR 47 0)]) (st' := [aN 3]) (w' := wd N_ L_) (P := []) rfl (trivial) (pc' := 26) rfl ?_
      exact Sem.iret rfl d53_26 (Or.inl rfl) (by decide) (by decide) hzW ⟨_, _, _, rfl, rfl, by have hq_ := hx_.1; exact ⟨by first | omega | (rw [hq_]; rfl), fun q => absurd (hq_.symm.trans q) (by decide), fun _ => ⟨hx_.2.2.1, hx_.2.2.2⟩⟩⟩
  case refine_1 =>
    rintro v_ N1 L1 ⟨hz, rfl, hN, hL⟩
    refine Sem.seg [(.i2l, 0, 0), (.lastore, 0, 0)] ⟨⟨d53_10, trivial⟩, ⟨d53_11, trivial⟩, trivial⟩ (lv' := [(0, aR 0 0), (1, aI x), (2, aI w), (3, aI n), (4, aR 47 0)]) (st' := []) (w' := wd N1 (upL L1 47 0 0 ((nI (N 8 1 3)).toInt64))) (P := [vld NN 47 0, 0 < 1]) rfl (⟨vN (t := 47) (i := 0) (by decide), (by decide : (0 : Nat) < 1)⟩) (pc' := 12) rfl ?_
    refine Sem.goto (tgt := 27) d53_12 (by decide) ?_
    refine Sem.seg [(.iconst 0, 0, 0)] ⟨⟨d53_27, trivial⟩, trivial⟩ (lv' := [(0, aR 0 0), (1, aI x), (2, aI w), (3, aI n), (4, aR 47 0)]) (st' := [aN 0]) (w' := wd N1 (upL L1 47 0 0 ((nI (N 8 1 3)).toInt64))) (P := []) rfl (trivial) (pc' := 28) rfl ?_
    exact Sem.iret rfl d53_28 (Or.inl rfl) (by decide) (by decide) hzW ⟨_, _, _, rfl, rfl, by exact ⟨hz.symm, fun _ => ⟨hN, by rw [hL]⟩, fun q => absurd hz q⟩⟩

theorem m49 {sc : XT} (N : TN) (L : TL) (k m n : Int32) (hc : CD N) : Sem sc 49 0 [(0, aR 0 0), (1, aI k), (2, aI m), (3, aI n), (4, aR 47 0)] [] (wd N L) 0 0 (QZ fun z N' L' => z = cChange (N 8 0 3) (N 8 1 3) k m n ∧ (cChange (N 8 0 3) (N 8 1 3) k m n = 0 → N' = upN (upN N 19 (N 9 k.toInt.toNat m.toInt.toNat) 10 1) 11 k.toInt.toNat m.toInt.toNat n.toInt.toNat ∧ L' = upL L 47 0 0 (q64 (N 11 k.toInt.toNat m.toInt.toNat))) ∧ (¬ cChange (N 8 0 3) (N 8 1 3) k m n = 0 → N' = N ∧ L' = L)) := by
  refine Sem.seg [(.aload 4, 0, 0), (.iconst 0, 0, 0), (.aload_n 0, 0, 0), (.iload_n 1, 0, 0), (.iload_n 2, 0, 0), (.iload_n 3, 0, 0)] ⟨⟨d49_0, trivial⟩, ⟨d49_2, trivial⟩, ⟨d49_3, trivial⟩, ⟨d49_4, trivial⟩, ⟨d49_5, trivial⟩, ⟨d49_6, trivial⟩, trivial⟩ (lv' := [(0, aR 0 0), (1, aI k), (2, aI m), (3, aI n), (4, aR 47 0)]) (st' := [aI n, aI m, aI k, aR 0 0, aN 0, aR 47 0]) (w' := wd N L) (P := []) rfl (trivial) (pc' := 7) rfl ?_
  refine Sem.cVC (t := 0) (i := 0) (as := [aI k, aI m, aI n]) (rst := [aN 0, aR 47 0]) (c' := 4) (s' := 24) d49_7 mk50 rfl co50 lk6_38 im50 se50 rfl (vN (t := 0) (i := 0) (by decide)) (show 4 ≤ mL 50 by decide) rfl (show 2 ≤ 8 by decide) (by decide) (by decide) rfl rfl (by decide) (by decide) (m50 N L k m n hc) ?_ ?_
  case refine_2 =>
    rintro e N_ L_ he_ hx_
    have he3_ : e = 0 ∨ e = 1 := by omega
    rcases he3_ with he_1 | he_1
    · subst he_1
      refine SemX.catch (en9 := 0) (by decide) [⟨0, 12, 15, 15⟩] ⟨0, 12, 19, 13⟩ [] rfl (fun z hz => by
            rcases List.mem_cons.mp hz with rfl | hz
            · exact Or.inr ⟨by decide, _, cl6_15, List.mem_of_getElem? (i := 2) rfl⟩
            · cases hz) (by decide) (by decide) cl6_13 (fun q => ?_)
      refine Sem.seg [(.astore 5, 0, 0), (.iconst 2, 0, 0)] ⟨⟨d49_19, trivial⟩, ⟨d49_21, trivial⟩, trivial⟩ (lv' := [(5, aV (.ref q)), (0, aR 0 0), (1, aI k), (2, aI m), (3, aI n), (4, aR 47 0)]) (st' := [aN 2]) (w' := wd N_ L_) (P := []) rfl (trivial) (pc' := 22) rfl ?_
      exact Sem.iret rfl d49_22 (Or.inl rfl) (by decide) (by decide) hzW ⟨_, _, _, rfl, rfl, by have hq_ := hx_.1; exact ⟨by first | omega | (rw [hq_]; rfl), fun q => absurd (hq_.symm.trans q) (by decide), fun _ => ⟨hx_.2.2.1, hx_.2.2.2⟩⟩⟩
    · subst he_1
      refine SemX.catch (en9 := 1) (by decide) [] ⟨0, 12, 15, 15⟩ [⟨0, 12, 19, 13⟩] rfl (fun z hz => by cases hz) (by decide) (by decide) cl6_15 (fun q => ?_)
      refine Sem.seg [(.astore 5, 0, 0), (.iconst 1, 0, 0)] ⟨⟨d49_15, trivial⟩, ⟨d49_17, trivial⟩, trivial⟩ (lv' := [(5, aV (.ref q)), (0, aR 0 0), (1, aI k), (2, aI m), (3, aI n), (4, aR 47 0)]) (st' := [aN 1]) (w' := wd N_ L_) (P := []) rfl (trivial) (pc' := 18) rfl ?_
      exact Sem.iret rfl d49_18 (Or.inl rfl) (by decide) (by decide) hzW ⟨_, _, _, rfl, rfl, by have hq_ := hx_.1; exact ⟨by first | omega | (rw [hq_]; rfl), fun q => absurd (hq_.symm.trans q) (by decide), fun _ => ⟨hx_.2.2.1, hx_.2.2.2⟩⟩⟩
  case refine_1 =>
    rintro v_ N1 L1 ⟨hz, rfl, hN, hL⟩
    refine Sem.seg [(.i2l, 0, 0), (.lastore, 0, 0)] ⟨⟨d49_10, trivial⟩, ⟨d49_11, trivial⟩, trivial⟩ (lv' := [(0, aR 0 0), (1, aI k), (2, aI m), (3, aI n), (4, aR 47 0)]) (st' := []) (w' := wd N1 (upL L1 47 0 0 ((nI (N 11 k.toInt.toNat m.toInt.toNat)).toInt64))) (P := [vld NN 47 0, 0 < 1]) rfl (⟨vN (t := 47) (i := 0) (by decide), (by decide : (0 : Nat) < 1)⟩) (pc' := 12) rfl ?_
    refine Sem.goto (tgt := 23) d49_12 (by decide) ?_
    refine Sem.seg [(.iconst 0, 0, 0)] ⟨⟨d49_23, trivial⟩, trivial⟩ (lv' := [(0, aR 0 0), (1, aI k), (2, aI m), (3, aI n), (4, aR 47 0)]) (st' := [aN 0]) (w' := wd N1 (upL L1 47 0 0 ((nI (N 11 k.toInt.toNat m.toInt.toNat)).toInt64))) (P := []) rfl (trivial) (pc' := 24) rfl ?_
    exact Sem.iret rfl d49_24 (Or.inl rfl) (by decide) (by decide) hzW ⟨_, _, _, rfl, rfl, by exact ⟨hz.symm, fun _ => ⟨hN, by rw [hL]⟩, fun q => absurd hz q⟩⟩

theorem m55 {sc : XT} (N : TN) (L : TL) (x : Int32)  : Sem sc 55 0 [(0, aR 0 0), (1, aI x), (2, aR 47 0)] [] (wd N L) 0 0 (QZ fun z N' L' => z = cLevel x ∧ (cLevel x = 0 → N' = N ∧ L' = upL L 47 0 0 (q64 (N 6 0 x.toInt.toNat))) ∧ (¬ cLevel x = 0 → N' = N ∧ L' = L)) := by
  refine Sem.seg [(.aload_n 2, 0, 0), (.iconst 0, 0, 0), (.aload_n 0, 0, 0), (.iload_n 1, 0, 0)] ⟨⟨d55_0, trivial⟩, ⟨d55_1, trivial⟩, ⟨d55_2, trivial⟩, ⟨d55_3, trivial⟩, trivial⟩ (lv' := [(0, aR 0 0), (1, aI x), (2, aR 47 0)]) (st' := [aI x, aR 0 0, aN 0, aR 47 0]) (w' := wd N L) (P := []) rfl (trivial) (pc' := 4) rfl ?_
  refine Sem.cVC (t := 0) (i := 0) (as := [aI x]) (rst := [aN 0, aR 47 0]) (c' := 1) (s' := 6) d55_4 mk56 rfl co56 lk6_44 im56 se56 rfl (vN (t := 0) (i := 0) (by decide)) (show 2 ≤ mL 56 by decide) rfl (show 2 ≤ 8 by decide) (by decide) (by decide) rfl rfl (by decide) (by decide) (m56 N L x) ?_ ?_
  case refine_2 =>
    rintro e N_ L_ he_ hx_
    have he3_ : e = 0 := by omega
    have he_1 := he3_
    · subst he_1
      refine SemX.catch (en9 := 0) (by decide) [] ⟨0, 9, 12, 13⟩ [] rfl (fun z hz => by cases hz) (by decide) (by decide) cl6_13 (fun q => ?_)
      refine Sem.seg [(.astore_n 3, 0, 0), (.iconst 1, 0, 0)] ⟨⟨d55_12, trivial⟩, ⟨d55_13, trivial⟩, trivial⟩ (lv' := [(3, aV (.ref q)), (0, aR 0 0), (1, aI x), (2, aR 47 0)]) (st' := [aN 1]) (w' := wd N_ L_) (P := []) rfl (trivial) (pc' := 14) rfl ?_
      exact Sem.iret rfl d55_14 (Or.inl rfl) (by decide) (by decide) hzW ⟨_, _, _, rfl, rfl, by have hq_ := hx_.1; exact ⟨by first | omega | (rw [hq_]; rfl), fun q => absurd (hq_.symm.trans q) (by decide), fun _ => ⟨hx_.2.2.1, hx_.2.2.2⟩⟩⟩
  case refine_1 =>
    rintro v_ N1 L1 ⟨hz, rfl, hN, hL⟩
    refine Sem.seg [(.i2l, 0, 0), (.lastore, 0, 0)] ⟨⟨d55_7, trivial⟩, ⟨d55_8, trivial⟩, trivial⟩ (lv' := [(0, aR 0 0), (1, aI x), (2, aR 47 0)]) (st' := []) (w' := wd N1 (upL L1 47 0 0 ((nI (N 6 0 x.toInt.toNat)).toInt64))) (P := [vld NN 47 0, 0 < 1]) rfl (⟨vN (t := 47) (i := 0) (by decide), (by decide : (0 : Nat) < 1)⟩) (pc' := 9) rfl ?_
    refine Sem.goto (tgt := 15) d55_9 (by decide) ?_
    refine Sem.seg [(.iconst 0, 0, 0)] ⟨⟨d55_15, trivial⟩, trivial⟩ (lv' := [(0, aR 0 0), (1, aI x), (2, aR 47 0)]) (st' := [aN 0]) (w' := wd N1 (upL L1 47 0 0 ((nI (N 6 0 x.toInt.toNat)).toInt64))) (P := []) rfl (trivial) (pc' := 16) rfl ?_
    exact Sem.iret rfl d55_16 (Or.inl rfl) (by decide) (by decide) hzW ⟨_, _, _, rfl, rfl, by exact ⟨hz.symm, fun _ => ⟨hN, by rw [hL]⟩, fun q => absurd hz q⟩⟩

theorem m57 {sc : XT} (N : TN) (L : TL) (x w : Int32) (ht : ∀ i, i < 12 → N 19 i 10 ≤ 1) : Sem sc 57 0 [(0, aR 0 0), (1, aI x), (2, aI w), (3, aR 47 0)] [] (wd N L) 0 0 (QZ fun z N' L' => z = cPlan (bo (TD N)) x w ∧ (cPlan (bo (TD N)) x w = 0 → N' = N ∧ L' = upL L 47 0 0 (L 20 x.toInt.toNat w.toInt.toNat)) ∧ (¬ cPlan (bo (TD N)) x w = 0 → N' = N ∧ L' = L)) := by
  refine Sem.seg [(.aload_n 3, 0, 0), (.iconst 0, 0, 0), (.aload_n 0, 0, 0), (.iload_n 1, 0, 0), (.iload_n 2, 0, 0)] ⟨⟨d57_0, trivial⟩, ⟨d57_1, trivial⟩, ⟨d57_2, trivial⟩, ⟨d57_3, trivial⟩, ⟨d57_4, trivial⟩, trivial⟩ (lv' := [(0, aR 0 0), (1, aI x), (2, aI w), (3, aR 47 0)]) (st' := [aI w, aI x, aR 0 0, aN 0, aR 47 0]) (w' := wd N L) (P := []) rfl (trivial) (pc' := 5) rfl ?_
  refine Sem.cVC (t := 0) (i := 0) (as := [aI x, aI w]) (rst := [aN 0, aR 47 0]) (c' := 3) (s' := 18) d57_5 mk58 rfl co58 lk6_48 im58 se58 rfl (vN (t := 0) (i := 0) (by decide)) (show 3 ≤ mL 58 by decide) rfl (show 2 ≤ 8 by decide) (by decide) (by decide) rfl rfl (by decide) (by decide) (m58 N L x w ht) ?_ ?_
  case refine_2 =>
    rintro e N_ L_ he_ hx_
    have he3_ : e = 0 ∨ e = 2 := by omega
    rcases he3_ with he_1 | he_1
    · subst he_1
      refine SemX.catch (en9 := 0) (by decide) [] ⟨0, 9, 12, 13⟩ [⟨0, 9, 16, 28⟩] rfl (fun z hz => by cases hz) (by decide) (by decide) cl6_13 (fun q => ?_)
      refine Sem.seg [(.astore 4, 0, 0), (.iconst 1, 0, 0)] ⟨⟨d57_12, trivial⟩, ⟨d57_14, trivial⟩, trivial⟩ (lv' := [(4, aV (.ref q)), (0, aR 0 0), (1, aI x), (2, aI w), (3, aR 47 0)]) (st' := [aN 1]) (w' := wd N_ L_) (P := []) rfl (trivial) (pc' := 15) rfl ?_
      exact Sem.iret rfl d57_15 (Or.inl rfl) (by decide) (by decide) hzW ⟨_, _, _, rfl, rfl, by have hq_ := hx_.1; exact ⟨by first | omega | (rw [hq_]; rfl), fun q => absurd (hq_.symm.trans q) (by decide), fun _ => ⟨hx_.2.2.1, hx_.2.2.2⟩⟩⟩
    · subst he_1
      refine SemX.catch (en9 := 2) (by decide) [⟨0, 9, 12, 13⟩] ⟨0, 9, 16, 28⟩ [] rfl (fun z hz => by
            rcases List.mem_cons.mp hz with rfl | hz
            · exact Or.inr ⟨by decide, _, cl6_13, List.mem_of_getElem? (i := 1) rfl⟩
            · cases hz) (by decide) (by decide) cl6_28 (fun q => ?_)
      refine Sem.seg [(.astore 4, 0, 0), (.iconst 2, 0, 0)] ⟨⟨d57_16, trivial⟩, ⟨d57_18, trivial⟩, trivial⟩ (lv' := [(4, aV (.ref q)), (0, aR 0 0), (1, aI x), (2, aI w), (3, aR 47 0)]) (st' := [aN 2]) (w' := wd N_ L_) (P := []) rfl (trivial) (pc' := 19) rfl ?_
      exact Sem.iret rfl d57_19 (Or.inl rfl) (by decide) (by decide) hzW ⟨_, _, _, rfl, rfl, by have hq_ := hx_.1; exact ⟨by first | omega | (rw [hq_]; rfl), fun q => absurd (hq_.symm.trans q) (by decide), fun _ => ⟨hx_.2.2.1, hx_.2.2.2⟩⟩⟩
  case refine_1 =>
    rintro v_ N1 L1 ⟨hz, rfl, hN, hL⟩
    refine Sem.seg [(.lastore, 0, 0)] ⟨⟨d57_8, trivial⟩, trivial⟩ (lv' := [(0, aR 0 0), (1, aI x), (2, aI w), (3, aR 47 0)]) (st' := []) (w' := wd N1 (upL L1 47 0 0 (L 20 x.toInt.toNat w.toInt.toNat))) (P := [vld NN 47 0, 0 < 1]) rfl (⟨vN (t := 47) (i := 0) (by decide), (by decide : (0 : Nat) < 1)⟩) (pc' := 9) rfl ?_
    refine Sem.goto (tgt := 20) d57_9 (by decide) ?_
    refine Sem.seg [(.iconst 0, 0, 0)] ⟨⟨d57_20, trivial⟩, trivial⟩ (lv' := [(0, aR 0 0), (1, aI x), (2, aI w), (3, aR 47 0)]) (st' := [aN 0]) (w' := wd N1 (upL L1 47 0 0 (L 20 x.toInt.toNat w.toInt.toNat))) (P := []) rfl (trivial) (pc' := 21) rfl ?_
    exact Sem.iret rfl d57_21 (Or.inl rfl) (by decide) (by decide) hzW ⟨_, _, _, rfl, rfl, by exact ⟨hz.symm, fun _ => ⟨hN, by rw [hL]⟩, fun q => absurd hz q⟩⟩

theorem m61 {sc : XT} (N : TN) (L : TL) (x w : Int32) (ht : ∀ i, i < 12 → N 19 i 10 ≤ 1) : Sem sc 61 0 [(0, aR 0 0), (1, aI x), (2, aI w), (3, aR 47 0)] [] (wd N L) 0 0 (QZ fun z N' L' => z = cPlan (bo (TD N)) x w ∧ (cPlan (bo (TD N)) x w = 0 → N' = N ∧ L' = upL L 47 0 0 (L 21 x.toInt.toNat w.toInt.toNat)) ∧ (¬ cPlan (bo (TD N)) x w = 0 → N' = N ∧ L' = L)) := by
  refine Sem.seg [(.aload_n 3, 0, 0), (.iconst 0, 0, 0), (.aload_n 0, 0, 0), (.iload_n 1, 0, 0), (.iload_n 2, 0, 0)] ⟨⟨d61_0, trivial⟩, ⟨d61_1, trivial⟩, ⟨d61_2, trivial⟩, ⟨d61_3, trivial⟩, ⟨d61_4, trivial⟩, trivial⟩ (lv' := [(0, aR 0 0), (1, aI x), (2, aI w), (3, aR 47 0)]) (st' := [aI w, aI x, aR 0 0, aN 0, aR 47 0]) (w' := wd N L) (P := []) rfl (trivial) (pc' := 5) rfl ?_
  refine Sem.cVC (t := 0) (i := 0) (as := [aI x, aI w]) (rst := [aN 0, aR 47 0]) (c' := 3) (s' := 18) d61_5 mk62 rfl co62 lk6_52 im62 se62 rfl (vN (t := 0) (i := 0) (by decide)) (show 3 ≤ mL 62 by decide) rfl (show 2 ≤ 8 by decide) (by decide) (by decide) rfl rfl (by decide) (by decide) (m62 N L x w ht) ?_ ?_
  case refine_2 =>
    rintro e N_ L_ he_ hx_
    have he3_ : e = 0 ∨ e = 2 := by omega
    rcases he3_ with he_1 | he_1
    · subst he_1
      refine SemX.catch (en9 := 0) (by decide) [] ⟨0, 9, 12, 13⟩ [⟨0, 9, 16, 28⟩] rfl (fun z hz => by cases hz) (by decide) (by decide) cl6_13 (fun q => ?_)
      refine Sem.seg [(.astore 4, 0, 0), (.iconst 1, 0, 0)] ⟨⟨d61_12, trivial⟩, ⟨d61_14, trivial⟩, trivial⟩ (lv' := [(4, aV (.ref q)), (0, aR 0 0), (1, aI x), (2, aI w), (3, aR 47 0)]) (st' := [aN 1]) (w' := wd N_ L_) (P := []) rfl (trivial) (pc' := 15) rfl ?_
      exact Sem.iret rfl d61_15 (Or.inl rfl) (by decide) (by decide) hzW ⟨_, _, _, rfl, rfl, by have hq_ := hx_.1; exact ⟨by first | omega | (rw [hq_]; rfl), fun q => absurd (hq_.symm.trans q) (by decide), fun _ => ⟨hx_.2.2.1, hx_.2.2.2⟩⟩⟩
    · subst he_1
      refine SemX.catch (en9 := 2) (by decide) [⟨0, 9, 12, 13⟩] ⟨0, 9, 16, 28⟩ [] rfl (fun z hz => by
            rcases List.mem_cons.mp hz with rfl | hz
            · exact Or.inr ⟨by decide, _, cl6_13, List.mem_of_getElem? (i := 1) rfl⟩
            · cases hz) (by decide) (by decide) cl6_28 (fun q => ?_)
      refine Sem.seg [(.astore 4, 0, 0), (.iconst 2, 0, 0)] ⟨⟨d61_16, trivial⟩, ⟨d61_18, trivial⟩, trivial⟩ (lv' := [(4, aV (.ref q)), (0, aR 0 0), (1, aI x), (2, aI w), (3, aR 47 0)]) (st' := [aN 2]) (w' := wd N_ L_) (P := []) rfl (trivial) (pc' := 19) rfl ?_
      exact Sem.iret rfl d61_19 (Or.inl rfl) (by decide) (by decide) hzW ⟨_, _, _, rfl, rfl, by have hq_ := hx_.1; exact ⟨by first | omega | (rw [hq_]; rfl), fun q => absurd (hq_.symm.trans q) (by decide), fun _ => ⟨hx_.2.2.1, hx_.2.2.2⟩⟩⟩
  case refine_1 =>
    rintro v_ N1 L1 ⟨hz, rfl, hN, hL⟩
    refine Sem.seg [(.lastore, 0, 0)] ⟨⟨d61_8, trivial⟩, trivial⟩ (lv' := [(0, aR 0 0), (1, aI x), (2, aI w), (3, aR 47 0)]) (st' := []) (w' := wd N1 (upL L1 47 0 0 (L 21 x.toInt.toNat w.toInt.toNat))) (P := [vld NN 47 0, 0 < 1]) rfl (⟨vN (t := 47) (i := 0) (by decide), (by decide : (0 : Nat) < 1)⟩) (pc' := 9) rfl ?_
    refine Sem.goto (tgt := 20) d61_9 (by decide) ?_
    refine Sem.seg [(.iconst 0, 0, 0)] ⟨⟨d61_20, trivial⟩, trivial⟩ (lv' := [(0, aR 0 0), (1, aI x), (2, aI w), (3, aR 47 0)]) (st' := [aN 0]) (w' := wd N1 (upL L1 47 0 0 (L 21 x.toInt.toNat w.toInt.toNat))) (P := []) rfl (trivial) (pc' := 21) rfl ?_
    exact Sem.iret rfl d61_21 (Or.inl rfl) (by decide) (by decide) hzW ⟨_, _, _, rfl, rfl, by exact ⟨hz.symm, fun _ => ⟨hN, by rw [hL]⟩, fun q => absurd hz q⟩⟩

theorem m63 {sc : XT} (N : TN) (L : TL) (x w : Int32) (ht : ∀ i, i < 12 → N 19 i 10 ≤ 1) : Sem sc 63 0 [(0, aR 0 0), (1, aI x), (2, aI w), (3, aR 47 0)] [] (wd N L) 0 0 (QZ fun z N' L' => z = cPlan (bo (TD N)) x w ∧ (cPlan (bo (TD N)) x w = 0 → N' = N ∧ L' = upL L 47 0 0 (L 22 x.toInt.toNat w.toInt.toNat)) ∧ (¬ cPlan (bo (TD N)) x w = 0 → N' = N ∧ L' = L)) := by
  refine Sem.seg [(.aload_n 3, 0, 0), (.iconst 0, 0, 0), (.aload_n 0, 0, 0), (.iload_n 1, 0, 0), (.iload_n 2, 0, 0)] ⟨⟨d63_0, trivial⟩, ⟨d63_1, trivial⟩, ⟨d63_2, trivial⟩, ⟨d63_3, trivial⟩, ⟨d63_4, trivial⟩, trivial⟩ (lv' := [(0, aR 0 0), (1, aI x), (2, aI w), (3, aR 47 0)]) (st' := [aI w, aI x, aR 0 0, aN 0, aR 47 0]) (w' := wd N L) (P := []) rfl (trivial) (pc' := 5) rfl ?_
  refine Sem.cVC (t := 0) (i := 0) (as := [aI x, aI w]) (rst := [aN 0, aR 47 0]) (c' := 3) (s' := 18) d63_5 mk64 rfl co64 lk6_55 im64 se64 rfl (vN (t := 0) (i := 0) (by decide)) (show 3 ≤ mL 64 by decide) rfl (show 2 ≤ 8 by decide) (by decide) (by decide) rfl rfl (by decide) (by decide) (m64 N L x w ht) ?_ ?_
  case refine_2 =>
    rintro e N_ L_ he_ hx_
    have he3_ : e = 0 ∨ e = 2 := by omega
    rcases he3_ with he_1 | he_1
    · subst he_1
      refine SemX.catch (en9 := 0) (by decide) [] ⟨0, 9, 12, 13⟩ [⟨0, 9, 16, 28⟩] rfl (fun z hz => by cases hz) (by decide) (by decide) cl6_13 (fun q => ?_)
      refine Sem.seg [(.astore 4, 0, 0), (.iconst 1, 0, 0)] ⟨⟨d63_12, trivial⟩, ⟨d63_14, trivial⟩, trivial⟩ (lv' := [(4, aV (.ref q)), (0, aR 0 0), (1, aI x), (2, aI w), (3, aR 47 0)]) (st' := [aN 1]) (w' := wd N_ L_) (P := []) rfl (trivial) (pc' := 15) rfl ?_
      exact Sem.iret rfl d63_15 (Or.inl rfl) (by decide) (by decide) hzW ⟨_, _, _, rfl, rfl, by have hq_ := hx_.1; exact ⟨by first | omega | (rw [hq_]; rfl), fun q => absurd (hq_.symm.trans q) (by decide), fun _ => ⟨hx_.2.2.1, hx_.2.2.2⟩⟩⟩
    · subst he_1
      refine SemX.catch (en9 := 2) (by decide) [⟨0, 9, 12, 13⟩] ⟨0, 9, 16, 28⟩ [] rfl (fun z hz => by
            rcases List.mem_cons.mp hz with rfl | hz
            · exact Or.inr ⟨by decide, _, cl6_13, List.mem_of_getElem? (i := 1) rfl⟩
            · cases hz) (by decide) (by decide) cl6_28 (fun q => ?_)
      refine Sem.seg [(.astore 4, 0, 0), (.iconst 2, 0, 0)] ⟨⟨d63_16, trivial⟩, ⟨d63_18, trivial⟩, trivial⟩ (lv' := [(4, aV (.ref q)), (0, aR 0 0), (1, aI x), (2, aI w), (3, aR 47 0)]) (st' := [aN 2]) (w' := wd N_ L_) (P := []) rfl (trivial) (pc' := 19) rfl ?_
      exact Sem.iret rfl d63_19 (Or.inl rfl) (by decide) (by decide) hzW ⟨_, _, _, rfl, rfl, by have hq_ := hx_.1; exact ⟨by first | omega | (rw [hq_]; rfl), fun q => absurd (hq_.symm.trans q) (by decide), fun _ => ⟨hx_.2.2.1, hx_.2.2.2⟩⟩⟩
  case refine_1 =>
    rintro v_ N1 L1 ⟨hz, rfl, hN, hL⟩
    refine Sem.seg [(.lastore, 0, 0)] ⟨⟨d63_8, trivial⟩, trivial⟩ (lv' := [(0, aR 0 0), (1, aI x), (2, aI w), (3, aR 47 0)]) (st' := []) (w' := wd N1 (upL L1 47 0 0 (L 22 x.toInt.toNat w.toInt.toNat))) (P := [vld NN 47 0, 0 < 1]) rfl (⟨vN (t := 47) (i := 0) (by decide), (by decide : (0 : Nat) < 1)⟩) (pc' := 9) rfl ?_
    refine Sem.goto (tgt := 20) d63_9 (by decide) ?_
    refine Sem.seg [(.iconst 0, 0, 0)] ⟨⟨d63_20, trivial⟩, trivial⟩ (lv' := [(0, aR 0 0), (1, aI x), (2, aI w), (3, aR 47 0)]) (st' := [aN 0]) (w' := wd N1 (upL L1 47 0 0 (L 22 x.toInt.toNat w.toInt.toNat))) (P := []) rfl (trivial) (pc' := 21) rfl ?_
    exact Sem.iret rfl d63_21 (Or.inl rfl) (by decide) (by decide) hzW ⟨_, _, _, rfl, rfl, by exact ⟨hz.symm, fun _ => ⟨hN, by rw [hL]⟩, fun q => absurd hz q⟩⟩

theorem m65 {sc : XT} (N : TN) (L : TL) (d k m : Int32) (hc : CD N) : Sem sc 65 0 [(0, aR 0 0), (1, aI d), (2, aI k), (3, aI m), (4, aR 47 0)] [] (wd N L) 0 0 (QZ fun z N' L' => z = cPeg (N 8 0 3) (N 8 1 3) (bo (TD N)) d k m ∧ (cPeg (N 8 0 3) (N 8 1 3) (bo (TD N)) d k m = 0 → N' = N ∧ L' = upL L 47 0 0 (pgF N L d.toInt.toNat k.toInt.toNat m.toInt.toNat)) ∧ (¬ cPeg (N 8 0 3) (N 8 1 3) (bo (TD N)) d k m = 0 → N' = N ∧ L' = L)) := by
  refine Sem.seg [(.aload 4, 0, 0), (.iconst 0, 0, 0), (.aload_n 0, 0, 0), (.iload_n 1, 0, 0), (.iload_n 2, 0, 0), (.iload_n 3, 0, 0)] ⟨⟨d65_0, trivial⟩, ⟨d65_2, trivial⟩, ⟨d65_3, trivial⟩, ⟨d65_4, trivial⟩, ⟨d65_5, trivial⟩, ⟨d65_6, trivial⟩, trivial⟩ (lv' := [(0, aR 0 0), (1, aI d), (2, aI k), (3, aI m), (4, aR 47 0)]) (st' := [aI m, aI k, aI d, aR 0 0, aN 0, aR 47 0]) (w' := wd N L) (P := []) rfl (trivial) (pc' := 7) rfl ?_
  refine Sem.cVC (t := 0) (i := 0) (as := [aI d, aI k, aI m]) (rst := [aN 0, aR 47 0]) (c' := 11) (s' := 66) d65_7 mk66 rfl co66 lk6_58 im66 se66 rfl (vN (t := 0) (i := 0) (by decide)) (show 4 ≤ mL 66 by decide) rfl (show 2 ≤ 8 by decide) (by decide) (by decide) rfl rfl (by decide) (by decide) (m66 N L d k m hc) ?_ ?_
  case refine_2 =>
    rintro e N_ L_ he_ hx_
    have he3_ : e = 0 ∨ e = 1 ∨ e = 2 := by omega
    rcases he3_ with he_1 | he_1 | he_1
    · subst he_1
      refine SemX.catch (en9 := 0) (by decide) [] ⟨0, 11, 14, 13⟩ [⟨0, 11, 18, 15⟩, ⟨0, 11, 22, 28⟩] rfl (fun z hz => by cases hz) (by decide) (by decide) cl6_13 (fun q => ?_)
      refine Sem.seg [(.astore 5, 0, 0), (.iconst 1, 0, 0)] ⟨⟨d65_14, trivial⟩, ⟨d65_16, trivial⟩, trivial⟩ (lv' := [(5, aV (.ref q)), (0, aR 0 0), (1, aI d), (2, aI k), (3, aI m), (4, aR 47 0)]) (st' := [aN 1]) (w' := wd N_ L_) (P := []) rfl (trivial) (pc' := 17) rfl ?_
      exact Sem.iret rfl d65_17 (Or.inl rfl) (by decide) (by decide) hzW ⟨_, _, _, rfl, rfl, by have hq_ := hx_.1; exact ⟨by first | omega | (rw [hq_]; rfl), fun q => absurd (hq_.symm.trans q) (by decide), fun _ => ⟨hx_.2.2.1, hx_.2.2.2⟩⟩⟩
    · subst he_1
      refine SemX.catch (en9 := 1) (by decide) [⟨0, 11, 14, 13⟩] ⟨0, 11, 18, 15⟩ [⟨0, 11, 22, 28⟩] rfl (fun z hz => by
            rcases List.mem_cons.mp hz with rfl | hz
            · exact Or.inr ⟨by decide, _, cl6_13, List.mem_of_getElem? (i := 0) rfl⟩
            · cases hz) (by decide) (by decide) cl6_15 (fun q => ?_)
      refine Sem.seg [(.astore 5, 0, 0), (.iconst 2, 0, 0)] ⟨⟨d65_18, trivial⟩, ⟨d65_20, trivial⟩, trivial⟩ (lv' := [(5, aV (.ref q)), (0, aR 0 0), (1, aI d), (2, aI k), (3, aI m), (4, aR 47 0)]) (st' := [aN 2]) (w' := wd N_ L_) (P := []) rfl (trivial) (pc' := 21) rfl ?_
      exact Sem.iret rfl d65_21 (Or.inl rfl) (by decide) (by decide) hzW ⟨_, _, _, rfl, rfl, by have hq_ := hx_.1; exact ⟨by first | omega | (rw [hq_]; rfl), fun q => absurd (hq_.symm.trans q) (by decide), fun _ => ⟨hx_.2.2.1, hx_.2.2.2⟩⟩⟩
    · subst he_1
      refine SemX.catch (en9 := 2) (by decide) [⟨0, 11, 14, 13⟩, ⟨0, 11, 18, 15⟩] ⟨0, 11, 22, 28⟩ [] rfl (fun z hz => by
            rcases List.mem_cons.mp hz with rfl | hz
            · exact Or.inr ⟨by decide, _, cl6_13, List.mem_of_getElem? (i := 1) rfl⟩
            · rcases List.mem_cons.mp hz with rfl | hz
              · exact Or.inr ⟨by decide, _, cl6_15, List.mem_of_getElem? (i := 3) rfl⟩
              · cases hz) (by decide) (by decide) cl6_28 (fun q => ?_)
      refine Sem.seg [(.astore 5, 0, 0), (.iconst 3, 0, 0)] ⟨⟨d65_22, trivial⟩, ⟨d65_24, trivial⟩, trivial⟩ (lv' := [(5, aV (.ref q)), (0, aR 0 0), (1, aI d), (2, aI k), (3, aI m), (4, aR 47 0)]) (st' := [aN 3]) (w' := wd N_ L_) (P := []) rfl (trivial) (pc' := 25) rfl ?_
      exact Sem.iret rfl d65_25 (Or.inl rfl) (by decide) (by decide) hzW ⟨_, _, _, rfl, rfl, by have hq_ := hx_.1; exact ⟨by first | omega | (rw [hq_]; rfl), fun q => absurd (hq_.symm.trans q) (by decide), fun _ => ⟨hx_.2.2.1, hx_.2.2.2⟩⟩⟩
  case refine_1 =>
    rintro v_ N1 L1 ⟨hz, rfl, hN, hL⟩
    refine Sem.seg [(.lastore, 0, 0)] ⟨⟨d65_10, trivial⟩, trivial⟩ (lv' := [(0, aR 0 0), (1, aI d), (2, aI k), (3, aI m), (4, aR 47 0)]) (st' := []) (w' := wd N1 (upL L1 47 0 0 (pgF N L d.toInt.toNat k.toInt.toNat m.toInt.toNat))) (P := [vld NN 47 0, 0 < 1]) rfl (⟨vN (t := 47) (i := 0) (by decide), (by decide : (0 : Nat) < 1)⟩) (pc' := 11) rfl ?_
    refine Sem.goto (tgt := 26) d65_11 (by decide) ?_
    refine Sem.seg [(.iconst 0, 0, 0)] ⟨⟨d65_26, trivial⟩, trivial⟩ (lv' := [(0, aR 0 0), (1, aI d), (2, aI k), (3, aI m), (4, aR 47 0)]) (st' := [aN 0]) (w' := wd N1 (upL L1 47 0 0 (pgF N L d.toInt.toNat k.toInt.toNat m.toInt.toNat))) (P := []) rfl (trivial) (pc' := 27) rfl ?_
    exact Sem.iret rfl d65_27 (Or.inl rfl) (by decide) (by decide) hzW ⟨_, _, _, rfl, rfl, by exact ⟨hz.symm, fun _ => ⟨hN, by rw [hL]⟩, fun q => absurd hz q⟩⟩

theorem m73 {sc : XT} (N : TN) (L : TL) (x n w : Int32) (hc : CD N) : Sem sc 73 0 [(0, aR 0 0), (1, aI x), (2, aI n), (3, aI w), (4, aR 47 0)] [] (wd N L) 0 0 (QZ fun z N' L' => z = cProm (bo (TD N)) x n w ∧ (cProm (bo (TD N)) x n w = 0 → ∃ y, LT (okW N L x.toInt.toNat n.toInt.toNat) w.toInt.toNat y ∧ N' = N ∧ L' = upL L 47 0 0 (y.toInt64)) ∧ (¬ cProm (bo (TD N)) x n w = 0 → N' = N ∧ L' = L)) := by
  refine Sem.seg [(.aload 4, 0, 0), (.iconst 0, 0, 0), (.aload_n 0, 0, 0), (.iload_n 1, 0, 0), (.iload_n 2, 0, 0), (.iload_n 3, 0, 0)] ⟨⟨d73_0, trivial⟩, ⟨d73_2, trivial⟩, ⟨d73_3, trivial⟩, ⟨d73_4, trivial⟩, ⟨d73_5, trivial⟩, ⟨d73_6, trivial⟩, trivial⟩ (lv' := [(0, aR 0 0), (1, aI x), (2, aI n), (3, aI w), (4, aR 47 0)]) (st' := [aI w, aI n, aI x, aR 0 0, aN 0, aR 47 0]) (w' := wd N L) (P := []) rfl (trivial) (pc' := 7) rfl ?_
  refine Sem.cVC (t := 0) (i := 0) (as := [aI x, aI n, aI w]) (rst := [aN 0, aR 47 0]) (c' := 16) (s' := 96) d73_7 mk74 rfl co74 lk6_62 im74 se74 rfl (vN (t := 0) (i := 0) (by decide)) (show 4 ≤ mL 74 by decide) rfl (show 2 ≤ 8 by decide) (by decide) (by decide) rfl rfl (by decide) (by decide) (m74 N L x n w hc) ?_ ?_
  case refine_2 =>
    rintro e N_ L_ he_ hx_
    have he3_ : e = 0 ∨ e = 1 ∨ e = 2 := by omega
    rcases he3_ with he_1 | he_1 | he_1
    · subst he_1
      refine SemX.catch (en9 := 0) (by decide) [] ⟨0, 12, 15, 13⟩ [⟨0, 12, 19, 15⟩, ⟨0, 12, 23, 28⟩] rfl (fun z hz => by cases hz) (by decide) (by decide) cl6_13 (fun q => ?_)
      refine Sem.seg [(.astore 5, 0, 0), (.iconst 1, 0, 0)] ⟨⟨d73_15, trivial⟩, ⟨d73_17, trivial⟩, trivial⟩ (lv' := [(5, aV (.ref q)), (0, aR 0 0), (1, aI x), (2, aI n), (3, aI w), (4, aR 47 0)]) (st' := [aN 1]) (w' := wd N_ L_) (P := []) rfl (trivial) (pc' := 18) rfl ?_
      exact Sem.iret rfl d73_18 (Or.inl rfl) (by decide) (by decide) hzW ⟨_, _, _, rfl, rfl, by have hq_ := hx_.1; exact ⟨by first | omega | (rw [hq_]; rfl), fun q => absurd (hq_.symm.trans q) (by decide), fun _ => ⟨hx_.2.2.1, hx_.2.2.2⟩⟩⟩
    · subst he_1
      refine SemX.catch (en9 := 1) (by decide) [⟨0, 12, 15, 13⟩] ⟨0, 12, 19, 15⟩ [⟨0, 12, 23, 28⟩] rfl (fun z hz => by
            rcases List.mem_cons.mp hz with rfl | hz
            · exact Or.inr ⟨by decide, _, cl6_13, List.mem_of_getElem? (i := 0) rfl⟩
            · cases hz) (by decide) (by decide) cl6_15 (fun q => ?_)
      refine Sem.seg [(.astore 5, 0, 0), (.iconst 2, 0, 0)] ⟨⟨d73_19, trivial⟩, ⟨d73_21, trivial⟩, trivial⟩ (lv' := [(5, aV (.ref q)), (0, aR 0 0), (1, aI x), (2, aI n), (3, aI w), (4, aR 47 0)]) (st' := [aN 2]) (w' := wd N_ L_) (P := []) rfl (trivial) (pc' := 22) rfl ?_
      exact Sem.iret rfl d73_22 (Or.inl rfl) (by decide) (by decide) hzW ⟨_, _, _, rfl, rfl, by have hq_ := hx_.1; exact ⟨by first | omega | (rw [hq_]; rfl), fun q => absurd (hq_.symm.trans q) (by decide), fun _ => ⟨hx_.2.2.1, hx_.2.2.2⟩⟩⟩
    · subst he_1
      refine SemX.catch (en9 := 2) (by decide) [⟨0, 12, 15, 13⟩, ⟨0, 12, 19, 15⟩] ⟨0, 12, 23, 28⟩ [] rfl (fun z hz => by
            rcases List.mem_cons.mp hz with rfl | hz
            · exact Or.inr ⟨by decide, _, cl6_13, List.mem_of_getElem? (i := 1) rfl⟩
            · rcases List.mem_cons.mp hz with rfl | hz
              · exact Or.inr ⟨by decide, _, cl6_15, List.mem_of_getElem? (i := 3) rfl⟩
              · cases hz) (by decide) (by decide) cl6_28 (fun q => ?_)
      refine Sem.seg [(.astore 5, 0, 0), (.iconst 3, 0, 0)] ⟨⟨d73_23, trivial⟩, ⟨d73_25, trivial⟩, trivial⟩ (lv' := [(5, aV (.ref q)), (0, aR 0 0), (1, aI x), (2, aI n), (3, aI w), (4, aR 47 0)]) (st' := [aN 3]) (w' := wd N_ L_) (P := []) rfl (trivial) (pc' := 26) rfl ?_
      exact Sem.iret rfl d73_26 (Or.inl rfl) (by decide) (by decide) hzW ⟨_, _, _, rfl, rfl, by have hq_ := hx_.1; exact ⟨by first | omega | (rw [hq_]; rfl), fun q => absurd (hq_.symm.trans q) (by decide), fun _ => ⟨hx_.2.2.1, hx_.2.2.2⟩⟩⟩
  case refine_1 =>
    rintro v_ N1 L1 ⟨hz, y, rfl, hy, hN, hL⟩
    refine Sem.seg [(.i2l, 0, 0), (.lastore, 0, 0)] ⟨⟨d73_10, trivial⟩, ⟨d73_11, trivial⟩, trivial⟩ (lv' := [(0, aR 0 0), (1, aI x), (2, aI n), (3, aI w), (4, aR 47 0)]) (st' := []) (w' := wd N1 (upL L1 47 0 0 y.toInt64)) (P := [vld NN 47 0, 0 < 1]) rfl (⟨vN (t := 47) (i := 0) (by decide), (by decide : (0 : Nat) < 1)⟩) (pc' := 12) rfl ?_
    refine Sem.goto (tgt := 27) d73_12 (by decide) ?_
    refine Sem.seg [(.iconst 0, 0, 0)] ⟨⟨d73_27, trivial⟩, trivial⟩ (lv' := [(0, aR 0 0), (1, aI x), (2, aI n), (3, aI w), (4, aR 47 0)]) (st' := [aN 0]) (w' := wd N1 (upL L1 47 0 0 y.toInt64)) (P := []) rfl (trivial) (pc' := 28) rfl ?_
    exact Sem.iret rfl d73_28 (Or.inl rfl) (by decide) (by decide) hzW ⟨_, _, _, rfl, rfl, by exact ⟨hz.symm, fun _ => ⟨y, hy, hN, by rw [hL]⟩, fun q => absurd hz q⟩⟩

theorem m76 {sc : XT} (N : TN) (L : TL) (x n w : Int32) (hc : CD N) : Sem sc 76 0 [(0, aR 0 0), (1, aI x), (2, aI n), (3, aI w), (4, aR 47 0)] [] (wd N L) 0 0 (QZ fun z N' L' => z = cProm (if 24 ≤ N 8 2 3 then 1 else bo (TD N)) x n w ∧ (cProm (if 24 ≤ N 8 2 3 then 1 else bo (TD N)) x n w = 0 → ∃ y, ((y = Int32.ofInt (-1) ∧ (¬ ∀ u, w.toInt.toNat ≤ u → u < 12 → okW N L x.toInt.toNat n.toInt.toNat u) ∧ N' = N) ∨ (y = nI (N 8 2 3) ∧ (∀ u, w.toInt.toNat ≤ u → u < 12 → okW N L x.toInt.toNat n.toInt.toNat u) ∧ N' = upN (upN (upN (upN N 9 2 (N 8 2 3) x.toInt.toNat) 10 2 (N 8 2 3) w.toInt.toNat) 11 2 (N 8 2 3) n.toInt.toNat) 8 2 3 (N 8 2 3 + 1))) ∧ L' = upL L 47 0 0 (y.toInt64)) ∧ (¬ cProm (if 24 ≤ N 8 2 3 then 1 else bo (TD N)) x n w = 0 → N' = N ∧ L' = L)) := by
  refine Sem.seg [(.aload 4, 0, 0), (.iconst 0, 0, 0), (.aload_n 0, 0, 0), (.iload_n 1, 0, 0), (.iload_n 2, 0, 0), (.iload_n 3, 0, 0)] ⟨⟨d76_0, trivial⟩, ⟨d76_2, trivial⟩, ⟨d76_3, trivial⟩, ⟨d76_4, trivial⟩, ⟨d76_5, trivial⟩, ⟨d76_6, trivial⟩, trivial⟩ (lv' := [(0, aR 0 0), (1, aI x), (2, aI n), (3, aI w), (4, aR 47 0)]) (st' := [aI w, aI n, aI x, aR 0 0, aN 0, aR 47 0]) (w' := wd N L) (P := []) rfl (trivial) (pc' := 7) rfl ?_
  refine Sem.cVC (t := 0) (i := 0) (as := [aI x, aI n, aI w]) (rst := [aN 0, aR 47 0]) (c' := 17) (s' := 102) d76_7 mk77 rfl co77 lk6_65 im77 se77 rfl (vN (t := 0) (i := 0) (by decide)) (show 4 ≤ mL 77 by decide) rfl (show 2 ≤ 8 by decide) (by decide) (by decide) rfl rfl (by decide) (by decide) (m77 N L x n w hc) ?_ ?_
  case refine_2 =>
    rintro e N_ L_ he_ hx_
    have he3_ : e = 0 ∨ e = 1 ∨ e = 2 := by omega
    rcases he3_ with he_1 | he_1 | he_1
    · subst he_1
      refine SemX.catch (en9 := 0) (by decide) [] ⟨0, 12, 15, 13⟩ [⟨0, 12, 19, 15⟩, ⟨0, 12, 23, 28⟩] rfl (fun z hz => by cases hz) (by decide) (by decide) cl6_13 (fun q => ?_)
      refine Sem.seg [(.astore 5, 0, 0), (.iconst 1, 0, 0)] ⟨⟨d76_15, trivial⟩, ⟨d76_17, trivial⟩, trivial⟩ (lv' := [(5, aV (.ref q)), (0, aR 0 0), (1, aI x), (2, aI n), (3, aI w), (4, aR 47 0)]) (st' := [aN 1]) (w' := wd N_ L_) (P := []) rfl (trivial) (pc' := 18) rfl ?_
      exact Sem.iret rfl d76_18 (Or.inl rfl) (by decide) (by decide) hzW ⟨_, _, _, rfl, rfl, by have hq_ := hx_.1; exact ⟨by first | omega | (rw [hq_]; rfl), fun q => absurd (hq_.symm.trans q) (by decide), fun _ => ⟨hx_.2.2.1, hx_.2.2.2⟩⟩⟩
    · subst he_1
      refine SemX.catch (en9 := 1) (by decide) [⟨0, 12, 15, 13⟩] ⟨0, 12, 19, 15⟩ [⟨0, 12, 23, 28⟩] rfl (fun z hz => by
            rcases List.mem_cons.mp hz with rfl | hz
            · exact Or.inr ⟨by decide, _, cl6_13, List.mem_of_getElem? (i := 0) rfl⟩
            · cases hz) (by decide) (by decide) cl6_15 (fun q => ?_)
      refine Sem.seg [(.astore 5, 0, 0), (.iconst 2, 0, 0)] ⟨⟨d76_19, trivial⟩, ⟨d76_21, trivial⟩, trivial⟩ (lv' := [(5, aV (.ref q)), (0, aR 0 0), (1, aI x), (2, aI n), (3, aI w), (4, aR 47 0)]) (st' := [aN 2]) (w' := wd N_ L_) (P := []) rfl (trivial) (pc' := 22) rfl ?_
      exact Sem.iret rfl d76_22 (Or.inl rfl) (by decide) (by decide) hzW ⟨_, _, _, rfl, rfl, by have hq_ := hx_.1; exact ⟨by first | omega | (rw [hq_]; rfl), fun q => absurd (hq_.symm.trans q) (by decide), fun _ => ⟨hx_.2.2.1, hx_.2.2.2⟩⟩⟩
    · subst he_1
      refine SemX.catch (en9 := 2) (by decide) [⟨0, 12, 15, 13⟩, ⟨0, 12, 19, 15⟩] ⟨0, 12, 23, 28⟩ [] rfl (fun z hz => by
            rcases List.mem_cons.mp hz with rfl | hz
            · exact Or.inr ⟨by decide, _, cl6_13, List.mem_of_getElem? (i := 1) rfl⟩
            · rcases List.mem_cons.mp hz with rfl | hz
              · exact Or.inr ⟨by decide, _, cl6_15, List.mem_of_getElem? (i := 3) rfl⟩
              · cases hz) (by decide) (by decide) cl6_28 (fun q => ?_)
      refine Sem.seg [(.astore 5, 0, 0), (.iconst 3, 0, 0)] ⟨⟨d76_23, trivial⟩, ⟨d76_25, trivial⟩, trivial⟩ (lv' := [(5, aV (.ref q)), (0, aR 0 0), (1, aI x), (2, aI n), (3, aI w), (4, aR 47 0)]) (st' := [aN 3]) (w' := wd N_ L_) (P := []) rfl (trivial) (pc' := 26) rfl ?_
      exact Sem.iret rfl d76_26 (Or.inl rfl) (by decide) (by decide) hzW ⟨_, _, _, rfl, rfl, by have hq_ := hx_.1; exact ⟨by first | omega | (rw [hq_]; rfl), fun q => absurd (hq_.symm.trans q) (by decide), fun _ => ⟨hx_.2.2.1, hx_.2.2.2⟩⟩⟩
  case refine_1 =>
    rintro v_ N1 L1 ⟨hz, ⟨y, rfl, hy⟩, hL⟩
    refine Sem.seg [(.i2l, 0, 0), (.lastore, 0, 0)] ⟨⟨d76_10, trivial⟩, ⟨d76_11, trivial⟩, trivial⟩ (lv' := [(0, aR 0 0), (1, aI x), (2, aI n), (3, aI w), (4, aR 47 0)]) (st' := []) (w' := wd N1 (upL L1 47 0 0 y.toInt64)) (P := [vld NN 47 0, 0 < 1]) rfl (⟨vN (t := 47) (i := 0) (by decide), (by decide : (0 : Nat) < 1)⟩) (pc' := 12) rfl ?_
    refine Sem.goto (tgt := 27) d76_12 (by decide) ?_
    refine Sem.seg [(.iconst 0, 0, 0)] ⟨⟨d76_27, trivial⟩, trivial⟩ (lv' := [(0, aR 0 0), (1, aI x), (2, aI n), (3, aI w), (4, aR 47 0)]) (st' := [aN 0]) (w' := wd N1 (upL L1 47 0 0 y.toInt64)) (P := []) rfl (trivial) (pc' := 28) rfl ?_
    exact Sem.iret rfl d76_28 (Or.inl rfl) (by decide) (by decide) hzW ⟨_, _, _, rfl, rfl, by exact ⟨hz.symm, fun _ => ⟨y, hy, by rw [hL]⟩, fun q => absurd hz q⟩⟩

theorem m78 {sc : XT} (N : TN) (L : TL) (x : Int32) (hs : N 8 2 3 ≤ 24) : Sem sc 78 0 [(0, aR 0 0), (1, aI x), (2, aR 47 0)] [] (wd N L) 0 0 (QZ fun z N' L' => z = cGive (N 8 2 3) x ∧ (cGive (N 8 2 3) x = 0 → N' = upN N 11 2 x.toInt.toNat 0 ∧ L' = upL L 47 0 0 (q64 (N 11 2 x.toInt.toNat))) ∧ (¬ cGive (N 8 2 3) x = 0 → N' = N ∧ L' = L)) := by
  refine Sem.seg [(.aload_n 2, 0, 0), (.iconst 0, 0, 0), (.aload_n 0, 0, 0), (.iload_n 1, 0, 0)] ⟨⟨d78_0, trivial⟩, ⟨d78_1, trivial⟩, ⟨d78_2, trivial⟩, ⟨d78_3, trivial⟩, trivial⟩ (lv' := [(0, aR 0 0), (1, aI x), (2, aR 47 0)]) (st' := [aI x, aR 0 0, aN 0, aR 47 0]) (w' := wd N L) (P := []) rfl (trivial) (pc' := 4) rfl ?_
  refine Sem.cVC (t := 0) (i := 0) (as := [aI x]) (rst := [aN 0, aR 47 0]) (c' := 1) (s' := 6) d78_4 mk79 rfl co79 lk6_68 im79 se79 rfl (vN (t := 0) (i := 0) (by decide)) (show 2 ≤ mL 79 by decide) rfl (show 2 ≤ 8 by decide) (by decide) (by decide) rfl rfl (by decide) (by decide) (m79 N L x hs) ?_ ?_
  case refine_2 =>
    rintro e N_ L_ he_ hx_
    have he3_ : e = 0 := by omega
    have he_1 := he3_
    · subst he_1
      refine SemX.catch (en9 := 0) (by decide) [] ⟨0, 9, 12, 13⟩ [] rfl (fun z hz => by cases hz) (by decide) (by decide) cl6_13 (fun q => ?_)
      refine Sem.seg [(.astore_n 3, 0, 0), (.iconst 1, 0, 0)] ⟨⟨d78_12, trivial⟩, ⟨d78_13, trivial⟩, trivial⟩ (lv' := [(3, aV (.ref q)), (0, aR 0 0), (1, aI x), (2, aR 47 0)]) (st' := [aN 1]) (w' := wd N_ L_) (P := []) rfl (trivial) (pc' := 14) rfl ?_
      exact Sem.iret rfl d78_14 (Or.inl rfl) (by decide) (by decide) hzW ⟨_, _, _, rfl, rfl, by have hq_ := hx_.1; exact ⟨by first | omega | (rw [hq_]; rfl), fun q => absurd (hq_.symm.trans q) (by decide), fun _ => ⟨hx_.2.2.1, hx_.2.2.2⟩⟩⟩
  case refine_1 =>
    rintro v_ N1 L1 ⟨hz, rfl, hN, hL⟩
    refine Sem.seg [(.i2l, 0, 0), (.lastore, 0, 0)] ⟨⟨d78_7, trivial⟩, ⟨d78_8, trivial⟩, trivial⟩ (lv' := [(0, aR 0 0), (1, aI x), (2, aR 47 0)]) (st' := []) (w' := wd N1 (upL L1 47 0 0 ((nI (N 11 2 x.toInt.toNat)).toInt64))) (P := [vld NN 47 0, 0 < 1]) rfl (⟨vN (t := 47) (i := 0) (by decide), (by decide : (0 : Nat) < 1)⟩) (pc' := 9) rfl ?_
    refine Sem.goto (tgt := 15) d78_9 (by decide) ?_
    refine Sem.seg [(.iconst 0, 0, 0)] ⟨⟨d78_15, trivial⟩, trivial⟩ (lv' := [(0, aR 0 0), (1, aI x), (2, aR 47 0)]) (st' := [aN 0]) (w' := wd N1 (upL L1 47 0 0 ((nI (N 11 2 x.toInt.toNat)).toInt64))) (P := []) rfl (trivial) (pc' := 16) rfl ?_
    exact Sem.iret rfl d78_16 (Or.inl rfl) (by decide) (by decide) hzW ⟨_, _, _, rfl, rfl, by exact ⟨hz.symm, fun _ => ⟨hN, by rw [hL]⟩, fun q => absurd hz q⟩⟩

theorem m80 {sc : XT} (N : TN) (L : TL) (c w : Int32) (hc : CD N) : Sem sc 80 0 [(0, aR 0 0), (1, aI c), (2, aI w), (3, aR 47 0)] [] (wd N L) 0 0 (QZ fun z N' L' => z = cLoad (bo (TD N)) c w ∧ (cLoad (bo (TD N)) c w = 0 → N' = N ∧ L' = upL L 47 0 0 (ldF N L c.toInt.toNat w.toInt.toNat)) ∧ (¬ cLoad (bo (TD N)) c w = 0 → N' = N ∧ L' = L)) := by
  refine Sem.seg [(.aload_n 3, 0, 0), (.iconst 0, 0, 0), (.aload_n 0, 0, 0), (.iload_n 1, 0, 0), (.iload_n 2, 0, 0)] ⟨⟨d80_0, trivial⟩, ⟨d80_1, trivial⟩, ⟨d80_2, trivial⟩, ⟨d80_3, trivial⟩, ⟨d80_4, trivial⟩, trivial⟩ (lv' := [(0, aR 0 0), (1, aI c), (2, aI w), (3, aR 47 0)]) (st' := [aI w, aI c, aR 0 0, aN 0, aR 47 0]) (w' := wd N L) (P := []) rfl (trivial) (pc' := 5) rfl ?_
  refine Sem.cVC (t := 0) (i := 0) (as := [aI c, aI w]) (rst := [aN 0, aR 47 0]) (c' := 3) (s' := 18) d80_5 mk81 rfl co81 lk6_71 im81 se81 rfl (vN (t := 0) (i := 0) (by decide)) (show 3 ≤ mL 81 by decide) rfl (show 2 ≤ 8 by decide) (by decide) (by decide) rfl rfl (by decide) (by decide) (m81 N L c w hc) ?_ ?_
  case refine_2 =>
    rintro e N_ L_ he_ hx_
    have he3_ : e = 0 ∨ e = 2 := by omega
    rcases he3_ with he_1 | he_1
    · subst he_1
      refine SemX.catch (en9 := 0) (by decide) [] ⟨0, 9, 12, 13⟩ [⟨0, 9, 16, 28⟩] rfl (fun z hz => by cases hz) (by decide) (by decide) cl6_13 (fun q => ?_)
      refine Sem.seg [(.astore 4, 0, 0), (.iconst 1, 0, 0)] ⟨⟨d80_12, trivial⟩, ⟨d80_14, trivial⟩, trivial⟩ (lv' := [(4, aV (.ref q)), (0, aR 0 0), (1, aI c), (2, aI w), (3, aR 47 0)]) (st' := [aN 1]) (w' := wd N_ L_) (P := []) rfl (trivial) (pc' := 15) rfl ?_
      exact Sem.iret rfl d80_15 (Or.inl rfl) (by decide) (by decide) hzW ⟨_, _, _, rfl, rfl, by have hq_ := hx_.1; exact ⟨by first | omega | (rw [hq_]; rfl), fun q => absurd (hq_.symm.trans q) (by decide), fun _ => ⟨hx_.2.2.1, hx_.2.2.2⟩⟩⟩
    · subst he_1
      refine SemX.catch (en9 := 2) (by decide) [⟨0, 9, 12, 13⟩] ⟨0, 9, 16, 28⟩ [] rfl (fun z hz => by
            rcases List.mem_cons.mp hz with rfl | hz
            · exact Or.inr ⟨by decide, _, cl6_13, List.mem_of_getElem? (i := 1) rfl⟩
            · cases hz) (by decide) (by decide) cl6_28 (fun q => ?_)
      refine Sem.seg [(.astore 4, 0, 0), (.iconst 2, 0, 0)] ⟨⟨d80_16, trivial⟩, ⟨d80_18, trivial⟩, trivial⟩ (lv' := [(4, aV (.ref q)), (0, aR 0 0), (1, aI c), (2, aI w), (3, aR 47 0)]) (st' := [aN 2]) (w' := wd N_ L_) (P := []) rfl (trivial) (pc' := 19) rfl ?_
      exact Sem.iret rfl d80_19 (Or.inl rfl) (by decide) (by decide) hzW ⟨_, _, _, rfl, rfl, by have hq_ := hx_.1; exact ⟨by first | omega | (rw [hq_]; rfl), fun q => absurd (hq_.symm.trans q) (by decide), fun _ => ⟨hx_.2.2.1, hx_.2.2.2⟩⟩⟩
  case refine_1 =>
    rintro v_ N1 L1 ⟨hz, rfl, hN, hL⟩
    refine Sem.seg [(.lastore, 0, 0)] ⟨⟨d80_8, trivial⟩, trivial⟩ (lv' := [(0, aR 0 0), (1, aI c), (2, aI w), (3, aR 47 0)]) (st' := []) (w' := wd N1 (upL L1 47 0 0 (ldF N L c.toInt.toNat w.toInt.toNat))) (P := [vld NN 47 0, 0 < 1]) rfl (⟨vN (t := 47) (i := 0) (by decide), (by decide : (0 : Nat) < 1)⟩) (pc' := 9) rfl ?_
    refine Sem.goto (tgt := 20) d80_9 (by decide) ?_
    refine Sem.seg [(.iconst 0, 0, 0)] ⟨⟨d80_20, trivial⟩, trivial⟩ (lv' := [(0, aR 0 0), (1, aI c), (2, aI w), (3, aR 47 0)]) (st' := [aN 0]) (w' := wd N1 (upL L1 47 0 0 (ldF N L c.toInt.toNat w.toInt.toNat))) (P := []) rfl (trivial) (pc' := 21) rfl ?_
    exact Sem.iret rfl d80_21 (Or.inl rfl) (by decide) (by decide) hzW ⟨_, _, _, rfl, rfl, by exact ⟨hz.symm, fun _ => ⟨hN, by rw [hL]⟩, fun q => absurd hz q⟩⟩

theorem m82 {sc : XT} (N : TN) (L : TL) (x : Int32) (ht : ∀ i, i < 12 → N 19 i 10 ≤ 1) : Sem sc 82 0 [(0, aR 0 0), (1, aI x), (2, aR 47 0)] [] (wd N L) 0 0 (QZ fun z N' L' => z = cCount (bo (TD N)) x ∧ (cCount (bo (TD N)) x = 0 → N' = N ∧ L' = upL L 47 0 0 ((vCount N L x).toInt64)) ∧ (¬ cCount (bo (TD N)) x = 0 → N' = N ∧ L' = L)) := by
  refine Sem.seg [(.aload_n 2, 0, 0), (.iconst 0, 0, 0), (.aload_n 0, 0, 0), (.iload_n 1, 0, 0)] ⟨⟨d82_0, trivial⟩, ⟨d82_1, trivial⟩, ⟨d82_2, trivial⟩, ⟨d82_3, trivial⟩, trivial⟩ (lv' := [(0, aR 0 0), (1, aI x), (2, aR 47 0)]) (st' := [aI x, aR 0 0, aN 0, aR 47 0]) (w' := wd N L) (P := []) rfl (trivial) (pc' := 4) rfl ?_
  refine Sem.cVC (t := 0) (i := 0) (as := [aI x]) (rst := [aN 0, aR 47 0]) (c' := 1) (s' := 6) d82_4 mk83 rfl co83 lk6_74 im83 se83 rfl (vN (t := 0) (i := 0) (by decide)) (show 2 ≤ mL 83 by decide) rfl (show 2 ≤ 8 by decide) (by decide) (by decide) rfl rfl (by decide) (by decide) (m83 N L x ht) ?_ ?_
  case refine_2 =>
    rintro e N_ L_ he_ hx_
    have he3_ : e = 2 := by omega
    have he_1 := he3_
    · subst he_1
      refine SemX.catch (en9 := 2) (by decide) [] ⟨0, 9, 12, 28⟩ [] rfl (fun z hz => by cases hz) (by decide) (by decide) cl6_28 (fun q => ?_)
      refine Sem.seg [(.astore_n 3, 0, 0), (.iconst 1, 0, 0)] ⟨⟨d82_12, trivial⟩, ⟨d82_13, trivial⟩, trivial⟩ (lv' := [(3, aV (.ref q)), (0, aR 0 0), (1, aI x), (2, aR 47 0)]) (st' := [aN 1]) (w' := wd N_ L_) (P := []) rfl (trivial) (pc' := 14) rfl ?_
      exact Sem.iret rfl d82_14 (Or.inl rfl) (by decide) (by decide) hzW ⟨_, _, _, rfl, rfl, by have hq_ := hx_.1; exact ⟨by first | omega | (rw [hq_]; rfl), fun q => absurd (hq_.symm.trans q) (by decide), fun _ => ⟨hx_.2.2.1, hx_.2.2.2⟩⟩⟩
  case refine_1 =>
    rintro v_ N1 L1 ⟨hz, rfl, hN, hL⟩
    refine Sem.seg [(.i2l, 0, 0), (.lastore, 0, 0)] ⟨⟨d82_7, trivial⟩, ⟨d82_8, trivial⟩, trivial⟩ (lv' := [(0, aR 0 0), (1, aI x), (2, aR 47 0)]) (st' := []) (w' := wd N1 (upL L1 47 0 0 ((vCount N L x).toInt64))) (P := [vld NN 47 0, 0 < 1]) rfl (⟨vN (t := 47) (i := 0) (by decide), (by decide : (0 : Nat) < 1)⟩) (pc' := 9) rfl ?_
    refine Sem.goto (tgt := 15) d82_9 (by decide) ?_
    refine Sem.seg [(.iconst 0, 0, 0)] ⟨⟨d82_15, trivial⟩, trivial⟩ (lv' := [(0, aR 0 0), (1, aI x), (2, aR 47 0)]) (st' := [aN 0]) (w' := wd N1 (upL L1 47 0 0 ((vCount N L x).toInt64))) (P := []) rfl (trivial) (pc' := 16) rfl ?_
    exact Sem.iret rfl d82_16 (Or.inl rfl) (by decide) (by decide) hzW ⟨_, _, _, rfl, rfl, by exact ⟨hz.symm, fun _ => ⟨hN, by rw [hL]⟩, fun q => absurd hz q⟩⟩

