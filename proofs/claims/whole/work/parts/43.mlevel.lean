-- ===== the model: levels =====
theorem bo_01 (P : Prop) : nI (bo P) = 0 ∨ nI (bo P) = 1 := by
  rcases Classical.em P with h | h
  · rw [bo_t h]; exact Or.inr rfl
  · rw [bo_f h]; exact Or.inl rfl

theorem toInt_inc {x : Int32} (h : x.toInt < 1000) : (x + Int32.ofInt 1).toInt = x.toInt + 1 := by
  have h2 := Int32.le_toInt x
  rw [Int32.toInt_add]
  have e : (Int32.ofInt 1).toInt = 1 := by decide
  rw [e, Int.bmod_eq_of_le] <;> omega

theorem m98 {sc : XT} (N : TN) (L : TL) (i : Nat) (hi : i < 12) (h9 : ∀ c, c < 144 → N 34 0 c ≤ 9) : Sem sc 98 0 [(0, aR 23 0), (1, aN i)] [] (wd N L) 0 0 (QZ fun z N' L' => N = N' ∧ L = L' ∧ LVv (eg (mN N)) i z) := by
  refine Sem.seg [(.iconst 1, 0, 0), (.iload_n 1, 0, 0), (.ishl, 0, 0), (.istore_n 2, 0, 0), (.iconst (-1), 0, 0), (.istore_n 3, 0, 0)] ⟨⟨d98_0, trivial⟩, ⟨d98_1, trivial⟩, ⟨d98_2, trivial⟩, ⟨d98_3, trivial⟩, ⟨d98_4, trivial⟩, ⟨d98_5, trivial⟩, trivial⟩ (lv' := [(3, aI (Int32.ofInt (-1))), (2, aI ((nI 1) <<< ((nI i) &&& 31))), (0, aR 23 0), (1, aN i)]) (st' := []) (w' := wd N L) (P := []) rfl (trivial) (pc' := 6) rfl ?_
  have lpa : ∀ (d : Nat) (s : Nat) (m x : Int32), 21 - s = d → (s ≤ 21) → (x.toInt = (s : Int) - 1) → (Msk (eg (mN N)) s i m) → (s = 0 ∨ wk (eg (mN N)) (s - 1) i) → Sem sc 98 6 [(0, aR 23 0), (1, aN i), (2, aI m), (3, aI x)] [] (wd N L) 0 0 (QZ fun z N' L' => N = N' ∧ L = L' ∧ LVv (eg (mN N)) i z) := by
    intro da
    induction da using Nat.strongRecOn with
    | ind da iha =>
      intro s m x hda hs hx hm hw
      refine Sem.seg [(.iload_n 2, 0, 0)] ⟨⟨d98_6, trivial⟩, trivial⟩ (lv' := [(0, aR 23 0), (1, aN i), (2, aI m), (3, aI x)]) (st' := [aI m]) (w' := wd N L) (P := []) rfl (trivial) (pc' := 7) rfl ?_
      refine Sem.ifc (tgt := 97) d98_7 (by decide) rfl (fun b1 => ?_) (fun b1 => ?_)
      · have b1_ : m.toInt = 0 := bT rfl rfl b1
        have hs1 : 1 ≤ s := by
          rcases Nat.eq_zero_or_pos s with q | q
          · exfalso
            subst q
            first
            | exact (Msk_z hi hm).mp (by assumption) trivial
            | omega
          · exact q
        have hw1 : wk (eg (mN N)) (s - 1) i := by
          rcases hw with q | q
          · omega
          · exact q
        refine Sem.seg [(.iload_n 3, 0, 0), (.bipush 20, 0, 0)] ⟨⟨d98_97, trivial⟩, ⟨d98_98, trivial⟩, trivial⟩ (lv' := [(0, aR 23 0), (1, aN i), (2, aI m), (3, aI x)]) (st' := [aN 20, aI x]) (w' := wd N L) (P := []) rfl (trivial) (pc' := 100) rfl ?_
        refine Sem.icmp (tgt := 108) d98_100 (by decide) rfl rfl (fun b2 => ?_) (fun b2 => ?_)
        · have b2_ : x.toInt < 20 := bT rfl (nI_toInt (by decide)) b2
          refine Sem.pick [3, 0, 1, 2] (lv' := [(3, aI x), (0, aR 23 0), (1, aN i), (2, aI m)]) rfl ?_
          refine Sem.loc0 (show x = nI (s - 1) from i_nI (by omega)) ?_
          refine Sem.seg [(.iload_n 3, 0, 0)] ⟨⟨d98_108, trivial⟩, trivial⟩ (lv' := [(3, aN (s - 1)), (0, aR 23 0), (1, aN i), (2, aI m)]) (st' := [aN (s - 1)]) (w' := wd N L) (P := []) rfl (trivial) (pc' := 109) rfl ?_
          refine Sem.iret rfl d98_109 (Or.inl rfl) (by decide) (by decide) hzW ⟨_, _, _, rfl, rfl, ?_⟩
          refine ⟨rfl, rfl, ?_⟩
          first
          | (exfalso; omega)
          | exact Or.inl ⟨by omega, hw1, by rw [show s - 1 + 1 = s by omega]; exact (Msk_z hi hm).mp (by assumption)⟩
        · have b2_ : ¬ (x.toInt < 20) := bF rfl (nI_toInt (by decide)) b2
          refine Sem.seg [(.bipush 99, 0, 0)] ⟨⟨d98_103, trivial⟩, trivial⟩ (lv' := [(0, aR 23 0), (1, aN i), (2, aI m), (3, aI x)]) (st' := [aN 99]) (w' := wd N L) (P := []) rfl (trivial) (pc' := 105) rfl ?_
          refine Sem.goto (tgt := 109) d98_105 (by decide) ?_
          refine Sem.iret rfl d98_109 (Or.inl rfl) (by decide) (by decide) hzW ⟨_, _, _, rfl, rfl, ?_⟩
          refine ⟨rfl, rfl, ?_⟩
          exact Or.inr ⟨rfl, wk_le (by omega) hw1⟩
      · have b1_ : ¬ (m.toInt = 0) := bF rfl rfl b1
        refine Sem.seg [(.iload_n 3, 0, 0), (.bipush 20, 0, 0)] ⟨⟨d98_10, trivial⟩, ⟨d98_11, trivial⟩, trivial⟩ (lv' := [(0, aR 23 0), (1, aN i), (2, aI m), (3, aI x)]) (st' := [aN 20, aI x]) (w' := wd N L) (P := []) rfl (trivial) (pc' := 13) rfl ?_
        refine Sem.icmp (tgt := 97) d98_13 (by decide) rfl rfl (fun b3 => ?_) (fun b3 => ?_)
        · have b3_ : 20 ≤ x.toInt := bT rfl (nI_toInt (by decide)) b3
          have hs1 : 1 ≤ s := by
            rcases Nat.eq_zero_or_pos s with q | q
            · exfalso
              subst q
              first
              | exact (Msk_z hi hm).mp (by assumption) trivial
              | omega
            · exact q
          have hw1 : wk (eg (mN N)) (s - 1) i := by
            rcases hw with q | q
            · omega
            · exact q
          refine Sem.seg [(.iload_n 3, 0, 0), (.bipush 20, 0, 0)] ⟨⟨d98_97, trivial⟩, ⟨d98_98, trivial⟩, trivial⟩ (lv' := [(0, aR 23 0), (1, aN i), (2, aI m), (3, aI x)]) (st' := [aN 20, aI x]) (w' := wd N L) (P := []) rfl (trivial) (pc' := 100) rfl ?_
          refine Sem.icmp (tgt := 108) d98_100 (by decide) rfl rfl (fun b4 => ?_) (fun b4 => ?_)
          · have b4_ : x.toInt < 20 := bT rfl (nI_toInt (by decide)) b4
            refine Sem.pick [3, 0, 1, 2] (lv' := [(3, aI x), (0, aR 23 0), (1, aN i), (2, aI m)]) rfl ?_
            refine Sem.loc0 (show x = nI (s - 1) from i_nI (by omega)) ?_
            refine Sem.seg [(.iload_n 3, 0, 0)] ⟨⟨d98_108, trivial⟩, trivial⟩ (lv' := [(3, aN (s - 1)), (0, aR 23 0), (1, aN i), (2, aI m)]) (st' := [aN (s - 1)]) (w' := wd N L) (P := []) rfl (trivial) (pc' := 109) rfl ?_
            refine Sem.iret rfl d98_109 (Or.inl rfl) (by decide) (by decide) hzW ⟨_, _, _, rfl, rfl, ?_⟩
            refine ⟨rfl, rfl, ?_⟩
            first
            | (exfalso; omega)
            | exact Or.inl ⟨by omega, hw1, by rw [show s - 1 + 1 = s by omega]; exact (Msk_z hi hm).mp (by assumption)⟩
          · have b4_ : ¬ (x.toInt < 20) := bF rfl (nI_toInt (by decide)) b4
            refine Sem.seg [(.bipush 99, 0, 0)] ⟨⟨d98_103, trivial⟩, trivial⟩ (lv' := [(0, aR 23 0), (1, aN i), (2, aI m), (3, aI x)]) (st' := [aN 99]) (w' := wd N L) (P := []) rfl (trivial) (pc' := 105) rfl ?_
            refine Sem.goto (tgt := 109) d98_105 (by decide) ?_
            refine Sem.iret rfl d98_109 (Or.inl rfl) (by decide) (by decide) hzW ⟨_, _, _, rfl, rfl, ?_⟩
            refine ⟨rfl, rfl, ?_⟩
            exact Or.inr ⟨rfl, wk_le (by omega) hw1⟩
        · have b3_ : ¬ (20 ≤ x.toInt) := bF rfl (nI_toInt (by decide)) b3
          have hwk : wk (eg (mN N)) s i := Classical.byContradiction fun q => (by assumption : ¬ m.toInt = 0) ((Msk_z hi hm).mpr q)
          refine Sem.seg [(.iconst 0, 0, 0), (.istore 4, 0, 0), (.iconst 0, 0, 0), (.istore 5, 0, 0)] ⟨⟨d98_16, trivial⟩, ⟨d98_17, trivial⟩, ⟨d98_19, trivial⟩, ⟨d98_20, trivial⟩, trivial⟩ (lv' := [(5, aN 0), (4, aN 0), (0, aR 23 0), (1, aN i), (2, aI m), (3, aI x)]) (st' := []) (w' := wd N L) (P := []) rfl (trivial) (pc' := 22) rfl ?_
          have lpb : ∀ (d : Nat) (l : Nat) (y : Int32), 144 - l = d → (l ≤ 144) → (Nxt N m l y) → Sem sc 98 22 [(0, aR 23 0), (1, aN i), (2, aI m), (3, aI x), (4, aI y), (5, aN l)] [] (wd N L) 0 0 (QZ fun z N' L' => N = N' ∧ L = L' ∧ LVv (eg (mN N)) i z) := by
            intro db
            induction db using Nat.strongRecOn with
            | ind db ihb =>
              intro l y hdb hl hn
              refine Sem.seg [(.iload 5, 0, 0), (.sipush 144, 0, 0)] ⟨⟨d98_22, trivial⟩, ⟨d98_24, trivial⟩, trivial⟩ (lv' := [(0, aR 23 0), (1, aN i), (2, aI m), (3, aI x), (4, aI y), (5, aN l)]) (st' := [aN 144, aN l]) (w' := wd N L) (P := []) rfl (trivial) (pc' := 27) rfl ?_
              refine Sem.icmpN (tgt := 88) d98_27 (by decide) (show l < 2 ^ 31 by omega) (by decide) (fun b5 => ?_) (fun b5 => ?_)
              · have b5_ : 144 ≤ l := b5
                obtain rfl : l = 144 := by omega
                refine Sem.seg [(.iload 4, 0, 0), (.istore_n 2, 0, 0), (.iinc 3 1, 0, 0)] ⟨⟨d98_88, trivial⟩, ⟨d98_90, trivial⟩, ⟨d98_91, trivial⟩, trivial⟩ (lv' := [(3, aI (x + Int32.ofInt 1)), (2, aI y), (0, aR 23 0), (1, aN i), (4, aI y), (5, aN 144)]) (st' := []) (w' := wd N L) (P := []) rfl (trivial) (pc' := 94) rfl ?_
                refine Sem.goto (tgt := 6) d98_94 (by decide) ?_
                refine Sem.pick [2, 3, 1, 0] (lv' := [(0, aR 23 0), (1, aN i), (2, aI y), (3, aI (x + Int32.ofInt 1))]) rfl ?_
                exact iha _ (by omega) (s + 1) y (x + Int32.ofInt 1) rfl (by omega) (by rw [toInt_inc (by omega), hx]; omega) (Nxt_all hm hn) (Or.inr (by rw [Nat.add_sub_cancel]; exact hwk))
              · have b5_ : ¬ (144 ≤ l) := b5
                have e9 := h9 l (by omega)
                refine Sem.seg [(.aload_n 0, 0, 0), (.getfield 40, 5, 11), (.iload 5, 0, 0), (.iaload, 0, 0)] ⟨⟨d98_30, trivial⟩, ⟨d98_31, gf5_40⟩, ⟨d98_34, trivial⟩, ⟨d98_36, trivial⟩, trivial⟩ (lv' := [(0, aR 23 0), (1, aN i), (2, aI m), (3, aI x), (4, aI y), (5, aN l)]) (st' := [aN (N 34 0 l)]) (w' := wd N L) (P := [vld NN 23 0, vld NN 34 0, l < 144]) rfl (⟨vN (t := 23) (i := 0) (by decide), vN (t := 34) (i := 0) (by decide), (show l < 144 by omega)⟩) (pc' := 37) rfl ?_
                refine Sem.ifN (tgt := 57) d98_37 (by decide) (show N 34 0 l < 2 ^ 31 by omega) (fun b6 => ?_) (fun b6 => ?_)
                · have b6_ : N 34 0 l ≤ 0 := b6
                  refine Sem.seg [(.iconst 0, 0, 0), (.istore 6, 0, 0), (.iload 6, 0, 0)] ⟨⟨d98_57, trivial⟩, ⟨d98_58, trivial⟩, ⟨d98_60, trivial⟩, trivial⟩ (lv' := [(6, aN 0), (0, aR 23 0), (1, aN i), (2, aI m), (3, aI x), (4, aI y), (5, aN l)]) (st' := [aN 0]) (w' := wd N L) (P := []) rfl (trivial) (pc' := 62) rfl ?_
                  refine Sem.ifN (tgt := 78) d98_62 (by decide) (by decide) (fun b7 => ?_) (fun b7 => ?_)
                  rotate_left
                  · exact absurd (show 0 = 0 from by decide) b7
                  refine Sem.seg [(.iload 4, 0, 0), (.istore 4, 0, 0), (.iinc 5 1, 0, 0)] ⟨⟨d98_78, trivial⟩, ⟨d98_80, trivial⟩, ⟨d98_82, trivial⟩, trivial⟩ (lv' := [(5, aN (l + 1)), (4, aI y), (6, aN 0), (0, aR 23 0), (1, aN i), (2, aI m), (3, aI x)]) (st' := []) (w' := wd N L) (P := []) rfl (trivial) (pc' := 85) rfl ?_
                  refine Sem.goto (tgt := 22) d98_85 (by decide) ?_
                  refine Sem.pick [3, 4, 5, 6, 1, 0] (lv' := [(0, aR 23 0), (1, aN i), (2, aI m), (3, aI x), (4, aI y), (5, aN (l + 1))]) rfl ?_
                  exact ihb _ (by omega) (l + 1) y rfl (by omega) (Nxt_no hn (fun q => by first | omega | exact absurd ((b_tst (by omega)).mpr q.2) (by assumption)))
                · have b6_ : ¬ (N 34 0 l ≤ 0) := b6
                  refine Sem.seg [(.iload_n 2, 0, 0), (.iload 5, 0, 0), (.bipush 12, 0, 0), (.irem, 0, 0), (.ishr, 0, 0), (.iconst 1, 0, 0), (.iand, 0, 0), (.iconst 1, 0, 0)] ⟨⟨d98_40, trivial⟩, ⟨d98_41, trivial⟩, ⟨d98_43, trivial⟩, ⟨d98_45, trivial⟩, ⟨d98_46, trivial⟩, ⟨d98_47, trivial⟩, ⟨d98_48, trivial⟩, ⟨d98_49, trivial⟩, trivial⟩ (lv' := [(0, aR 23 0), (1, aN i), (2, aI m), (3, aI x), (4, aI y), (5, aN l)]) (st' := [aN 1, aI ((m >>> ((nI (l % 12)) &&& 31)) &&& (nI 1))]) (w' := wd N L) (P := [l < 2 ^ 31, 0 < 12, 12 < 2 ^ 31]) rfl (⟨(show l < 2 ^ 31 by omega), (show 0 < 12 by omega), (show 12 < 2 ^ 31 by omega)⟩) (pc' := 50) rfl ?_
                  refine Sem.icmp (tgt := 57) d98_50 (by decide) rfl rfl (fun b8 => ?_) (fun b8 => ?_)
                  · have b8_ : ¬ ((m >>> ((nI (l % 12)) &&& 31)) &&& (nI 1)).toInt = 1 := bT rfl (nI_toInt (by decide)) b8
                    refine Sem.seg [(.iconst 0, 0, 0), (.istore 6, 0, 0), (.iload 6, 0, 0)] ⟨⟨d98_57, trivial⟩, ⟨d98_58, trivial⟩, ⟨d98_60, trivial⟩, trivial⟩ (lv' := [(6, aN 0), (0, aR 23 0), (1, aN i), (2, aI m), (3, aI x), (4, aI y), (5, aN l)]) (st' := [aN 0]) (w' := wd N L) (P := []) rfl (trivial) (pc' := 62) rfl ?_
                    refine Sem.ifN (tgt := 78) d98_62 (by decide) (by decide) (fun b9 => ?_) (fun b9 => ?_)
                    rotate_left
                    · exact absurd (show 0 = 0 from by decide) b9
                    refine Sem.seg [(.iload 4, 0, 0), (.istore 4, 0, 0), (.iinc 5 1, 0, 0)] ⟨⟨d98_78, trivial⟩, ⟨d98_80, trivial⟩, ⟨d98_82, trivial⟩, trivial⟩ (lv' := [(5, aN (l + 1)), (4, aI y), (6, aN 0), (0, aR 23 0), (1, aN i), (2, aI m), (3, aI x)]) (st' := []) (w' := wd N L) (P := []) rfl (trivial) (pc' := 85) rfl ?_
                    refine Sem.goto (tgt := 22) d98_85 (by decide) ?_
                    refine Sem.pick [3, 4, 5, 6, 1, 0] (lv' := [(0, aR 23 0), (1, aN i), (2, aI m), (3, aI x), (4, aI y), (5, aN (l + 1))]) rfl ?_
                    exact ihb _ (by omega) (l + 1) y rfl (by omega) (Nxt_no hn (fun q => by first | omega | exact absurd ((b_tst (by omega)).mpr q.2) (by assumption)))
                  · have b8_ : ¬ (¬ ((m >>> ((nI (l % 12)) &&& 31)) &&& (nI 1)).toInt = 1) := bF rfl (nI_toInt (by decide)) b8
                    refine Sem.seg [(.iconst 1, 0, 0)] ⟨⟨d98_53, trivial⟩, trivial⟩ (lv' := [(0, aR 23 0), (1, aN i), (2, aI m), (3, aI x), (4, aI y), (5, aN l)]) (st' := [aN 1]) (w' := wd N L) (P := []) rfl (trivial) (pc' := 54) rfl ?_
                    refine Sem.goto (tgt := 58) d98_54 (by decide) ?_
                    refine Sem.seg [(.istore 6, 0, 0), (.iload 6, 0, 0)] ⟨⟨d98_58, trivial⟩, ⟨d98_60, trivial⟩, trivial⟩ (lv' := [(6, aN 1), (0, aR 23 0), (1, aN i), (2, aI m), (3, aI x), (4, aI y), (5, aN l)]) (st' := [aN 1]) (w' := wd N L) (P := []) rfl (trivial) (pc' := 62) rfl ?_
                    refine Sem.ifN (tgt := 78) d98_62 (by decide) (by decide) (fun b10 => ?_) (fun b10 => ?_)
                    · exact absurd (show 1 = 0 from b10) (by decide)
                    refine Sem.seg [(.iload 4, 0, 0), (.iconst 1, 0, 0), (.iload 5, 0, 0), (.bipush 12, 0, 0), (.idiv, 0, 0), (.ishl, 0, 0), (.ior, 0, 0)] ⟨⟨d98_65, trivial⟩, ⟨d98_67, trivial⟩, ⟨d98_68, trivial⟩, ⟨d98_70, trivial⟩, ⟨d98_72, trivial⟩, ⟨d98_73, trivial⟩, ⟨d98_74, trivial⟩, trivial⟩ (lv' := [(6, aN 1), (0, aR 23 0), (1, aN i), (2, aI m), (3, aI x), (4, aI y), (5, aN l)]) (st' := [aI (y ||| ((nI 1) <<< ((nI (l / 12)) &&& 31)))]) (w' := wd N L) (P := [l < 2 ^ 31, 0 < 12, 12 < 2 ^ 31]) rfl (⟨(show l < 2 ^ 31 by omega), (show 0 < 12 by omega), (show 12 < 2 ^ 31 by omega)⟩) (pc' := 75) rfl ?_
                    refine Sem.goto (tgt := 80) d98_75 (by decide) ?_
                    refine Sem.seg [(.istore 4, 0, 0), (.iinc 5 1, 0, 0)] ⟨⟨d98_80, trivial⟩, ⟨d98_82, trivial⟩, trivial⟩ (lv' := [(5, aN (l + 1)), (4, aI (y ||| ((nI 1) <<< ((nI (l / 12)) &&& 31)))), (6, aN 1), (0, aR 23 0), (1, aN i), (2, aI m), (3, aI x)]) (st' := []) (w' := wd N L) (P := []) rfl (trivial) (pc' := 85) rfl ?_
                    refine Sem.goto (tgt := 22) d98_85 (by decide) ?_
                    refine Sem.pick [3, 4, 5, 6, 1, 0] (lv' := [(0, aR 23 0), (1, aN i), (2, aI m), (3, aI x), (4, aI (y ||| ((nI 1) <<< ((nI (l / 12)) &&& 31)))), (5, aN (l + 1))]) rfl ?_
                    exact ihb _ (by omega) (l + 1) (y ||| ((nI 1) <<< ((nI (l / 12)) &&& 31))) rfl (by omega) (Nxt_go (by omega) hn (by omega) ((b_tst (by omega)).mp (Classical.not_not.mp (by assumption))))
          refine Sem.pick [1, 0, 2, 3, 4, 5] (lv' := [(4, aN 0), (5, aN 0), (0, aR 23 0), (1, aN i), (2, aI m), (3, aI x)]) rfl ?_
          refine Sem.locNI (show nI 0 = nI 0 from rfl) ?_
          refine Sem.pick [2, 3, 4, 5, 0, 1] (lv' := [(0, aR 23 0), (1, aN i), (2, aI m), (3, aI x), (4, aI (nI 0)), (5, aN 0)]) rfl ?_
          exact lpb _ 0 (nI 0) rfl (by omega) (Nxt_0)
  refine Sem.pick [2, 3, 1, 0] (lv' := [(0, aR 23 0), (1, aN i), (2, aI ((nI 1) <<< ((nI i) &&& 31))), (3, aI (Int32.ofInt (-1)))]) rfl ?_
  exact lpa _ 0 ((nI 1) <<< ((nI i) &&& 31)) (Int32.ofInt (-1)) rfl (by omega) (by decide) (Msk_0 hi) (Or.inl rfl)

theorem m97 {sc : XT} (N : TN) (L : TL) (h9 : ∀ c, c < 144 → N 34 0 c ≤ 9) : Sem sc 97 0 [(0, aR 23 0)] [] (wd N L) 0 0 (QP (some (aN (bo (SN (eg (mN N)))))) N L) := by
  refine Sem.seg [(.iconst 1, 0, 0), (.istore_n 1, 0, 0), (.iconst 0, 0, 0), (.istore_n 2, 0, 0)] ⟨⟨d97_0, trivial⟩, ⟨d97_1, trivial⟩, ⟨d97_2, trivial⟩, ⟨d97_3, trivial⟩, trivial⟩ (lv' := [(2, aN 0), (1, aN 1), (0, aR 23 0)]) (st' := []) (w' := wd N L) (P := []) rfl (trivial) (pc' := 4) rfl ?_
  have lp : ∀ (d : Nat) (n b : Nat), 12 - n = d → (n ≤ 12) → (b = bo (∀ i, i < n → ¬ wk (eg (mN N)) 5 i)) → Sem sc 97 4 [(0, aR 23 0), (1, aN b), (2, aN n)] [] (wd N L) 0 0 (QP (some (aN (bo (SN (eg (mN N)))))) N L) := by
    intro d
    induction d using Nat.strongRecOn with
    | ind d ih =>
      intro n b hd hn hb
      refine Sem.seg [(.iload_n 2, 0, 0), (.bipush 12, 0, 0)] ⟨⟨d97_4, trivial⟩, ⟨d97_5, trivial⟩, trivial⟩ (lv' := [(0, aR 23 0), (1, aN b), (2, aN n)]) (st' := [aN 12, aN n]) (w' := wd N L) (P := []) rfl (trivial) (pc' := 7) rfl ?_
      refine Sem.icmpN (tgt := 35) d97_7 (by decide) (show n < 2 ^ 31 by omega) (by decide) (fun b1 => ?_) (fun b1 => ?_)
      · have b1_ : 12 ≤ n := b1
        obtain rfl : n = 12 := by omega
        refine Sem.seg [(.iload_n 1, 0, 0)] ⟨⟨d97_35, trivial⟩, trivial⟩ (lv' := [(0, aR 23 0), (1, aN b), (2, aN 12)]) (st' := [aN b]) (w' := wd N L) (P := []) rfl (trivial) (pc' := 36) rfl ?_
        exact Sem.iret rfl d97_36 (Or.inr ⟨rfl, by rw [hb]; exact bo_01 _⟩) (by decide) (by decide) hzW ⟨congrArg (fun z => Sum.inl (some (aN z))) (show b = bo (SN (eg (mN N))) by exact hb), rfl⟩
      · have b1_ : ¬ (12 ≤ n) := b1
        have hb1 := bo_le (∀ i, i < n → ¬ wk (eg (mN N)) 5 i)
        refine Sem.seg [(.iload_n 1, 0, 0)] ⟨⟨d97_10, trivial⟩, trivial⟩ (lv' := [(0, aR 23 0), (1, aN b), (2, aN n)]) (st' := [aN b]) (w' := wd N L) (P := []) rfl (trivial) (pc' := 11) rfl ?_
        refine Sem.ifN (tgt := 27) d97_11 (by decide) (show b < 2 ^ 31 by omega) (fun b2 => ?_) (fun b2 => ?_)
        · have b2_ : b = 0 := b2
          refine Sem.seg [(.iconst 0, 0, 0), (.istore_n 1, 0, 0), (.iinc 2 1, 0, 0)] ⟨⟨d97_27, trivial⟩, ⟨d97_28, trivial⟩, ⟨d97_29, trivial⟩, trivial⟩ (lv' := [(2, aN (n + 1)), (1, aN 0), (0, aR 23 0)]) (st' := []) (w' := wd N L) (P := []) rfl (trivial) (pc' := 32) rfl ?_
          refine Sem.goto (tgt := 4) d97_32 (by decide) ?_
          refine Sem.pick [2, 1, 0] (lv' := [(0, aR 23 0), (1, aN 0), (2, aN (n + 1))]) rfl ?_
          exact ih _ (by omega) (n + 1) 0 rfl (by omega) ((bo_f (fun q => by first | exact absurd ((LVv_4 hv).mpr (q n (by omega))) (by omega) | (have := bo_t (P := ∀ i, i < n → ¬ wk (eg (mN N)) 5 i) (fun i h => q i (by omega)); omega))).symm)
        · have b2_ : ¬ (b = 0) := b2
          refine Sem.seg [(.aload_n 0, 0, 0), (.iload_n 2, 0, 0)] ⟨⟨d97_14, trivial⟩, ⟨d97_15, trivial⟩, trivial⟩ (lv' := [(0, aR 23 0), (1, aN b), (2, aN n)]) (st' := [aN n, aR 23 0]) (w' := wd N L) (P := []) rfl (trivial) (pc' := 16) rfl ?_
          refine Sem.cVmN (t := 23) (i := 0) (as := [aN n]) (rst := []) (c' := 0) (s' := 0) d97_16 mk98 rfl co98 lk5_105 im98 se98 rfl (vN (t := 23) (i := 0) (by decide)) (show 2 ≤ mL 98 by decide) rfl (show 0 ≤ 8 by decide) (by decide) (by decide) rfl rfl (by decide) (by decide) (m98 N L n (by omega) h9) ?_
          rintro z N1 L1 ⟨rfl, rfl, hv⟩
          have hz99 : z ≤ 99 := by rcases hv with q | q <;> omega
          refine Sem.seg [(.iconst 4, 0, 0)] ⟨⟨d97_19, trivial⟩, trivial⟩ (lv' := [(0, aR 23 0), (1, aN b), (2, aN n)]) (st' := [aN 4, aN z]) (w' := wd N L) (P := []) rfl (trivial) (pc' := 20) rfl ?_
          refine Sem.icmpN (tgt := 27) d97_20 (by decide) (show z < 2 ^ 31 by omega) (by decide) (fun b3 => ?_) (fun b3 => ?_)
          · have b3_ : 4 < z := b3
            refine Sem.seg [(.iconst 0, 0, 0), (.istore_n 1, 0, 0), (.iinc 2 1, 0, 0)] ⟨⟨d97_27, trivial⟩, ⟨d97_28, trivial⟩, ⟨d97_29, trivial⟩, trivial⟩ (lv' := [(2, aN (n + 1)), (1, aN 0), (0, aR 23 0)]) (st' := []) (w' := wd N L) (P := []) rfl (trivial) (pc' := 32) rfl ?_
            refine Sem.goto (tgt := 4) d97_32 (by decide) ?_
            refine Sem.pick [2, 1, 0] (lv' := [(0, aR 23 0), (1, aN 0), (2, aN (n + 1))]) rfl ?_
            exact ih _ (by omega) (n + 1) 0 rfl (by omega) ((bo_f (fun q => by first | exact absurd ((LVv_4 hv).mpr (q n (by omega))) (by omega) | (have := bo_t (P := ∀ i, i < n → ¬ wk (eg (mN N)) 5 i) (fun i h => q i (by omega)); omega))).symm)
          · have b3_ : ¬ (4 < z) := b3
            refine Sem.seg [(.iconst 1, 0, 0)] ⟨⟨d97_23, trivial⟩, trivial⟩ (lv' := [(0, aR 23 0), (1, aN b), (2, aN n)]) (st' := [aN 1]) (w' := wd N L) (P := []) rfl (trivial) (pc' := 24) rfl ?_
            refine Sem.goto (tgt := 28) d97_24 (by decide) ?_
            refine Sem.seg [(.istore_n 1, 0, 0), (.iinc 2 1, 0, 0)] ⟨⟨d97_28, trivial⟩, ⟨d97_29, trivial⟩, trivial⟩ (lv' := [(2, aN (n + 1)), (1, aN 1), (0, aR 23 0)]) (st' := []) (w' := wd N L) (P := []) rfl (trivial) (pc' := 32) rfl ?_
            refine Sem.goto (tgt := 4) d97_32 (by decide) ?_
            refine Sem.pick [2, 1, 0] (lv' := [(0, aR 23 0), (1, aN 1), (2, aN (n + 1))]) rfl ?_
            exact ih _ (by omega) (n + 1) 1 rfl (by omega) ((bo_t (all_s (Classical.byContradiction fun q => (by assumption : ¬ b = 0) (hb.trans (bo_f q))) ((LVv_4 hv).mp (by omega)))).symm)
  refine Sem.pick [2, 1, 0] (lv' := [(0, aR 23 0), (1, aN 1), (2, aN 0)]) rfl ?_
  exact lp _ 0 1 rfl (by omega) ((bo_t (fun i h => absurd h (by omega))).symm)

