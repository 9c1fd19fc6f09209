-- ===== the class: the bill =====
theorem m36 {sc : XT} (N : TN) (L : TL) (x : Int32) (h9 : ∀ c, c < 144 → N 3 0 c ≤ 9) : Sem sc 36 0 [(0, aR 2 0), (1, aI x)] [] (wd N L) 0 0 (QZ fun z N' L' => L = L' ∧ (∀ t a b, t ≠ 7 → N' t a b = N t a b) ∧ RI (edm N x.toInt) 5 0 0 (N' 7 0) z) := by
  refine Sem.seg [(.iconst 0, 0, 0), (.istore_n 2, 0, 0), (.aload_n 0, 0, 0), (.getfield 24, 0, 4), (.iconst 0, 0, 0)] ⟨⟨d36_0, trivial⟩, ⟨d36_1, trivial⟩, ⟨d36_2, trivial⟩, ⟨d36_3, gf0_24⟩, ⟨d36_6, trivial⟩, trivial⟩ (lv' := [(2, aN 0), (0, aR 2 0), (1, aI x)]) (st' := [aN 0, aR 7 0]) (w' := wd N L) (P := [vld NN 2 0]) rfl (vN (t := 2) (i := 0) (by decide)) (pc' := 7) rfl ?_
  refine Sem.cSp0 (as := [aR 7 0, aN 0]) (rst := []) (c' := 0) (s' := 0) d36_7 mk37 rfl co37 lk0_44 ss37 (show 2 ≤ mL 37 by decide) rfl (show 0 ≤ 8 by decide) (by decide) (by decide) rfl rfl (by decide) (by decide) (m37 N L) ?_
  refine Sem.seg [(.iconst 0, 0, 0), (.istore_n 3, 0, 0)] ⟨⟨d36_10, trivial⟩, ⟨d36_11, trivial⟩, trivial⟩ (lv' := [(3, aN 0), (2, aN 0), (0, aR 2 0), (1, aI x)]) (st' := []) (w' := wd (upV N 7 0 12 (fun _ => 0)) L) (P := []) rfl (trivial) (pc' := 12) rfl ?_
  have lpa : ∀ (d : Nat) (r h : Nat) (N1 : TN), 5 - r = d → (r ≤ 5) → ((∀ t a b, t ≠ 7 → N1 t a b = N t a b)) → (RI (edm N x.toInt) r 0 0 (N1 7 0) h) → Sem sc 36 12 [(0, aR 2 0), (1, aI x), (2, aN h), (3, aN r)] [] (wd N1 L) 0 0 (QZ fun z N' L' => L = L' ∧ (∀ t a b, t ≠ 7 → N' t a b = N t a b) ∧ RI (edm N x.toInt) 5 0 0 (N' 7 0) z) := by
    intro da
    induction da using Nat.strongRecOn with
    | ind da iha =>
      intro r h N1 hda hr fa Ra
      refine Sem.seg [(.iload_n 3, 0, 0), (.iconst 4, 0, 0)] ⟨⟨d36_12, trivial⟩, ⟨d36_13, trivial⟩, trivial⟩ (lv' := [(0, aR 2 0), (1, aI x), (2, aN h), (3, aN r)]) (st' := [aN 4, aN r]) (w' := wd N1 L) (P := []) rfl (trivial) (pc' := 14) rfl ?_
      refine Sem.icmpN (tgt := 118) d36_14 (by decide) (show r < 2 ^ 31 by first | omega | (split <;> omega)) (by decide) (fun b1 => ?_) (fun b1 => ?_)
      · have b1_ : 4 < r := b1
        obtain rfl : r = 5 := by omega
        refine Sem.seg [(.iload_n 2, 0, 0)] ⟨⟨d36_118, trivial⟩, trivial⟩ (lv' := [(0, aR 2 0), (1, aI x), (2, aN h), (3, aN 5)]) (st' := [aN h]) (w' := wd N1 L) (P := []) rfl (trivial) (pc' := 119) rfl ?_
        exact Sem.iret rfl d36_119 (Or.inl rfl) (by decide) (by decide) hzW ⟨_, _, _, rfl, rfl, by exact ⟨rfl, fa, Ra⟩⟩
      · have b1_ : ¬ (4 < r) := b1
        refine Sem.seg [(.iconst 0, 0, 0), (.istore 4, 0, 0)] ⟨⟨d36_17, trivial⟩, ⟨d36_18, trivial⟩, trivial⟩ (lv' := [(4, aN 0), (0, aR 2 0), (1, aI x), (2, aN h), (3, aN r)]) (st' := []) (w' := wd N1 L) (P := []) rfl (trivial) (pc' := 20) rfl ?_
        have lpb : ∀ (d : Nat) (p h : Nat) (N1 : TN), 12 - p = d → (p ≤ 12) → ((∀ t a b, t ≠ 7 → N1 t a b = N t a b)) → (RI (edm N x.toInt) r p 0 (N1 7 0) h) → Sem sc 36 20 [(0, aR 2 0), (1, aI x), (2, aN h), (3, aN r), (4, aN p)] [] (wd N1 L) 0 0 (QZ fun z N' L' => L = L' ∧ (∀ t a b, t ≠ 7 → N' t a b = N t a b) ∧ RI (edm N x.toInt) 5 0 0 (N' 7 0) z) := by
          intro db
          induction db using Nat.strongRecOn with
          | ind db ihb =>
            intro p h N1 hdb hp fb Rb
            refine Sem.seg [(.iload 4, 0, 0), (.bipush 12, 0, 0)] ⟨⟨d36_20, trivial⟩, ⟨d36_22, trivial⟩, trivial⟩ (lv' := [(0, aR 2 0), (1, aI x), (2, aN h), (3, aN r), (4, aN p)]) (st' := [aN 12, aN p]) (w' := wd N1 L) (P := []) rfl (trivial) (pc' := 24) rfl ?_
            refine Sem.icmpN (tgt := 112) d36_24 (by decide) (show p < 2 ^ 31 by first | omega | (split <;> omega)) (by decide) (fun b2 => ?_) (fun b2 => ?_)
            · have b2_ : 12 ≤ p := b2
              obtain rfl : p = 12 := by omega
              refine Sem.seg [(.iinc 3 1, 0, 0)] ⟨⟨d36_112, trivial⟩, trivial⟩ (lv' := [(3, aN (r + 1)), (0, aR 2 0), (1, aI x), (2, aN h), (4, aN 12)]) (st' := []) (w' := wd N1 L) (P := []) rfl (trivial) (pc' := 115) rfl ?_
              refine Sem.goto (tgt := 12) d36_115 (by decide) ?_
              refine Sem.pick [1, 2, 3, 0] (lv' := [(0, aR 2 0), (1, aI x), (2, aN h), (3, aN (r + 1))]) rfl ?_
              exact iha _ (by omega) (r + 1) h N1 rfl (by omega) (fb) (RI_round Rb)
            · have b2_ : ¬ (12 ≤ p) := b2
              refine Sem.seg [(.iconst 0, 0, 0), (.istore 5, 0, 0)] ⟨⟨d36_27, trivial⟩, ⟨d36_28, trivial⟩, trivial⟩ (lv' := [(5, aN 0), (0, aR 2 0), (1, aI x), (2, aN h), (3, aN r), (4, aN p)]) (st' := []) (w' := wd N1 L) (P := []) rfl (trivial) (pc' := 30) rfl ?_
              have lpc : ∀ (d : Nat) (c h : Nat) (N1 : TN), 12 - c = d → (c ≤ 12) → ((∀ t a b, t ≠ 7 → N1 t a b = N t a b)) → (RI (edm N x.toInt) r p c (N1 7 0) h) → Sem sc 36 30 [(0, aR 2 0), (1, aI x), (2, aN h), (3, aN r), (4, aN p), (5, aN c)] [] (wd N1 L) 0 0 (QZ fun z N' L' => L = L' ∧ (∀ t a b, t ≠ 7 → N' t a b = N t a b) ∧ RI (edm N x.toInt) 5 0 0 (N' 7 0) z) := by
                intro dc
                induction dc using Nat.strongRecOn with
                | ind dc ihc =>
                  intro c h N1 hdc hc fc Rc
                  refine Sem.seg [(.iload 5, 0, 0), (.bipush 12, 0, 0)] ⟨⟨d36_30, trivial⟩, ⟨d36_32, trivial⟩, trivial⟩ (lv' := [(0, aR 2 0), (1, aI x), (2, aN h), (3, aN r), (4, aN p), (5, aN c)]) (st' := [aN 12, aN c]) (w' := wd N1 L) (P := []) rfl (trivial) (pc' := 34) rfl ?_
                  refine Sem.icmpN (tgt := 106) d36_34 (by decide) (show c < 2 ^ 31 by first | omega | (split <;> omega)) (by decide) (fun b3 => ?_) (fun b3 => ?_)
                  · have b3_ : 12 ≤ c := b3
                    obtain rfl : c = 12 := by omega
                    refine Sem.seg [(.iinc 4 1, 0, 0)] ⟨⟨d36_106, trivial⟩, trivial⟩ (lv' := [(4, aN (p + 1)), (0, aR 2 0), (1, aI x), (2, aN h), (3, aN r), (5, aN 12)]) (st' := []) (w' := wd N1 L) (P := []) rfl (trivial) (pc' := 109) rfl ?_
                    refine Sem.goto (tgt := 20) d36_109 (by decide) ?_
                    refine Sem.pick [1, 2, 3, 4, 0] (lv' := [(0, aR 2 0), (1, aI x), (2, aN h), (3, aN r), (4, aN (p + 1))]) rfl ?_
                    exact ihb _ (by omega) (p + 1) h N1 rfl (by omega) (fc) (RI_row Rc)
                  · have b3_ : ¬ (12 ≤ c) := b3
                    have e3 : N1 3 0 (p * 12 + c) = N 3 0 (p * 12 + c) := fc 3 0 _ (by decide)
                    have e9 := h9 (p * 12 + c) (by omega)
                    have t1 := Rc.1 c (by omega)
                    have t2 := Rc.1 p (by omega)
                    refine Sem.seg [(.iload 4, 0, 0), (.iload 5, 0, 0)] ⟨⟨d36_37, trivial⟩, ⟨d36_39, trivial⟩, trivial⟩ (lv' := [(0, aR 2 0), (1, aI x), (2, aN h), (3, aN r), (4, aN p), (5, aN c)]) (st' := [aN c, aN p]) (w' := wd N1 L) (P := []) rfl (trivial) (pc' := 41) rfl ?_
                    refine Sem.cSp1 (as := [aN p, aN c]) (rst := []) (c' := 0) (s' := 0) d36_41 mk11 rfl co11 lk0_50 ss11 (show 2 ≤ mL 11 by decide) rfl (show 0 ≤ 8 by decide) (by decide) (by decide) rfl rfl (by decide) (by decide) (m11 N1 L p c) ?_
                    refine Sem.seg [(.istore 6, 0, 0), (.iload 6, 0, 0), (.iload_n 1, 0, 0)] ⟨⟨d36_44, trivial⟩, ⟨d36_46, trivial⟩, ⟨d36_48, trivial⟩, trivial⟩ (lv' := [(6, aN ((p * 12) + c)), (0, aR 2 0), (1, aI x), (2, aN h), (3, aN r), (4, aN p), (5, aN c)]) (st' := [aI x, aN ((p * 12) + c)]) (w' := wd N1 L) (P := []) rfl (trivial) (pc' := 49) rfl ?_
                    refine Sem.icmp (tgt := 62) d36_49 (by decide) rfl rfl (fun b4 => ?_) (fun b4 => ?_)
                    · have b4_ : (((p * 12) + c : Nat) : Int) = x.toInt := bT (nI_toInt (show (p * 12) + c < 2 ^ 31 by first | omega | (split <;> omega))) rfl b4
                      have hE : edm N x.toInt p c := by unfold edm; first | exact Or.inl (by omega) | exact Or.inr (by omega)
                      have hh : h < 2 ^ 31 := by
                        rcases Rc.2.2.2.2.2 with q | ⟨i, hi, q⟩
                        · omega
                        · have := Rc.1 i hi; omega
                      refine Sem.seg [(.aload_n 0, 0, 0), (.getfield 24, 0, 4), (.iload 5, 0, 0), (.aload_n 0, 0, 0), (.getfield 24, 0, 4), (.iload 5, 0, 0), (.iaload, 0, 0), (.aload_n 0, 0, 0), (.getfield 24, 0, 4), (.iload 4, 0, 0), (.iaload, 0, 0), (.iconst 1, 0, 0), (.iadd, 0, 0)] ⟨⟨d36_62, trivial⟩, ⟨d36_63, gf0_24⟩, ⟨d36_66, trivial⟩, ⟨d36_68, trivial⟩, ⟨d36_69, gf0_24⟩, ⟨d36_72, trivial⟩, ⟨d36_74, trivial⟩, ⟨d36_75, trivial⟩, ⟨d36_76, gf0_24⟩, ⟨d36_79, trivial⟩, ⟨d36_81, trivial⟩, ⟨d36_82, trivial⟩, ⟨d36_83, trivial⟩, trivial⟩ (lv' := [(6, aN ((p * 12) + c)), (0, aR 2 0), (1, aI x), (2, aN h), (3, aN r), (4, aN p), (5, aN c)]) (st' := [aN ((N1 7 0 p) + 1), aN (N1 7 0 c), aN c, aR 7 0]) (w' := wd N1 L) (P := [vld NN 2 0, vld NN 2 0, vld NN 7 0, c < 12, vld NN 2 0, vld NN 7 0, p < 12]) rfl (⟨vN (t := 2) (i := 0) (by decide), vN (t := 2) (i := 0) (by decide), vN (t := 7) (i := 0) (by decide), (show c < 12 by first | omega | (split <;> omega)), vN (t := 2) (i := 0) (by decide), vN (t := 7) (i := 0) (by decide), (show p < 12 by first | omega | (split <;> omega))⟩) (pc' := 84) rfl ?_
                      refine Sem.maxN (show N1 7 0 c < 2 ^ 31 by first | omega | (split <;> omega)) (show (N1 7 0 p) + 1 < 2 ^ 31 by first | omega | (split <;> omega)) d36_84 lk0_54 w_static_LibMathmaxname inMath w_code_LibMathmaxname (by decide) (show 2 + 13 ≤ lo 36 by decide) (by decide) (by decide) ?_
                      refine Sem.seg [(.iastore, 0, 0), (.iload_n 2, 0, 0), (.aload_n 0, 0, 0), (.getfield 24, 0, 4), (.iload 5, 0, 0), (.iaload, 0, 0)] ⟨⟨d36_87, trivial⟩, ⟨d36_88, trivial⟩, ⟨d36_89, trivial⟩, ⟨d36_90, gf0_24⟩, ⟨d36_93, trivial⟩, ⟨d36_95, trivial⟩, trivial⟩ (lv' := [(6, aN ((p * 12) + c)), (0, aR 2 0), (1, aI x), (2, aN h), (3, aN r), (4, aN p), (5, aN c)]) (st' := [aN ((upN N1 7 0 c (if N1 7 0 c < (N1 7 0 p) + 1 then (N1 7 0 p) + 1 else N1 7 0 c)) 7 0 c), aN h]) (w' := wd (upN N1 7 0 c (if N1 7 0 c < (N1 7 0 p) + 1 then (N1 7 0 p) + 1 else N1 7 0 c)) L) (P := [vld NN 7 0, c < 12, vld NN 2 0, vld NN 7 0, c < 12]) rfl (⟨vN (t := 7) (i := 0) (by decide), (show c < 12 by first | omega | (split <;> omega)), vN (t := 2) (i := 0) (by decide), vN (t := 7) (i := 0) (by decide), (show c < 12 by first | omega | (split <;> omega))⟩) (pc' := 96) rfl ?_
                      refine Sem.topNN (show (upN N1 7 0 c (if N1 7 0 c < (N1 7 0 p) + 1 then (N1 7 0 p) + 1 else N1 7 0 c)) 7 0 c = if N1 7 0 c < (N1 7 0 p) + 1 then (N1 7 0 p) + 1 else N1 7 0 c by simp [upN, upL]) ?_
                      refine Sem.maxN (show h < 2 ^ 31 by first | omega | (split <;> omega)) (show (if N1 7 0 c < (N1 7 0 p) + 1 then (N1 7 0 p) + 1 else N1 7 0 c) < 2 ^ 31 by first | omega | (split <;> omega)) d36_96 lk0_54 w_static_LibMathmaxname inMath w_code_LibMathmaxname (by decide) (show 0 + 13 ≤ lo 36 by decide) (by decide) (by decide) ?_
                      refine Sem.seg [(.istore_n 2, 0, 0)] ⟨⟨d36_99, trivial⟩, trivial⟩ (lv' := [(2, aN (if h < if N1 7 0 c < (N1 7 0 p) + 1 then (N1 7 0 p) + 1 else N1 7 0 c then if N1 7 0 c < (N1 7 0 p) + 1 then (N1 7 0 p) + 1 else N1 7 0 c else h)), (6, aN ((p * 12) + c)), (0, aR 2 0), (1, aI x), (3, aN r), (4, aN p), (5, aN c)]) (st' := []) (w' := wd (upN N1 7 0 c (if N1 7 0 c < (N1 7 0 p) + 1 then (N1 7 0 p) + 1 else N1 7 0 c)) L) (P := []) rfl (trivial) (pc' := 100) rfl ?_
                      
                      refine Sem.seg [(.iinc 5 1, 0, 0)] ⟨⟨d36_100, trivial⟩, trivial⟩ (lv' := [(5, aN (c + 1)), (2, aN (if h < if N1 7 0 c < (N1 7 0 p) + 1 then (N1 7 0 p) + 1 else N1 7 0 c then if N1 7 0 c < (N1 7 0 p) + 1 then (N1 7 0 p) + 1 else N1 7 0 c else h)), (6, aN ((p * 12) + c)), (0, aR 2 0), (1, aI x), (3, aN r), (4, aN p)]) (st' := []) (w' := wd (upN N1 7 0 c (if N1 7 0 c < (N1 7 0 p) + 1 then (N1 7 0 p) + 1 else N1 7 0 c)) L) (P := []) rfl (trivial) (pc' := 103) rfl ?_
                      refine Sem.goto (tgt := 30) d36_103 (by decide) ?_
                      refine Sem.pick [3, 4, 1, 5, 6, 0] (lv' := [(0, aR 2 0), (1, aI x), (2, aN (if h < if N1 7 0 c < (N1 7 0 p) + 1 then (N1 7 0 p) + 1 else N1 7 0 c then if N1 7 0 c < (N1 7 0 p) + 1 then (N1 7 0 p) + 1 else N1 7 0 c else h)), (3, aN r), (4, aN p), (5, aN (c + 1))]) rfl ?_
                      exact ihc _ (by omega) (c + 1) (if h < if N1 7 0 c < (N1 7 0 p) + 1 then (N1 7 0 p) + 1 else N1 7 0 c then if N1 7 0 c < (N1 7 0 p) + 1 then (N1 7 0 p) + 1 else N1 7 0 c else h) (upN N1 7 0 c (if N1 7 0 c < (N1 7 0 p) + 1 then (N1 7 0 p) + 1 else N1 7 0 c)) rfl (by omega) (fun t a b q => (upN_ne (by omega)).trans (fc t a b q)) (by have := RI_up (T' := (upN N1 7 0 c (if N1 7 0 c < (N1 7 0 p) + 1 then (N1 7 0 p) + 1 else N1 7 0 c)) 7 0) (by omega) (by omega) Rc hE upN_at (fun i q => upN_ne (by omega)); rw [upN_at] at this; exact this)
                    · have b4_ : ¬ ((((p * 12) + c : Nat) : Int) = x.toInt) := bF (nI_toInt (show (p * 12) + c < 2 ^ 31 by first | omega | (split <;> omega))) rfl b4
                      refine Sem.seg [(.aload_n 0, 0, 0), (.getfield 9, 0, 0), (.iload 6, 0, 0), (.iaload, 0, 0)] ⟨⟨d36_52, trivial⟩, ⟨d36_53, gf0_9⟩, ⟨d36_56, trivial⟩, ⟨d36_58, trivial⟩, trivial⟩ (lv' := [(6, aN ((p * 12) + c)), (0, aR 2 0), (1, aI x), (2, aN h), (3, aN r), (4, aN p), (5, aN c)]) (st' := [aN (N1 3 0 ((p * 12) + c))]) (w' := wd N1 L) (P := [vld NN 2 0, vld NN 3 0, (p * 12) + c < 144]) rfl (⟨vN (t := 2) (i := 0) (by decide), vN (t := 3) (i := 0) (by decide), (show (p * 12) + c < 144 by first | omega | (split <;> omega))⟩) (pc' := 59) rfl ?_
                      refine Sem.ifN (tgt := 100) d36_59 (by decide) (show N1 3 0 ((p * 12) + c) < 2 ^ 31 by first | omega | (split <;> omega)) (fun b5 => ?_) (fun b5 => ?_)
                      · have b5_ : N1 3 0 ((p * 12) + c) ≤ 0 := b5
                        have hE : ¬ edm N x.toInt p c := by unfold edm; rintro (q | q) <;> omega
                        refine Sem.seg [(.iinc 5 1, 0, 0)] ⟨⟨d36_100, trivial⟩, trivial⟩ (lv' := [(5, aN (c + 1)), (6, aN ((p * 12) + c)), (0, aR 2 0), (1, aI x), (2, aN h), (3, aN r), (4, aN p)]) (st' := []) (w' := wd N1 L) (P := []) rfl (trivial) (pc' := 103) rfl ?_
                        refine Sem.goto (tgt := 30) d36_103 (by decide) ?_
                        refine Sem.pick [2, 3, 4, 5, 6, 0] (lv' := [(0, aR 2 0), (1, aI x), (2, aN h), (3, aN r), (4, aN p), (5, aN (c + 1))]) rfl ?_
                        exact ihc _ (by omega) (c + 1) h N1 rfl (by omega) (fc) (RI_skip Rc hE)
                      · have b5_ : ¬ (N1 3 0 ((p * 12) + c) ≤ 0) := b5
                        have hE : edm N x.toInt p c := by unfold edm; first | exact Or.inl (by omega) | exact Or.inr (by omega)
                        have hh : h < 2 ^ 31 := by
                          rcases Rc.2.2.2.2.2 with q | ⟨i, hi, q⟩
                          · omega
                          · have := Rc.1 i hi; omega
                        refine Sem.seg [(.aload_n 0, 0, 0), (.getfield 24, 0, 4), (.iload 5, 0, 0), (.aload_n 0, 0, 0), (.getfield 24, 0, 4), (.iload 5, 0, 0), (.iaload, 0, 0), (.aload_n 0, 0, 0), (.getfield 24, 0, 4), (.iload 4, 0, 0), (.iaload, 0, 0), (.iconst 1, 0, 0), (.iadd, 0, 0)] ⟨⟨d36_62, trivial⟩, ⟨d36_63, gf0_24⟩, ⟨d36_66, trivial⟩, ⟨d36_68, trivial⟩, ⟨d36_69, gf0_24⟩, ⟨d36_72, trivial⟩, ⟨d36_74, trivial⟩, ⟨d36_75, trivial⟩, ⟨d36_76, gf0_24⟩, ⟨d36_79, trivial⟩, ⟨d36_81, trivial⟩, ⟨d36_82, trivial⟩, ⟨d36_83, trivial⟩, trivial⟩ (lv' := [(6, aN ((p * 12) + c)), (0, aR 2 0), (1, aI x), (2, aN h), (3, aN r), (4, aN p), (5, aN c)]) (st' := [aN ((N1 7 0 p) + 1), aN (N1 7 0 c), aN c, aR 7 0]) (w' := wd N1 L) (P := [vld NN 2 0, vld NN 2 0, vld NN 7 0, c < 12, vld NN 2 0, vld NN 7 0, p < 12]) rfl (⟨vN (t := 2) (i := 0) (by decide), vN (t := 2) (i := 0) (by decide), vN (t := 7) (i := 0) (by decide), (show c < 12 by first | omega | (split <;> omega)), vN (t := 2) (i := 0) (by decide), vN (t := 7) (i := 0) (by decide), (show p < 12 by first | omega | (split <;> omega))⟩) (pc' := 84) rfl ?_
                        refine Sem.maxN (show N1 7 0 c < 2 ^ 31 by first | omega | (split <;> omega)) (show (N1 7 0 p) + 1 < 2 ^ 31 by first | omega | (split <;> omega)) d36_84 lk0_54 w_static_LibMathmaxname inMath w_code_LibMathmaxname (by decide) (show 2 + 13 ≤ lo 36 by decide) (by decide) (by decide) ?_
                        refine Sem.seg [(.iastore, 0, 0), (.iload_n 2, 0, 0), (.aload_n 0, 0, 0), (.getfield 24, 0, 4), (.iload 5, 0, 0), (.iaload, 0, 0)] ⟨⟨d36_87, trivial⟩, ⟨d36_88, trivial⟩, ⟨d36_89, trivial⟩, ⟨d36_90, gf0_24⟩, ⟨d36_93, trivial⟩, ⟨d36_95, trivial⟩, trivial⟩ (lv' := [(6, aN ((p * 12) + c)), (0, aR 2 0), (1, aI x), (2, aN h), (3, aN r), (4, aN p), (5, aN c)]) (st' := [aN ((upN N1 7 0 c (if N1 7 0 c < (N1 7 0 p) + 1 then (N1 7 0 p) + 1 else N1 7 0 c)) 7 0 c), aN h]) (w' := wd (upN N1 7 0 c (if N1 7 0 c < (N1 7 0 p) + 1 then (N1 7 0 p) + 1 else N1 7 0 c)) L) (P := [vld NN 7 0, c < 12, vld NN 2 0, vld NN 7 0, c < 12]) rfl (⟨vN (t := 7) (i := 0) (by decide), (show c < 12 by first | omega | (split <;> omega)), vN (t := 2) (i := 0) (by decide), vN (t := 7) (i := 0) (by decide), (show c < 12 by first | omega | (split <;> omega))⟩) (pc' := 96) rfl ?_
                        refine Sem.topNN (show (upN N1 7 0 c (if N1 7 0 c < (N1 7 0 p) + 1 then (N1 7 0 p) + 1 else N1 7 0 c)) 7 0 c = if N1 7 0 c < (N1 7 0 p) + 1 then (N1 7 0 p) + 1 else N1 7 0 c by simp [upN, upL]) ?_
                        refine Sem.maxN (show h < 2 ^ 31 by first | omega | (split <;> omega)) (show (if N1 7 0 c < (N1 7 0 p) + 1 then (N1 7 0 p) + 1 else N1 7 0 c) < 2 ^ 31 by first | omega | (split <;> omega)) d36_96 lk0_54 w_static_LibMathmaxname inMath w_code_LibMathmaxname (by decide) (show 0 + 13 ≤ lo 36 by decide) (by decide) (by decide) ?_
                        refine Sem.seg [(.istore_n 2, 0, 0)] ⟨⟨d36_99, trivial⟩, trivial⟩ (lv' := [(2, aN (if h < if N1 7 0 c < (N1 7 0 p) + 1 then (N1 7 0 p) + 1 else N1 7 0 c then if N1 7 0 c < (N1 7 0 p) + 1 then (N1 7 0 p) + 1 else N1 7 0 c else h)), (6, aN ((p * 12) + c)), (0, aR 2 0), (1, aI x), (3, aN r), (4, aN p), (5, aN c)]) (st' := []) (w' := wd (upN N1 7 0 c (if N1 7 0 c < (N1 7 0 p) + 1 then (N1 7 0 p) + 1 else N1 7 0 c)) L) (P := []) rfl (trivial) (pc' := 100) rfl ?_
                        
                        refine Sem.seg [(.iinc 5 1, 0, 0)] ⟨⟨d36_100, trivial⟩, trivial⟩ (lv' := [(5, aN (c + 1)), (2, aN (if h < if N1 7 0 c < (N1 7 0 p) + 1 then (N1 7 0 p) + 1 else N1 7 0 c then if N1 7 0 c < (N1 7 0 p) + 1 then (N1 7 0 p) + 1 else N1 7 0 c else h)), (6, aN ((p * 12) + c)), (0, aR 2 0), (1, aI x), (3, aN r), (4, aN p)]) (st' := []) (w' := wd (upN N1 7 0 c (if N1 7 0 c < (N1 7 0 p) + 1 then (N1 7 0 p) + 1 else N1 7 0 c)) L) (P := []) rfl (trivial) (pc' := 103) rfl ?_
                        refine Sem.goto (tgt := 30) d36_103 (by decide) ?_
                        refine Sem.pick [3, 4, 1, 5, 6, 0] (lv' := [(0, aR 2 0), (1, aI x), (2, aN (if h < if N1 7 0 c < (N1 7 0 p) + 1 then (N1 7 0 p) + 1 else N1 7 0 c then if N1 7 0 c < (N1 7 0 p) + 1 then (N1 7 0 p) + 1 else N1 7 0 c else h)), (3, aN r), (4, aN p), (5, aN (c + 1))]) rfl ?_
                        exact ihc _ (by omega) (c + 1) (if h < if N1 7 0 c < (N1 7 0 p) + 1 then (N1 7 0 p) + 1 else N1 7 0 c then if N1 7 0 c < (N1 7 0 p) + 1 then (N1 7 0 p) + 1 else N1 7 0 c else h) (upN N1 7 0 c (if N1 7 0 c < (N1 7 0 p) + 1 then (N1 7 0 p) + 1 else N1 7 0 c)) rfl (by omega) (fun t a b q => (upN_ne (by omega)).trans (fc t a b q)) (by have := RI_up (T' := (upN N1 7 0 c (if N1 7 0 c < (N1 7 0 p) + 1 then (N1 7 0 p) + 1 else N1 7 0 c)) 7 0) (by omega) (by omega) Rc hE upN_at (fun i q => upN_ne (by omega)); rw [upN_at] at this; exact this)
              refine Sem.pick [1, 2, 3, 4, 5, 0] (lv' := [(0, aR 2 0), (1, aI x), (2, aN h), (3, aN r), (4, aN p), (5, aN 0)]) rfl ?_
              exact lpc _ 0 h N1 rfl (by omega) (fb) (Rb)
        refine Sem.pick [1, 2, 3, 4, 0] (lv' := [(0, aR 2 0), (1, aI x), (2, aN h), (3, aN r), (4, aN 0)]) rfl ?_
        exact lpb _ 0 h N1 rfl (by omega) (fa) (Ra)
  refine Sem.pick [2, 3, 1, 0] (lv' := [(0, aR 2 0), (1, aI x), (2, aN 0), (3, aN 0)]) rfl ?_
  exact lpa _ 0 0 (upV N 7 0 12 (fun _ => 0)) rfl (by omega) (fun t a b h => upV_ne (by omega)) (RI_0 (fun i hi => upV_at hi))

theorem m35 {sc : XT} (N : TN) (L : TL) (h9 : ∀ c, c < 144 → N 3 0 c ≤ 9) : Sem sc 35 0 [(0, aR 2 0)] [] (wd N L) 0 0 (Q0 fun N' L' => L = L' ∧ (∀ t a b, t ≠ 6 → t ≠ 7 → N' t a b = N t a b) ∧ ∃ h, RI (eg N) 5 0 0 (N' 6 0) h) := by
  refine Sem.seg [(.aload_n 0, 0, 0), (.iconst (-1), 0, 0)] ⟨⟨d35_0, trivial⟩, ⟨d35_1, trivial⟩, trivial⟩ (lv' := [(0, aR 2 0)]) (st' := [aI (Int32.ofInt (-1)), aR 2 0]) (w' := wd N L) (P := []) rfl (trivial) (pc' := 2) rfl ?_
  refine Sem.cVmN (t := 2) (i := 0) (as := [aI (Int32.ofInt (-1))]) (rst := []) (c' := 0) (s' := 0) d35_2 mk36 rfl co36 lk0_31 im36 se36 rfl (vN (t := 2) (i := 0) (by decide)) (show 2 ≤ mL 36 by decide) rfl (show 0 ≤ 8 by decide) (by decide) (by decide) rfl rfl (by decide) (by decide) (m36 N L (Int32.ofInt (-1)) h9) ?_
  rintro z N1 L1 ⟨rfl, f1, R1⟩
  refine Sem.seg [(.pop, 0, 0), (.aload_n 0, 0, 0), (.getfield 24, 0, 4), (.iconst 0, 0, 0), (.aload_n 0, 0, 0), (.getfield 21, 0, 3), (.iconst 0, 0, 0), (.bipush 12, 0, 0)] ⟨⟨d35_5, trivial⟩, ⟨d35_6, trivial⟩, ⟨d35_7, gf0_24⟩, ⟨d35_10, trivial⟩, ⟨d35_11, trivial⟩, ⟨d35_12, gf0_21⟩, ⟨d35_15, trivial⟩, ⟨d35_16, trivial⟩, trivial⟩ (lv' := [(0, aR 2 0)]) (st' := [aN 12, aN 0, aR 6 0, aN 0, aR 7 0]) (w' := wd N1 L) (P := [vld NN 2 0, vld NN 2 0]) rfl (⟨vN (t := 2) (i := 0) (by decide), vN (t := 2) (i := 0) (by decide)⟩) (pc' := 18) rfl ?_
  refine Sem.copyN d35_18 lk0_38 w_native_arraycopyName w_static_arraycopyName inSys rfl rfl (vN (t := 7) (i := 0) (by decide)) (vN (t := 6) (i := 0) (by decide)) (by decide) (by decide) (by decide) (show 0 + (nativeFrameWords "java/lang/System" "arraycopy" 5 + 11) ≤ lo 35 by decide) ?_
  refine Sem.weq (show wCN (wd N1 L) 7 0 6 0 12 = wd (upV N1 6 0 12 (N1 7 0)) L from rfl) ?_
  exact Sem.vret d35_21 rfl (by decide) (by decide) hzW ⟨rfl, _, _, rfl, by exact ⟨rfl, fun t a b h1 h2 => (upV_ne (by omega)).trans (f1 t a b h2), z, RI_cg (fun i hi => upV_at hi) ((show edm N (Int32.ofInt (-1)).toInt = eg N from edm_1 N) ▸ R1)⟩⟩

theorem m38 {sc : XT} (N : TN) (L : TL) (c : Nat) (hc : c < 144) (h9 : ∀ c, c < 144 → N 3 0 c ≤ 9) (hl : N 2 0 5 ≤ 24) : Sem sc 38 0 [(0, aR 2 0), (1, aN c)] [] (wd N L) 0 0 (QZ fun z N' L' => L = L' ∧ (∀ t a b, t ≠ 7 → N' t a b = N t a b) ∧ z = bo (fitP N c)) := by
  have e9 := h9 c hc
  refine Sem.seg [(.aload_n 0, 0, 0), (.getfield 9, 0, 0), (.iload_n 1, 0, 0), (.iaload, 0, 0)] ⟨⟨d38_0, trivial⟩, ⟨d38_1, gf0_9⟩, ⟨d38_4, trivial⟩, ⟨d38_5, trivial⟩, trivial⟩ (lv' := [(0, aR 2 0), (1, aN c)]) (st' := [aN (N 3 0 c)]) (w' := wd N L) (P := [vld NN 2 0, vld NN 3 0, c < 144]) rfl (⟨vN (t := 2) (i := 0) (by decide), vN (t := 3) (i := 0) (by decide), (show c < 144 by omega)⟩) (pc' := 6) rfl ?_
  refine Sem.ifN (tgt := 27) d38_6 (by decide) (show N 3 0 c < 2 ^ 31 by omega) (fun b1 => ?_) (fun b1 => ?_)
  · have b1_ : 0 < N 3 0 c := b1
    refine Sem.seg [(.iconst 1, 0, 0)] ⟨⟨d38_27, trivial⟩, trivial⟩ (lv' := [(0, aR 2 0), (1, aN c)]) (st' := [aN 1]) (w' := wd N L) (P := []) rfl (trivial) (pc' := 28) rfl ?_
    refine Sem.goto (tgt := 32) d38_28 (by decide) ?_
    refine Sem.iret rfl d38_32 (Or.inr ⟨rfl, by decide⟩) (by decide) (by decide) hzW ⟨_, _, _, rfl, rfl, ?_⟩
    refine ⟨rfl, by first | assumption | exact fun _ _ _ _ => rfl, ?_⟩
    first
    | exact (bo_t (Or.inl (by omega))).symm
    | exact (bo_t (Or.inr ⟨by omega, hsn.mp (by omega)⟩)).symm
    | (refine (bo_f (fun q => ?_)).symm
       rcases q with q | q
       · omega
       · have := hsn.mpr q.2; omega)
    | (refine (bo_f (fun q => ?_)).symm
       rcases q with q | q <;> omega)
  · have b1_ : ¬ (0 < N 3 0 c) := b1
    refine Sem.seg [(.aload_n 0, 0, 0), (.getfield 27, 0, 5), (.bipush 24, 0, 0)] ⟨⟨d38_9, trivial⟩, ⟨d38_10, gf0_27⟩, ⟨d38_13, trivial⟩, trivial⟩ (lv' := [(0, aR 2 0), (1, aN c)]) (st' := [aN 24, aN (N 2 0 5)]) (w' := wd N L) (P := [vld NN 2 0]) rfl (vN (t := 2) (i := 0) (by decide)) (pc' := 15) rfl ?_
    refine Sem.icmpN (tgt := 31) d38_15 (by decide) (show N 2 0 5 < 2 ^ 31 by omega) (by decide) (fun b2 => ?_) (fun b2 => ?_)
    · have b2_ : 24 ≤ N 2 0 5 := b2
      refine Sem.seg [(.iconst 0, 0, 0)] ⟨⟨d38_31, trivial⟩, trivial⟩ (lv' := [(0, aR 2 0), (1, aN c)]) (st' := [aN 0]) (w' := wd N L) (P := []) rfl (trivial) (pc' := 32) rfl ?_
      refine Sem.iret rfl d38_32 (Or.inr ⟨rfl, by decide⟩) (by decide) (by decide) hzW ⟨_, _, _, rfl, rfl, ?_⟩
      refine ⟨rfl, by first | assumption | exact fun _ _ _ _ => rfl, ?_⟩
      first
      | exact (bo_t (Or.inl (by omega))).symm
      | exact (bo_t (Or.inr ⟨by omega, hsn.mp (by omega)⟩)).symm
      | (refine (bo_f (fun q => ?_)).symm
         rcases q with q | q
         · omega
         · have := hsn.mpr q.2; omega)
      | (refine (bo_f (fun q => ?_)).symm
         rcases q with q | q <;> omega)
    · have b2_ : ¬ (24 ≤ N 2 0 5) := b2
      refine Sem.seg [(.aload_n 0, 0, 0), (.iload_n 1, 0, 0)] ⟨⟨d38_18, trivial⟩, ⟨d38_19, trivial⟩, trivial⟩ (lv' := [(0, aR 2 0), (1, aN c)]) (st' := [aN c, aR 2 0]) (w' := wd N L) (P := []) rfl (trivial) (pc' := 20) rfl ?_
      refine Sem.cVmN (t := 2) (i := 0) (as := [aN c]) (rst := []) (c' := 0) (s' := 0) d38_20 mk36 rfl co36 lk0_31 im36 se36 rfl (vN (t := 2) (i := 0) (by decide)) (show 2 ≤ mL 36 by decide) rfl (show 0 ≤ 8 by decide) (by decide) (by decide) rfl rfl (by decide) (by decide) (Sem.eqv (lv' := [(0, aR 2 0), (1, aI (nI c))]) (st' := []) (fun _ _ h => h) (fun _ => rfl) (m36 N L (nI c) h9)) ?_
      rintro z N1 L1 ⟨rfl, f1, R1⟩
      have hsn := RI_sn R1
      rw [nI_toInt (by omega)] at hsn
      have hz31 : z < 2 ^ 31 := by
        rcases R1.2.2.2.2.2 with q | ⟨i, hi, q⟩
        · omega
        · have := R1.1 i hi; omega
      refine Sem.seg [(.iconst 4, 0, 0)] ⟨⟨d38_23, trivial⟩, trivial⟩ (lv' := [(0, aR 2 0), (1, aN c)]) (st' := [aN 4, aN z]) (w' := wd N1 L) (P := []) rfl (trivial) (pc' := 24) rfl ?_
      refine Sem.icmpN (tgt := 31) d38_24 (by decide) (show z < 2 ^ 31 by omega) (by decide) (fun b3 => ?_) (fun b3 => ?_)
      · have b3_ : 4 < z := b3
        refine Sem.seg [(.iconst 0, 0, 0)] ⟨⟨d38_31, trivial⟩, trivial⟩ (lv' := [(0, aR 2 0), (1, aN c)]) (st' := [aN 0]) (w' := wd N1 L) (P := []) rfl (trivial) (pc' := 32) rfl ?_
        refine Sem.iret rfl d38_32 (Or.inr ⟨rfl, by decide⟩) (by decide) (by decide) hzW ⟨_, _, _, rfl, rfl, ?_⟩
        refine ⟨rfl, by first | assumption | exact fun _ _ _ _ => rfl, ?_⟩
        first
        | exact (bo_t (Or.inl (by omega))).symm
        | exact (bo_t (Or.inr ⟨by omega, hsn.mp (by omega)⟩)).symm
        | (refine (bo_f (fun q => ?_)).symm
           rcases q with q | q
           · omega
           · have := hsn.mpr q.2; omega)
        | (refine (bo_f (fun q => ?_)).symm
           rcases q with q | q <;> omega)
      · have b3_ : ¬ (4 < z) := b3
        refine Sem.seg [(.iconst 1, 0, 0)] ⟨⟨d38_27, trivial⟩, trivial⟩ (lv' := [(0, aR 2 0), (1, aN c)]) (st' := [aN 1]) (w' := wd N1 L) (P := []) rfl (trivial) (pc' := 28) rfl ?_
        refine Sem.goto (tgt := 32) d38_28 (by decide) ?_
        refine Sem.iret rfl d38_32 (Or.inr ⟨rfl, by decide⟩) (by decide) (by decide) hzW ⟨_, _, _, rfl, rfl, ?_⟩
        refine ⟨rfl, by first | assumption | exact fun _ _ _ _ => rfl, ?_⟩
        first
        | exact (bo_t (Or.inl (by omega))).symm
        | exact (bo_t (Or.inr ⟨by omega, hsn.mp (by omega)⟩)).symm
        | (refine (bo_f (fun q => ?_)).symm
           rcases q with q | q
           · omega
           · have := hsn.mpr q.2; omega)
        | (refine (bo_f (fun q => ?_)).symm
           rcases q with q | q <;> omega)

/-- what a line, put or dropped at place c, leaves -/
def LN (N : TN) (c n f u : Nat) (N' : TN) : Prop :=
  (∀ t a b, t ≠ 2 → t ≠ 3 → t ≠ 4 → t ≠ 5 → t ≠ 6 → t ≠ 7 → N' t a b = N t a b) ∧ (∀ j, N' 3 0 j = if j = c then n else N 3 0 j) ∧ (¬ n = 0 → N' 4 0 c = f ∧ N' 5 0 c = u) ∧ (∀ j, j ≠ c → N' 4 0 j = N 4 0 j ∧ N' 5 0 j = N 5 0 j) ∧
  N' 2 0 5 = N 2 0 5 + (if n = 0 then 0 else 1) - (if N 3 0 c = 0 then 0 else 1) ∧ ∃ h, RI (eg N') 5 0 0 (N' 6 0) h
theorem eg_cg {N N' : TN} (h : ∀ j, N' 3 0 j = N 3 0 j) : eg N' = eg N := by
  funext p c; unfold eg; rw [h]

theorem m34 {sc : XT} (N : TN) (L : TL) (c : Nat) (hc : c < 144) (h9 : ∀ c, c < 144 → N 3 0 c ≤ 9) (hl : 0 < N 3 0 c → 1 ≤ N 2 0 5) : Sem sc 34 0 [(0, aR 2 0), (1, aN c)] [] (wd N L) 0 0 (Q0 fun N' L' => L = L' ∧ LN N c 0 0 0 N') := by
  have e9 := h9 c hc
  refine Sem.seg [(.aload_n 0, 0, 0), (.getfield 9, 0, 0), (.iload_n 1, 0, 0), (.iaload, 0, 0)] ⟨⟨d34_0, trivial⟩, ⟨d34_1, gf0_9⟩, ⟨d34_4, trivial⟩, ⟨d34_5, trivial⟩, trivial⟩ (lv' := [(0, aR 2 0), (1, aN c)]) (st' := [aN (N 3 0 c)]) (w' := wd N L) (P := [vld NN 2 0, vld NN 3 0, c < 144]) rfl (⟨vN (t := 2) (i := 0) (by decide), vN (t := 3) (i := 0) (by decide), (show c < 144 by omega)⟩) (pc' := 6) rfl ?_
  refine Sem.ifN (tgt := 19) d34_6 (by decide) (show N 3 0 c < 2 ^ 31 by omega) (fun b1 => ?_) (fun b1 => ?_)
  · have b1_ : N 3 0 c ≤ 0 := b1
    refine Sem.seg [(.aload_n 0, 0, 0), (.getfield 9, 0, 0), (.iload_n 1, 0, 0), (.iconst 0, 0, 0), (.iastore, 0, 0)] ⟨⟨d34_19, trivial⟩, ⟨d34_20, gf0_9⟩, ⟨d34_23, trivial⟩, ⟨d34_24, trivial⟩, ⟨d34_25, trivial⟩, trivial⟩ (lv' := [(0, aR 2 0), (1, aN c)]) (st' := []) (w' := wd (upN N 3 0 c 0) L) (P := [vld NN 2 0, vld NN 3 0, c < 144]) rfl (⟨vN (t := 2) (i := 0) (by decide), vN (t := 3) (i := 0) (by decide), (show c < 144 by omega)⟩) (pc' := 26) rfl ?_
    have hn9 : ∀ j, j < 144 → (upN N 3 0 c 0) 3 0 j ≤ 9 := fun j hj => by
      have := h9 j hj
      by_cases e : j = c
      · subst e; first | rw [upN_at]; omega | (simp only [upN]; simp; omega) | (simp [upN]; omega)
      · simp [upN, e]; omega
    refine Sem.seg [(.aload_n 0, 0, 0)] ⟨⟨d34_26, trivial⟩, trivial⟩ (lv' := [(0, aR 2 0), (1, aN c)]) (st' := [aR 2 0]) (w' := wd (upN N 3 0 c 0) L) (P := []) rfl (trivial) (pc' := 27) rfl ?_
    refine Sem.cVm0 (t := 2) (i := 0) (as := []) (rst := []) (c' := 0) (s' := 0) d34_27 mk35 rfl co35 lk0_35 im35 se35 rfl (vN (t := 2) (i := 0) (by decide)) (show 1 ≤ mL 35 by decide) rfl (show 0 ≤ 8 by decide) (by decide) (by decide) rfl rfl (by decide) (by decide) (m35 (upN N 3 0 c 0) L hn9) ?_
    rintro N1 L1 ⟨rfl, f1, h, R1⟩
    refine Sem.vret d34_30 rfl (by decide) (by decide) hzW ⟨rfl, _, _, rfl, ?_⟩
    have f3 : ∀ j, N1 3 0 j = if j = c then 0 else N 3 0 j := fun j => by rw [f1 3 0 j (by decide) (by decide)]; simp [upN]
    refine ⟨rfl, fun t a b h2 h3 h4 h5 h6 h7 => (f1 t a b h6 h7).trans (by simp [upN, h2, h3, h4, h5]), f3, ?_, ?_, ?_, h, ?_⟩
    · intro hn; first | exact absurd rfl hn | exact ⟨by rw [f1 4 0 c (by decide) (by decide)]; simp [upN], by rw [f1 5 0 c (by decide) (by decide)]; simp [upN]⟩
    · intro j hj; exact ⟨by rw [f1 4 0 j (by decide) (by decide)]; simp [upN, hj], by rw [f1 5 0 j (by decide) (by decide)]; simp [upN, hj]⟩
    · rw [f1 2 0 5 (by decide) (by decide)]; simp [upN]; (repeat' split) <;> omega
    · rw [eg_cg (N := upN N 3 0 c 0) (fun j => f1 3 0 j (by decide) (by decide))]; exact R1
  · have b1_ : ¬ (N 3 0 c ≤ 0) := b1
    refine Sem.seg [(.aload_n 0, 0, 0), (.dup, 0, 0), (.getfield 27, 0, 5), (.iconst 1, 0, 0), (.isub, 0, 0)] ⟨⟨d34_9, trivial⟩, ⟨d34_10, trivial⟩, ⟨d34_11, gf0_27⟩, ⟨d34_14, trivial⟩, ⟨d34_15, trivial⟩, trivial⟩ (lv' := [(0, aR 2 0), (1, aN c)]) (st' := [aI ((nI (N 2 0 5)) - (nI 1)), aR 2 0]) (w' := wd N L) (P := [vld NN 2 0]) rfl (vN (t := 2) (i := 0) (by decide)) (pc' := 16) rfl ?_
    refine Sem.topN (show (nI (N 2 0 5)) - (nI 1) = nI (N 2 0 5 - 1) from nI_sub (hl (by omega))) ?_
    refine Sem.seg [(.putfield 27, 0, 5), (.aload_n 0, 0, 0), (.getfield 9, 0, 0), (.iload_n 1, 0, 0), (.iconst 0, 0, 0), (.iastore, 0, 0)] ⟨⟨d34_16, gf0_27⟩, ⟨d34_19, trivial⟩, ⟨d34_20, gf0_9⟩, ⟨d34_23, trivial⟩, ⟨d34_24, trivial⟩, ⟨d34_25, trivial⟩, trivial⟩ (lv' := [(0, aR 2 0), (1, aN c)]) (st' := []) (w' := wd (upN (upN N 2 0 5 (N 2 0 5 - 1)) 3 0 c 0) L) (P := [vld NN 2 0, vld NN 2 0, vld NN 3 0, c < 144]) rfl (⟨vN (t := 2) (i := 0) (by decide), vN (t := 2) (i := 0) (by decide), vN (t := 3) (i := 0) (by decide), (show c < 144 by omega)⟩) (pc' := 26) rfl ?_
    have hn9 : ∀ j, j < 144 → (upN (upN N 2 0 5 (N 2 0 5 - 1)) 3 0 c 0) 3 0 j ≤ 9 := fun j hj => by
      have := h9 j hj
      by_cases e : j = c
      · subst e; first | rw [upN_at]; omega | (simp only [upN]; simp; omega) | (simp [upN]; omega)
      · simp [upN, e]; omega
    refine Sem.seg [(.aload_n 0, 0, 0)] ⟨⟨d34_26, trivial⟩, trivial⟩ (lv' := [(0, aR 2 0), (1, aN c)]) (st' := [aR 2 0]) (w' := wd (upN (upN N 2 0 5 (N 2 0 5 - 1)) 3 0 c 0) L) (P := []) rfl (trivial) (pc' := 27) rfl ?_
    refine Sem.cVm0 (t := 2) (i := 0) (as := []) (rst := []) (c' := 0) (s' := 0) d34_27 mk35 rfl co35 lk0_35 im35 se35 rfl (vN (t := 2) (i := 0) (by decide)) (show 1 ≤ mL 35 by decide) rfl (show 0 ≤ 8 by decide) (by decide) (by decide) rfl rfl (by decide) (by decide) (m35 (upN (upN N 2 0 5 (N 2 0 5 - 1)) 3 0 c 0) L hn9) ?_
    rintro N1 L1 ⟨rfl, f1, h, R1⟩
    refine Sem.vret d34_30 rfl (by decide) (by decide) hzW ⟨rfl, _, _, rfl, ?_⟩
    have f3 : ∀ j, N1 3 0 j = if j = c then 0 else N 3 0 j := fun j => by rw [f1 3 0 j (by decide) (by decide)]; simp [upN]
    refine ⟨rfl, fun t a b h2 h3 h4 h5 h6 h7 => (f1 t a b h6 h7).trans (by simp [upN, h2, h3, h4, h5]), f3, ?_, ?_, ?_, h, ?_⟩
    · intro hn; first | exact absurd rfl hn | exact ⟨by rw [f1 4 0 c (by decide) (by decide)]; simp [upN], by rw [f1 5 0 c (by decide) (by decide)]; simp [upN]⟩
    · intro j hj; exact ⟨by rw [f1 4 0 j (by decide) (by decide)]; simp [upN, hj], by rw [f1 5 0 j (by decide) (by decide)]; simp [upN, hj]⟩
    · rw [f1 2 0 5 (by decide) (by decide)]; simp [upN]; (repeat' split) <;> omega
    · rw [eg_cg (N := upN (upN N 2 0 5 (N 2 0 5 - 1)) 3 0 c 0) (fun j => f1 3 0 j (by decide) (by decide))]; exact R1

theorem m39 {sc : XT} (N : TN) (L : TL) (c n f u : Nat) (hc : c < 144) (hn : 1 ≤ n ∧ n ≤ 9) (h9 : ∀ c, c < 144 → N 3 0 c ≤ 9) : Sem sc 39 0 [(0, aR 2 0), (1, aN c), (2, aN n), (3, aN f), (4, aN u)] [] (wd N L) 0 0 (Q0 fun N' L' => L = L' ∧ LN N c n f u N') := by
  have e9 := h9 c hc
  refine Sem.seg [(.aload_n 0, 0, 0), (.getfield 9, 0, 0), (.iload_n 1, 0, 0), (.iaload, 0, 0)] ⟨⟨d39_0, trivial⟩, ⟨d39_1, gf0_9⟩, ⟨d39_4, trivial⟩, ⟨d39_5, trivial⟩, trivial⟩ (lv' := [(0, aR 2 0), (1, aN c), (2, aN n), (3, aN f), (4, aN u)]) (st' := [aN (N 3 0 c)]) (w' := wd N L) (P := [vld NN 2 0, vld NN 3 0, c < 144]) rfl (⟨vN (t := 2) (i := 0) (by decide), vN (t := 3) (i := 0) (by decide), (show c < 144 by omega)⟩) (pc' := 6) rfl ?_
  refine Sem.ifN (tgt := 19) d39_6 (by decide) (show N 3 0 c < 2 ^ 31 by omega) (fun b1 => ?_) (fun b1 => ?_)
  · have b1_ : ¬ N 3 0 c = 0 := b1
    refine Sem.seg [(.aload_n 0, 0, 0), (.getfield 9, 0, 0), (.iload_n 1, 0, 0), (.iload_n 2, 0, 0), (.iastore, 0, 0), (.aload_n 0, 0, 0), (.getfield 15, 0, 1), (.iload_n 1, 0, 0), (.iload_n 3, 0, 0), (.iastore, 0, 0), (.aload_n 0, 0, 0), (.getfield 18, 0, 2), (.iload_n 1, 0, 0), (.iload 4, 0, 0), (.iastore, 0, 0)] ⟨⟨d39_19, trivial⟩, ⟨d39_20, gf0_9⟩, ⟨d39_23, trivial⟩, ⟨d39_24, trivial⟩, ⟨d39_25, trivial⟩, ⟨d39_26, trivial⟩, ⟨d39_27, gf0_15⟩, ⟨d39_30, trivial⟩, ⟨d39_31, trivial⟩, ⟨d39_32, trivial⟩, ⟨d39_33, trivial⟩, ⟨d39_34, gf0_18⟩, ⟨d39_37, trivial⟩, ⟨d39_38, trivial⟩, ⟨d39_40, trivial⟩, trivial⟩ (lv' := [(0, aR 2 0), (1, aN c), (2, aN n), (3, aN f), (4, aN u)]) (st' := []) (w' := wd (upN (upN (upN N 3 0 c n) 4 0 c f) 5 0 c u) L) (P := [vld NN 2 0, vld NN 3 0, c < 144, vld NN 2 0, vld NN 4 0, c < 144, vld NN 2 0, vld NN 5 0, c < 144]) rfl (⟨vN (t := 2) (i := 0) (by decide), vN (t := 3) (i := 0) (by decide), (show c < 144 by omega), vN (t := 2) (i := 0) (by decide), vN (t := 4) (i := 0) (by decide), (show c < 144 by omega), vN (t := 2) (i := 0) (by decide), vN (t := 5) (i := 0) (by decide), (show c < 144 by omega)⟩) (pc' := 41) rfl ?_
    have hn9 : ∀ j, j < 144 → (upN (upN (upN N 3 0 c n) 4 0 c f) 5 0 c u) 3 0 j ≤ 9 := fun j hj => by
      have := h9 j hj
      by_cases e : j = c
      · subst e; first | rw [upN_at]; omega | (simp only [upN]; simp; omega) | (simp [upN]; omega)
      · simp [upN, e]; omega
    refine Sem.seg [(.aload_n 0, 0, 0)] ⟨⟨d39_41, trivial⟩, trivial⟩ (lv' := [(0, aR 2 0), (1, aN c), (2, aN n), (3, aN f), (4, aN u)]) (st' := [aR 2 0]) (w' := wd (upN (upN (upN N 3 0 c n) 4 0 c f) 5 0 c u) L) (P := []) rfl (trivial) (pc' := 42) rfl ?_
    refine Sem.cVm0 (t := 2) (i := 0) (as := []) (rst := []) (c' := 0) (s' := 0) d39_42 mk35 rfl co35 lk0_35 im35 se35 rfl (vN (t := 2) (i := 0) (by decide)) (show 1 ≤ mL 35 by decide) rfl (show 0 ≤ 8 by decide) (by decide) (by decide) rfl rfl (by decide) (by decide) (m35 (upN (upN (upN N 3 0 c n) 4 0 c f) 5 0 c u) L hn9) ?_
    rintro N1 L1 ⟨rfl, f1, h, R1⟩
    refine Sem.vret d39_45 rfl (by decide) (by decide) hzW ⟨rfl, _, _, rfl, ?_⟩
    have f3 : ∀ j, N1 3 0 j = if j = c then n else N 3 0 j := fun j => by rw [f1 3 0 j (by decide) (by decide)]; simp [upN]
    refine ⟨rfl, fun t a b h2 h3 h4 h5 h6 h7 => (f1 t a b h6 h7).trans (by simp [upN, h2, h3, h4, h5]), f3, ?_, ?_, ?_, h, ?_⟩
    · intro hn; first | exact absurd rfl hn | exact ⟨by rw [f1 4 0 c (by decide) (by decide)]; simp [upN], by rw [f1 5 0 c (by decide) (by decide)]; simp [upN]⟩
    · intro j hj; exact ⟨by rw [f1 4 0 j (by decide) (by decide)]; simp [upN, hj], by rw [f1 5 0 j (by decide) (by decide)]; simp [upN, hj]⟩
    · rw [f1 2 0 5 (by decide) (by decide)]; simp [upN]; (repeat' split) <;> omega
    · rw [eg_cg (N := upN (upN (upN N 3 0 c n) 4 0 c f) 5 0 c u) (fun j => f1 3 0 j (by decide) (by decide))]; exact R1
  · have b1_ : ¬ (¬ N 3 0 c = 0) := b1
    refine Sem.seg [(.aload_n 0, 0, 0), (.dup, 0, 0), (.getfield 27, 0, 5), (.iconst 1, 0, 0), (.iadd, 0, 0), (.putfield 27, 0, 5), (.aload_n 0, 0, 0), (.getfield 9, 0, 0), (.iload_n 1, 0, 0), (.iload_n 2, 0, 0), (.iastore, 0, 0), (.aload_n 0, 0, 0), (.getfield 15, 0, 1), (.iload_n 1, 0, 0), (.iload_n 3, 0, 0), (.iastore, 0, 0), (.aload_n 0, 0, 0), (.getfield 18, 0, 2), (.iload_n 1, 0, 0), (.iload 4, 0, 0), (.iastore, 0, 0)] ⟨⟨d39_9, trivial⟩, ⟨d39_10, trivial⟩, ⟨d39_11, gf0_27⟩, ⟨d39_14, trivial⟩, ⟨d39_15, trivial⟩, ⟨d39_16, gf0_27⟩, ⟨d39_19, trivial⟩, ⟨d39_20, gf0_9⟩, ⟨d39_23, trivial⟩, ⟨d39_24, trivial⟩, ⟨d39_25, trivial⟩, ⟨d39_26, trivial⟩, ⟨d39_27, gf0_15⟩, ⟨d39_30, trivial⟩, ⟨d39_31, trivial⟩, ⟨d39_32, trivial⟩, ⟨d39_33, trivial⟩, ⟨d39_34, gf0_18⟩, ⟨d39_37, trivial⟩, ⟨d39_38, trivial⟩, ⟨d39_40, trivial⟩, trivial⟩ (lv' := [(0, aR 2 0), (1, aN c), (2, aN n), (3, aN f), (4, aN u)]) (st' := []) (w' := wd (upN (upN (upN (upN N 2 0 5 ((N 2 0 5) + 1)) 3 0 c n) 4 0 c f) 5 0 c u) L) (P := [vld NN 2 0, vld NN 2 0, vld NN 2 0, vld NN 3 0, c < 144, vld NN 2 0, vld NN 4 0, c < 144, vld NN 2 0, vld NN 5 0, c < 144]) rfl (⟨vN (t := 2) (i := 0) (by decide), vN (t := 2) (i := 0) (by decide), vN (t := 2) (i := 0) (by decide), vN (t := 3) (i := 0) (by decide), (show c < 144 by omega), vN (t := 2) (i := 0) (by decide), vN (t := 4) (i := 0) (by decide), (show c < 144 by omega), vN (t := 2) (i := 0) (by decide), vN (t := 5) (i := 0) (by decide), (show c < 144 by omega)⟩) (pc' := 41) rfl ?_
    have hn9 : ∀ j, j < 144 → (upN (upN (upN (upN N 2 0 5 ((N 2 0 5) + 1)) 3 0 c n) 4 0 c f) 5 0 c u) 3 0 j ≤ 9 := fun j hj => by
      have := h9 j hj
      by_cases e : j = c
      · subst e; first | rw [upN_at]; omega | (simp only [upN]; simp; omega) | (simp [upN]; omega)
      · simp [upN, e]; omega
    refine Sem.seg [(.aload_n 0, 0, 0)] ⟨⟨d39_41, trivial⟩, trivial⟩ (lv' := [(0, aR 2 0), (1, aN c), (2, aN n), (3, aN f), (4, aN u)]) (st' := [aR 2 0]) (w' := wd (upN (upN (upN (upN N 2 0 5 ((N 2 0 5) + 1)) 3 0 c n) 4 0 c f) 5 0 c u) L) (P := []) rfl (trivial) (pc' := 42) rfl ?_
    refine Sem.cVm0 (t := 2) (i := 0) (as := []) (rst := []) (c' := 0) (s' := 0) d39_42 mk35 rfl co35 lk0_35 im35 se35 rfl (vN (t := 2) (i := 0) (by decide)) (show 1 ≤ mL 35 by decide) rfl (show 0 ≤ 8 by decide) (by decide) (by decide) rfl rfl (by decide) (by decide) (m35 (upN (upN (upN (upN N 2 0 5 ((N 2 0 5) + 1)) 3 0 c n) 4 0 c f) 5 0 c u) L hn9) ?_
    rintro N1 L1 ⟨rfl, f1, h, R1⟩
    refine Sem.vret d39_45 rfl (by decide) (by decide) hzW ⟨rfl, _, _, rfl, ?_⟩
    have f3 : ∀ j, N1 3 0 j = if j = c then n else N 3 0 j := fun j => by rw [f1 3 0 j (by decide) (by decide)]; simp [upN]
    refine ⟨rfl, fun t a b h2 h3 h4 h5 h6 h7 => (f1 t a b h6 h7).trans (by simp [upN, h2, h3, h4, h5]), f3, ?_, ?_, ?_, h, ?_⟩
    · intro hn; first | exact absurd rfl hn | exact ⟨by rw [f1 4 0 c (by decide) (by decide)]; simp [upN], by rw [f1 5 0 c (by decide) (by decide)]; simp [upN]⟩
    · intro j hj; exact ⟨by rw [f1 4 0 j (by decide) (by decide)]; simp [upN, hj], by rw [f1 5 0 j (by decide) (by decide)]; simp [upN, hj]⟩
    · rw [f1 2 0 5 (by decide) (by decide)]; simp [upN]; (repeat' split) <;> omega
    · rw [eg_cg (N := upN (upN (upN (upN N 2 0 5 ((N 2 0 5) + 1)) 3 0 c n) 4 0 c f) 5 0 c u) (fun j => f1 3 0 j (by decide) (by decide))]; exact R1

noncomputable def cLine (N : TN) (p c n f u : Int32) : Nat := if ¬ (0 ≤ p.toInt ∧ p.toInt < 12) ∨ ¬ (0 ≤ c.toInt ∧ c.toInt < 12) then 1 else if ¬ (0 ≤ n.toInt ∧ n.toInt ≤ 9) ∨ ¬ (n.toInt = 0 ∨ (0 ≤ f.toInt ∧ f.toInt ≤ 11 ∧ f.toInt ≤ u.toInt ∧ u.toInt ≤ 11)) then 2 else if ¬ n.toInt = 0 ∧ bo (fitP N (p.toInt.toNat * 12 + c.toInt.toNat)) = 0 then 3 else 0

theorem LN_z {N N' : TN} {c n f u : Nat} (h : n = 0) (H : LN N c 0 0 0 N') : LN N c n f u N' := by
  subst h
  obtain ⟨h1, h2, h3, h4, h5, h6⟩ := H
  exact ⟨h1, h2, fun q => absurd rfl q, h4, h5, h6⟩
theorem LN_7 {N N1 N' : TN} {c n f u : Nat} (g : ∀ t a b, t ≠ 7 → N1 t a b = N t a b) (H : LN N1 c n f u N') : LN N c n f u N' := by
  obtain ⟨h1, h2, h3, h4, h5, h6⟩ := H
  refine ⟨fun t a b x2 x3 x4 x5 x6 x7 => (h1 t a b x2 x3 x4 x5 x6 x7).trans (g t a b x7), fun j => ?_, h3, fun j hj => ?_, ?_, h6⟩
  · rw [h2 j, g 3 0 j (by decide)]
  · rw [(h4 j hj).1, (h4 j hj).2, g 4 0 j (by decide), g 5 0 j (by decide)]; exact ⟨rfl, rfl⟩
  · rw [h5, g 2 0 5 (by decide), g 3 0 c (by decide)]

theorem m33 {sc : XT} (N : TN) (L : TL) (p c n f u : Int32) (hc : CD N) (hl : N 2 0 5 = lineS N) : Sem sc 33 0 [(0, aR 0 0), (1, aI p), (2, aI c), (3, aI n), (4, aI f), (5, aI u)] [] (wd N L) 0 0 (QC (fun v N' L' => cLine N p c n f u = 0 ∧ v = none ∧ (∃ N1, LN N (p.toInt.toNat * 12 + c.toInt.toNat) n.toInt.toNat f.toInt.toNat u.toInt.toNat N1 ∧ N' = upN N1 19 c.toInt.toNat 10 1) ∧ L' = L) (fun e N' L' => cLine N p c n f u = e + 1 ∧ e ≤ 2 ∧ (∀ t a b, t ≠ 7 → N' t a b = N t a b) ∧ L' = L)) := by
  have h9 := hc.2.2.2.1
  have h24 := hc.2.2.1
  refine Sem.seg [(.iload_n 1, 0, 0)] ⟨⟨d33_0, trivial⟩, trivial⟩ (lv' := [(0, aR 0 0), (1, aI p), (2, aI c), (3, aI n), (4, aI f), (5, aI u)]) (st' := [aI p]) (w' := wd N L) (P := []) rfl (trivial) (pc' := 1) rfl ?_
  by_cases h1 : 0 ≤ p.toInt ∧ p.toInt < 12
  case neg =>
    refine Sem.cSx (as := [aI p]) (rst := []) (c' := 1) (s' := 6) d33_1 mk25 rfl co25 lk4_95 ss25 (show 1 ≤ mL 25 by decide) rfl (show 0 ≤ 8 by decide) (by decide) (by decide) rfl rfl (by decide) (by decide) (m25x N L p (by omega)) ?_
    intro N_ L_ hq_
    rw [hq_.1, hq_.2]
    exact SemX.up rfl (by decide) (by decide) ⟨_, _, rfl, 0, by decide, rfl, by refine ⟨?_, by decide, fun _ _ _ _ => rfl, rfl⟩; show cLine N p c n f u = _; unfold cLine; have := bo_le (fitP N (p.toInt.toNat * 12 + c.toInt.toNat)); (repeat' split) <;> omega⟩
  case pos =>
    refine Sem.cSp0 (as := [aI p]) (rst := []) (c' := 1) (s' := 6) d33_1 mk25 rfl co25 lk4_95 ss25 (show 1 ≤ mL 25 by decide) rfl (show 0 ≤ 8 by decide) (by decide) (by decide) rfl rfl (by decide) (by decide) (m25o N L p h1.1 h1.2) ?_
    refine Sem.seg [(.aload_n 0, 0, 0), (.iload_n 2, 0, 0)] ⟨⟨d33_4, trivial⟩, ⟨d33_5, trivial⟩, trivial⟩ (lv' := [(0, aR 0 0), (1, aI p), (2, aI c), (3, aI n), (4, aI f), (5, aI u)]) (st' := [aI c, aR 0 0]) (w' := wd N L) (P := []) rfl (trivial) (pc' := 6) rfl ?_
    by_cases h2 : 0 ≤ c.toInt ∧ c.toInt < 12
    case neg =>
      refine Sem.cVx (t := 0) (i := 0) (as := [aI c]) (rst := []) (c' := 2) (s' := 12) d33_6 mk24 rfl co24 lk4_50 im24 se24 rfl (vN (t := 0) (i := 0) (by decide)) (show 2 ≤ mL 24 by decide) rfl (show 0 ≤ 8 by decide) (by decide) (by decide) rfl rfl (by decide) (by decide) (m24x N L c (by omega)) ?_
      intro N_ L_ hq_
      rw [hq_.1, hq_.2]
      exact SemX.up rfl (by decide) (by decide) ⟨_, _, rfl, 0, by decide, rfl, by refine ⟨?_, by decide, fun _ _ _ _ => rfl, rfl⟩; show cLine N p c n f u = _; unfold cLine; have := bo_le (fitP N (p.toInt.toNat * 12 + c.toInt.toNat)); (repeat' split) <;> omega⟩
    case pos =>
      refine Sem.cVp1 (t := 0) (i := 0) (as := [aI c]) (rst := []) (c' := 2) (s' := 12) d33_6 mk24 rfl co24 lk4_50 im24 se24 rfl (vN (t := 0) (i := 0) (by decide)) (show 2 ≤ mL 24 by decide) rfl (show 0 ≤ 8 by decide) (by decide) (by decide) rfl rfl (by decide) (by decide) (m24o N L c.toInt.toNat c (i_nI2 h2.1) (by omega)) ?_
      refine Sem.seg [(.astore 6, 0, 0), (.iload_n 3, 0, 0), (.iconst 0, 0, 0), (.bipush 9, 0, 0)] ⟨⟨d33_9, trivial⟩, ⟨d33_11, trivial⟩, ⟨d33_12, trivial⟩, ⟨d33_13, trivial⟩, trivial⟩ (lv' := [(6, aR 19 c.toInt.toNat), (0, aR 0 0), (1, aI p), (2, aI c), (3, aI n), (4, aI f), (5, aI u)]) (st' := [aN 9, aN 0, aI n]) (w' := wd N L) (P := []) rfl (trivial) (pc' := 15) rfl ?_
      by_cases h3 : ((0 : Nat) : Int) ≤ n.toInt ∧ n.toInt ≤ ((9 : Nat) : Int)
      case neg =>
        refine Sem.cSx (as := [aI n, aN 0, aN 9]) (rst := []) (c' := 3) (s' := 18) d33_15 mk26 rfl co26 lk4_54 ss26 (show 3 ≤ mL 26 by decide) rfl (show 0 ≤ 8 by decide) (by decide) (by decide) rfl rfl (by decide) (by decide) (m26x N L n 0 9 (by decide) (by decide) (by omega)) ?_
        intro N_ L_ hq_
        rw [hq_.1, hq_.2]
        exact SemX.up rfl (by decide) (by decide) ⟨_, _, rfl, 1, by decide, rfl, by refine ⟨?_, by decide, fun _ _ _ _ => rfl, rfl⟩; show cLine N p c n f u = _; unfold cLine; have := bo_le (fitP N (p.toInt.toNat * 12 + c.toInt.toNat)); (repeat' split) <;> omega⟩
      case pos =>
        refine Sem.cSp0 (as := [aI n, aN 0, aN 9]) (rst := []) (c' := 3) (s' := 18) d33_15 mk26 rfl co26 lk4_54 ss26 (show 3 ≤ mL 26 by decide) rfl (show 0 ≤ 8 by decide) (by decide) (by decide) rfl rfl (by decide) (by decide) (m26o N L n 0 9 (by decide) (by decide) h3.1 h3.2) ?_
        refine Sem.pick [2, 0, 1, 3, 4, 5, 6] (lv' := [(1, aI p), (6, aR 19 c.toInt.toNat), (0, aR 0 0), (2, aI c), (3, aI n), (4, aI f), (5, aI u)]) rfl ?_
        refine Sem.loc0 (show p = nI p.toInt.toNat from i_nI2 (by omega)) ?_
        refine Sem.pick [3, 0, 1, 2, 4, 5, 6] (lv' := [(2, aI c), (1, aN p.toInt.toNat), (6, aR 19 c.toInt.toNat), (0, aR 0 0), (3, aI n), (4, aI f), (5, aI u)]) rfl ?_
        refine Sem.loc0 (show c = nI c.toInt.toNat from i_nI2 (by omega)) ?_
        refine Sem.pick [4, 0, 1, 2, 3, 5, 6] (lv' := [(3, aI n), (2, aN c.toInt.toNat), (1, aN p.toInt.toNat), (6, aR 19 c.toInt.toNat), (0, aR 0 0), (4, aI f), (5, aI u)]) rfl ?_
        refine Sem.loc0 (show n = nI n.toInt.toNat from i_nI2 (by omega)) ?_
        refine Sem.seg [(.iload_n 1, 0, 0), (.iload_n 2, 0, 0)] ⟨⟨d33_18, trivial⟩, ⟨d33_19, trivial⟩, trivial⟩ (lv' := [(3, aN n.toInt.toNat), (2, aN c.toInt.toNat), (1, aN p.toInt.toNat), (6, aR 19 c.toInt.toNat), (0, aR 0 0), (4, aI f), (5, aI u)]) (st' := [aN c.toInt.toNat, aN p.toInt.toNat]) (w' := wd N L) (P := []) rfl (trivial) (pc' := 20) rfl ?_
        refine Sem.cSp1 (as := [aN p.toInt.toNat, aN c.toInt.toNat]) (rst := []) (c' := 3) (s' := 18) d33_20 mk11 rfl co11 lk4_98 ss11 (show 2 ≤ mL 11 by decide) rfl (show 0 ≤ 8 by decide) (by decide) (by decide) rfl rfl (by decide) (by decide) (m11 N L p.toInt.toNat c.toInt.toNat) ?_
        refine Sem.seg [(.istore 7, 0, 0), (.iload_n 3, 0, 0)] ⟨⟨d33_23, trivial⟩, ⟨d33_25, trivial⟩, trivial⟩ (lv' := [(7, aN ((p.toInt.toNat * 12) + c.toInt.toNat)), (3, aN n.toInt.toNat), (2, aN c.toInt.toNat), (1, aN p.toInt.toNat), (6, aR 19 c.toInt.toNat), (0, aR 0 0), (4, aI f), (5, aI u)]) (st' := [aN n.toInt.toNat]) (w' := wd N L) (P := []) rfl (trivial) (pc' := 26) rfl ?_
        refine Sem.ifN (tgt := 41) d33_26 (by decide) (show n.toInt.toNat < 2 ^ 31 by first | omega | exact Nat.lt_of_le_of_lt (bo_le _) (by decide)) (fun b4 => ?_) (fun b4 => ?_)
        · have b4_ : ¬ n.toInt.toNat = 0 := b4
          refine Sem.seg [(.iload 4, 0, 0), (.iconst 0, 0, 0), (.bipush 11, 0, 0)] ⟨⟨d33_41, trivial⟩, ⟨d33_43, trivial⟩, ⟨d33_44, trivial⟩, trivial⟩ (lv' := [(7, aN ((p.toInt.toNat * 12) + c.toInt.toNat)), (3, aN n.toInt.toNat), (2, aN c.toInt.toNat), (1, aN p.toInt.toNat), (6, aR 19 c.toInt.toNat), (0, aR 0 0), (4, aI f), (5, aI u)]) (st' := [aN 11, aN 0, aI f]) (w' := wd N L) (P := []) rfl (trivial) (pc' := 46) rfl ?_
          by_cases h5 : ((0 : Nat) : Int) ≤ f.toInt ∧ f.toInt ≤ ((11 : Nat) : Int)
          case neg =>
            refine Sem.cSx (as := [aI f, aN 0, aN 11]) (rst := []) (c' := 4) (s' := 24) d33_46 mk26 rfl co26 lk4_54 ss26 (show 3 ≤ mL 26 by decide) rfl (show 0 ≤ 8 by decide) (by decide) (by decide) rfl rfl (by decide) (by decide) (m26x N L f 0 11 (by decide) (by decide) (by omega)) ?_
            intro N_ L_ hq_
            rw [hq_.1, hq_.2]
            exact SemX.up rfl (by decide) (by decide) ⟨_, _, rfl, 1, by decide, rfl, by refine ⟨?_, by decide, fun _ _ _ _ => rfl, rfl⟩; show cLine N p c n f u = _; unfold cLine; have := bo_le (fitP N (p.toInt.toNat * 12 + c.toInt.toNat)); (repeat' split) <;> omega⟩
          case pos =>
            refine Sem.cSp0 (as := [aI f, aN 0, aN 11]) (rst := []) (c' := 4) (s' := 24) d33_46 mk26 rfl co26 lk4_54 ss26 (show 3 ≤ mL 26 by decide) rfl (show 0 ≤ 8 by decide) (by decide) (by decide) rfl rfl (by decide) (by decide) (m26o N L f 0 11 (by decide) (by decide) h5.1 h5.2) ?_
            refine Sem.pick [6, 0, 1, 2, 3, 4, 5, 7] (lv' := [(4, aI f), (7, aN ((p.toInt.toNat * 12) + c.toInt.toNat)), (3, aN n.toInt.toNat), (2, aN c.toInt.toNat), (1, aN p.toInt.toNat), (6, aR 19 c.toInt.toNat), (0, aR 0 0), (5, aI u)]) rfl ?_
            refine Sem.loc0 (show f = nI f.toInt.toNat from i_nI2 (by omega)) ?_
            refine Sem.seg [(.iload 5, 0, 0), (.iload 4, 0, 0), (.bipush 11, 0, 0)] ⟨⟨d33_49, trivial⟩, ⟨d33_51, trivial⟩, ⟨d33_53, trivial⟩, trivial⟩ (lv' := [(4, aN f.toInt.toNat), (7, aN ((p.toInt.toNat * 12) + c.toInt.toNat)), (3, aN n.toInt.toNat), (2, aN c.toInt.toNat), (1, aN p.toInt.toNat), (6, aR 19 c.toInt.toNat), (0, aR 0 0), (5, aI u)]) (st' := [aN 11, aN f.toInt.toNat, aI u]) (w' := wd N L) (P := []) rfl (trivial) (pc' := 55) rfl ?_
            by_cases h6 : ((f.toInt.toNat : Nat) : Int) ≤ u.toInt ∧ u.toInt ≤ ((11 : Nat) : Int)
            case neg =>
              refine Sem.cSx (as := [aI u, aN f.toInt.toNat, aN 11]) (rst := []) (c' := 5) (s' := 30) d33_55 mk26 rfl co26 lk4_54 ss26 (show 3 ≤ mL 26 by decide) rfl (show 0 ≤ 8 by decide) (by decide) (by decide) rfl rfl (by decide) (by decide) (m26x N L u f.toInt.toNat 11 (by omega) (by decide) (by omega)) ?_
              intro N_ L_ hq_
              rw [hq_.1, hq_.2]
              exact SemX.up rfl (by decide) (by decide) ⟨_, _, rfl, 1, by decide, rfl, by refine ⟨?_, by decide, fun _ _ _ _ => rfl, rfl⟩; show cLine N p c n f u = _; unfold cLine; have := bo_le (fitP N (p.toInt.toNat * 12 + c.toInt.toNat)); (repeat' split) <;> omega⟩
            case pos =>
              refine Sem.cSp0 (as := [aI u, aN f.toInt.toNat, aN 11]) (rst := []) (c' := 5) (s' := 30) d33_55 mk26 rfl co26 lk4_54 ss26 (show 3 ≤ mL 26 by decide) rfl (show 0 ≤ 8 by decide) (by decide) (by decide) rfl rfl (by decide) (by decide) (m26o N L u f.toInt.toNat 11 (by omega) (by decide) h6.1 h6.2) ?_
              refine Sem.seg [(.aload_n 0, 0, 0), (.getfield 18, 4, 1), (.iload 7, 0, 0)] ⟨⟨d33_58, trivial⟩, ⟨d33_59, gf4_18⟩, ⟨d33_62, trivial⟩, trivial⟩ (lv' := [(4, aN f.toInt.toNat), (7, aN ((p.toInt.toNat * 12) + c.toInt.toNat)), (3, aN n.toInt.toNat), (2, aN c.toInt.toNat), (1, aN p.toInt.toNat), (6, aR 19 c.toInt.toNat), (0, aR 0 0), (5, aI u)]) (st' := [aN ((p.toInt.toNat * 12) + c.toInt.toNat), aR 2 0]) (w' := wd N L) (P := [vld NN 0 0]) rfl (vN (t := 0) (i := 0) (by decide)) (pc' := 64) rfl ?_
              refine Sem.cVmN (t := 2) (i := 0) (as := [aN ((p.toInt.toNat * 12) + c.toInt.toNat)]) (rst := []) (c' := 5) (s' := 30) d33_64 mk38 rfl co38 lk4_105 im38 se38 rfl (vN (t := 2) (i := 0) (by decide)) (show 2 ≤ mL 38 by decide) rfl (show 0 ≤ 8 by decide) (by decide) (by decide) rfl rfl (by decide) (by decide) (m38 N L (p.toInt.toNat * 12 + c.toInt.toNat) (by omega) h9 h24) ?_
              rintro z N1 L1 ⟨rfl, f1, hz⟩
              have hz1 := bo_le (fitP N (p.toInt.toNat * 12 + c.toInt.toNat))
              refine Sem.ifN (tgt := 80) d33_67 (by decide) (show z < 2 ^ 31 by first | omega | exact Nat.lt_of_le_of_lt (bo_le _) (by decide)) (fun b7 => ?_) (fun b7 => ?_)
              · have b7_ : ¬ z = 0 := b7
                refine Sem.pick [7, 0, 1, 2, 3, 4, 5, 6] (lv' := [(5, aI u), (4, aN f.toInt.toNat), (7, aN ((p.toInt.toNat * 12) + c.toInt.toNat)), (3, aN n.toInt.toNat), (2, aN c.toInt.toNat), (1, aN p.toInt.toNat), (6, aR 19 c.toInt.toNat), (0, aR 0 0)]) rfl ?_
                refine Sem.loc0 (show u = nI u.toInt.toNat from i_nI2 (by omega)) ?_
                refine Sem.seg [(.aload_n 0, 0, 0), (.getfield 18, 4, 1), (.iload 7, 0, 0), (.iload_n 3, 0, 0), (.iload 4, 0, 0), (.iload 5, 0, 0)] ⟨⟨d33_80, trivial⟩, ⟨d33_81, gf4_18⟩, ⟨d33_84, trivial⟩, ⟨d33_86, trivial⟩, ⟨d33_87, trivial⟩, ⟨d33_89, trivial⟩, trivial⟩ (lv' := [(5, aN u.toInt.toNat), (4, aN f.toInt.toNat), (7, aN ((p.toInt.toNat * 12) + c.toInt.toNat)), (3, aN n.toInt.toNat), (2, aN c.toInt.toNat), (1, aN p.toInt.toNat), (6, aR 19 c.toInt.toNat), (0, aR 0 0)]) (st' := [aN u.toInt.toNat, aN f.toInt.toNat, aN n.toInt.toNat, aN ((p.toInt.toNat * 12) + c.toInt.toNat), aR 2 0]) (w' := wd N1 L) (P := [vld NN 0 0]) rfl (vN (t := 0) (i := 0) (by decide)) (pc' := 91) rfl ?_
                refine Sem.cVm0 (t := 2) (i := 0) (as := [aN ((p.toInt.toNat * 12) + c.toInt.toNat), aN n.toInt.toNat, aN f.toInt.toNat, aN u.toInt.toNat]) (rst := []) (c' := 5) (s' := 30) d33_91 mk39 rfl co39 lk4_116 im39 se39 rfl (vN (t := 2) (i := 0) (by decide)) (show 5 ≤ mL 39 by decide) rfl (show 0 ≤ 8 by decide) (by decide) (by decide) rfl rfl (by decide) (by decide) (m39 N1 L (p.toInt.toNat * 12 + c.toInt.toNat) n.toInt.toNat f.toInt.toNat u.toInt.toNat (by omega) (by omega) (fun j hj => by rw [f1 3 0 j (by decide)]; exact h9 j hj)) ?_
                rintro N3 L3 ⟨rfl, hln⟩
                refine Sem.seg [(.aload 6, 0, 0), (.iconst 1, 0, 0), (.putfield 71, 2, 10)] ⟨⟨d33_94, trivial⟩, ⟨d33_96, trivial⟩, ⟨d33_97, gf4_71⟩, trivial⟩ (lv' := [(5, aN u.toInt.toNat), (4, aN f.toInt.toNat), (7, aN ((p.toInt.toNat * 12) + c.toInt.toNat)), (3, aN n.toInt.toNat), (2, aN c.toInt.toNat), (1, aN p.toInt.toNat), (6, aR 19 c.toInt.toNat), (0, aR 0 0)]) (st' := []) (w' := wd (upN N3 19 c.toInt.toNat 10 1) L) (P := [vld NN 19 c.toInt.toNat, 1 = 0 ∨ 1 = 1]) rfl (⟨vN (t := 19) (i := c.toInt.toNat) (show c.toInt.toNat < 12 by first | omega | exact Nat.lt_of_le_of_lt (bo_le _) (by decide)), (show (1 : Nat) = 0 ∨ (1 : Nat) = 1 by decide)⟩) (pc' := 100) rfl ?_
                exact Sem.vret d33_100 rfl (by decide) (by decide) hzW ⟨_, _, rfl, by refine ⟨?_, rfl, ⟨N3, LN_7 f1 hln, rfl⟩, rfl⟩; unfold cLine; have := bo_le (fitP N (p.toInt.toNat * 12 + c.toInt.toNat)); (repeat' split) <;> omega⟩
              · have b7_ : ¬ (¬ z = 0) := b7
                exact Sem.thr 2 (by decide) (text := "no place for such a line") rfl d33_70 d33_73 d33_74 d33_76 d33_79 cl4_109 inE2 itE2 (List.mem_of_getElem? (i := 3) rfl) lk4_113 rfl (by decide) (by decide) (by decide) (by decide) rfl ⟨_, _, rfl, 2, by decide, rfl, by refine ⟨?_, by decide, f1, rfl⟩; show cLine N p c n f u = _; unfold cLine; have := bo_le (fitP N (p.toInt.toNat * 12 + c.toInt.toNat)); (repeat' split) <;> omega⟩
        · have b4_ : ¬ (¬ n.toInt.toNat = 0) := b4
          refine Sem.seg [(.aload_n 0, 0, 0), (.getfield 18, 4, 1), (.iload 7, 0, 0)] ⟨⟨d33_29, trivial⟩, ⟨d33_30, gf4_18⟩, ⟨d33_33, trivial⟩, trivial⟩ (lv' := [(7, aN ((p.toInt.toNat * 12) + c.toInt.toNat)), (3, aN n.toInt.toNat), (2, aN c.toInt.toNat), (1, aN p.toInt.toNat), (6, aR 19 c.toInt.toNat), (0, aR 0 0), (4, aI f), (5, aI u)]) (st' := [aN ((p.toInt.toNat * 12) + c.toInt.toNat), aR 2 0]) (w' := wd N L) (P := [vld NN 0 0]) rfl (vN (t := 0) (i := 0) (by decide)) (pc' := 35) rfl ?_
          refine Sem.cVm0 (t := 2) (i := 0) (as := [aN ((p.toInt.toNat * 12) + c.toInt.toNat)]) (rst := []) (c' := 3) (s' := 18) d33_35 mk34 rfl co34 lk4_102 im34 se34 rfl (vN (t := 2) (i := 0) (by decide)) (show 2 ≤ mL 34 by decide) rfl (show 0 ≤ 8 by decide) (by decide) (by decide) rfl rfl (by decide) (by decide) (m34 N L (p.toInt.toNat * 12 + c.toInt.toNat) (by omega) h9 (fun q => by have := smN_ge (f := fun c => if N 3 0 c = 0 then 0 else 1) (n := 144) (k := p.toInt.toNat * 12 + c.toInt.toNat) (by omega); rw [if_neg (by omega)] at this; rw [hl]; exact this)) ?_
          rintro N3 L3 ⟨rfl, hln⟩
          refine Sem.goto (tgt := 94) d33_38 (by decide) ?_
          refine Sem.seg [(.aload 6, 0, 0), (.iconst 1, 0, 0), (.putfield 71, 2, 10)] ⟨⟨d33_94, trivial⟩, ⟨d33_96, trivial⟩, ⟨d33_97, gf4_71⟩, trivial⟩ (lv' := [(7, aN ((p.toInt.toNat * 12) + c.toInt.toNat)), (3, aN n.toInt.toNat), (2, aN c.toInt.toNat), (1, aN p.toInt.toNat), (6, aR 19 c.toInt.toNat), (0, aR 0 0), (4, aI f), (5, aI u)]) (st' := []) (w' := wd (upN N3 19 c.toInt.toNat 10 1) L) (P := [vld NN 19 c.toInt.toNat, 1 = 0 ∨ 1 = 1]) rfl (⟨vN (t := 19) (i := c.toInt.toNat) (show c.toInt.toNat < 12 by first | omega | exact Nat.lt_of_le_of_lt (bo_le _) (by decide)), (show (1 : Nat) = 0 ∨ (1 : Nat) = 1 by decide)⟩) (pc' := 100) rfl ?_
          exact Sem.vret d33_100 rfl (by decide) (by decide) hzW ⟨_, _, rfl, by refine ⟨?_, rfl, ⟨N3, LN_z (by omega) hln, rfl⟩, rfl⟩; unfold cLine; have := bo_le (fitP N (p.toInt.toNat * 12 + c.toInt.toNat)); (repeat' split) <;> omega⟩

