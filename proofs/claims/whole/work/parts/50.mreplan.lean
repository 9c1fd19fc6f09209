-- ===== the model: replanning =====
theorem m105 {sc : XT} (N : TN) (L : TL) (hc : CD (mN N)) (hlv : LvOk (mN N) (N 6 0)) (h19 : N 23 0 19 ≤ 1) (h41 : ∀ i, i < 12 → N 41 0 i ≤ 1) : Sem sc 105 0 [(0, aR 23 0)] [] (wd N L) 0 0 (QZ fun z N' L' => z = (rpL (N 6 0) (mN N, mW L, 0) 5).2.2 ∧ (∀ t a b, t ≠ 41 → ¬ (t = 23 ∧ (b = 0 ∨ b = 19 ∨ b = 20)) → N' t a b = N t a b) ∧ N' 23 0 0 = 0 ∧ N' 23 0 19 = 1 ∧ N' 23 0 20 = 0 ∧ (∀ i, i < 12 → N' 41 0 i = 0) ∧ (∀ i w, i < 12 → w < 12 → L' 42 0 (12 * i + w) = (rpL (N 6 0) (mN N, mW L, 0) 5).2.1 20 i w ∧ L' 43 0 (12 * i + w) = (rpL (N 6 0) (mN N, mW L, 0) 5).2.1 21 i w) ∧ (∀ t a b, t ≠ 42 → t ≠ 43 → t ≠ 44 → t ≠ 45 → t ≠ 46 → L' t a b = L t a b)) := by
  have h34 : ∀ c, c < 144 → N 34 0 c ≤ 9 := hc.2.2.2.1
  refine Sem.seg [(.aload_n 0, 0, 0), (.iconst 0, 0, 0), (.putfield 85, 5, 0), (.iconst 0, 0, 0), (.istore_n 1, 0, 0), (.iconst 0, 0, 0), (.istore_n 2, 0, 0)] ⟨⟨d105_0, trivial⟩, ⟨d105_1, trivial⟩, ⟨d105_2, gf5_85⟩, ⟨d105_5, trivial⟩, ⟨d105_6, trivial⟩, ⟨d105_7, trivial⟩, ⟨d105_8, trivial⟩, trivial⟩ (lv' := [(2, aN 0), (1, aN 0), (0, aR 23 0)]) (st' := []) (w' := wd (upN N 23 0 0 0) L) (P := [vld NN 23 0]) rfl (vN (t := 23) (i := 0) (by decide)) (pc' := 9) rfl ?_
  have lpa : ∀ (d : Nat) (l c : Nat) (N1 : TN) (L1 : TL), 5 - l = d → (l ≤ 5) → (c = (rpL (N 6 0) (mN N, mW L, 0) l).2.2) → (RM N1 L1 (rpL (N 6 0) (mN N, mW L, 0) l) (fun i => l ≤ N 6 0 i)) → ((∀ t a b, t ≠ 41 → ¬ (t = 23 ∧ (b = 0 ∨ b = 19 ∨ b = 20)) → N1 t a b = N t a b)) → (N1 23 0 0 = 0) → (N1 23 0 19 = N 23 0 19) → (∀ i, i < 12 → (N 6 0 i < l) → N1 41 0 i = 0) → (∀ i, i < 12 → N1 41 0 i ≤ 1) → ((∀ t a b, t ≠ 42 → t ≠ 43 → t ≠ 44 → t ≠ 45 → t ≠ 46 → L1 t a b = L t a b)) → Sem sc 105 9 [(0, aR 23 0), (1, aN c), (2, aN l)] [] (wd N1 L1) 0 0 (QZ fun z N' L' => z = (rpL (N 6 0) (mN N, mW L, 0) 5).2.2 ∧ (∀ t a b, t ≠ 41 → ¬ (t = 23 ∧ (b = 0 ∨ b = 19 ∨ b = 20)) → N' t a b = N t a b) ∧ N' 23 0 0 = 0 ∧ N' 23 0 19 = 1 ∧ N' 23 0 20 = 0 ∧ (∀ i, i < 12 → N' 41 0 i = 0) ∧ (∀ i w, i < 12 → w < 12 → L' 42 0 (12 * i + w) = (rpL (N 6 0) (mN N, mW L, 0) 5).2.1 20 i w ∧ L' 43 0 (12 * i + w) = (rpL (N 6 0) (mN N, mW L, 0) 5).2.1 21 i w) ∧ (∀ t a b, t ≠ 42 → t ≠ 43 → t ≠ 44 → t ≠ 45 → t ≠ 46 → L' t a b = L t a b)) := by
    intro da
    induction da using Nat.strongRecOn with
    | ind da iha =>
      intro l c N1 L1 hda hl hca hRa fNa g0a g19a g41a k41a fLa
      refine Sem.seg [(.iload_n 2, 0, 0), (.iconst 5, 0, 0)] ⟨⟨d105_9, trivial⟩, ⟨d105_10, trivial⟩, trivial⟩ (lv' := [(0, aR 23 0), (1, aN c), (2, aN l)]) (st' := [aN 5, aN l]) (w' := wd N1 L1) (P := []) rfl (trivial) (pc' := 11) rfl ?_
      refine Sem.icmpN (tgt := 59) d105_11 (by decide) (show l < 2 ^ 31 by omega) (by decide) (fun b1 => ?_) (fun b1 => ?_)
      · have b1_ : 5 ≤ l := b1
        obtain rfl : l = 5 := by omega
        refine Sem.seg [(.aload_n 0, 0, 0), (.iconst 1, 0, 0), (.putfield 167, 5, 19), (.aload_n 0, 0, 0), (.iconst 0, 0, 0), (.putfield 61, 5, 20), (.iload_n 1, 0, 0)] ⟨⟨d105_59, trivial⟩, ⟨d105_60, trivial⟩, ⟨d105_61, gf5_167⟩, ⟨d105_64, trivial⟩, ⟨d105_65, trivial⟩, ⟨d105_66, gf5_61⟩, ⟨d105_69, trivial⟩, trivial⟩ (lv' := [(0, aR 23 0), (1, aN c), (2, aN 5)]) (st' := [aN c]) (w' := wd (upN (upN N1 23 0 19 1) 23 0 20 0) L1) (P := [vld NN 23 0, 1 = 0 ∨ 1 = 1, vld NN 23 0, 0 = 0 ∨ 0 = 1]) rfl (⟨vN (t := 23) (i := 0) (by decide), (show (1 : Nat) = 0 ∨ (1 : Nat) = 1 by decide), vN (t := 23) (i := 0) (by decide), (show (0 : Nat) = 0 ∨ (0 : Nat) = 1 by decide)⟩) (pc' := 70) rfl ?_
        refine Sem.iret rfl d105_70 (Or.inl rfl) (by decide) (by decide) hzW ⟨_, _, _, rfl, rfl, ?_⟩
        refine ⟨hca, fun t a b h1 h2 => by rw [upN_ne (by omega), upN_ne (by omega)]; exact fNa t a b h1 h2, by rw [upN_ne (by omega), upN_ne (by omega)]; exact g0a, by rw [upN_ne (by omega)]; exact upN_at, upN_at, fun i hi => by rw [upN_ne (by omega), upN_ne (by omega)]; exact g41a i hi (by have := (hlv i hi).1; omega), hRa.2.2, fLa⟩
        skip
      · have b1_ : ¬ (5 ≤ l) := b1
        refine Sem.seg [(.iconst 0, 0, 0), (.istore_n 3, 0, 0)] ⟨⟨d105_14, trivial⟩, ⟨d105_15, trivial⟩, trivial⟩ (lv' := [(3, aN 0), (0, aR 23 0), (1, aN c), (2, aN l)]) (st' := []) (w' := wd N1 L1) (P := []) rfl (trivial) (pc' := 16) rfl ?_
        have lpb : ∀ (d : Nat) (n c : Nat) (N2 : TN) (L2 : TL), 12 - n = d → (n ≤ 12) → (c = (rpI (N 6 0) l (rpL (N 6 0) (mN N, mW L, 0) l) n).2.2) → (RM N2 L2 (rpI (N 6 0) l (rpL (N 6 0) (mN N, mW L, 0) l) n) (fun i => l < N 6 0 i ∨ (N 6 0 i = l ∧ n ≤ i))) → ((∀ t a b, t ≠ 41 → ¬ (t = 23 ∧ (b = 0 ∨ b = 19 ∨ b = 20)) → N2 t a b = N t a b)) → (N2 23 0 0 = 0) → (N2 23 0 19 = N 23 0 19) → (∀ i, i < 12 → (N 6 0 i < l ∨ (N 6 0 i = l ∧ i < n)) → N2 41 0 i = 0) → (∀ i, i < 12 → N2 41 0 i ≤ 1) → ((∀ t a b, t ≠ 42 → t ≠ 43 → t ≠ 44 → t ≠ 45 → t ≠ 46 → L2 t a b = L t a b)) → Sem sc 105 16 [(0, aR 23 0), (1, aN c), (2, aN l), (3, aN n)] [] (wd N2 L2) 0 0 (QZ fun z N' L' => z = (rpL (N 6 0) (mN N, mW L, 0) 5).2.2 ∧ (∀ t a b, t ≠ 41 → ¬ (t = 23 ∧ (b = 0 ∨ b = 19 ∨ b = 20)) → N' t a b = N t a b) ∧ N' 23 0 0 = 0 ∧ N' 23 0 19 = 1 ∧ N' 23 0 20 = 0 ∧ (∀ i, i < 12 → N' 41 0 i = 0) ∧ (∀ i w, i < 12 → w < 12 → L' 42 0 (12 * i + w) = (rpL (N 6 0) (mN N, mW L, 0) 5).2.1 20 i w ∧ L' 43 0 (12 * i + w) = (rpL (N 6 0) (mN N, mW L, 0) 5).2.1 21 i w) ∧ (∀ t a b, t ≠ 42 → t ≠ 43 → t ≠ 44 → t ≠ 45 → t ≠ 46 → L' t a b = L t a b)) := by
          intro db
          induction db using Nat.strongRecOn with
          | ind db ihb =>
            intro n c N2 L2 hdb hn hcb hRb fNb g0b g19b g41b k41b fLb
            refine Sem.seg [(.iload_n 3, 0, 0), (.bipush 12, 0, 0)] ⟨⟨d105_16, trivial⟩, ⟨d105_17, trivial⟩, trivial⟩ (lv' := [(0, aR 23 0), (1, aN c), (2, aN l), (3, aN n)]) (st' := [aN 12, aN n]) (w' := wd N2 L2) (P := []) rfl (trivial) (pc' := 19) rfl ?_
            refine Sem.icmpN (tgt := 53) d105_19 (by decide) (show n < 2 ^ 31 by omega) (by decide) (fun b2 => ?_) (fun b2 => ?_)
            · have b2_ : 12 ≤ n := b2
              obtain rfl : n = 12 := by omega
              refine Sem.seg [(.iinc 2 1, 0, 0)] ⟨⟨d105_53, trivial⟩, trivial⟩ (lv' := [(2, aN (l + 1)), (0, aR 23 0), (1, aN c), (3, aN 12)]) (st' := []) (w' := wd N2 L2) (P := []) rfl (trivial) (pc' := 56) rfl ?_
              refine Sem.goto (tgt := 9) d105_56 (by decide) ?_
              refine Sem.pick [1, 2, 0] (lv' := [(0, aR 23 0), (1, aN c), (2, aN (l + 1))]) rfl ?_
              exact iha _ (by omega) (l + 1) c N2 L2 rfl (by omega) (hcb) (hRb.wk (fun i q => Or.inl (by omega))) (fNb) (g0b) (g19b) (fun i hi q => g41b i hi (by omega)) (k41b) (fLb)
            · have b2_ : ¬ (12 ≤ n) := b2
              have eE : eg (mN N2) = eg (mN N) := by
                funext p q
                show (0 < N2 34 0 _) = (0 < N 34 0 _)
                rw [fNb 34 0 _ (by decide) (by omega)]
              obtain ⟨v1, v2, v3⟩ := hlv n (by omega)
              refine Sem.seg [(.aload_n 0, 0, 0), (.iload_n 3, 0, 0)] ⟨⟨d105_22, trivial⟩, ⟨d105_23, trivial⟩, trivial⟩ (lv' := [(0, aR 23 0), (1, aN c), (2, aN l), (3, aN n)]) (st' := [aN n, aR 23 0]) (w' := wd N2 L2) (P := []) rfl (trivial) (pc' := 24) rfl ?_
              refine Sem.cVmN (t := 23) (i := 0) (as := [aN n]) (rst := []) (c' := 0) (s' := 0) d105_24 mk98 rfl co98 lk5_105 im98 se98 rfl (vN (t := 23) (i := 0) (by decide)) (show 2 ≤ mL 98 by decide) rfl (show 0 ≤ 8 by decide) (by decide) (by decide) rfl rfl (by decide) (by decide) (m98 N2 L2 n (by omega) (fun q hq => by rw [fNb 34 0 q (by decide) (by omega)]; exact h34 q hq)) ?_
              rintro zl N9 L9 ⟨rfl, rfl, hv⟩
              rw [eE] at hv
              have ezl : zl = N 6 0 n := LVv_lv hv v1 v2 v3
              refine Sem.topNN (show zl = N 6 0 n from ezl) ?_
              refine Sem.seg [(.iload_n 2, 0, 0)] ⟨⟨d105_27, trivial⟩, trivial⟩ (lv' := [(0, aR 23 0), (1, aN c), (2, aN l), (3, aN n)]) (st' := [aN l, aN (N 6 0 n)]) (w' := wd N2 L2) (P := []) rfl (trivial) (pc' := 28) rfl ?_
              refine Sem.icmpN (tgt := 47) d105_28 (by decide) (show N 6 0 n < 2 ^ 31 by omega) (show l < 2 ^ 31 by omega) (fun b3 => ?_) (fun b3 => ?_)
              · have b3_ : ¬ N 6 0 n = l := b3
                refine Sem.seg [(.iinc 3 1, 0, 0)] ⟨⟨d105_47, trivial⟩, trivial⟩ (lv' := [(3, aN (n + 1)), (0, aR 23 0), (1, aN c), (2, aN l)]) (st' := []) (w' := wd N2 L2) (P := []) rfl (trivial) (pc' := 50) rfl ?_
                refine Sem.goto (tgt := 16) d105_50 (by decide) ?_
                refine Sem.pick [1, 2, 3, 0] (lv' := [(0, aR 23 0), (1, aN c), (2, aN l), (3, aN (n + 1))]) rfl ?_
                exact ihb _ (by omega) (n + 1) c N2 L2 rfl (by omega) (by simp only [rpI]; rw [if_neg (by omega)]; exact hcb) (by simp only [rpI]; rw [if_neg (by omega)]; exact hRb.wk (fun i q => by omega)) (fNb) (g0b) (g19b) (fun i hi q => g41b i hi (by by_cases e : i = n; (subst e; omega); omega)) (k41b) (fLb)
              · have b3_ : ¬ (¬ N 6 0 n = l) := b3
                refine Sem.seg [(.aload_n 0, 0, 0), (.iload_n 3, 0, 0)] ⟨⟨d105_31, trivial⟩, ⟨d105_32, trivial⟩, trivial⟩ (lv' := [(0, aR 23 0), (1, aN c), (2, aN l), (3, aN n)]) (st' := [aN n, aR 23 0]) (w' := wd N2 L2) (P := []) rfl (trivial) (pc' := 33) rfl ?_
                refine Sem.cVmN (t := 23) (i := 0) (as := [aN n]) (rst := []) (c' := 0) (s' := 0) d105_33 mk106 rfl co106 lk5_176 im106 se106 rfl (vN (t := 23) (i := 0) (by decide)) (show 2 ≤ mL 106 by decide) rfl (show 0 ≤ 8 by decide) (by decide) (by decide) rfl rfl (by decide) (by decide) (m106 N2 L2 n (by omega) (hc.of (SD_m (fun t a b h1 h2 => fNb t a b h2 (by omega))) (fun i hi => by show (if N2 23 0 19 = 0 then 1 else N2 41 0 i) ≤ 1; have := k41b i hi; split <;> omega) (by show N2 23 0 14 ≤ 24; rw [fNb 23 0 14 (by decide) (by omega)]; exact hc.2.2.1)) (by rw [g19b]; exact h19) (k41b n (by omega))) ?_
                rintro z N3 L3 hpm
                obtain ⟨r1, r2⟩ := hpm.rm (by omega) (by omega) hRb
                have hz1 : z ≤ 1 := by rw [hpm.2.2.2]; exact bo_le _
                refine Sem.ifN (tgt := 45) d105_36 (by decide) (show z < 2 ^ 31 by omega) (fun b4 => ?_) (fun b4 => ?_)
                · have b4_ : z = 0 := b4
                  refine Sem.seg [(.iload_n 1, 0, 0), (.istore_n 1, 0, 0), (.iinc 3 1, 0, 0)] ⟨⟨d105_45, trivial⟩, ⟨d105_46, trivial⟩, ⟨d105_47, trivial⟩, trivial⟩ (lv' := [(3, aN (n + 1)), (1, aN c), (0, aR 23 0), (2, aN l)]) (st' := []) (w' := wd N3 L3) (P := []) rfl (trivial) (pc' := 50) rfl ?_
                  refine Sem.goto (tgt := 16) d105_50 (by decide) ?_
                  refine Sem.pick [2, 1, 3, 0] (lv' := [(0, aR 23 0), (1, aN c), (2, aN l), (3, aN (n + 1))]) rfl ?_
                  exact ihb _ (by omega) (n + 1) c N3 L3 rfl (by omega) (by simp only [rpI]; rw [if_pos (by omega), r2, ← hcb]; omega) (by simp only [rpI]; rw [if_pos (by omega)]; exact r1.wk (fun i q => ⟨by omega, fun e => by subst e; omega⟩)) (fun t a b h1 h2 => by rw [hpm.1, upN_ne (by omega)]; exact fNb t a b h1 h2) (by rw [hpm.1, upN_ne (by omega)]; exact g0b) (by rw [hpm.1, upN_ne (by omega)]; exact g19b) (fun i hi q => by rw [hpm.1]; by_cases e : i = n; (subst e; exact upN_at); rw [upN_ne (by omega)]; exact g41b i hi (by omega)) (fun i hi => by rw [hpm.1]; by_cases e : i = n; (subst e; rw [upN_at]; omega); rw [upN_ne (by omega)]; exact k41b i hi) (fun t a b h1 h2 h3 h4 h5 => (hpm.2.1 t a b h3 h4 h5 (by omega) (by omega)).trans (fLb t a b h1 h2 h3 h4 h5))
                · have b4_ : ¬ (z = 0) := b4
                  refine Sem.seg [(.iload_n 1, 0, 0), (.iconst 1, 0, 0), (.iadd, 0, 0)] ⟨⟨d105_39, trivial⟩, ⟨d105_40, trivial⟩, ⟨d105_41, trivial⟩, trivial⟩ (lv' := [(0, aR 23 0), (1, aN c), (2, aN l), (3, aN n)]) (st' := [aN (c + 1)]) (w' := wd N3 L3) (P := []) rfl (trivial) (pc' := 42) rfl ?_
                  refine Sem.goto (tgt := 46) d105_42 (by decide) ?_
                  refine Sem.seg [(.istore_n 1, 0, 0), (.iinc 3 1, 0, 0)] ⟨⟨d105_46, trivial⟩, ⟨d105_47, trivial⟩, trivial⟩ (lv' := [(3, aN (n + 1)), (1, aN (c + 1)), (0, aR 23 0), (2, aN l)]) (st' := []) (w' := wd N3 L3) (P := []) rfl (trivial) (pc' := 50) rfl ?_
                  refine Sem.goto (tgt := 16) d105_50 (by decide) ?_
                  refine Sem.pick [2, 1, 3, 0] (lv' := [(0, aR 23 0), (1, aN (c + 1)), (2, aN l), (3, aN (n + 1))]) rfl ?_
                  exact ihb _ (by omega) (n + 1) (c + 1) N3 L3 rfl (by omega) (by simp only [rpI]; rw [if_pos (by omega), r2, ← hcb]; omega) (by simp only [rpI]; rw [if_pos (by omega)]; exact r1.wk (fun i q => ⟨by omega, fun e => by subst e; omega⟩)) (fun t a b h1 h2 => by rw [hpm.1, upN_ne (by omega)]; exact fNb t a b h1 h2) (by rw [hpm.1, upN_ne (by omega)]; exact g0b) (by rw [hpm.1, upN_ne (by omega)]; exact g19b) (fun i hi q => by rw [hpm.1]; by_cases e : i = n; (subst e; exact upN_at); rw [upN_ne (by omega)]; exact g41b i hi (by omega)) (fun i hi => by rw [hpm.1]; by_cases e : i = n; (subst e; rw [upN_at]; omega); rw [upN_ne (by omega)]; exact k41b i hi) (fun t a b h1 h2 h3 h4 h5 => (hpm.2.1 t a b h3 h4 h5 (by omega) (by omega)).trans (fLb t a b h1 h2 h3 h4 h5))
        refine Sem.pick [1, 2, 3, 0] (lv' := [(0, aR 23 0), (1, aN c), (2, aN l), (3, aN 0)]) rfl ?_
        exact lpb _ 0 c N1 L1 rfl (by omega) (hca) (hRa.wk (fun i q => by omega)) (fNa) (g0a) (g19a) (fun i hi q => g41a i hi (by omega)) (k41a) (fLa)
  refine Sem.pick [2, 1, 0] (lv' := [(0, aR 23 0), (1, aN 0), (2, aN 0)]) rfl ?_
  exact lpa _ 0 0 (upN N 23 0 0 0) L rfl (by omega) (rfl) (⟨SD_m (fun t a b h1 h2 => upN_ne (by omega)), fun i hi _ => rfl, fun _ _ _ _ => ⟨rfl, rfl⟩⟩) (fun t a b h1 h2 => upN_ne (by omega)) (upN_at) (upN_ne (by omega)) (fun i hi q => by omega) (fun i hi => by rw [upN_ne (by omega)]; exact h41 i hi) (fun _ _ _ _ _ _ _ _ => rfl)

