-- ===== the class: replanning =====
theorem RA.cd {N N' : TN} {L L' : TL} {i z : Nat} (hc : CD N) (h : PA N L i z N' L') : CD N' := by
  refine hc.of h.sd (fun a ha => ?_) (by rw [h.1 2 0 5 (by omega) (by omega)]; exact hc.2.2.1)
  by_cases e : a = i
  · subst e; rw [h.2.1]; omega
  · rw [h.1 19 a 10 (by omega) (by omega)]; exact (hc.1 a ha).2.2.2.2.2.2.2.2.2.2.2

theorem m5 {sc : XT} (N : TN) (L : TL) (hc : CD N) (hp : PC N L) : Sem sc 5 0 [(0, aR 0 0)] [] (wd N L) 0 0 (QZ fun z N' L' => z = (rpL (N 6 0) (N, L, 0) 5).2.2 ∧ RA N' L' (rpL (N 6 0) (N, L, 0) 5) ∧ PC N' L' ∧ (∀ t a b, t ≠ 16 → ¬ (t = 19 ∧ a < 12 ∧ b = 10) → N' t a b = N t a b) ∧ (∀ t a b, t ≠ 13 → t ≠ 14 → t ≠ 15 → t ≠ 17 → t ≠ 18 → t ≠ 20 → t ≠ 21 → t ≠ 22 → L' t a b = L t a b) ∧ CD N') := by
  refine Sem.seg [(.iconst 0, 0, 0), (.istore_n 1, 0, 0), (.iconst 0, 0, 0), (.istore_n 2, 0, 0)] ⟨⟨d5_0, trivial⟩, ⟨d5_1, trivial⟩, ⟨d5_2, trivial⟩, ⟨d5_3, trivial⟩, trivial⟩ (lv' := [(2, aN 0), (1, aN 0), (0, aR 0 0)]) (st' := []) (w' := wd N L) (P := []) rfl (trivial) (pc' := 4) rfl ?_
  have lpa : ∀ (d : Nat) (l c : Nat) (N1 : TN) (L1 : TL), 5 - l = d → (l ≤ 5) → (c = (rpL (N 6 0) (N, L, 0) l).2.2) → (RA N1 L1 (rpL (N 6 0) (N, L, 0) l)) → (PC N1 L1) → ((∀ t a b, t ≠ 16 → ¬ (t = 19 ∧ a < 12 ∧ b = 10) → N1 t a b = N t a b)) → ((∀ t a b, t ≠ 13 → t ≠ 14 → t ≠ 15 → t ≠ 17 → t ≠ 18 → t ≠ 20 → t ≠ 21 → t ≠ 22 → L1 t a b = L t a b)) → (CD N1) → Sem sc 5 4 [(0, aR 0 0), (1, aN c), (2, aN l)] [] (wd N1 L1) 0 0 (QZ fun z N' L' => z = (rpL (N 6 0) (N, L, 0) 5).2.2 ∧ RA N' L' (rpL (N 6 0) (N, L, 0) 5) ∧ PC N' L' ∧ (∀ t a b, t ≠ 16 → ¬ (t = 19 ∧ a < 12 ∧ b = 10) → N' t a b = N t a b) ∧ (∀ t a b, t ≠ 13 → t ≠ 14 → t ≠ 15 → t ≠ 17 → t ≠ 18 → t ≠ 20 → t ≠ 21 → t ≠ 22 → L' t a b = L t a b) ∧ CD N') := by
    intro da
    induction da using Nat.strongRecOn with
    | ind da iha =>
      intro l c N1 L1 hda hl hca hR1 hP1 fN1 fL1 hc1
      refine Sem.seg [(.iload_n 2, 0, 0), (.iconst 4, 0, 0)] ⟨⟨d5_4, trivial⟩, ⟨d5_5, trivial⟩, trivial⟩ (lv' := [(0, aR 0 0), (1, aN c), (2, aN l)]) (st' := [aN 4, aN l]) (w' := wd N1 L1) (P := []) rfl (trivial) (pc' := 6) rfl ?_
      refine Sem.icmpN (tgt := 53) d5_6 (by decide) (show l < 2 ^ 31 by omega) (by decide) (fun b1 => ?_) (fun b1 => ?_)
      · have b1_ : 4 < l := b1
        obtain rfl : l = 5 := by omega
        refine Sem.seg [(.iload_n 1, 0, 0)] ⟨⟨d5_53, trivial⟩, trivial⟩ (lv' := [(0, aR 0 0), (1, aN c), (2, aN 5)]) (st' := [aN c]) (w' := wd N1 L1) (P := []) rfl (trivial) (pc' := 54) rfl ?_
        exact Sem.iret rfl d5_54 (Or.inl rfl) (by decide) (by decide) hzW ⟨_, _, _, rfl, rfl, by exact ⟨hca, hR1, hP1, fN1, fL1, hc1⟩⟩
      · have b1_ : ¬ (4 < l) := b1
        refine Sem.seg [(.iconst 0, 0, 0), (.istore_n 3, 0, 0)] ⟨⟨d5_9, trivial⟩, ⟨d5_10, trivial⟩, trivial⟩ (lv' := [(3, aN 0), (0, aR 0 0), (1, aN c), (2, aN l)]) (st' := []) (w' := wd N1 L1) (P := []) rfl (trivial) (pc' := 11) rfl ?_
        have lpb : ∀ (d : Nat) (n c : Nat) (N2 : TN) (L2 : TL), 12 - n = d → (n ≤ 12) → (c = (rpI (N 6 0) l (rpL (N 6 0) (N, L, 0) l) n).2.2) → (RA N2 L2 (rpI (N 6 0) l (rpL (N 6 0) (N, L, 0) l) n)) → (PC N2 L2) → ((∀ t a b, t ≠ 16 → ¬ (t = 19 ∧ a < 12 ∧ b = 10) → N2 t a b = N t a b)) → ((∀ t a b, t ≠ 13 → t ≠ 14 → t ≠ 15 → t ≠ 17 → t ≠ 18 → t ≠ 20 → t ≠ 21 → t ≠ 22 → L2 t a b = L t a b)) → (CD N2) → Sem sc 5 11 [(0, aR 0 0), (1, aN c), (2, aN l), (3, aN n)] [] (wd N2 L2) 0 0 (QZ fun z N' L' => z = (rpL (N 6 0) (N, L, 0) 5).2.2 ∧ RA N' L' (rpL (N 6 0) (N, L, 0) 5) ∧ PC N' L' ∧ (∀ t a b, t ≠ 16 → ¬ (t = 19 ∧ a < 12 ∧ b = 10) → N' t a b = N t a b) ∧ (∀ t a b, t ≠ 13 → t ≠ 14 → t ≠ 15 → t ≠ 17 → t ≠ 18 → t ≠ 20 → t ≠ 21 → t ≠ 22 → L' t a b = L t a b) ∧ CD N') := by
          intro db
          induction db using Nat.strongRecOn with
          | ind db ihb =>
            intro n c N2 L2 hdb hn hcb hR2 hP2 fN2 fL2 hc2
            refine Sem.seg [(.iload_n 3, 0, 0), (.bipush 12, 0, 0)] ⟨⟨d5_11, trivial⟩, ⟨d5_12, trivial⟩, trivial⟩ (lv' := [(0, aR 0 0), (1, aN c), (2, aN l), (3, aN n)]) (st' := [aN 12, aN n]) (w' := wd N2 L2) (P := []) rfl (trivial) (pc' := 14) rfl ?_
            refine Sem.icmpN (tgt := 47) d5_14 (by decide) (show n < 2 ^ 31 by omega) (by decide) (fun b2 => ?_) (fun b2 => ?_)
            · have b2_ : 12 ≤ n := b2
              obtain rfl : n = 12 := by omega
              refine Sem.seg [(.iinc 2 1, 0, 0)] ⟨⟨d5_47, trivial⟩, trivial⟩ (lv' := [(2, aN (l + 1)), (0, aR 0 0), (1, aN c), (3, aN 12)]) (st' := []) (w' := wd N2 L2) (P := []) rfl (trivial) (pc' := 50) rfl ?_
              refine Sem.goto (tgt := 4) d5_50 (by decide) ?_
              refine Sem.pick [1, 2, 0] (lv' := [(0, aR 0 0), (1, aN c), (2, aN (l + 1))]) rfl ?_
              exact iha _ (by omega) (l + 1) c N2 L2 rfl (by omega) (hcb) (hR2) (hP2) (fN2) (fL2) (hc2)
            · have b2_ : ¬ (12 ≤ n) := b2
              have e6 : N2 6 0 n = N 6 0 n := fN2 6 0 n (by omega) (by omega)
              have e4 : N 6 0 n ≤ 4 := hc.2.2.2.2.2 n (by omega)
              refine Sem.seg [(.aload_n 0, 0, 0), (.getfield 18, 4, 1), (.getfield 137, 0, 3), (.iload_n 3, 0, 0), (.iaload, 0, 0), (.iload_n 2, 0, 0)] ⟨⟨d5_17, trivial⟩, ⟨d5_18, gf4_18⟩, ⟨d5_21, gf4_137⟩, ⟨d5_24, trivial⟩, ⟨d5_25, trivial⟩, ⟨d5_26, trivial⟩, trivial⟩ (lv' := [(0, aR 0 0), (1, aN c), (2, aN l), (3, aN n)]) (st' := [aN l, aN (N2 6 0 n)]) (w' := wd N2 L2) (P := [vld NN 0 0, vld NN 2 0, vld NN 6 0, n < 12]) rfl (⟨vN (t := 0) (i := 0) (by decide), vN (t := 2) (i := 0) (by decide), vN (t := 6) (i := 0) (by decide), (show n < 12 by omega)⟩) (pc' := 27) rfl ?_
              refine Sem.icmpN (tgt := 41) d5_27 (by decide) (show N2 6 0 n < 2 ^ 31 by omega) (show l < 2 ^ 31 by omega) (fun b3 => ?_) (fun b3 => ?_)
              · have b3_ : ¬ N2 6 0 n = l := b3
                refine Sem.seg [(.iinc 3 1, 0, 0)] ⟨⟨d5_41, trivial⟩, trivial⟩ (lv' := [(3, aN (n + 1)), (0, aR 0 0), (1, aN c), (2, aN l)]) (st' := []) (w' := wd N2 L2) (P := []) rfl (trivial) (pc' := 44) rfl ?_
                refine Sem.goto (tgt := 11) d5_44 (by decide) ?_
                refine Sem.pick [1, 2, 3, 0] (lv' := [(0, aR 0 0), (1, aN c), (2, aN l), (3, aN (n + 1))]) rfl ?_
                exact ihb _ (by omega) (n + 1) c N2 L2 rfl (by omega) (by simp only [rpI]; rw [if_neg (by omega)]; exact hcb) (by simp only [rpI]; rw [if_neg (by omega)]; exact hR2) (hP2) (fN2) (fL2) (hc2)
              · have b3_ : ¬ (¬ N2 6 0 n = l) := b3
                refine Sem.seg [(.aload_n 0, 0, 0), (.iload_n 3, 0, 0)] ⟨⟨d5_30, trivial⟩, ⟨d5_31, trivial⟩, trivial⟩ (lv' := [(0, aR 0 0), (1, aN c), (2, aN l), (3, aN n)]) (st' := [aN n, aR 0 0]) (w' := wd N2 L2) (P := []) rfl (trivial) (pc' := 32) rfl ?_
                refine Sem.cVmN (t := 0) (i := 0) (as := [aN n]) (rst := []) (c' := 0) (s' := 0) d5_32 mk6 rfl co6 lk4_140 im6 se6 rfl (vN (t := 0) (i := 0) (by decide)) (show 2 ≤ mL 6 by decide) rfl (show 0 ≤ 8 by decide) (by decide) (by decide) rfl rfl (by decide) (by decide) (m6 N2 L2 n (by omega) hc2 hP2) ?_
                rintro z N3 L3 hpa
                obtain ⟨r1, r2⟩ := hpa.ra (by omega) hR2
                have hz1 : z ≤ 1 := by rw [hpa.2.2.2.2]; exact bo_le _
                refine Sem.ifN (tgt := 41) d5_35 (by decide) (show z < 2 ^ 31 by omega) (fun b4 => ?_) (fun b4 => ?_)
                · have b4_ : z = 0 := b4
                  refine Sem.seg [(.iinc 3 1, 0, 0)] ⟨⟨d5_41, trivial⟩, trivial⟩ (lv' := [(3, aN (n + 1)), (0, aR 0 0), (1, aN c), (2, aN l)]) (st' := []) (w' := wd N3 L3) (P := []) rfl (trivial) (pc' := 44) rfl ?_
                  refine Sem.goto (tgt := 11) d5_44 (by decide) ?_
                  refine Sem.pick [1, 2, 3, 0] (lv' := [(0, aR 0 0), (1, aN c), (2, aN l), (3, aN (n + 1))]) rfl ?_
                  exact ihb _ (by omega) (n + 1) c N3 L3 rfl (by omega) (by simp only [rpI]; rw [if_pos (by omega), r2, ← hcb]; omega) (by simp only [rpI]; rw [if_pos (by omega)]; exact r1) (hpa.pc (by omega) hP2) (fun t a b h1 h2 => (hpa.1 t a b h1 (by omega)).trans (fN2 t a b h1 h2)) (fun t a b h1 h2 h3 h4 h5 h6 h7 h8 => (hpa.2.2.1 t a b h1 h2 h3 h4 h5 (by omega) (by omega) (by omega)).trans (fL2 t a b h1 h2 h3 h4 h5 h6 h7 h8)) (RA.cd hc2 hpa)
                · have b4_ : ¬ (z = 0) := b4
                  refine Sem.seg [(.iinc 1 1, 0, 0), (.iinc 3 1, 0, 0)] ⟨⟨d5_38, trivial⟩, ⟨d5_41, trivial⟩, trivial⟩ (lv' := [(3, aN (n + 1)), (1, aN (c + 1)), (0, aR 0 0), (2, aN l)]) (st' := []) (w' := wd N3 L3) (P := []) rfl (trivial) (pc' := 44) rfl ?_
                  refine Sem.goto (tgt := 11) d5_44 (by decide) ?_
                  refine Sem.pick [2, 1, 3, 0] (lv' := [(0, aR 0 0), (1, aN (c + 1)), (2, aN l), (3, aN (n + 1))]) rfl ?_
                  exact ihb _ (by omega) (n + 1) (c + 1) N3 L3 rfl (by omega) (by simp only [rpI]; rw [if_pos (by omega), r2, ← hcb]; omega) (by simp only [rpI]; rw [if_pos (by omega)]; exact r1) (hpa.pc (by omega) hP2) (fun t a b h1 h2 => (hpa.1 t a b h1 (by omega)).trans (fN2 t a b h1 h2)) (fun t a b h1 h2 h3 h4 h5 h6 h7 h8 => (hpa.2.2.1 t a b h1 h2 h3 h4 h5 (by omega) (by omega) (by omega)).trans (fL2 t a b h1 h2 h3 h4 h5 h6 h7 h8)) (RA.cd hc2 hpa)
        refine Sem.pick [1, 2, 3, 0] (lv' := [(0, aR 0 0), (1, aN c), (2, aN l), (3, aN 0)]) rfl ?_
        exact lpb _ 0 c N1 L1 rfl (by omega) (hca) (hR1) (hP1) (fN1) (fL1) (hc1)
  refine Sem.pick [2, 1, 0] (lv' := [(0, aR 0 0), (1, aN 0), (2, aN 0)]) rfl ?_
  exact lpa _ 0 0 N L rfl (by omega) (rfl) (⟨SD.refl N, fun _ _ => rfl, fun _ _ _ _ => ⟨rfl, rfl⟩⟩) (hp) (fun _ _ _ _ _ => rfl) (fun _ _ _ _ _ _ _ _ _ _ _ => rfl) (hc)

