-- ===== the three exceptions =====
def exNames : List String := ["java/lang/RuntimeException", "java/lang/Exception"]
theorem exFit : ∀ n ∈ exNames, Bundle.fit n = true := by decide +kernel
set_option maxRecDepth 100000 in
theorem exAtoms : ∀ n, n < 3 → ∀ w ∈ Bundle.ownAtoms (RN 4) 0 (EX n) exNames, (w ∈ lw_tbl ∧ goodWord w = true) ∨ w ∈ ([.methodLink (RN 4) 0 (Bundle.initS (EX n)), .laysStatic Bundle.tN "UNASSIGNED_STACK" Bundle.steD, .isRef (.static Bundle.tN "UNASSIGNED_STACK" Bundle.steD), .laysStatic Bundle.tN "SUPPRESSED_SENTINEL" Bundle.listD, .isRef (.static Bundle.tN "SUPPRESSED_SENTINEL" Bundle.listD), .castable (EX n) (EX n), .declares (Bundle.initS (DX 0)), .declares (Bundle.initS (DX 1)), .declares (Bundle.initS (DX 2))] : List Cond) := by decide +kernel
set_option maxRecDepth 100000 in
theorem exNo : ∀ n, n < 3 → Cond.methodLink (RN 4) 0 (Bundle.initS (EX n)) ∈ lw_tbl → False := by decide +kernel
set_option maxRecDepth 100000 in
theorem exNo3 : ∀ n, n < 3 → Cond.methodLink (RN 4) 0 (Bundle.initS (EX n)) ∈ Bundle.ownAtoms (RN 4) 1 (EX n) exNames → False := by decide +kernel
theorem exNo2 (n : Nat) (hn : n < 3) (ic : Nat) (h : ¬ ic = 0) (hw : Cond.methodLink (RN 4) 0 (Bundle.initS (EX n)) ∈ Bundle.ownAtoms (RN 4) ic (EX n) exNames) : False := by
  apply exNo3 n hn
  simp only [Bundle.ownAtoms, List.mem_append, List.mem_cons] at hw ⊢
  rcases hw with hw | hw | hw
  · exact Or.inl hw
  · exfalso
    injection hw with h1 h2 h3
    exact h h2.symm
  · exact Or.inr (Or.inr hw)
theorem exAt {n ic : Nat} (hn : n < 3) (hlk : Cond.methodLink (RN 4) ic (Bundle.initS (EX n)) ∈ AW_) : ∀ w ∈ Bundle.ownAtoms (RN 4) ic (EX n) exNames, w ∈ AW_ ∨ w ∈ ([.laysStatic Bundle.tN "UNASSIGNED_STACK" Bundle.steD, .isRef (.static Bundle.tN "UNASSIGNED_STACK" Bundle.steD), .laysStatic Bundle.tN "SUPPRESSED_SENTINEL" Bundle.listD, .isRef (.static Bundle.tN "SUPPRESSED_SENTINEL" Bundle.listD), .castable (EX n) (EX n), .declares (Bundle.initS (DX 0)), .declares (Bundle.initS (DX 1)), .declares (Bundle.initS (DX 2))] : List Cond) := by
  intro w hw
  have key : w = Cond.methodLink (RN 4) ic (Bundle.initS (EX n)) ∨ w ∈ Bundle.ownAtoms (RN 4) 0 (EX n) exNames ∧ w ≠ Cond.methodLink (RN 4) 0 (Bundle.initS (EX n)) ∨ w = Cond.methodLink (RN 4) 0 (Bundle.initS (EX n)) ∧ ic = 0 := by
    by_cases h1 : w = Cond.methodLink (RN 4) ic (Bundle.initS (EX n))
    · exact Or.inl h1
    · right
      have h2 : w ∈ Bundle.ownAtoms (RN 4) 0 (EX n) exNames := by
        simp only [Bundle.ownAtoms, List.mem_append, List.mem_cons] at hw ⊢
        rcases hw with hw | hw | hw
        · exact Or.inl hw
        · exact absurd hw h1
        · exact Or.inr (Or.inr hw)
      by_cases h3 : w = Cond.methodLink (RN 4) 0 (Bundle.initS (EX n))
      · right
        refine ⟨h3, ?_⟩
        by_cases h4 : ic = 0
        · exact h4
        · exfalso
          subst h3
          rcases exAtoms n hn _ h2 with ⟨h5, -⟩ | h5
          · exact exNo n hn h5
          · exact exNo2 n hn ic h4 hw
      · exact Or.inl ⟨h2, h3⟩
  rcases key with rfl | ⟨h, hne⟩ | ⟨h, rfl⟩
  · exact Or.inl hlk
  · rcases exAtoms n hn w h with ⟨h1, h2⟩ | h1
    · exact Or.inl (aw h1 h2)
    · rcases List.mem_cons.mp h1 with h1 | h1
      · exact absurd h1 hne
      · exact Or.inr h1
  · rw [h]
    exact Or.inl hlk
section Thr
variable {sc : XT} {k pc : Nat} {lv : List (Nat × AV)} {st : List AV} {w : NW} {cells slots : Nat} {Q : QT}
theorem Sem.thr (n : Nat) (hn : n < 3) {ik is ic : Nat} {text : String} (hk4 : mo k = 4) (d0 : decode (cc k) pc = .ok (.new ik, 3)) (d3 : decode (cc k) (pc + 3) = .ok (.dup, 1)) (d4 : decode (cc k) (pc + 4) = .ok (.ldc is, 2)) (d6 : decode (cc k) (pc + 6) = .ok (.invokespecial ic, 3)) (d9 : decode (cc k) (pc + 9) = .ok (.athrow, 1))
    (hcl : Cond.classLink (RN 4) ik (EX n) ∈ AW_) (hini : Cond.initialized (EX n) ∈ AW_) (hins : Cond.instantiable (EX n) 6 ∈ AW_) (hstr : (RN 4, is, text) ∈ strT) (hlk : Cond.methodLink (RN 4) ic (Bundle.initS (EX n)) ∈ AW_) (hnh : hh k = [])
    (hfr : 5 < fr k) (hlo : (st.map ct1).sum + 82 ≤ lo k) (hc : cells + 1 ≤ mc k) (hs : slots + 6 ≤ ms k) (hz : w.2.1 = false) (hQ : Q (.inr (EX n)) w) : Sem sc k pc lv st w cells slots Q := by
  have hfit : Bundle.fit (EX n) = true := (show ∀ n, n < 3 → Bundle.fit (EX n) = true by decide +kernel) n hn
  refine Sem.throw (names := exNames) (text := text) hn rfl d0 d3 d4 d6 d9 hfit exFit (by rw [hk4]; exact hcl) hini hins (by rw [hk4]; exact hstr) (by rw [hk4]; exact exAt hn hlk) (by rw [hnh]; intro x hx; cases hx) hfr hlo hc hs hz hQ
end Thr
