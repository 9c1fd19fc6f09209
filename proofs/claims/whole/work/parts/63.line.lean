-- ===== what a line leaves =====
theorem SN_mono {E E' : Nat → Nat → Prop} (h : ∀ p i, p < 12 → i < 12 → E p i → E' p i) (hs : SN E') : SN E := fun i hi w => hs i hi (wk_mono h hi w)
theorem fitP_cg {N N' : TN} (h3 : ∀ c, c < 144 → N' 3 0 c = N 3 0 c) (h2 : N' 2 0 5 = N 2 0 5) {c : Nat} (hc : c < 144) : fitP N' c ↔ fitP N c := by
  have a : ∀ M M' : TN, (∀ c, c < 144 → M' 3 0 c = M 3 0 c) → SN (edm M (c : Int)) → SN (edm M' (c : Int)) := by
    intro M M' e hs
    refine SN_mono (fun p i hp hi q => ?_) hs
    rcases q with q | q
    · exact Or.inl q
    · rw [e _ (by omega)] at q; exact Or.inr q
  unfold fitP
  rw [h3 c hc, h2]
  constructor
  · rintro (q | ⟨q1, q2⟩)
    · exact Or.inl q
    · exact Or.inr ⟨q1, a N' N (fun c hc => (h3 c hc).symm) q2⟩
  · rintro (q | ⟨q1, q2⟩)
    · exact Or.inl q
    · exact Or.inr ⟨q1, a N N' h3 q2⟩
theorem cLine_cg {N N' : TN} (h3 : ∀ c, c < 144 → N' 3 0 c = N 3 0 c) (h2 : N' 2 0 5 = N 2 0 5) (p c n f u : Int32) : cLine N' p c n f u = cLine N p c n f u := by
  unfold cLine
  by_cases h1 : ¬ (0 ≤ p.toInt ∧ p.toInt < 12) ∨ ¬ (0 ≤ c.toInt ∧ c.toInt < 12)
  · rw [if_pos h1, if_pos h1]
  · rw [if_neg h1, if_neg h1, bo_cg (fitP_cg h3 h2 (by omega))]
theorem cLine_0 {N : TN} {p c n f u : Int32} (h : cLine N p c n f u = 0) : p.toInt.toNat < 12 ∧ c.toInt.toNat < 12 ∧ n.toInt.toNat ≤ 9 ∧ (¬ n.toInt.toNat = 0 → (0 ≤ f.toInt ∧ 0 ≤ u.toInt ∧ f.toInt.toNat < 12 ∧ u.toInt.toNat < 12) ∧ fitP N (p.toInt.toNat * 12 + c.toInt.toNat)) := by
  unfold cLine at h
  by_cases h1 : ¬ (0 ≤ p.toInt ∧ p.toInt < 12) ∨ ¬ (0 ≤ c.toInt ∧ c.toInt < 12)
  · rw [if_pos h1] at h; omega
  · rw [if_neg h1] at h
    by_cases h2 : ¬ (0 ≤ n.toInt ∧ n.toInt ≤ 9) ∨ ¬ (n.toInt = 0 ∨ (0 ≤ f.toInt ∧ f.toInt ≤ 11 ∧ f.toInt ≤ u.toInt ∧ u.toInt ≤ 11))
    · rw [if_pos h2] at h; omega
    · rw [if_neg h2] at h
      by_cases h3 : ¬ n.toInt = 0 ∧ bo (fitP N (p.toInt.toNat * 12 + c.toInt.toNat)) = 0
      · rw [if_pos h3] at h; omega
      · refine ⟨by omega, by omega, by omega, fun hn => ⟨by omega, ?_⟩⟩
        rcases Classical.em (fitP N (p.toInt.toNat * 12 + c.toInt.toNat)) with q | q
        · exact q
        · exact absurd ⟨by omega, bo_f q⟩ h3
theorem lineS_up {N N' : TN} {c n : Nat} (hc : c < 144) (h : ∀ j, N' 3 0 j = if j = c then n else N 3 0 j) : lineS N' = lineS N + (if n = 0 then 0 else 1) - (if N 3 0 c = 0 then 0 else 1) := by
  have e := smN_up (f := fun c => if N 3 0 c = 0 then 0 else 1) (g := fun c => if N' 3 0 c = 0 then 0 else 1) hc (fun j hj hn => by rw [h j, if_neg hn])
  have e2 := smN_ge (f := fun c => if N 3 0 c = 0 then 0 else 1) hc
  rw [h c, if_pos rfl] at e
  unfold lineS
  omega
theorem LN_ok {N N1 : TN} {p c n f u : Nat} (h : CL N) (hl : N 2 0 5 = lineS N) (hs : SN (eg N)) (hp : p < 12) (hc : c < 12) (hn : n ≤ 9) (hf : ¬ n = 0 → (f < 12 ∧ u < 12) ∧ fitP N (p * 12 + c)) (g : LN N (p * 12 + c) n f u N1) : CL N1 ∧ N1 2 0 5 = lineS N1 ∧ LvOk N1 (N1 6 0) := by
  obtain ⟨g1, g2, g3, g4, g5, hh, g6⟩ := g
  obtain ⟨h1, h2, h3, h4⟩ := h
  have hsn : SN (eg N1) := by
    by_cases e : n = 0
    · refine SN_mono (fun a b ha hb q => ?_) hs
      unfold eg at q ⊢
      rw [g2] at q
      by_cases z : a * 12 + b = p * 12 + c
      · rw [if_pos z] at q; omega
      · rw [if_neg z] at q; exact q
    · rcases (hf e).2 with q0 | ⟨_, q0⟩
      · refine SN_mono (fun a b ha hb q => ?_) hs
        unfold eg at q ⊢
        rw [g2] at q
        by_cases z : a * 12 + b = p * 12 + c
        · rw [z]; exact q0
        · rw [if_neg z] at q; exact q
      · refine SN_mono (fun a b ha hb q => ?_) q0
        unfold eg at q
        unfold edm
        rw [g2] at q
        by_cases z : a * 12 + b = p * 12 + c
        · left; omega
        · rw [if_neg z] at q; exact Or.inr q
  have hlv := RI_lv g6 hsn
  refine ⟨⟨?_, fun j hj => ?_, fun j hj q => ?_, fun i hi => (hlv i hi).1⟩, ?_, hlv⟩
  · rw [g5]
    by_cases e : n = 0
    · rw [if_pos e]; omega
    · rw [if_neg e]
      rcases (hf e).2 with q0 | ⟨q0, _⟩
      · rw [if_neg (by omega)]; omega
      · split <;> omega
  · rw [g2]; split
    · exact hn
    · exact h2 j hj
  · rw [g2] at q
    by_cases z : j = p * 12 + c
    · rw [if_pos z] at q
      subst z
      rw [(g3 q).1, (g3 q).2]
      exact (hf q).1
    · rw [if_neg z] at q
      rw [(g4 j z).1, (g4 j z).2]
      exact h3 j hj q
  · rw [g5, hl, lineS_up (by omega) g2]
theorem iv_line {N N0 N1 N2 : TN} {L : TL} {p c n f u : Int32} (h : Inv N L) (h0 : cLine N p c n f u = 0) (h1 : LN N (p.toInt.toNat * 12 + c.toInt.toNat) n.toInt.toNat f.toInt.toNat u.toInt.toNat N0) (h2 : N1 = upN N0 19 c.toInt.toNat 10 1)
    (h3 : N2 = upN (upN (upN (upN (upN (upN (upN (upN N1 23 0 0 0) 23 0 0 0) 23 0 14 (N1 23 0 14 + (if n.toInt.toNat = 0 then 0 else 1) - (if N1 34 0 (p.toInt.toNat * 12 + c.toInt.toNat) = 0 then 0 else 1))) 34 0 (p.toInt.toNat * 12 + c.toInt.toNat) n.toInt.toNat) 35 0 (p.toInt.toNat * 12 + c.toInt.toNat) (tn f)) 36 0 (p.toInt.toNat * 12 + c.toInt.toNat) (tn u)) 41 0 c.toInt.toNat 1) 23 0 20 1) : Inv N2 L ∧ N2 23 0 0 = 0 := by
  obtain ⟨c1, c2, c3, c4⟩ := cLine_0 h0
  have et : ¬ n.toInt.toNat = 0 → tn f = f.toInt.toNat ∧ tn u = u.toInt.toNat := fun q => ⟨tn_nn (c4 q).1.1, tn_nn (c4 q).1.2.1⟩
  have c5 : ¬ n.toInt.toNat = 0 → (f.toInt.toNat < 12 ∧ u.toInt.toNat < 12) ∧ fitP N (p.toInt.toNat * 12 + c.toInt.toNat) := fun q => ⟨⟨(c4 q).1.2.2.1, (c4 q).1.2.2.2⟩, (c4 q).2⟩
  clear c4 h0
  revert h1 h2 h3 c1 c2 c3 et c5
  generalize p.toInt.toNat = p'
  generalize c.toInt.toNat = c'
  generalize n.toInt.toNat = n'
  generalize f.toInt.toNat = f'
  generalize u.toInt.toNat = u'
  generalize tn f = f2
  generalize tn u = u2
  intro h1 h2 h3 c1 c2 c3 et c5
  obtain ⟨g1, g2, g3, g4, g5, g6⟩ := id h1
  obtain ⟨k1, k2, k3⟩ := LN_ok h.1.2.2 h.2.2.1.1 h.2.2.1.2.2.sn c1 c2 c3 c5 h1
  have e14 : N1 23 0 14 = N 2 0 5 := by rw [h2, upN_ne (by omega), g1 _ _ _ (by omega) (by omega) (by omega) (by omega) (by omega) (by omega)]; exact h.2.2.1.2.1
  have e34 : N1 34 0 (p' * 12 + c') = N 3 0 (p' * 12 + c') := by rw [h2, upN_ne (by omega), g1 _ _ _ (by omega) (by omega) (by omega) (by omega) (by omega) (by omega)]; exact (h.2.1.2.2.1 _ (by omega)).1
  rw [e14, e34, ← g5] at h3
  have a0 : ∀ t a b, t ≤ 7 → N2 t a b = N0 t a b := fun t a b ht => by
    rw [h3, h2]; simp only [upN]; repeat rw [if_neg (by omega)]
  have a1 : ∀ t a b, 8 ≤ t → t ≠ 23 → (t < 34 ∨ 36 < t) → t ≠ 41 → ¬ (t = 19 ∧ a = c' ∧ b = 10) → N2 t a b = N t a b := fun t a b q1 q2 q3 q4 q5 => by
    rw [h3, h2]; simp only [upN]; repeat rw [if_neg (by omega)]
    exact g1 t a b (by omega) (by omega) (by omega) (by omega) (by omega) (by omega)
  have a3 : ∀ j, N2 34 0 j = if j = p' * 12 + c' then n' else N 34 0 j := fun j => by
    rw [h3, h2]; simp only [upN]
    rw [if_neg (by omega), if_neg (by omega), if_neg (by omega), if_neg (by omega)]
    by_cases e : j = p' * 12 + c'
    · rw [if_pos ⟨trivial, trivial, e⟩, if_pos e]
    · rw [if_neg (by omega), if_neg e]; repeat rw [if_neg (by omega)]
      exact g1 _ _ _ (by omega) (by omega) (by omega) (by omega) (by omega) (by omega)
  have a4 : ∀ j, N2 35 0 j = if j = p' * 12 + c' then f2 else N 35 0 j := fun j => by
    rw [h3, h2]; simp only [upN]
    rw [if_neg (by omega), if_neg (by omega), if_neg (by omega)]
    by_cases e : j = p' * 12 + c'
    · rw [if_pos ⟨trivial, trivial, e⟩, if_pos e]
    · rw [if_neg (by omega), if_neg e]; repeat rw [if_neg (by omega)]
      exact g1 _ _ _ (by omega) (by omega) (by omega) (by omega) (by omega) (by omega)
  have a5 : ∀ j, N2 36 0 j = if j = p' * 12 + c' then u2 else N 36 0 j := fun j => by
    rw [h3, h2]; simp only [upN]
    rw [if_neg (by omega), if_neg (by omega)]
    by_cases e : j = p' * 12 + c'
    · rw [if_pos ⟨trivial, trivial, e⟩, if_pos e]
    · rw [if_neg (by omega), if_neg e]; repeat rw [if_neg (by omega)]
      exact g1 _ _ _ (by omega) (by omega) (by omega) (by omega) (by omega) (by omega)
  have b0 : N2 23 0 0 = 0 := by rw [h3]; simp [upN]
  have b14 : N2 23 0 14 = N0 2 0 5 := by rw [h3]; simp [upN]
  have b19 : N2 23 0 19 = N 23 0 19 := by
    rw [h3, h2]; simp only [upN]; repeat rw [if_neg (by omega)]
    exact g1 _ _ _ (by omega) (by omega) (by omega) (by omega) (by omega) (by omega)
  have b20 : N2 23 0 20 = 1 := by rw [h3]; simp [upN]
  have b41 : N2 41 0 c' = 1 := by rw [h3]; simp [upN]
  have b41n : ∀ i, i ≠ c' → N2 41 0 i = N 41 0 i := fun i hi => by
    rw [h3, h2]; simp only [upN]; repeat rw [if_neg (by omega)]
    exact g1 _ _ _ (by omega) (by omega) (by omega) (by omega) (by omega) (by omega)
  have bt : N2 19 c' 10 = 1 := by rw [h3, h2]; simp [upN]
  clear h3 h2
  refine ⟨?_, b0⟩
  have eg9 : eg N2 = eg N0 := eg_cg (fun j => a0 3 0 j (by omega))
  have hcl : CL N2 := CL_eq k1 (fun t a c _ _ => a0 t a c (by omega))
  have hci : ∀ i, i < 12 → CI N2 i := fun i hi => by
    obtain ⟨q0, q1, q2, q3, q4, q5, q6, q7, q8, q9, q10, q11⟩ := h.1.1 i hi
    have z : ∀ f, f < 10 → N2 19 i f = N 19 i f := fun f hf => a1 19 i f (by omega) (by omega) (by omega) (by omega) (by omega)
    unfold CI
    rw [z 0 (by omega), z 1 (by omega), z 2 (by omega), z 3 (by omega), z 4 (by omega), z 5 (by omega), z 6 (by omega), z 7 (by omega), z 8 (by omega), z 9 (by omega)]
    refine ⟨q0, q1, q2, q3, q4, q5, q6, q7, q8, q9, q10, ?_⟩
    by_cases e : i = c'
    · subst e; omega
    · rw [a1 19 i 10 (by omega) (by omega) (by omega) (by omega) (by omega)]; exact q11
  refine h.tell c2 ⟨hci, fun b hb => CB_eq (h.1.2.1 b hb) (fun t a c q1 q2 => a1 t a c (by omega) (by omega) (by omega) (by omega) (by omega)), hcl⟩ (SD_of (fun i f hi hf => ?_) (fun b hb => ?_) (fun j hj => ?_)) ⟨?_, ?_, fun i hi => ?_⟩ (fun i g hi hne hg => a1 19 i g (by omega) (by omega) (by omega) (by omega) (by omega)) (fun i w hi hne => ?_) bt b41 (fun i hi hne => b41n i hne) b19 b20 (fun _ _ _ _ => rfl)
  · rw [a1 (24 + f) 0 i (by omega) (by omega) (by omega) (by omega) (by omega), a1 19 i f (by omega) (by omega) (by omega) (by omega) (by omega)]
    exact h.d hi hf
  · rw [a1 37 0 b (by omega) (by omega) (by omega) (by omega) (by omega), a1 8 b 3 (by omega) (by omega) (by omega) (by omega) (by omega)]
    refine ⟨h.z hb, fun k hk => ?_⟩
    rw [a1 38 _ _ (by omega) (by omega) (by omega) (by omega) (by omega), a1 39 _ _ (by omega) (by omega) (by omega) (by omega) (by omega), a1 40 _ _ (by omega) (by omega) (by omega) (by omega) (by omega), a1 9 _ _ (by omega) (by omega) (by omega) (by omega) (by omega), a1 10 _ _ (by omega) (by omega) (by omega) (by omega) (by omega), a1 11 _ _ (by omega) (by omega) (by omega) (by omega) (by omega)]
    exact h.bk hb hk
  · rw [a3, a4, a5, a0 3 0 j (by omega), a0 4 0 j (by omega), a0 5 0 j (by omega), g2]
    by_cases e : j = p' * 12 + c'
    · rw [if_pos e, if_pos e, if_pos e, if_pos e]
      refine ⟨rfl, fun q => ?_⟩
      subst e
      rw [(g3 q).1, (g3 q).2]
      exact et q
    · rw [if_neg e, if_neg e, if_neg e, if_neg e, (g4 j e).1, (g4 j e).2]
      exact h.2.1.2.2.1 j hj
  · rw [a0 2 0 5 (by omega), k2]
    exact (smN_cg (fun k _ => by rw [a0 3 0 k (by omega)])).symm
  · rw [b14, a0 2 0 5 (by omega)]
  · rw [eg9, a0 6 0 i (by omega)]; exact k3 i hi
  · unfold brF
    rw [a1 8 1 3 (by omega) (by omega) (by omega) (by omega) (by omega)]
    exact bat_cg (fun k hk => ⟨a1 _ _ _ (by omega) (by omega) (by omega) (by omega) (by omega), a1 _ _ _ (by omega) (by omega) (by omega) (by omega) (by omega), a1 _ _ _ (by omega) (by omega) (by omega) (by omega) (by omega)⟩)
