-- ===== replanning as a picture =====
noncomputable def stp (X : TN × TL × Nat) (i : Nat) : TN × TL × Nat :=
  (upN X.1 19 i 10 0, upW (upW X.2.1 20 i 12 (grF X.1 X.2.1 i)) 21 i 12 (planF (X.1 19 i) (brF X.1 i) (grF X.1 X.2.1 i)), X.2.2 + bo (¬ X.1 19 i 10 = 0 ∨ ¬ ∀ w, w < 12 → grF X.1 X.2.1 i w = X.2.1 20 i w))
noncomputable def rpI (lv : Nat → Nat) (l : Nat) (X : TN × TL × Nat) : Nat → TN × TL × Nat
  | 0 => X
  | n + 1 => if lv n = l then stp (rpI lv l X n) n else rpI lv l X n
noncomputable def rpL (lv : Nat → Nat) (X : TN × TL × Nat) : Nat → TN × TL × Nat
  | 0 => X
  | l + 1 => rpI lv l (rpL lv X l) 12
/-- the world (N, L) shows the picture X -/
def RA (N : TN) (L : TL) (X : TN × TL × Nat) : Prop := SD X.1 N ∧ (∀ i, i < 12 → N 19 i 10 = X.1 19 i 10) ∧ ∀ i w, i < 12 → w < 12 → L 20 i w = X.2.1 20 i w ∧ L 21 i w = X.2.1 21 i w
theorem RA.gr {N : TN} {L : TL} {X : TN × TL × Nat} (h : RA N L X) {i : Nat} (hi : i < 12) (w : Nat) : grF N L i w = grF X.1 X.2.1 i w :=
  h.1.gr hi (fun p q hp hq => (h.2.2 p q hp hq).2) w
theorem SD.pl {N N' : TN} (h : SD N N') {i : Nat} (hi : i < 12) {g g' : Nat → Int64} (hg : ∀ q, q < 12 → g' q = g q) {w : Nat} (hw : w < 12) : planF (N' 19 i) (brF N' i) g' w = planF (N 19 i) (brF N i) g w :=
  planF_cg (fun f hf => h.1 i f hi (by omega)) (fun q _ => h.br i q) hg hw
theorem SD.bl {N N' : TN} (h : SD N N') {i : Nat} (hi : i < 12) {g g' : Nat → Int64} (hg : ∀ q, q < 12 → g' q = g q) {w : Nat} (hw : w < 12) : balF (N' 19 i) (brF N' i) g' w = balF (N 19 i) (brF N i) g w :=
  balF_cg (fun f hf => h.1 i f hi (by omega)) (fun q _ => h.br i q) hg hw
theorem SD_told {N : TN} {i x : Nat} : SD N (upN N 19 i 10 x) := by
  refine ⟨fun a f _ _ => upN_ne (by omega), fun b _ => ⟨upN_ne (by omega), fun k _ => ⟨upN_ne (by omega), upN_ne (by omega), upN_ne (by omega)⟩⟩, fun c _ => ⟨upN_ne (by omega), fun _ => ⟨upN_ne (by omega), upN_ne (by omega)⟩⟩, fun a _ => upN_ne (by omega)⟩
theorem PA.sd {N N' : TN} {L L' : TL} {i z : Nat} (h : PA N L i z N' L') : SD N N' := by
  have f := h.1
  exact ⟨fun a b _ _ => f _ _ _ (by omega) (by omega), fun b _ => ⟨f _ _ _ (by omega) (by omega), fun k _ => ⟨f _ _ _ (by omega) (by omega), f _ _ _ (by omega) (by omega), f _ _ _ (by omega) (by omega)⟩⟩, fun c _ => ⟨f _ _ _ (by omega) (by omega), fun _ => ⟨f _ _ _ (by omega) (by omega), f _ _ _ (by omega) (by omega)⟩⟩, fun a _ => f _ _ _ (by omega) (by omega)⟩
theorem PA.ra {N N' : TN} {L L' : TL} {i z : Nat} {X : TN × TL × Nat} (hi : i < 12) (hR : RA N L X) (h : PA N L i z N' L') : RA N' L' (stp X i) ∧ (stp X i).2.2 = X.2.2 + z := by
  obtain ⟨fN, h10, fL, hq, hz⟩ := id h
  refine ⟨⟨(SD_told.symm.trans hR.1).trans h.sd, fun a ha => ?_, fun a w ha hw => ?_⟩, ?_⟩
  · by_cases e : a = i
    · subst e; rw [h10]; exact upN_at.symm
    · rw [fN 19 a 10 (by omega) (by omega), hR.2.1 a ha]; exact (upN_ne (by omega)).symm
  · obtain ⟨r1, r2⟩ := hR.2.2 a w ha hw
    by_cases e : a = i
    · subst e
      obtain ⟨q1, q2, _⟩ := hq w hw
      refine ⟨q1.trans ?_, q2.trans ?_⟩
      · rw [hR.gr ha]; simp only [stp]; rw [upW_ne (by omega), upW_at hw]
      · rw [hR.1.pl ha (fun q _ => hR.gr ha q) hw]; simp only [stp]; rw [upW_at hw]
    · refine ⟨(fL 20 a w (by omega) (by omega) (by omega) (by omega) (by omega) (by omega) (by omega) (by omega)).trans (r1.trans ?_), (fL 21 a w (by omega) (by omega) (by omega) (by omega) (by omega) (by omega) (by omega) (by omega)).trans (r2.trans ?_)⟩
      · simp only [stp]; rw [upW_ne (by omega), upW_ne (by omega)]
      · simp only [stp]; rw [upW_ne (by omega), upW_ne (by omega)]
  · show X.2.2 + _ = X.2.2 + z
    rw [hz, hR.2.1 i hi]
    congr 1
    apply bo_cg
    constructor
    · rintro (q | q)
      · exact Or.inl q
      · exact Or.inr (fun e => q (fun w hw => by rw [← hR.gr hi, e w hw, (hR.2.2 i w hi hw).1]))
    · rintro (q | q)
      · exact Or.inl q
      · exact Or.inr (fun e => q (fun w hw => by rw [hR.gr hi, e w hw, (hR.2.2 i w hi hw).1]))
theorem PA.pc {N N' : TN} {L L' : TL} {i z : Nat} (hi : i < 12) (hP : PC N L) (h : PA N L i z N' L') : PC N' L' := by
  obtain ⟨fN, h10, fL, hq, hz⟩ := id h
  intro a ha h0 w hw
  by_cases e : a = i
  · subst e
    obtain ⟨q1, q2, q3⟩ := hq w hw
    have hg : ∀ q, q < 12 → L' 20 a q = grF N L a q := fun q h => (hq q h).1
    exact ⟨q2.trans (h.sd.pl ha hg hw).symm, q3.trans (h.sd.bl ha hg hw).symm⟩
  · have h0' : N 19 a 10 = 0 := by rw [← fN 19 a 10 (by omega) (by omega)]; exact h0
    obtain ⟨p1, p2⟩ := hP a ha h0' w hw
    have hg : ∀ q, q < 12 → L' 20 a q = L 20 a q := fun q _ => fL 20 a q (by omega) (by omega) (by omega) (by omega) (by omega) (by omega) (by omega) (by omega)
    refine ⟨(fL 21 a w (by omega) (by omega) (by omega) (by omega) (by omega) (by omega) (by omega) (by omega)).trans (p1.trans (h.sd.pl ha hg hw).symm), (fL 22 a w (by omega) (by omega) (by omega) (by omega) (by omega) (by omega) (by omega) (by omega)).trans (p2.trans (h.sd.bl ha hg hw).symm)⟩
