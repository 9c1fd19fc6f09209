-- ===== the model's replanning, held against the picture =====
def RM (N : TN) (L : TL) (X : TN × TL × Nat) (U : Nat → Prop) : Prop := SD X.1 (mN N) ∧ (∀ i, i < 12 → U i → mN N 19 i 10 = X.1 19 i 10) ∧ ∀ i w, i < 12 → w < 12 → L 42 0 (12 * i + w) = X.2.1 20 i w ∧ L 43 0 (12 * i + w) = X.2.1 21 i w
theorem SD_m {N N' : TN} (h : ∀ t a b, t ≠ 23 → t ≠ 41 → N' t a b = N t a b) : SD (mN N) (mN N') := by
  refine ⟨fun i f hi hf => ?_, fun b hb => ⟨h 37 0 b (by decide) (by decide), fun k hk => ⟨h 38 0 _ (by decide) (by decide), h 39 0 _ (by decide) (by decide), h 40 0 _ (by decide) (by decide)⟩⟩, fun c hc => ⟨h 34 0 c (by decide) (by decide), fun _ => ⟨h 35 0 c (by decide) (by decide), h 36 0 c (by decide) (by decide)⟩⟩, fun i hi => h 6 0 i (by decide) (by decide)⟩
  have e : ∀ M : TN, mN M 19 i f = M (24 + f) 0 i := fun M => by
    show (if f = 10 then _ else M (24 + f) 0 i) = _
    rw [if_neg (by omega)]
  rw [e, e]
  exact h _ 0 i (by omega) (by omega)
theorem RM.gr {N : TN} {L : TL} {X : TN × TL × Nat} {U : Nat → Prop} (h : RM N L X U) {i : Nat} (hi : i < 12) (w : Nat) : grF (mN N) (mW L) i w = grF X.1 X.2.1 i w :=
  h.1.gr hi (fun p q hp hq => (h.2.2 p q hp hq).2) w
theorem PM.rm {N N' : TN} {L L' : TL} {i z : Nat} {X : TN × TL × Nat} {U : Nat → Prop} (hi : i < 12) (hU : U i) (hR : RM N L X U) (h : PM N L i z N' L') : RM N' L' (stp X i) (fun a => U a ∧ a ≠ i) ∧ (stp X i).2.2 = X.2.2 + z := by
  obtain ⟨hN, fL, hq, hz⟩ := h
  subst hN
  refine ⟨⟨(SD_told.symm.trans hR.1).trans (SD_m (fun t a b h1 h2 => upN_ne (by omega))), fun a ha hu => ?_, fun a w ha hw => ?_⟩, ?_⟩
  · have e1 : (stp X i).1 19 a 10 = X.1 19 a 10 := upN_ne (by omega)
    rw [e1, ← hR.2.1 a ha hu.1]
    show (if (upN N 41 0 i 0) 23 0 19 = 0 then 1 else (upN N 41 0 i 0) 41 0 a) = (if N 23 0 19 = 0 then 1 else N 41 0 a)
    rw [upN_ne (by omega), upN_ne (by omega)]
  · obtain ⟨r1, r2⟩ := hR.2.2 a w ha hw
    by_cases e : a = i
    · subst e
      obtain ⟨q1, q2⟩ := hq w hw
      refine ⟨q1.trans ?_, q2.trans ?_⟩
      · rw [hR.gr ha]; simp only [stp]; rw [upW_ne (by omega), upW_at hw]
      · rw [hR.1.pl ha (fun q _ => hR.gr ha q) hw]; simp only [stp]; rw [upW_at hw]
    · refine ⟨(fL 42 0 _ (by omega) (by omega) (by omega) (by omega) (by omega)).trans (r1.trans ?_), (fL 43 0 _ (by omega) (by omega) (by omega) (by omega) (by omega)).trans (r2.trans ?_)⟩
      · simp only [stp]; rw [upW_ne (by omega), upW_ne (by omega)]
      · simp only [stp]; rw [upW_ne (by omega), upW_ne (by omega)]
  · show X.2.2 + _ = X.2.2 + z
    rw [hz, hR.2.1 i hi hU]
    congr 1
    apply bo_cg
    constructor
    · rintro (q | q)
      · exact Or.inl q
      · exact Or.inr (fun e => q (fun w hw => by rw [← hR.gr hi, e w hw, (hR.2.2 i w hi hw).1]))
    · rintro (q | q)
      · exact Or.inl q
      · exact Or.inr (fun e => q (fun w hw => by rw [hR.gr hi, e w hw, (hR.2.2 i w hi hw).1]))
theorem RM.wk {N : TN} {L : TL} {X : TN × TL × Nat} {U U' : Nat → Prop} (h : RM N L X U) (g : ∀ i, U' i → U i) : RM N L X U' := ⟨h.1, fun i hi u => h.2.1 i hi (g i u), h.2.2⟩
