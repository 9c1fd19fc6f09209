-- ===== the picture of planning, over the class's numbers (the model is seen through mN, mL) =====
def askG (pr fr to ld sc : Nat) (pl : Nat → Int64) (w : Nat) : Int64 :=
  if pr = 0 then 0 else if fr ≤ w ∧ w ≤ to then scr ((if w + ld < 12 then pl (w + ld) else 0) * q64 pr) sc else 0
def askF (N : TN) (L : TL) (p i w : Nat) : Int64 := askG (N 3 0 (p * 12 + i)) (N 4 0 (p * 12 + i)) (N 5 0 (p * 12 + i)) (N 19 p 2) (N 19 i 4) (L 21 p) w
def dmF (N : TN) (i w : Nat) : Int64 := bat (N 9 0) (N 10 0) (N 11 0) i w (N 8 0 3)
def brF (N : TN) (i w : Nat) : Int64 := bat (N 9 1) (N 10 1) (N 11 1) i w (N 8 1 3)
def grF (N : TN) (L : TL) (i w : Nat) : Int64 := dmF N i w + sm (fun p => askF N L p i w) 12
/-- what is told of an item, of a book, of the bill, keeps its ranges -/
def CI (N : TN) (i : Nat) : Prop := N 19 i 0 ≤ 3 ∧ 1 ≤ N 19 i 1 ∧ N 19 i 1 ≤ 1000 ∧ N 19 i 2 ≤ 4 ∧ N 19 i 3 ≤ 1000 ∧ N 19 i 4 ≤ 200 ∧ N 19 i 5 ≤ 100000 ∧ N 19 i 6 ≤ 100 ∧ N 19 i 7 ≤ 10000 ∧ N 19 i 8 ≤ 2 ∧ N 19 i 9 ≤ 9 ∧ N 19 i 10 ≤ 1
def CB (N : TN) (b : Nat) : Prop := N 8 b 3 ≤ 24 ∧ (∀ k, k < N 8 b 3 → N 9 b k < 12) ∧ (∀ k, k < N 8 b 3 → N 10 b k < 12) ∧ ∀ k, k < N 8 b 3 → N 11 b k ≤ 1000
def CL (N : TN) : Prop := N 2 0 5 ≤ 24 ∧ (∀ c, c < 144 → N 3 0 c ≤ 9) ∧ (∀ c, c < 144 → ¬ N 3 0 c = 0 → N 4 0 c < 12 ∧ N 5 0 c < 12) ∧ ∀ i, i < 12 → N 6 0 i ≤ 4
def CD (N : TN) : Prop := (∀ i, i < 12 → CI N i) ∧ (∀ b, b < 3 → CB N b) ∧ CL N
/-- an item that isn't told has the plan that its numbers make -/
def PC (N : TN) (L : TL) : Prop := ∀ i, i < 12 → N 19 i 10 = 0 → ∀ w, w < 12 → L 21 i w = planF (N 19 i) (brF N i) (L 20 i) w ∧ L 22 i w = balF (N 19 i) (brF N i) (L 20 i) w
theorem askG_cg {pr fr to ld sc : Nat} {pl pl' : Nat → Int64} (h : ∀ q, q < 12 → pl q = pl' q) (w : Nat) : askG pr fr to ld sc pl w = askG pr fr to ld sc pl' w := by
  unfold askG
  by_cases hw : w + ld < 12
  · rw [if_pos hw, if_pos hw, h _ hw]
  · rw [if_neg hw, if_neg hw]
/-- the same numbers of item, books and bill (told aside) -/
def SD (N N' : TN) : Prop := (∀ i f, i < 12 → f < 10 → N' 19 i f = N 19 i f) ∧ (∀ b, b < 3 → N' 8 b 3 = N 8 b 3 ∧ ∀ k, k < N 8 b 3 → N' 9 b k = N 9 b k ∧ N' 10 b k = N 10 b k ∧ N' 11 b k = N 11 b k) ∧ (∀ c, c < 144 → N' 3 0 c = N 3 0 c ∧ (¬ N 3 0 c = 0 → N' 4 0 c = N 4 0 c ∧ N' 5 0 c = N 5 0 c)) ∧ (∀ i, i < 12 → N' 6 0 i = N 6 0 i)
theorem SD.refl (N : TN) : SD N N := ⟨fun _ _ _ _ => rfl, fun _ _ => ⟨rfl, fun _ _ => ⟨rfl, rfl, rfl⟩⟩, fun _ _ => ⟨rfl, fun _ => ⟨rfl, rfl⟩⟩, fun _ _ => rfl⟩
theorem SD.symm {N N' : TN} (h : SD N N') : SD N' N := by
  obtain ⟨h1, h2, h3, h4⟩ := h
  refine ⟨fun i f a b => (h1 i f a b).symm, fun b hb => ?_, fun c hc => ?_, fun i hi => (h4 i hi).symm⟩
  · obtain ⟨a1, a2⟩ := h2 b hb
    refine ⟨a1.symm, fun k hk => ?_⟩
    obtain ⟨b1, b2, b3⟩ := a2 k (a1 ▸ hk)
    exact ⟨b1.symm, b2.symm, b3.symm⟩
  · obtain ⟨a1, a2⟩ := h3 c hc
    refine ⟨a1.symm, fun hn => ?_⟩
    obtain ⟨b1, b2⟩ := a2 (a1 ▸ hn)
    exact ⟨b1.symm, b2.symm⟩
theorem SD.trans {N N' N2 : TN} (h : SD N N') (g : SD N' N2) : SD N N2 := by
  obtain ⟨h1, h2, h3, h4⟩ := h
  obtain ⟨g1, g2, g3, g4⟩ := g
  refine ⟨fun i f a b => (g1 i f a b).trans (h1 i f a b), fun b hb => ?_, fun c hc => ?_, fun i hi => (g4 i hi).trans (h4 i hi)⟩
  · obtain ⟨a1, a2⟩ := h2 b hb
    obtain ⟨b1, b2⟩ := g2 b hb
    refine ⟨b1.trans a1, fun k hk => ?_⟩
    obtain ⟨c1, c2, c3⟩ := a2 k hk
    obtain ⟨e1, e2, e3⟩ := b2 k (by omega)
    exact ⟨e1.trans c1, e2.trans c2, e3.trans c3⟩
  · obtain ⟨a1, a2⟩ := h3 c hc
    obtain ⟨b1, b2⟩ := g3 c hc
    refine ⟨b1.trans a1, fun hn => ?_⟩
    obtain ⟨c1, c2⟩ := a2 hn
    obtain ⟨e1, e2⟩ := b2 (by rw [a1]; exact hn)
    exact ⟨e1.trans c1, e2.trans c2⟩
theorem bat_cg {I W M I' W' M' : Nat → Nat} {i w n : Nat} (h : ∀ k, k < n → I' k = I k ∧ W' k = W k ∧ M' k = M k) : bat I' W' M' i w n = bat I W M i w n :=
  sm_congr (fun k hk => by obtain ⟨a, b, c⟩ := h k hk; rw [a, b, c])
theorem bsm_cg {I W M I' W' M' : Nat → Nat} {i w n : Nat} (h : ∀ k, k < n → I' k = I k ∧ W' k = W k ∧ M' k = M k) : bsm I' W' M' i w n = bsm I W M i w n :=
  sm_congr (fun k hk => by obtain ⟨a, b, c⟩ := h k hk; rw [a, b, c])
theorem SD.dm {N N' : TN} (h : SD N N') (i w : Nat) : dmF N' i w = dmF N i w := by
  unfold dmF
  obtain ⟨a, b⟩ := h.2.1 0 (by omega)
  rw [a]; exact bat_cg b
theorem SD.br {N N' : TN} (h : SD N N') (i w : Nat) : brF N' i w = brF N i w := by
  unfold brF
  obtain ⟨a, b⟩ := h.2.1 1 (by omega)
  rw [a]; exact bat_cg b
theorem SD.ask {N N' : TN} (h : SD N N') {L L' : TL} {p i : Nat} (hp : p < 12) (hi : i < 12) (hL : ∀ q, q < 12 → L' 21 p q = L 21 p q) (w : Nat) : askF N' L' p i w = askF N L p i w := by
  unfold askF
  obtain ⟨a, b⟩ := h.2.2.1 (p * 12 + i) (by omega)
  rw [a, h.1 p 2 hp (by omega), h.1 i 4 hi (by omega), askG_cg hL]
  by_cases h0 : N 3 0 (p * 12 + i) = 0
  · unfold askG; rw [if_pos h0, if_pos h0]
  · obtain ⟨c, d⟩ := b h0
    rw [c, d]
theorem SD.gr {N N' : TN} (h : SD N N') {L L' : TL} {i : Nat} (hi : i < 12) (hL : ∀ p q, p < 12 → q < 12 → L' 21 p q = L 21 p q) (w : Nat) : grF N' L' i w = grF N L i w := by
  unfold grF
  rw [h.dm, sm_congr (fun p hp => h.ask hp hi (fun q hq => hL p q hp hq) w)]
theorem CD.of {N N' : TN} (h : CD N) (g : SD N N') (ht : ∀ i, i < 12 → N' 19 i 10 ≤ 1) (hn : N' 2 0 5 ≤ 24) : CD N' := by
  obtain ⟨h1, h2, h3⟩ := h
  obtain ⟨g1, g2, g3, g4⟩ := g
  refine ⟨fun i hi => ?_, fun b hb => ?_, hn, fun c hc => ?_, fun c hc h0 => ?_, fun i hi => ?_⟩
  · obtain ⟨a0, a1, a2, a3, a4, a5, a6, a7, a8, a9, a10, a11⟩ := h1 i hi
    unfold CI
    rw [g1 i 0 hi (by omega), g1 i 1 hi (by omega), g1 i 2 hi (by omega), g1 i 3 hi (by omega), g1 i 4 hi (by omega), g1 i 5 hi (by omega), g1 i 6 hi (by omega), g1 i 7 hi (by omega), g1 i 8 hi (by omega), g1 i 9 hi (by omega)]
    exact ⟨a0, a1, a2, a3, a4, a5, a6, a7, a8, a9, a10, ht i hi⟩
  · obtain ⟨a0, a1, a2, a3⟩ := h2 b hb
    obtain ⟨b0, b1⟩ := g2 b hb
    unfold CB
    rw [b0]
    refine ⟨a0, fun k hk => ?_, fun k hk => ?_, fun k hk => ?_⟩
    · rw [(b1 k hk).1]; exact a1 k hk
    · rw [(b1 k hk).2.1]; exact a2 k hk
    · rw [(b1 k hk).2.2]; exact a3 k hk
  · rw [(g3 c hc).1]; exact h3.2.1 c hc
  · have e := (g3 c hc).1
    rw [e] at h0
    obtain ⟨a, b⟩ := (g3 c hc).2 h0
    rw [a, b]
    exact h3.2.2.1 c hc h0
  · rw [g4 i hi]; exact h3.2.2.2 i hi
theorem askF_in {N : TN} {L : TL} {p i w : Nat} (h0 : ¬ N 3 0 (p * 12 + i) = 0) (h : N 4 0 (p * 12 + i) ≤ w ∧ w ≤ N 5 0 (p * 12 + i)) : askF N L p i w = scr ((if w + N 19 p 2 < 12 then L 21 p (w + N 19 p 2) else 0) * q64 (N 3 0 (p * 12 + i))) (N 19 i 4) := by
  unfold askF askG
  rw [if_neg h0, if_pos h]
theorem askF_out {N : TN} {L : TL} {p i w : Nat} (h : ¬ (N 4 0 (p * 12 + i) ≤ w ∧ w ≤ N 5 0 (p * 12 + i))) : askF N L p i w = 0 := by
  unfold askF askG
  rw [if_neg h]
  split <;> rfl
theorem askF_no {N : TN} {L : TL} {p i w : Nat} (h : N 3 0 (p * 12 + i) = 0) : askF N L p i w = 0 := by
  unfold askF askG
  rw [if_pos h]
theorem upW_skip {L : TL} {t i n : Nat} {f : Nat → Int64} (h : f n = L t i n) : upW L t i n f = upW L t i (n + 1) f := by
  funext a b c
  simp only [upW]
  by_cases e : a = t ∧ b = i ∧ c = n
  · obtain ⟨rfl, rfl, rfl⟩ := e
    rw [if_neg (by omega), if_pos (by omega), h]
  · by_cases e2 : a = t ∧ b = i ∧ c < n
    · rw [if_pos e2, if_pos (by omega)]
    · rw [if_neg e2, if_neg (by omega)]
