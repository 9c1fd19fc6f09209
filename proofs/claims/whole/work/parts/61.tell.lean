-- ===== what telling leaves =====
theorem CB_eq {N N2 : TN} {b : Nat} (h : CB N b) (e : ∀ t a c, 8 ≤ t → t ≤ 11 → N2 t a c = N t a c) : CB N2 b := by
  unfold CB
  rw [e 8 b 3 (by omega) (by omega)]
  obtain ⟨h1, h2, h3, h4⟩ := h
  exact ⟨h1, fun k hk => by rw [e 9 b k (by omega) (by omega)]; exact h2 k hk, fun k hk => by rw [e 10 b k (by omega) (by omega)]; exact h3 k hk, fun k hk => by rw [e 11 b k (by omega) (by omega)]; exact h4 k hk⟩
theorem CL_eq {N N2 : TN} (h : CL N) (e : ∀ t a c, 2 ≤ t → t ≤ 6 → N2 t a c = N t a c) : CL N2 := by
  obtain ⟨h1, h2, h3, h4⟩ := h
  refine ⟨by rw [e 2 0 5 (by omega) (by omega)]; exact h1, fun c hc => by rw [e 3 0 c (by omega) (by omega)]; exact h2 c hc, fun c hc h0 => ?_, fun i hi => by rw [e 6 0 i (by omega) (by omega)]; exact h4 i hi⟩
  rw [e 3 0 c (by omega) (by omega)] at h0
  rw [e 4 0 c (by omega) (by omega), e 5 0 c (by omega) (by omega)]
  exact h3 c hc h0
theorem Ln_eq {N N2 : TN} (h : Ln N) (e : ∀ t a c, 2 ≤ t → t ≤ 6 → N2 t a c = N t a c) (e2 : N2 23 0 14 = N 23 0 14) : Ln N2 := by
  obtain ⟨h3, h3b, h3c⟩ := h
  have eg9 : eg N2 = eg N := eg_cg (fun j => e 3 0 j (by omega) (by omega))
  refine ⟨?_, ?_, fun i hi => ?_⟩
  · rw [e 2 0 5 (by omega) (by omega), h3]
    exact smN_cg (fun k _ => by rw [e 3 0 k (by omega) (by omega)])
  · rw [e 2 0 5 (by omega) (by omega), e2, h3b]
  · rw [eg9, e 6 0 i (by omega) (by omega)]
    exact h3c i hi
/-- the class's numbers and the model's, number by number -/
theorem SD_of {N : TN} (h1 : ∀ i f, i < 12 → f < 10 → N (24 + f) 0 i = N 19 i f) (h2 : ∀ b, b < 3 → N 37 0 b = N 8 b 3 ∧ ∀ k, k < N 8 b 3 → N 38 0 (24 * b + k) = N 9 b k ∧ N 39 0 (24 * b + k) = N 10 b k ∧ N 40 0 (24 * b + k) = N 11 b k) (h3 : ∀ c, c < 144 → N 34 0 c = N 3 0 c ∧ (¬ N 3 0 c = 0 → N 35 0 c = N 4 0 c ∧ N 36 0 c = N 5 0 c)) : SD N (mN N) :=
  ⟨fun i f hi hf => by rw [mN_19 hf]; exact h1 i f hi hf, h2, h3, fun _ _ => rfl⟩
theorem Inv.item {N N2 : TN} {L : TL} (h : Inv N L) (hN : ∀ t a b, t ≠ 19 → (t < 23 ∨ 33 < t) → t ≠ 41 → N2 t a b = N t a b) (h14 : N2 23 0 14 = N 23 0 14) (hci : ∀ i, i < 12 → CI N2 i) (hs : ∀ i f, i < 12 → f < 10 → N2 (24 + f) 0 i = N2 19 i f) : CD N2 ∧ SD N2 (mN N2) ∧ Ln N2 ∧ ∀ i w, brF N2 i w = brF N i w := by
  obtain ⟨h1, h2, h3, -⟩ := h
  refine ⟨⟨hci, fun b hb => CB_eq (h1.2.1 b hb) (fun t a c _ _ => hN t a c (by omega) (by omega) (by omega)), CL_eq h1.2.2 (fun t a c _ _ => hN t a c (by omega) (by omega) (by omega))⟩, SD_of hs (fun b hb => ?_) (fun c hc => ?_), Ln_eq h3 (fun t a c _ _ => hN t a c (by omega) (by omega) (by omega)) h14, fun i w => ?_⟩
  · rw [hN 37 0 b (by omega) (by omega) (by omega), hN 8 b 3 (by omega) (by omega) (by omega)]
    refine ⟨(h2.2.1 b hb).1, fun k hk => ?_⟩
    rw [hN 38 _ _ (by omega) (by omega) (by omega), hN 39 _ _ (by omega) (by omega) (by omega), hN 40 _ _ (by omega) (by omega) (by omega), hN 9 _ _ (by omega) (by omega) (by omega), hN 10 _ _ (by omega) (by omega) (by omega), hN 11 _ _ (by omega) (by omega) (by omega)]
    exact (h2.2.1 b hb).2 k hk
  · rw [hN 34 0 c (by omega) (by omega) (by omega), hN 35 0 c (by omega) (by omega) (by omega), hN 36 0 c (by omega) (by omega) (by omega), hN 3 0 c (by omega) (by omega) (by omega), hN 4 0 c (by omega) (by omega) (by omega), hN 5 0 c (by omega) (by omega) (by omega)]
    exact h2.2.2.1 c hc
  · unfold brF
    rw [hN 8 1 3 (by omega) (by omega) (by omega)]
    exact bat_cg (fun k _ => ⟨hN _ _ _ (by omega) (by omega) (by omega), hN _ _ _ (by omega) (by omega) (by omega), hN _ _ _ (by omega) (by omega) (by omega)⟩)
theorem CI_eq {N N2 : TN} {i : Nat} (h : CI N i) (e : ∀ f, f ≤ 10 → N2 19 i f = N 19 i f) : CI N2 i := by
  unfold CI
  rw [e 0 (by omega), e 1 (by omega), e 2 (by omega), e 3 (by omega), e 4 (by omega), e 5 (by omega), e 6 (by omega), e 7 (by omega), e 8 (by omega), e 9 (by omega), e 10 (by omega)]
  exact h
theorem f10 {f : Nat} (h : f < 10) : f = 0 ∨ f = 1 ∨ f = 2 ∨ f = 3 ∨ f = 4 ∨ f = 5 ∨ f = 6 ∨ f = 7 ∨ f = 8 ∨ f = 9 := by omega
theorem cItem_0 {x r s l f : Int32} (h : cItem x r s l f = 0) : x.toInt.toNat < 12 ∧ tn r ≤ 3 ∧ 1 ≤ tn s ∧ tn s ≤ 1000 ∧ tn l ≤ 4 ∧ tn f ≤ 1000 := by
  unfold cItem at h
  by_cases h1 : 0 ≤ x.toInt ∧ x.toInt < 12
  · rw [if_neg (by omega)] at h
    by_cases h2 : (0 ≤ r.toInt ∧ r.toInt ≤ 3) ∧ (1 ≤ s.toInt ∧ s.toInt ≤ 1000) ∧ (0 ≤ l.toInt ∧ l.toInt ≤ 4) ∧ (0 ≤ f.toInt ∧ f.toInt ≤ 1000)
    · rw [tn_nn (by omega), tn_nn (by omega), tn_nn (by omega), tn_nn (by omega)]
      omega
    · rw [if_pos h2] at h; omega
  · rw [if_pos h1] at h; omega
theorem cCosts_0 {x a b c : Int32} (h : cCosts x a b c = 0) : x.toInt.toNat < 12 ∧ tn a ≤ 200 ∧ tn b ≤ 100000 ∧ tn c ≤ 100 := by
  unfold cCosts at h
  by_cases h1 : 0 ≤ x.toInt ∧ x.toInt < 12
  · rw [if_neg (by omega)] at h
    by_cases h2 : (0 ≤ a.toInt ∧ a.toInt ≤ 200) ∧ (0 ≤ b.toInt ∧ b.toInt ≤ 100000) ∧ (0 ≤ c.toInt ∧ c.toInt ≤ 100)
    · rw [tn_nn (by omega), tn_nn (by omega), tn_nn (by omega)]
      omega
    · rw [if_pos h2] at h; omega
  · rw [if_pos h1] at h; omega
theorem cMade_0 {x c y : Int32} (h : cMade x c y = 0) : x.toInt.toNat < 12 ∧ tn c ≤ 2 ∧ tn y ≤ 9 := by
  unfold cMade at h
  by_cases h1 : ¬ (0 ≤ x.toInt ∧ x.toInt < 12) ∨ ¬ (0 ≤ c.toInt ∧ c.toInt < 3)
  · rw [if_pos h1] at h; omega
  · rw [if_neg h1] at h
    by_cases h2 : 0 ≤ y.toInt ∧ y.toInt ≤ 9
    · rw [tn_nn (by omega), tn_nn (by omega)]
      omega
    · rw [if_pos h2] at h; omega
theorem cStock_0 {x n : Int32} (h : cStock x n = 0) : x.toInt.toNat < 12 ∧ tn n ≤ 10000 := by
  unfold cStock at h
  by_cases h1 : 0 ≤ x.toInt ∧ x.toInt < 12
  · rw [if_neg (by omega)] at h
    by_cases h2 : 0 ≤ n.toInt ∧ n.toInt ≤ 10000
    · rw [tn_nn (by omega)]
      omega
    · rw [if_pos h2] at h; omega
  · rw [if_pos h1] at h; omega
theorem iv_item {N N1 N2 : TN} {L : TL} {x r s l f : Int32} (h : Inv N L) (h0 : cItem x r s l f = 0) (h1 : N1 = upN (upN (upN (upN (upN N 19 x.toInt.toNat 0 (tn r)) 19 x.toInt.toNat 1 (tn s)) 19 x.toInt.toNat 2 (tn l)) 19 x.toInt.toNat 3 (tn f)) 19 x.toInt.toNat 10 1) (h2 : N2 = upN (upN (upN (upN (upN (upN (upN N1 23 0 0 0) 24 0 x.toInt.toNat (tn r)) 25 0 x.toInt.toNat (tn s)) 26 0 x.toInt.toNat (tn l)) 27 0 x.toInt.toNat (tn f)) 41 0 x.toInt.toNat 1) 23 0 20 1) : Inv N2 L ∧ N2 23 0 0 = 0 := by
  obtain ⟨c1, c2, c3, c4, c5, c6⟩ := cItem_0 h0
  revert h1 h2 c1
  generalize x.toInt.toNat = y
  intro h1 h2 c1
  subst h1 h2
  refine ⟨?_, by simp [upN]⟩
  have key := h.item (N2 := upN (upN (upN (upN (upN (upN (upN (upN (upN (upN (upN (upN N 19 y 0 (tn r)) 19 y 1 (tn s)) 19 y 2 (tn l)) 19 y 3 (tn f)) 19 y 10 1) 23 0 0 0) 24 0 y (tn r)) 25 0 y (tn s)) 26 0 y (tn l)) 27 0 y (tn f)) 41 0 y 1) 23 0 20 1) (fun t a b q1 q2 q3 => by simp only [upN]; repeat rw [if_neg (by omega)]) (by simp [upN]) (fun i hi => ?_) (fun i g hi hg => ?_)
  · obtain ⟨k1, k2, k3, k4⟩ := key
    exact h.tell c1 k1 k2 k3 (fun i g hi hn hg => by simp only [upN]; repeat rw [if_neg (by omega)]) (fun i w hi hn => k4 i w) (by simp [upN]) (by simp [upN]) (fun i hi hn => by simp only [upN]; repeat rw [if_neg (by omega)]) (by simp [upN]) (by simp [upN]) (fun _ _ _ _ => rfl)
  · by_cases e : i = y
    · subst e
      obtain ⟨a0, a1, a2, a3, a4, a5, a6, a7, a8, a9, a10, a11⟩ := h.1.1 i hi
      simp only [CI, upN]
      simp
      omega
    · exact CI_eq (h.1.1 i hi) (fun g hg => by simp only [upN]; repeat rw [if_neg (by omega)])
  · have e := h.d hi hg
    by_cases hy : i = y
    · subst hy
      rcases f10 hg with rfl | rfl | rfl | rfl | rfl | rfl | rfl | rfl | rfl | rfl <;> simp [upN] <;> exact e
    · simp only [upN]
      repeat rw [if_neg (by omega)]
      exact e
theorem iv_costs {N N1 N2 : TN} {L : TL} {x a b c : Int32} (h : Inv N L) (h0 : cCosts x a b c = 0) (h1 : N1 = upN (upN (upN (upN N 19 x.toInt.toNat 4 (tn a)) 19 x.toInt.toNat 5 (tn b)) 19 x.toInt.toNat 6 (tn c)) 19 x.toInt.toNat 10 1) (h2 : N2 = upN (upN (upN (upN (upN (upN N1 23 0 0 0) 28 0 x.toInt.toNat (tn a)) 29 0 x.toInt.toNat (tn b)) 30 0 x.toInt.toNat (tn c)) 41 0 x.toInt.toNat 1) 23 0 20 1) : Inv N2 L ∧ N2 23 0 0 = 0 := by
  obtain ⟨c1, c2, c3, c4⟩ := cCosts_0 h0
  revert h1 h2 c1
  generalize x.toInt.toNat = y
  intro h1 h2 c1
  subst h1 h2
  refine ⟨?_, by simp [upN]⟩
  have key := h.item (N2 := upN (upN (upN (upN (upN (upN (upN (upN (upN (upN N 19 y 4 (tn a)) 19 y 5 (tn b)) 19 y 6 (tn c)) 19 y 10 1) 23 0 0 0) 28 0 y (tn a)) 29 0 y (tn b)) 30 0 y (tn c)) 41 0 y 1) 23 0 20 1) (fun t a b q1 q2 q3 => by simp only [upN]; repeat rw [if_neg (by omega)]) (by simp [upN]) (fun i hi => ?_) (fun i g hi hg => ?_)
  · obtain ⟨k1, k2, k3, k4⟩ := key
    exact h.tell c1 k1 k2 k3 (fun i g hi hn hg => by simp only [upN]; repeat rw [if_neg (by omega)]) (fun i w hi hn => k4 i w) (by simp [upN]) (by simp [upN]) (fun i hi hn => by simp only [upN]; repeat rw [if_neg (by omega)]) (by simp [upN]) (by simp [upN]) (fun _ _ _ _ => rfl)
  · by_cases e : i = y
    · subst e
      obtain ⟨a0, a1, a2, a3, a4, a5, a6, a7, a8, a9, a10, a11⟩ := h.1.1 i hi
      simp only [CI, upN]
      simp
      omega
    · exact CI_eq (h.1.1 i hi) (fun g hg => by simp only [upN]; repeat rw [if_neg (by omega)])
  · have e := h.d hi hg
    by_cases hy : i = y
    · subst hy
      rcases f10 hg with rfl | rfl | rfl | rfl | rfl | rfl | rfl | rfl | rfl | rfl <;> simp [upN] <;> exact e
    · simp only [upN]
      repeat rw [if_neg (by omega)]
      exact e
theorem iv_made {N N1 N2 : TN} {L : TL} {x a b : Int32} (h : Inv N L) (h0 : cMade x a b = 0) (h1 : N1 = upN (upN N 19 x.toInt.toNat 8 (tn a)) 19 x.toInt.toNat 9 (tn b)) (h2 : N2 = upN (upN (upN N1 23 0 0 0) 32 0 x.toInt.toNat (tn a)) 33 0 x.toInt.toNat (tn b)) : Inv N2 L ∧ N2 23 0 0 = 0 := by
  obtain ⟨c1, c2, c3⟩ := cMade_0 h0
  revert h1 h2 c1
  generalize x.toInt.toNat = y
  intro h1 h2 c1
  subst h1 h2
  refine ⟨?_, by simp [upN]⟩
  have key := h.item (N2 := upN (upN (upN (upN (upN N 19 y 8 (tn a)) 19 y 9 (tn b)) 23 0 0 0) 32 0 y (tn a)) 33 0 y (tn b)) (fun t a b q1 q2 q3 => by simp only [upN]; repeat rw [if_neg (by omega)]) (by simp [upN]) (fun i hi => ?_) (fun i g hi hg => ?_)
  · obtain ⟨k1, k2, k3, k4⟩ := key
    exact h.keep k1 k2 k3 (fun i g hi hg h8 h9 => by simp only [upN]; repeat rw [if_neg (by omega)]) (fun i w hi => k4 i w) (fun i hi => by simp only [upN]; repeat rw [if_neg (by omega)]) (by simp [upN]) (by simp [upN]) (fun _ _ _ _ => rfl)
  · by_cases e : i = y
    · subst e
      obtain ⟨a0, a1, a2, a3, a4, a5, a6, a7, a8, a9, a10, a11⟩ := h.1.1 i hi
      simp only [CI, upN]
      simp
      omega
    · exact CI_eq (h.1.1 i hi) (fun g hg => by simp only [upN]; repeat rw [if_neg (by omega)])
  · have e := h.d hi hg
    by_cases hy : i = y
    · subst hy
      rcases f10 hg with rfl | rfl | rfl | rfl | rfl | rfl | rfl | rfl | rfl | rfl <;> simp [upN] <;> exact e
    · simp only [upN]
      repeat rw [if_neg (by omega)]
      exact e
theorem iv_stock {N N1 N2 : TN} {L : TL} {x n : Int32} (v : Int64) (h : Inv N L) (h0 : cStock x n = 0) (h1 : N1 = upN (upN N 19 x.toInt.toNat 7 (tn n)) 19 x.toInt.toNat 10 1) (h2 : N2 = upN (upN (upN (upN N1 23 0 0 0) 31 0 x.toInt.toNat (tn n)) 41 0 x.toInt.toNat 1) 23 0 20 1) : Inv N2 (upL L 47 0 0 v) ∧ N2 23 0 0 = 0 ∧ N1 31 0 x.toInt.toNat = N 19 x.toInt.toNat 7 := by
  obtain ⟨c1, c2⟩ := cStock_0 h0
  revert h1 h2 c1
  generalize x.toInt.toNat = y
  intro h1 h2 c1
  subst h1 h2
  refine ⟨?_, by simp [upN], by simp [upN]; exact h.d c1 (f := 7) (by omega)⟩
  have key := h.item (N2 := upN (upN (upN (upN (upN (upN N 19 y 7 (tn n)) 19 y 10 1) 23 0 0 0) 31 0 y (tn n)) 41 0 y 1) 23 0 20 1) (fun t a b q1 q2 q3 => by simp only [upN]; repeat rw [if_neg (by omega)]) (by simp [upN]) (fun i hi => ?_) (fun i g hi hg => ?_)
  · obtain ⟨k1, k2, k3, k4⟩ := key
    exact h.tell c1 k1 k2 k3 (fun i g hi hn hg => by simp only [upN]; repeat rw [if_neg (by omega)]) (fun i w hi hn => k4 i w) (by simp [upN]) (by simp [upN]) (fun i hi hn => by simp only [upN]; repeat rw [if_neg (by omega)]) (by simp [upN]) (by simp [upN]) (fun t a b q => upL_ne (by omega))
  · by_cases e : i = y
    · subst e
      obtain ⟨a0, a1, a2, a3, a4, a5, a6, a7, a8, a9, a10, a11⟩ := h.1.1 i hi
      simp only [CI, upN]
      simp
      omega
    · exact CI_eq (h.1.1 i hi) (fun g hg => by simp only [upN]; repeat rw [if_neg (by omega)])
  · have e := h.d hi hg
    by_cases hy : i = y
    · subst hy
      rcases f10 hg with rfl | rfl | rfl | rfl | rfl | rfl | rfl | rfl | rfl | rfl <;> simp [upN] <;> exact e
    · simp only [upN]
      repeat rw [if_neg (by omega)]
      exact e
