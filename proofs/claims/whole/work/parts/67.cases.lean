-- ===== the law's cases: class and model side by side =====
theorem LT_cg {P P' : Nat → Prop} {w : Nat} {y : Int32} (e : ∀ v, v < 12 → (P v ↔ P' v)) (h : LT P w y) : LT P' w y := by
  rcases h with ⟨h1, h2⟩ | ⟨v, h1, h2, h3, h4, h5⟩
  · exact Or.inl ⟨h1, fun q => h2 ((e 11 (by omega)).mpr q)⟩
  · refine Or.inr ⟨v, h1, h2, h3, fun u hu hu2 => (e u hu2).mp (h4 u hu hu2), ?_⟩
    rcases h5 with q | q
    · exact Or.inl q
    · exact Or.inr (fun r => q ((e (v - 1) (by omega)).mpr r))
theorem mN_fr {N N1 : TN} (hF : ∀ t a b, 23 ≤ t → N1 t a b = N t a b) {t : Nat} (ht : t = 19 ∨ t = 8 ∨ t = 9 ∨ t = 10 ∨ t = 11) : mN N1 t = mN N t := by
  funext a b
  rcases ht with rfl | rfl | rfl | rfl | rfl
  · show (if b = 10 then (if N1 23 0 19 = 0 then 1 else N1 41 0 a) else N1 (24 + b) 0 a) = (if b = 10 then (if N 23 0 19 = 0 then 1 else N 41 0 a) else N (24 + b) 0 a)
    rw [hF 23 0 19 (by omega), hF 41 0 a (by omega), hF (24 + b) 0 a (by omega)]
  · exact hF 37 0 a (by omega)
  · exact hF 38 0 _ (by omega)
  · exact hF 39 0 _ (by omega)
  · exact hF 40 0 _ (by omega)
theorem okM_fr {N N1 : TN} {L : TL} {i n v : Nat} (hF : ∀ t a b, 23 ≤ t → N1 t a b = N t a b) : okM N1 L i n v ↔ okM N L i n v := by
  unfold okM brF
  rw [mN_fr hF (t := 19) (by omega), mN_fr hF (t := 8) (by omega), mN_fr hF (t := 9) (by omega), mN_fr hF (t := 10) (by omega), mN_fr hF (t := 11) (by omega), hF 37 0 2 (by omega)]
theorem cItem_le {x r s l f : Int32} : cItem x r s l f ≤ 3 := by unfold cItem; (repeat' split) <;> omega
theorem cCosts_le {x a b c : Int32} : cCosts x a b c ≤ 3 := by unfold cCosts; (repeat' split) <;> omega
theorem cMade_le {x a b : Int32} : cMade x a b ≤ 3 := by unfold cMade; (repeat' split) <;> omega
theorem cStock_le {x a : Int32} : cStock x a ≤ 3 := by unfold cStock; (repeat' split) <;> omega
theorem cLine_le {N : TN} {p c n f u : Int32} : cLine N p c n f u ≤ 3 := by unfold cLine; (repeat' split) <;> omega
theorem cTell_le {z : Nat} {x w n : Int32} : cTell z x w n ≤ 3 := by unfold cTell; (repeat' split) <;> omega
theorem cChange_le {y z : Nat} {x w n : Int32} : cChange y z x w n ≤ 3 := by unfold cChange; (repeat' split) <;> omega
theorem cLevel_le {x : Int32} : cLevel x ≤ 3 := by unfold cLevel; (repeat' split) <;> omega
theorem cPlan_le {t : Nat} {x w : Int32} : cPlan t x w ≤ 3 := by unfold cPlan; (repeat' split) <;> omega
theorem cPeg_le {y z t : Nat} {x w n : Int32} : cPeg y z t x w n ≤ 3 := by unfold cPeg; (repeat' split) <;> omega
theorem cProm_le {t : Nat} {x w n : Int32} : cProm t x w n ≤ 3 := by unfold cProm; (repeat' split) <;> omega
theorem cGive_le {t : Nat} {x : Int32} : cGive t x ≤ 3 := by unfold cGive; (repeat' split) <;> omega
theorem cLoad_le {t : Nat} {x w : Int32} : cLoad t x w ≤ 3 := by unfold cLoad; (repeat' split) <;> omega
theorem cCount_le {t : Nat} {x : Int32} : cCount t x ≤ 3 := by unfold cCount; (repeat' split) <;> omega
theorem cLevel_0 {x : Int32} (h : cLevel x = 0) : x.toInt.toNat < 12 := by
  unfold cLevel at h
  by_cases h1 : 0 ≤ x.toInt ∧ x.toInt < 12
  · omega
  · rw [if_pos h1] at h; omega
theorem cGive_0 {z : Nat} {x : Int32} (h : cGive z x = 0) : x.toInt.toNat < z := by
  unfold cGive at h
  by_cases h1 : 0 ≤ x.toInt ∧ x.toInt < z
  · omega
  · rw [if_pos h1] at h; omega
theorem bo_n1 {P : Prop} (h : ¬ bo P = 1) : bo P = 0 := by have := bo_le P; omega
theorem cPlan_0 {P : Prop} {x w : Int32} (h : cPlan (bo P) x w = 0) : x.toInt.toNat < 12 ∧ w.toInt.toNat < 12 ∧ bo P = 0 := by
  unfold cPlan at h
  by_cases h1 : ¬ (0 ≤ x.toInt ∧ x.toInt < 12) ∨ ¬ (0 ≤ w.toInt ∧ w.toInt < 12)
  · rw [if_pos h1] at h; omega
  · rw [if_neg h1] at h
    by_cases h2 : bo P = 1
    · rw [if_pos h2] at h; omega
    · exact ⟨by omega, by omega, bo_n1 h2⟩
theorem cProm_0 {t : Nat} {x n w : Int32} (h : cProm t x n w = 0) : x.toInt.toNat < 12 ∧ w.toInt.toNat < 12 ∧ n.toInt.toNat ≤ 1000 ∧ ¬ t = 1 := by
  unfold cProm at h
  by_cases h1 : ¬ (0 ≤ x.toInt ∧ x.toInt < 12) ∨ ¬ (0 ≤ w.toInt ∧ w.toInt < 12)
  · rw [if_pos h1] at h; omega
  · rw [if_neg h1] at h
    by_cases h2 : 1 ≤ n.toInt ∧ n.toInt ≤ 1000
    · rw [if_neg (by omega)] at h
      by_cases h3 : t = 1
      · rw [if_pos h3] at h; omega
      · exact ⟨by omega, by omega, by omega, h3⟩
    · rw [if_pos h2] at h; omega
theorem cPeg_0 {y z t : Nat} {d k m : Int32} (h : cPeg y z t d k m = 0) : d.toInt.toNat < y ∧ (k.toInt.toNat = 1 → m.toInt.toNat < z) ∧ (k.toInt.toNat = 2 → m.toInt.toNat < 12) := by
  unfold cPeg at h
  by_cases h1 : 0 ≤ d.toInt ∧ d.toInt < y
  · rw [if_neg (by omega)] at h
    by_cases h2 : 0 ≤ k.toInt ∧ k.toInt ≤ 2
    · rw [if_neg (by omega)] at h
      by_cases h3 : k.toInt = 0 ∨ (k.toInt = 1 ∧ 0 ≤ m.toInt ∧ m.toInt < z) ∨ (k.toInt = 2 ∧ 0 ≤ m.toInt ∧ m.toInt < 12)
      · omega
      · rw [if_pos h3] at h; omega
    · rw [if_pos h2] at h; omega
  · rw [if_pos h1] at h; omega
theorem cChange_0 {k m n : Int32} {N : TN} (h : cChange (N 8 0 3) (N 8 1 3) k m n = 0) : k.toInt.toNat < 2 ∧ m.toInt.toNat < N 8 k.toInt.toNat 3 ∧ n.toInt.toNat ≤ 1000 ∧ tn n = n.toInt.toNat := by
  unfold cChange at h
  by_cases h1 : 0 ≤ k.toInt ∧ k.toInt ≤ 1
  · rw [if_neg (by omega)] at h
    by_cases h2 : 0 ≤ m.toInt ∧ ((k.toInt = 0 ∧ m.toInt < N 8 0 3) ∨ (k.toInt = 1 ∧ m.toInt < N 8 1 3))
    · rw [if_neg (by omega)] at h
      by_cases h3 : 0 ≤ n.toInt ∧ n.toInt ≤ 1000
      · refine ⟨by omega, ?_, by omega, tn_nn h3.1⟩
        rcases h2.2 with ⟨q1, q2⟩ | ⟨q1, q2⟩
        · rw [show k.toInt.toNat = 0 by omega]; omega
        · rw [show k.toInt.toNat = 1 by omega]; omega
      · rw [if_pos h3] at h; omega
    · rw [if_pos h2] at h; omega
  · rw [if_pos h1] at h; omega
theorem f_item {N N1 : TN} {L L1 : TL} {z : Nat} {x r s l f : Int32} (h1 : z = cItem x r s l f ∧ (cItem x r s l f = 0 → N1 = upN (upN (upN (upN (upN N 19 x.toInt.toNat 0 (tn r)) 19 x.toInt.toNat 1 (tn s)) 19 x.toInt.toNat 2 (tn l)) 19 x.toInt.toNat 3 (tn f)) 19 x.toInt.toNat 10 1 ∧ L1 = L) ∧ (¬ cItem x r s l f = 0 → N1 = N ∧ L1 = L)) : ∀ t a_ b_, 23 ≤ t → N1 t a_ b_ = N t a_ b_ := by
  obtain ⟨-, ha, hb⟩ := h1
  intro t a_ b_ ht
  by_cases e : cItem x r s l f = 0
  · rw [(ha e).1]; simp only [upN]; repeat rw [if_neg (by omega)]
  · rw [(hb e).1]
theorem k_item {N N1 N2 : TN} {L L1 L2 : TL} {z : Nat}  {x r s l f : Int32} (h : Inv N L) (h1 : z = cItem x r s l f ∧ (cItem x r s l f = 0 → N1 = upN (upN (upN (upN (upN N 19 x.toInt.toNat 0 (tn r)) 19 x.toInt.toNat 1 (tn s)) 19 x.toInt.toNat 2 (tn l)) 19 x.toInt.toNat 3 (tn f)) 19 x.toInt.toNat 10 1 ∧ L1 = L) ∧ (¬ cItem x r s l f = 0 → N1 = N ∧ L1 = L)) (h2 : L1 = L2 ∧ (cItem x r s l f = 0 → N2 = upN (upN (upN (upN (upN (upN (upN N1 23 0 0 0) 24 0 x.toInt.toNat (tn r)) 25 0 x.toInt.toNat (tn s)) 26 0 x.toInt.toNat (tn l)) 27 0 x.toInt.toNat (tn f)) 41 0 x.toInt.toNat 1) 23 0 20 1) ∧ (¬ cItem x r s l f = 0 → N2 = upN N1 23 0 0 (cItem x r s l f))) : N2 23 0 0 = z ∧ z ≤ 3 ∧ Inv N2 L2 := by
  obtain ⟨hz, ha, hb⟩ := h1
  obtain ⟨l2, hc, hd⟩ := h2
  subst l2
  have hle := (cItem_le : cItem x r s l f ≤ 3)
  by_cases e : cItem x r s l f = 0
  · obtain ⟨a1, l1⟩ := ha e
    subst l1
    have k := iv_item h e a1 (hc e)
    exact ⟨by rw [k.2, hz, e], by omega, k.1⟩
  · obtain ⟨n1, l1⟩ := hb e
    subst n1 l1
    rw [hd e]
    exact ⟨by rw [upN_at, hz], by omega, h.of (fun t a_ b_ q1 q2 => upN_ne (by omega)) (fun _ _ _ _ => rfl)⟩
theorem f_costs {N N1 : TN} {L L1 : TL} {z : Nat} {x a b0 c : Int32} (h1 : z = cCosts x a b0 c ∧ (cCosts x a b0 c = 0 → N1 = upN (upN (upN (upN N 19 x.toInt.toNat 4 (tn a)) 19 x.toInt.toNat 5 (tn b0)) 19 x.toInt.toNat 6 (tn c)) 19 x.toInt.toNat 10 1 ∧ L1 = L) ∧ (¬ cCosts x a b0 c = 0 → N1 = N ∧ L1 = L)) : ∀ t a_ b_, 23 ≤ t → N1 t a_ b_ = N t a_ b_ := by
  obtain ⟨-, ha, hb⟩ := h1
  intro t a_ b_ ht
  by_cases e : cCosts x a b0 c = 0
  · rw [(ha e).1]; simp only [upN]; repeat rw [if_neg (by omega)]
  · rw [(hb e).1]
theorem k_costs {N N1 N2 : TN} {L L1 L2 : TL} {z : Nat}  {x a b0 c : Int32} (h : Inv N L) (h1 : z = cCosts x a b0 c ∧ (cCosts x a b0 c = 0 → N1 = upN (upN (upN (upN N 19 x.toInt.toNat 4 (tn a)) 19 x.toInt.toNat 5 (tn b0)) 19 x.toInt.toNat 6 (tn c)) 19 x.toInt.toNat 10 1 ∧ L1 = L) ∧ (¬ cCosts x a b0 c = 0 → N1 = N ∧ L1 = L)) (h2 : L1 = L2 ∧ (cCosts x a b0 c = 0 → N2 = upN (upN (upN (upN (upN (upN N1 23 0 0 0) 28 0 x.toInt.toNat (tn a)) 29 0 x.toInt.toNat (tn b0)) 30 0 x.toInt.toNat (tn c)) 41 0 x.toInt.toNat 1) 23 0 20 1) ∧ (¬ cCosts x a b0 c = 0 → N2 = upN N1 23 0 0 (cCosts x a b0 c))) : N2 23 0 0 = z ∧ z ≤ 3 ∧ Inv N2 L2 := by
  obtain ⟨hz, ha, hb⟩ := h1
  obtain ⟨l2, hc, hd⟩ := h2
  subst l2
  have hle := (cCosts_le : cCosts x a b0 c ≤ 3)
  by_cases e : cCosts x a b0 c = 0
  · obtain ⟨a1, l1⟩ := ha e
    subst l1
    have k := iv_costs h e a1 (hc e)
    exact ⟨by rw [k.2, hz, e], by omega, k.1⟩
  · obtain ⟨n1, l1⟩ := hb e
    subst n1 l1
    rw [hd e]
    exact ⟨by rw [upN_at, hz], by omega, h.of (fun t a_ b_ q1 q2 => upN_ne (by omega)) (fun _ _ _ _ => rfl)⟩
theorem f_made {N N1 : TN} {L L1 : TL} {z : Nat} {x c h0 : Int32} (h1 : z = cMade x c h0 ∧ (cMade x c h0 = 0 → N1 = upN (upN N 19 x.toInt.toNat 8 (tn c)) 19 x.toInt.toNat 9 (tn h0) ∧ L1 = L) ∧ (¬ cMade x c h0 = 0 → N1 = N ∧ L1 = L)) : ∀ t a_ b_, 23 ≤ t → N1 t a_ b_ = N t a_ b_ := by
  obtain ⟨-, ha, hb⟩ := h1
  intro t a_ b_ ht
  by_cases e : cMade x c h0 = 0
  · rw [(ha e).1]; simp only [upN]; repeat rw [if_neg (by omega)]
  · rw [(hb e).1]
theorem k_made {N N1 N2 : TN} {L L1 L2 : TL} {z : Nat}  {x c h0 : Int32} (h : Inv N L) (h1 : z = cMade x c h0 ∧ (cMade x c h0 = 0 → N1 = upN (upN N 19 x.toInt.toNat 8 (tn c)) 19 x.toInt.toNat 9 (tn h0) ∧ L1 = L) ∧ (¬ cMade x c h0 = 0 → N1 = N ∧ L1 = L)) (h2 : L1 = L2 ∧ (cMade x c h0 = 0 → N2 = upN (upN (upN N1 23 0 0 0) 32 0 x.toInt.toNat (tn c)) 33 0 x.toInt.toNat (tn h0)) ∧ (¬ cMade x c h0 = 0 → N2 = upN N1 23 0 0 (cMade x c h0))) : N2 23 0 0 = z ∧ z ≤ 3 ∧ Inv N2 L2 := by
  obtain ⟨hz, ha, hb⟩ := h1
  obtain ⟨l2, hc, hd⟩ := h2
  subst l2
  have hle := (cMade_le : cMade x c h0 ≤ 3)
  by_cases e : cMade x c h0 = 0
  · obtain ⟨a1, l1⟩ := ha e
    subst l1
    have k := iv_made h e a1 (hc e)
    exact ⟨by rw [k.2, hz, e], by omega, k.1⟩
  · obtain ⟨n1, l1⟩ := hb e
    subst n1 l1
    rw [hd e]
    exact ⟨by rw [upN_at, hz], by omega, h.of (fun t a_ b_ q1 q2 => upN_ne (by omega)) (fun _ _ _ _ => rfl)⟩
theorem f_line {N N1 : TN} {L L1 : TL} {z : Nat} {p c n f u : Int32} (h1 : z = cLine N p c n f u ∧ (cLine N p c n f u = 0 → (∃ N9, LN N (p.toInt.toNat * 12 + c.toInt.toNat) n.toInt.toNat f.toInt.toNat u.toInt.toNat N9 ∧ N1 = upN N9 19 c.toInt.toNat 10 1) ∧ L1 = L) ∧ (¬ cLine N p c n f u = 0 → (∀ t a b, t ≠ 7 → N1 t a b = N t a b) ∧ L1 = L)) : ∀ t a_ b_, 23 ≤ t → N1 t a_ b_ = N t a_ b_ := by
  obtain ⟨-, ha, hb⟩ := h1
  intro t a_ b_ ht
  by_cases e : cLine N p c n f u = 0
  · obtain ⟨⟨N0, g1, g2⟩, -⟩ := ha e
    rw [g2, upN_ne (by omega)]
    exact g1.1 t a_ b_ (by omega) (by omega) (by omega) (by omega) (by omega) (by omega)
  · exact (hb e).1 t a_ b_ (by omega)
theorem k_line {N N1 N2 : TN} {L L1 L2 : TL} {z : Nat}  {p c n f u : Int32} (h : Inv N L) (h1 : z = cLine N p c n f u ∧ (cLine N p c n f u = 0 → (∃ N9, LN N (p.toInt.toNat * 12 + c.toInt.toNat) n.toInt.toNat f.toInt.toNat u.toInt.toNat N9 ∧ N1 = upN N9 19 c.toInt.toNat 10 1) ∧ L1 = L) ∧ (¬ cLine N p c n f u = 0 → (∀ t a b, t ≠ 7 → N1 t a b = N t a b) ∧ L1 = L)) (h2 : L1 = L2 ∧ (cLine (mN N1) p c n f u = 0 → N2 = upN (upN (upN (upN (upN (upN (upN (upN N1 23 0 0 0) 23 0 0 0) 23 0 14 (N1 23 0 14 + (if n.toInt.toNat = 0 then 0 else 1) - (if N1 34 0 (p.toInt.toNat * 12 + c.toInt.toNat) = 0 then 0 else 1))) 34 0 (p.toInt.toNat * 12 + c.toInt.toNat) n.toInt.toNat) 35 0 (p.toInt.toNat * 12 + c.toInt.toNat) (tn f)) 36 0 (p.toInt.toNat * 12 + c.toInt.toNat) (tn u)) 41 0 c.toInt.toNat 1) 23 0 20 1) ∧ (¬ cLine (mN N1) p c n f u = 0 → N2 = upN N1 23 0 0 (cLine (mN N1) p c n f u))) : N2 23 0 0 = z ∧ z ≤ 3 ∧ Inv N2 L2 := by
  have hF := f_line h1
  have ec : cLine (mN N1) p c n f u = cLine N p c n f u := by
    rw [cLine_cg (N := mN N) (N' := mN N1) (fun q hq => hF 34 0 q (by omega)) (hF 23 0 14 (by omega)), cLine_cg (N := N) (N' := mN N) (fun q hq => (h.2.1.2.2.1 q hq).1) h.2.2.1.2.1]
  rw [ec] at h2
  obtain ⟨hz, ha, hb⟩ := h1
  obtain ⟨l2, hc, hd⟩ := h2
  subst l2
  have hle := (cLine_le : cLine N p c n f u ≤ 3)
  by_cases e : cLine N p c n f u = 0
  · obtain ⟨⟨N0, g1, g2⟩, l1⟩ := ha e
    subst l1
    have k := iv_line h e g1 g2 (hc e)
    exact ⟨by rw [k.2, hz, e], by omega, k.1⟩
  · obtain ⟨n1, l1⟩ := hb e
    subst l1
    rw [hd e]
    exact ⟨by rw [upN_at, hz], by omega, h.of (fun t a_ b_ q1 q2 => by rw [upN_ne (by omega)]; exact n1 t a_ b_ q1) (fun _ _ _ _ => rfl)⟩
theorem f_stock {N N1 : TN} {L L1 : TL} {z : Nat} {x n : Int32} (h1 : z = cStock x n ∧ (cStock x n = 0 → N1 = upN (upN N 19 x.toInt.toNat 7 (tn n)) 19 x.toInt.toNat 10 1 ∧ L1 = upL L 47 0 0 (q64 (N 19 x.toInt.toNat 7))) ∧ (¬ cStock x n = 0 → N1 = N ∧ L1 = L)) : ∀ t a_ b_, 23 ≤ t → N1 t a_ b_ = N t a_ b_ := by
  obtain ⟨-, ha, hb⟩ := h1
  intro t a_ b_ ht
  by_cases e : cStock x n = 0
  · rw [(ha e).1]; simp only [upN]; repeat rw [if_neg (by omega)]
  · rw [(hb e).1]
theorem k_stock {N N1 N2 : TN} {L L1 L2 : TL} {z : Nat} {b : Nat} {x n : Int32} (h : Inv N L) (h1 : z = cStock x n ∧ (cStock x n = 0 → N1 = upN (upN N 19 x.toInt.toNat 7 (tn n)) 19 x.toInt.toNat 10 1 ∧ L1 = upL L 47 0 0 (q64 (N 19 x.toInt.toNat 7))) ∧ (¬ cStock x n = 0 → N1 = N ∧ L1 = L)) (h2 : L1 = L2 ∧ (cStock x n = 0 → b = N1 31 0 x.toInt.toNat ∧ N2 = upN (upN (upN (upN N1 23 0 0 0) 31 0 x.toInt.toNat (tn n)) 41 0 x.toInt.toNat 1) 23 0 20 1) ∧ (¬ cStock x n = 0 → N2 = upN N1 23 0 0 (cStock x n))) : N2 23 0 0 = z ∧ z ≤ 3 ∧ Inv N2 L2 ∧ (z = 0 → L2 47 0 0 = (nI b).toInt64) := by
  obtain ⟨hz, ha, hb⟩ := h1
  obtain ⟨l2, hc, hd⟩ := h2
  subst l2
  have hle := (cStock_le : cStock x n ≤ 3)
  by_cases e : cStock x n = 0
  · obtain ⟨a1, l1⟩ := ha e
    obtain ⟨c1, c2⟩ := hc e
    have k := iv_stock (q64 (N 19 x.toInt.toNat 7)) h e a1 c2
    rw [l1]
    exact ⟨by rw [k.2.1, hz, e], by omega, k.1, fun _ => by rw [upL_at, c1, k.2.2]⟩
  · obtain ⟨n1, l1⟩ := hb e
    subst n1 l1
    rw [hd e]
    exact ⟨by rw [upN_at, hz], by omega, h.of (fun t a_ b_ q1 q2 => upN_ne (by omega)) (fun _ _ _ _ => rfl), fun q => absurd (hz.symm.trans q) e⟩
theorem f_demand {N N1 : TN} {L L1 : TL} {z : Nat} {x w n : Int32} (h1 : z = cTell (N 8 0 3) x w n ∧ (cTell (N 8 0 3) x w n = 0 → N1 = upN (upN (upN (upN (upN N 19 x.toInt.toNat 10 1) 9 0 (N 8 0 3) x.toInt.toNat) 10 0 (N 8 0 3) w.toInt.toNat) 11 0 (N 8 0 3) n.toInt.toNat) 8 0 3 (N 8 0 3 + 1) ∧ L1 = upL L 47 0 0 (q64 (N 8 0 3))) ∧ (¬ cTell (N 8 0 3) x w n = 0 → N1 = N ∧ L1 = L)) : ∀ t a_ b_, 23 ≤ t → N1 t a_ b_ = N t a_ b_ := by
  obtain ⟨-, ha, hb⟩ := h1
  intro t a_ b_ ht
  by_cases e : cTell (N 8 0 3) x w n = 0
  · rw [(ha e).1]; simp only [upN]; repeat rw [if_neg (by omega)]
  · rw [(hb e).1]
theorem k_demand {N N1 N2 : TN} {L L1 L2 : TL} {z : Nat} {b : Nat} {x w n : Int32} (h : Inv N L) (h1 : z = cTell (N 8 0 3) x w n ∧ (cTell (N 8 0 3) x w n = 0 → N1 = upN (upN (upN (upN (upN N 19 x.toInt.toNat 10 1) 9 0 (N 8 0 3) x.toInt.toNat) 10 0 (N 8 0 3) w.toInt.toNat) 11 0 (N 8 0 3) n.toInt.toNat) 8 0 3 (N 8 0 3 + 1) ∧ L1 = upL L 47 0 0 (q64 (N 8 0 3))) ∧ (¬ cTell (N 8 0 3) x w n = 0 → N1 = N ∧ L1 = L)) (h2 : L1 = L2 ∧ (cTell (N1 37 0 0) x w n = 0 → b = N1 37 0 0 ∧ N2 = upN (upN (upN (upN (upN (upN (upN N1 23 0 0 0) 41 0 x.toInt.toNat 1) 23 0 20 1) 38 0 (24 * 0 + N1 37 0 0) x.toInt.toNat) 39 0 (24 * 0 + N1 37 0 0) w.toInt.toNat) 40 0 (24 * 0 + N1 37 0 0) n.toInt.toNat) 37 0 0 (N1 37 0 0 + 1)) ∧ (¬ cTell (N1 37 0 0) x w n = 0 → N2 = upN N1 23 0 0 (cTell (N1 37 0 0) x w n))) : N2 23 0 0 = z ∧ z ≤ 3 ∧ Inv N2 L2 ∧ (z = 0 → L2 47 0 0 = (nI b).toInt64) := by
  have e37 : N1 37 0 0 = N 8 0 3 := (f_demand h1 37 0 0 (by omega)).trans (h.z (by omega))
  rw [e37] at h2
  obtain ⟨hz, ha, hb⟩ := h1
  obtain ⟨l2, hc, hd⟩ := h2
  subst l2
  have hle := (cTell_le : cTell (N 8 0 3) x w n ≤ 3)
  by_cases e : cTell (N 8 0 3) x w n = 0
  · obtain ⟨a1, l1⟩ := ha e
    obtain ⟨c1, c2⟩ := hc e
    obtain ⟨g1, g2, g3, g4⟩ := cTell_0 e
    have k := iv_row (b := 0) (q64 (N 8 0 3)) h (by omega) g4 g1 g2 g3 a1 c2
    rw [l1]
    exact ⟨by rw [k.2, hz, e], by omega, k.1, fun _ => by rw [upL_at, c1]⟩
  · obtain ⟨n1, l1⟩ := hb e
    subst n1 l1
    rw [hd e]
    exact ⟨by rw [upN_at, hz], by omega, h.of (fun t a_ b_ q1 q2 => upN_ne (by omega)) (fun _ _ _ _ => rfl), fun q => absurd (hz.symm.trans q) e⟩
theorem f_change {N N1 : TN} {L L1 : TL} {z : Nat} {k m n : Int32} (h1 : z = cChange (N 8 0 3) (N 8 1 3) k m n ∧ (cChange (N 8 0 3) (N 8 1 3) k m n = 0 → N1 = upN (upN N 19 (N 9 k.toInt.toNat m.toInt.toNat) 10 1) 11 k.toInt.toNat m.toInt.toNat n.toInt.toNat ∧ L1 = upL L 47 0 0 (q64 (N 11 k.toInt.toNat m.toInt.toNat))) ∧ (¬ cChange (N 8 0 3) (N 8 1 3) k m n = 0 → N1 = N ∧ L1 = L)) : ∀ t a_ b_, 23 ≤ t → N1 t a_ b_ = N t a_ b_ := by
  obtain ⟨-, ha, hb⟩ := h1
  intro t a_ b_ ht
  by_cases e : cChange (N 8 0 3) (N 8 1 3) k m n = 0
  · rw [(ha e).1]; simp only [upN]; repeat rw [if_neg (by omega)]
  · rw [(hb e).1]
theorem k_change {N N1 N2 : TN} {L L1 L2 : TL} {z : Nat} {b : Nat} {k m n : Int32} (h : Inv N L) (h1 : z = cChange (N 8 0 3) (N 8 1 3) k m n ∧ (cChange (N 8 0 3) (N 8 1 3) k m n = 0 → N1 = upN (upN N 19 (N 9 k.toInt.toNat m.toInt.toNat) 10 1) 11 k.toInt.toNat m.toInt.toNat n.toInt.toNat ∧ L1 = upL L 47 0 0 (q64 (N 11 k.toInt.toNat m.toInt.toNat))) ∧ (¬ cChange (N 8 0 3) (N 8 1 3) k m n = 0 → N1 = N ∧ L1 = L)) (h2 : L1 = L2 ∧ (cChange (N1 37 0 0) (N1 37 0 1) k m n = 0 → b = N1 40 0 (24 * k.toInt.toNat + m.toInt.toNat) ∧ N2 = upN (upN (upN (upN N1 23 0 0 0) 40 0 (24 * k.toInt.toNat + m.toInt.toNat) (tn n)) 41 0 (N1 38 0 (24 * k.toInt.toNat + m.toInt.toNat)) 1) 23 0 20 1) ∧ (¬ cChange (N1 37 0 0) (N1 37 0 1) k m n = 0 → N2 = upN N1 23 0 0 (cChange (N1 37 0 0) (N1 37 0 1) k m n))) : N2 23 0 0 = z ∧ z ≤ 3 ∧ Inv N2 L2 ∧ (z = 0 → L2 47 0 0 = (nI b).toInt64) := by
  have e0 : N1 37 0 0 = N 8 0 3 := (f_change h1 37 0 0 (by omega)).trans (h.z (by omega))
  have e1 : N1 37 0 1 = N 8 1 3 := (f_change h1 37 0 1 (by omega)).trans (h.z (by omega))
  rw [e0, e1] at h2
  obtain ⟨hz, ha, hb⟩ := h1
  obtain ⟨l2, hc, hd⟩ := h2
  subst l2
  have hle := (cChange_le : cChange (N 8 0 3) (N 8 1 3) k m n ≤ 3)
  by_cases e : cChange (N 8 0 3) (N 8 1 3) k m n = 0
  · obtain ⟨a1, l1⟩ := ha e
    obtain ⟨c1, c2⟩ := hc e
    obtain ⟨g1, g2, g3, g4⟩ := cChange_0 e
    have k_ := iv_change (q64 (N 11 k.toInt.toNat m.toInt.toNat)) h g1 g2 g3 g4 a1 c2
    rw [l1]
    exact ⟨by rw [k_.2.1, hz, e], by omega, k_.1, fun _ => by rw [upL_at, c1, k_.2.2]⟩
  · obtain ⟨n1, l1⟩ := hb e
    subst n1 l1
    rw [hd e]
    exact ⟨by rw [upN_at, hz], by omega, h.of (fun t a_ b_ q1 q2 => upN_ne (by omega)) (fun _ _ _ _ => rfl), fun q => absurd (hz.symm.trans q) e⟩
theorem f_order {N N1 : TN} {L L1 : TL} {z : Nat} {x w n : Int32} (h1 : z = cTell (N 8 1 3) x w n ∧ (cTell (N 8 1 3) x w n = 0 → N1 = upN (upN (upN (upN (upN N 19 x.toInt.toNat 10 1) 9 1 (N 8 1 3) x.toInt.toNat) 10 1 (N 8 1 3) w.toInt.toNat) 11 1 (N 8 1 3) n.toInt.toNat) 8 1 3 (N 8 1 3 + 1) ∧ L1 = upL L 47 0 0 (q64 (N 8 1 3))) ∧ (¬ cTell (N 8 1 3) x w n = 0 → N1 = N ∧ L1 = L)) : ∀ t a_ b_, 23 ≤ t → N1 t a_ b_ = N t a_ b_ := by
  obtain ⟨-, ha, hb⟩ := h1
  intro t a_ b_ ht
  by_cases e : cTell (N 8 1 3) x w n = 0
  · rw [(ha e).1]; simp only [upN]; repeat rw [if_neg (by omega)]
  · rw [(hb e).1]
theorem k_order {N N1 N2 : TN} {L L1 L2 : TL} {z : Nat} {b : Nat} {x w n : Int32} (h : Inv N L) (h1 : z = cTell (N 8 1 3) x w n ∧ (cTell (N 8 1 3) x w n = 0 → N1 = upN (upN (upN (upN (upN N 19 x.toInt.toNat 10 1) 9 1 (N 8 1 3) x.toInt.toNat) 10 1 (N 8 1 3) w.toInt.toNat) 11 1 (N 8 1 3) n.toInt.toNat) 8 1 3 (N 8 1 3 + 1) ∧ L1 = upL L 47 0 0 (q64 (N 8 1 3))) ∧ (¬ cTell (N 8 1 3) x w n = 0 → N1 = N ∧ L1 = L)) (h2 : L1 = L2 ∧ (cTell (N1 37 0 1) x w n = 0 → b = N1 37 0 1 ∧ N2 = upN (upN (upN (upN (upN (upN (upN N1 23 0 0 0) 41 0 x.toInt.toNat 1) 23 0 20 1) 38 0 (24 * 1 + N1 37 0 1) x.toInt.toNat) 39 0 (24 * 1 + N1 37 0 1) w.toInt.toNat) 40 0 (24 * 1 + N1 37 0 1) n.toInt.toNat) 37 0 1 (N1 37 0 1 + 1)) ∧ (¬ cTell (N1 37 0 1) x w n = 0 → N2 = upN N1 23 0 0 (cTell (N1 37 0 1) x w n))) : N2 23 0 0 = z ∧ z ≤ 3 ∧ Inv N2 L2 ∧ (z = 0 → L2 47 0 0 = (nI b).toInt64) := by
  have e37 : N1 37 0 1 = N 8 1 3 := (f_order h1 37 0 1 (by omega)).trans (h.z (by omega))
  rw [e37] at h2
  obtain ⟨hz, ha, hb⟩ := h1
  obtain ⟨l2, hc, hd⟩ := h2
  subst l2
  have hle := (cTell_le : cTell (N 8 1 3) x w n ≤ 3)
  by_cases e : cTell (N 8 1 3) x w n = 0
  · obtain ⟨a1, l1⟩ := ha e
    obtain ⟨c1, c2⟩ := hc e
    obtain ⟨g1, g2, g3, g4⟩ := cTell_0 e
    have k := iv_row (b := 1) (q64 (N 8 1 3)) h (by omega) g4 g1 g2 g3 a1 c2
    rw [l1]
    exact ⟨by rw [k.2, hz, e], by omega, k.1, fun _ => by rw [upL_at, c1]⟩
  · obtain ⟨n1, l1⟩ := hb e
    subst n1 l1
    rw [hd e]
    exact ⟨by rw [upN_at, hz], by omega, h.of (fun t a_ b_ q1 q2 => upN_ne (by omega)) (fun _ _ _ _ => rfl), fun q => absurd (hz.symm.trans q) e⟩
theorem f_level {N N1 : TN} {L L1 : TL} {z : Nat} {x : Int32} (h1 : z = cLevel x ∧ (cLevel x = 0 → N1 = N ∧ L1 = upL L 47 0 0 (q64 (N 6 0 x.toInt.toNat))) ∧ (¬ cLevel x = 0 → N1 = N ∧ L1 = L)) : ∀ t a_ b_, 23 ≤ t → N1 t a_ b_ = N t a_ b_ := by
  obtain ⟨-, ha, hb⟩ := h1
  intro t a_ b_ ht
  by_cases e : cLevel x = 0
  · rw [(ha e).1]
  · rw [(hb e).1]
theorem k_level {N N1 N2 : TN} {L L1 L2 : TL} {z : Nat} {b : Nat} {x : Int32} (h : Inv N L) (h1 : z = cLevel x ∧ (cLevel x = 0 → N1 = N ∧ L1 = upL L 47 0 0 (q64 (N 6 0 x.toInt.toNat))) ∧ (¬ cLevel x = 0 → N1 = N ∧ L1 = L)) (h2 : L1 = L2 ∧ (cLevel x = 0 → LVv (eg (mN N1)) x.toInt.toNat b ∧ N2 = upN N1 23 0 0 0) ∧ (¬ cLevel x = 0 → N2 = upN N1 23 0 0 (cLevel x))) : N2 23 0 0 = z ∧ z ≤ 3 ∧ Inv N2 L2 ∧ (z = 0 → L2 47 0 0 = (nI b).toInt64) := by
  obtain ⟨hz, ha, hb⟩ := h1
  obtain ⟨l2, hc, hd⟩ := h2
  subst l2
  have hle := (cLevel_le : cLevel x ≤ 3)
  by_cases e : cLevel x = 0
  · obtain ⟨a1, l1⟩ := ha e
    subst a1
    obtain ⟨c1, c2⟩ := hc e
    rw [l1, c2]
    exact ⟨by rw [upN_at, hz, e], by omega, h.of (fun t a_ b_ q1 q2 => upN_ne (by omega)) (fun t a_ b_ q => upL_ne (by omega)), fun _ => by rw [upL_at, h.lev (cLevel_0 e) c1]⟩
  · obtain ⟨n1, l1⟩ := hb e
    subst n1 l1
    rw [hd e]
    exact ⟨by rw [upN_at, hz], by omega, h.of (fun t a_ b_ q1 q2 => upN_ne (by omega)) (fun _ _ _ _ => rfl), fun q => absurd (hz.symm.trans q) e⟩
theorem f_gross {N N1 : TN} {L L1 : TL} {z : Nat} {x w : Int32} (h1 : z = cPlan (bo (TD N)) x w ∧ (cPlan (bo (TD N)) x w = 0 → N1 = N ∧ L1 = upL L 47 0 0 (L 20 x.toInt.toNat w.toInt.toNat)) ∧ (¬ cPlan (bo (TD N)) x w = 0 → N1 = N ∧ L1 = L)) : ∀ t a_ b_, 23 ≤ t → N1 t a_ b_ = N t a_ b_ := by
  obtain ⟨-, ha, hb⟩ := h1
  intro t a_ b_ ht
  by_cases e : cPlan (bo (TD N)) x w = 0
  · rw [(ha e).1]
  · rw [(hb e).1]
theorem k_gross {N N1 N2 : TN} {L L1 L2 : TL} {z : Nat} {b : Int64} {x w : Int32} (h : Inv N L) (h1 : z = cPlan (bo (TD N)) x w ∧ (cPlan (bo (TD N)) x w = 0 → N1 = N ∧ L1 = upL L 47 0 0 (L 20 x.toInt.toNat w.toInt.toNat)) ∧ (¬ cPlan (bo (TD N)) x w = 0 → N1 = N ∧ L1 = L)) (h2 : L1 = L2 ∧ N2 = upN N1 23 0 0 (cPlan (N1 23 0 20) x w) ∧ (cPlan (N1 23 0 20) x w = 0 → b = mW L1 20 x.toInt.toNat w.toInt.toNat)) : N2 23 0 0 = z ∧ z ≤ 3 ∧ Inv N2 L2 ∧ (z = 0 → L2 47 0 0 = b) := by
  obtain ⟨hz, ha, hb⟩ := h1
  obtain ⟨l2, hn, hv⟩ := h2
  subst l2
  have hle := (cPlan_le : cPlan (bo (TD N)) x w ≤ 3)
  have n1 : N = N1 := by
    by_cases e : cPlan (bo (TD N)) x w = 0
    · exact (ha e).1.symm
    · exact (hb e).1.symm
  subst n1
  have e20 := h.2.2.2.1.2.1
  rw [e20] at hn hv
  rw [hn]
  by_cases e : cPlan (bo (TD N)) x w = 0
  · obtain ⟨-, l1⟩ := ha e
    have v1 := hv e
    rw [l1] at v1 ⊢
    exact ⟨by rw [upN_at, hz], by omega, h.of (fun t a_ b_ q1 q2 => upN_ne (by omega)) (fun t a_ b_ q => upL_ne (by omega)), fun _ => by rw [upL_at, v1]; rw [mW_20]; exact (h.r20 (cPlan_0 e).1 (cPlan_0 e).2.1).symm⟩
  · obtain ⟨-, l1⟩ := hb e
    subst l1
    exact ⟨by rw [upN_at, hz], by omega, h.of (fun t a_ b_ q1 q2 => upN_ne (by omega)) (fun _ _ _ _ => rfl), fun q => absurd (hz.symm.trans q) e⟩
theorem f_planned {N N1 : TN} {L L1 : TL} {z : Nat} {x w : Int32} (h1 : z = cPlan (bo (TD N)) x w ∧ (cPlan (bo (TD N)) x w = 0 → N1 = N ∧ L1 = upL L 47 0 0 (L 21 x.toInt.toNat w.toInt.toNat)) ∧ (¬ cPlan (bo (TD N)) x w = 0 → N1 = N ∧ L1 = L)) : ∀ t a_ b_, 23 ≤ t → N1 t a_ b_ = N t a_ b_ := by
  obtain ⟨-, ha, hb⟩ := h1
  intro t a_ b_ ht
  by_cases e : cPlan (bo (TD N)) x w = 0
  · rw [(ha e).1]
  · rw [(hb e).1]
theorem k_planned {N N1 N2 : TN} {L L1 L2 : TL} {z : Nat} {b : Int64} {x w : Int32} (h : Inv N L) (h1 : z = cPlan (bo (TD N)) x w ∧ (cPlan (bo (TD N)) x w = 0 → N1 = N ∧ L1 = upL L 47 0 0 (L 21 x.toInt.toNat w.toInt.toNat)) ∧ (¬ cPlan (bo (TD N)) x w = 0 → N1 = N ∧ L1 = L)) (h2 : L1 = L2 ∧ N2 = upN N1 23 0 0 (cPlan (N1 23 0 20) x w) ∧ (cPlan (N1 23 0 20) x w = 0 → b = mW L1 21 x.toInt.toNat w.toInt.toNat)) : N2 23 0 0 = z ∧ z ≤ 3 ∧ Inv N2 L2 ∧ (z = 0 → L2 47 0 0 = b) := by
  obtain ⟨hz, ha, hb⟩ := h1
  obtain ⟨l2, hn, hv⟩ := h2
  subst l2
  have hle := (cPlan_le : cPlan (bo (TD N)) x w ≤ 3)
  have n1 : N = N1 := by
    by_cases e : cPlan (bo (TD N)) x w = 0
    · exact (ha e).1.symm
    · exact (hb e).1.symm
  subst n1
  have e20 := h.2.2.2.1.2.1
  rw [e20] at hn hv
  rw [hn]
  by_cases e : cPlan (bo (TD N)) x w = 0
  · obtain ⟨-, l1⟩ := ha e
    have v1 := hv e
    rw [l1] at v1 ⊢
    exact ⟨by rw [upN_at, hz], by omega, h.of (fun t a_ b_ q1 q2 => upN_ne (by omega)) (fun t a_ b_ q => upL_ne (by omega)), fun _ => by rw [upL_at, v1]; rw [mW_21]; exact (h.r21 (cPlan_0 e).1 (cPlan_0 e).2.1).symm⟩
  · obtain ⟨-, l1⟩ := hb e
    subst l1
    exact ⟨by rw [upN_at, hz], by omega, h.of (fun t a_ b_ q1 q2 => upN_ne (by omega)) (fun _ _ _ _ => rfl), fun q => absurd (hz.symm.trans q) e⟩
theorem f_balance {N N1 : TN} {L L1 : TL} {z : Nat} {x w : Int32} (h1 : z = cPlan (bo (TD N)) x w ∧ (cPlan (bo (TD N)) x w = 0 → N1 = N ∧ L1 = upL L 47 0 0 (L 22 x.toInt.toNat w.toInt.toNat)) ∧ (¬ cPlan (bo (TD N)) x w = 0 → N1 = N ∧ L1 = L)) : ∀ t a_ b_, 23 ≤ t → N1 t a_ b_ = N t a_ b_ := by
  obtain ⟨-, ha, hb⟩ := h1
  intro t a_ b_ ht
  by_cases e : cPlan (bo (TD N)) x w = 0
  · rw [(ha e).1]
  · rw [(hb e).1]
theorem g_balance {N N1 : TN} {L L1 : TL} {z : Nat} {x w : Int32} (h1 : z = cPlan (bo (TD N)) x w ∧ (cPlan (bo (TD N)) x w = 0 → N1 = N ∧ L1 = upL L 47 0 0 (L 22 x.toInt.toNat w.toInt.toNat)) ∧ (¬ cPlan (bo (TD N)) x w = 0 → N1 = N ∧ L1 = L)) : ∀ b_, N1 6 0 b_ = N 6 0 b_ := by
  obtain ⟨-, ha, hb⟩ := h1
  intro b_
  by_cases e : cPlan (bo (TD N)) x w = 0
  · rw [(ha e).1]
  · rw [(hb e).1]
theorem k_balance {N N1 N2 : TN} {L L1 L2 : TL} {z : Nat} {b : Int64} {x w : Int32} (h : Inv N L) (h1 : z = cPlan (bo (TD N)) x w ∧ (cPlan (bo (TD N)) x w = 0 → N1 = N ∧ L1 = upL L 47 0 0 (L 22 x.toInt.toNat w.toInt.toNat)) ∧ (¬ cPlan (bo (TD N)) x w = 0 → N1 = N ∧ L1 = L)) (h2 : L1 = L2 ∧ N2 = upN N1 23 0 0 (cPlan (N1 23 0 20) x w) ∧ (cPlan (N1 23 0 20) x w = 0 → b = bareF (mN N1 19 x.toInt.toNat) (brF (mN N1) x.toInt.toNat) (mW L1 20 x.toInt.toNat) w.toInt.toNat + sm (mW L1 21 x.toInt.toNat) (w.toInt.toNat + 1))) : N2 23 0 0 = z ∧ z ≤ 3 ∧ Inv N2 L2 ∧ (z = 0 → L2 47 0 0 = b) := by
  obtain ⟨hz, ha, hb⟩ := h1
  obtain ⟨l2, hn, hv⟩ := h2
  subst l2
  have hle := (cPlan_le : cPlan (bo (TD N)) x w ≤ 3)
  have n1 : N = N1 := by
    by_cases e : cPlan (bo (TD N)) x w = 0
    · exact (ha e).1.symm
    · exact (hb e).1.symm
  subst n1
  have e20 := h.2.2.2.1.2.1
  rw [e20] at hn hv
  rw [hn]
  by_cases e : cPlan (bo (TD N)) x w = 0
  · obtain ⟨-, l1⟩ := ha e
    have v1 := hv e
    rw [l1] at v1 ⊢
    exact ⟨by rw [upN_at, hz], by omega, h.of (fun t a_ b_ q1 q2 => upN_ne (by omega)) (fun t a_ b_ q => upL_ne (by omega)), fun _ => by rw [upL_at, v1]; rw [mW_20, mW_21]; exact h.bal (cPlan_0 e).1 (cPlan_0 e).2.1 (TD_0 (cPlan_0 e).2.2 _ (cPlan_0 e).1)⟩
  · obtain ⟨-, l1⟩ := hb e
    subst l1
    exact ⟨by rw [upN_at, hz], by omega, h.of (fun t a_ b_ q1 q2 => upN_ne (by omega)) (fun _ _ _ _ => rfl), fun q => absurd (hz.symm.trans q) e⟩
theorem f_peg {N N1 : TN} {L L1 : TL} {z : Nat} {d k m : Int32} (h1 : z = cPeg (N 8 0 3) (N 8 1 3) (bo (TD N)) d k m ∧ (cPeg (N 8 0 3) (N 8 1 3) (bo (TD N)) d k m = 0 → N1 = N ∧ L1 = upL L 47 0 0 (pgF N L d.toInt.toNat k.toInt.toNat m.toInt.toNat)) ∧ (¬ cPeg (N 8 0 3) (N 8 1 3) (bo (TD N)) d k m = 0 → N1 = N ∧ L1 = L)) : ∀ t a_ b_, 23 ≤ t → N1 t a_ b_ = N t a_ b_ := by
  obtain ⟨-, ha, hb⟩ := h1
  intro t a_ b_ ht
  by_cases e : cPeg (N 8 0 3) (N 8 1 3) (bo (TD N)) d k m = 0
  · rw [(ha e).1]
  · rw [(hb e).1]
theorem g_peg {N N1 : TN} {L L1 : TL} {z : Nat} {d k m : Int32} (h1 : z = cPeg (N 8 0 3) (N 8 1 3) (bo (TD N)) d k m ∧ (cPeg (N 8 0 3) (N 8 1 3) (bo (TD N)) d k m = 0 → N1 = N ∧ L1 = upL L 47 0 0 (pgF N L d.toInt.toNat k.toInt.toNat m.toInt.toNat)) ∧ (¬ cPeg (N 8 0 3) (N 8 1 3) (bo (TD N)) d k m = 0 → N1 = N ∧ L1 = L)) : ∀ b_, N1 6 0 b_ = N 6 0 b_ := by
  obtain ⟨-, ha, hb⟩ := h1
  intro b_
  by_cases e : cPeg (N 8 0 3) (N 8 1 3) (bo (TD N)) d k m = 0
  · rw [(ha e).1]
  · rw [(hb e).1]
theorem k_peg {N N1 N2 : TN} {L L1 L2 : TL} {z : Nat} {b : Int64} {d k m : Int32} (h : Inv N L) (h1 : z = cPeg (N 8 0 3) (N 8 1 3) (bo (TD N)) d k m ∧ (cPeg (N 8 0 3) (N 8 1 3) (bo (TD N)) d k m = 0 → N1 = N ∧ L1 = upL L 47 0 0 (pgF N L d.toInt.toNat k.toInt.toNat m.toInt.toNat)) ∧ (¬ cPeg (N 8 0 3) (N 8 1 3) (bo (TD N)) d k m = 0 → N1 = N ∧ L1 = L)) (h2 : L1 = L2 ∧ N2 = upN N1 23 0 0 (cPeg (N1 37 0 0) (N1 37 0 1) (N1 23 0 20) d k m) ∧ (cPeg (N1 37 0 0) (N1 37 0 1) (N1 23 0 20) d k m = 0 → b = pgM N1 L1 d.toInt.toNat k.toInt.toNat m.toInt.toNat)) : N2 23 0 0 = z ∧ z ≤ 3 ∧ Inv N2 L2 ∧ (z = 0 → L2 47 0 0 = b) := by
  obtain ⟨hz, ha, hb⟩ := h1
  obtain ⟨l2, hn, hv⟩ := h2
  subst l2
  have hle := (cPeg_le : cPeg (N 8 0 3) (N 8 1 3) (bo (TD N)) d k m ≤ 3)
  have n1 : N = N1 := by
    by_cases e : cPeg (N 8 0 3) (N 8 1 3) (bo (TD N)) d k m = 0
    · exact (ha e).1.symm
    · exact (hb e).1.symm
  subst n1
  have e20 := h.2.2.2.1.2.1
  rw [e20, h.z (b := 0) (by omega), h.z (b := 1) (by omega)] at hn hv
  rw [hn]
  by_cases e : cPeg (N 8 0 3) (N 8 1 3) (bo (TD N)) d k m = 0
  · obtain ⟨-, l1⟩ := ha e
    have v1 := hv e
    rw [l1] at v1 ⊢
    exact ⟨by rw [upN_at, hz], by omega, h.of (fun t a_ b_ q1 q2 => upN_ne (by omega)) (fun t a_ b_ q => upL_ne (by omega)), fun _ => by rw [upL_at, v1]; exact h.peg _ (cPeg_0 e).1 (cPeg_0 e).2.1 (cPeg_0 e).2.2⟩
  · obtain ⟨-, l1⟩ := hb e
    subst l1
    exact ⟨by rw [upN_at, hz], by omega, h.of (fun t a_ b_ q1 q2 => upN_ne (by omega)) (fun _ _ _ _ => rfl), fun q => absurd (hz.symm.trans q) e⟩
theorem f_promise {N N1 : TN} {L L1 : TL} {z : Nat} {x n w : Int32} (h1 : z = cProm (bo (TD N)) x n w ∧ (cProm (bo (TD N)) x n w = 0 → ∃ y, LT (okW N L x.toInt.toNat n.toInt.toNat) w.toInt.toNat y ∧ N1 = N ∧ L1 = upL L 47 0 0 (y.toInt64)) ∧ (¬ cProm (bo (TD N)) x n w = 0 → N1 = N ∧ L1 = L)) : ∀ t a_ b_, 23 ≤ t → N1 t a_ b_ = N t a_ b_ := by
  obtain ⟨-, ha, hb⟩ := h1
  intro t a_ b_ ht
  by_cases e : cProm (bo (TD N)) x n w = 0
  · obtain ⟨y, -, q, -⟩ := ha e
    rw [q]
  · rw [(hb e).1]
theorem g_promise {N N1 : TN} {L L1 : TL} {z : Nat} {x n w : Int32} (h1 : z = cProm (bo (TD N)) x n w ∧ (cProm (bo (TD N)) x n w = 0 → ∃ y, LT (okW N L x.toInt.toNat n.toInt.toNat) w.toInt.toNat y ∧ N1 = N ∧ L1 = upL L 47 0 0 (y.toInt64)) ∧ (¬ cProm (bo (TD N)) x n w = 0 → N1 = N ∧ L1 = L)) : ∀ b_, N1 6 0 b_ = N 6 0 b_ := by
  obtain ⟨-, ha, hb⟩ := h1
  intro b_
  by_cases e : cProm (bo (TD N)) x n w = 0
  · obtain ⟨y, -, q, -⟩ := ha e
    rw [q]
  · rw [(hb e).1]
theorem k_promise {N N1 N2 : TN} {L L1 L2 : TL} {z : Nat} {b : Int32} {x n w : Int32} (h : Inv N L) (h1 : z = cProm (bo (TD N)) x n w ∧ (cProm (bo (TD N)) x n w = 0 → ∃ y, LT (okW N L x.toInt.toNat n.toInt.toNat) w.toInt.toNat y ∧ N1 = N ∧ L1 = upL L 47 0 0 (y.toInt64)) ∧ (¬ cProm (bo (TD N)) x n w = 0 → N1 = N ∧ L1 = L)) (h2 : L1 = L2 ∧ N2 = upN N1 23 0 0 (cProm (N1 23 0 20) x n w) ∧ (cProm (N1 23 0 20) x n w = 0 → LT (okM N1 L1 x.toInt.toNat n.toInt.toNat) w.toInt.toNat b)) : N2 23 0 0 = z ∧ z ≤ 3 ∧ Inv N2 L2 ∧ (z = 0 → L2 47 0 0 = b.toInt64) := by
  obtain ⟨hz, ha, hb⟩ := h1
  obtain ⟨l2, hn, hv⟩ := h2
  subst l2
  have hle := (cProm_le : cProm (bo (TD N)) x n w ≤ 3)
  have n1 : N = N1 := by
    by_cases e : cProm (bo (TD N)) x n w = 0
    · obtain ⟨y, -, q, -⟩ := ha e; exact q.symm
    · exact (hb e).1.symm
  subst n1
  have e20 := h.2.2.2.1.2.1
  rw [e20] at hn hv
  rw [hn]
  by_cases e : cProm (bo (TD N)) x n w = 0
  · obtain ⟨y, hy, -, l1⟩ := ha e
    have v1 := hv e
    rw [l1] at v1 ⊢
    obtain ⟨g1, g2, g3, g4⟩ := cProm_0 e
    have ey : y = b := LT.uniq (LT_cg (fun v hv => h.ok _ g1 hv (TD_0 (bo_n1 g4) _ g1)) hy) v1
    exact ⟨by rw [upN_at, hz], by omega, h.of (fun t a_ b_ q1 q2 => upN_ne (by omega)) (fun t a_ b_ q => upL_ne (by omega)), fun _ => by rw [upL_at, ey]⟩
  · obtain ⟨-, l1⟩ := hb e
    subst l1
    exact ⟨by rw [upN_at, hz], by omega, h.of (fun t a_ b_ q1 q2 => upN_ne (by omega)) (fun _ _ _ _ => rfl), fun q => absurd (hz.symm.trans q) e⟩
theorem f_reserve {N N1 : TN} {L L1 : TL} {z : Nat} {x n w : Int32} (h1 : z = cProm (if 24 ≤ N 8 2 3 then 1 else bo (TD N)) x n w ∧ (cProm (if 24 ≤ N 8 2 3 then 1 else bo (TD N)) x n w = 0 → ∃ y, ((y = Int32.ofInt (-1) ∧ (¬ ∀ u, w.toInt.toNat ≤ u → u < 12 → okW N L x.toInt.toNat n.toInt.toNat u) ∧ N1 = N) ∨ (y = nI (N 8 2 3) ∧ (∀ u, w.toInt.toNat ≤ u → u < 12 → okW N L x.toInt.toNat n.toInt.toNat u) ∧ N1 = upN (upN (upN (upN N 9 2 (N 8 2 3) x.toInt.toNat) 10 2 (N 8 2 3) w.toInt.toNat) 11 2 (N 8 2 3) n.toInt.toNat) 8 2 3 (N 8 2 3 + 1))) ∧ L1 = upL L 47 0 0 (y.toInt64)) ∧ (¬ cProm (if 24 ≤ N 8 2 3 then 1 else bo (TD N)) x n w = 0 → N1 = N ∧ L1 = L)) : ∀ t a_ b_, 23 ≤ t → N1 t a_ b_ = N t a_ b_ := by
  obtain ⟨-, ha, hb⟩ := h1
  intro t a_ b_ ht
  by_cases e : cProm (if 24 ≤ N 8 2 3 then 1 else bo (TD N)) x n w = 0
  · obtain ⟨y, (⟨-, -, q⟩ | ⟨-, -, q⟩), -⟩ := ha e
    · rw [q]
    · rw [q]; simp only [upN]; repeat rw [if_neg (by omega)]
  · rw [(hb e).1]
theorem g_reserve {N N1 : TN} {L L1 : TL} {z : Nat} {x n w : Int32} (h1 : z = cProm (if 24 ≤ N 8 2 3 then 1 else bo (TD N)) x n w ∧ (cProm (if 24 ≤ N 8 2 3 then 1 else bo (TD N)) x n w = 0 → ∃ y, ((y = Int32.ofInt (-1) ∧ (¬ ∀ u, w.toInt.toNat ≤ u → u < 12 → okW N L x.toInt.toNat n.toInt.toNat u) ∧ N1 = N) ∨ (y = nI (N 8 2 3) ∧ (∀ u, w.toInt.toNat ≤ u → u < 12 → okW N L x.toInt.toNat n.toInt.toNat u) ∧ N1 = upN (upN (upN (upN N 9 2 (N 8 2 3) x.toInt.toNat) 10 2 (N 8 2 3) w.toInt.toNat) 11 2 (N 8 2 3) n.toInt.toNat) 8 2 3 (N 8 2 3 + 1))) ∧ L1 = upL L 47 0 0 (y.toInt64)) ∧ (¬ cProm (if 24 ≤ N 8 2 3 then 1 else bo (TD N)) x n w = 0 → N1 = N ∧ L1 = L)) : ∀ b_, N1 6 0 b_ = N 6 0 b_ := by
  obtain ⟨-, ha, hb⟩ := h1
  intro b_
  by_cases e : cProm (if 24 ≤ N 8 2 3 then 1 else bo (TD N)) x n w = 0
  · obtain ⟨y, (⟨-, -, q⟩ | ⟨-, -, q⟩), -⟩ := ha e
    · rw [q]
    · rw [q]; simp only [upN]; repeat rw [if_neg (by omega)]
  · rw [(hb e).1]
theorem k_reserve {N N1 N2 : TN} {L L1 L2 : TL} {z : Nat} {b : Int32} {x n w : Int32} (h : Inv N L) (h1 : z = cProm (if 24 ≤ N 8 2 3 then 1 else bo (TD N)) x n w ∧ (cProm (if 24 ≤ N 8 2 3 then 1 else bo (TD N)) x n w = 0 → ∃ y, ((y = Int32.ofInt (-1) ∧ (¬ ∀ u, w.toInt.toNat ≤ u → u < 12 → okW N L x.toInt.toNat n.toInt.toNat u) ∧ N1 = N) ∨ (y = nI (N 8 2 3) ∧ (∀ u, w.toInt.toNat ≤ u → u < 12 → okW N L x.toInt.toNat n.toInt.toNat u) ∧ N1 = upN (upN (upN (upN N 9 2 (N 8 2 3) x.toInt.toNat) 10 2 (N 8 2 3) w.toInt.toNat) 11 2 (N 8 2 3) n.toInt.toNat) 8 2 3 (N 8 2 3 + 1))) ∧ L1 = upL L 47 0 0 (y.toInt64)) ∧ (¬ cProm (if 24 ≤ N 8 2 3 then 1 else bo (TD N)) x n w = 0 → N1 = N ∧ L1 = L)) (h2 : L1 = L2 ∧ (cProm (if 24 ≤ N1 37 0 2 then 1 else N1 23 0 20) x n w = 0 → (b = Int32.ofInt (-1) ∧ (¬ ∀ u, w.toInt.toNat ≤ u → u < 12 → okM N1 L1 x.toInt.toNat n.toInt.toNat u) ∧ N2 = upN N1 23 0 0 0) ∨ (b = nI (N1 37 0 2) ∧ (∀ u, w.toInt.toNat ≤ u → u < 12 → okM N1 L1 x.toInt.toNat n.toInt.toNat u) ∧ N2 = upN (upN (upN (upN (upN N1 23 0 0 0) 38 0 (24 * 2 + N1 37 0 2) x.toInt.toNat) 39 0 (24 * 2 + N1 37 0 2) w.toInt.toNat) 40 0 (24 * 2 + N1 37 0 2) n.toInt.toNat) 37 0 2 (N1 37 0 2 + 1))) ∧ (¬ cProm (if 24 ≤ N1 37 0 2 then 1 else N1 23 0 20) x n w = 0 → N2 = upN N1 23 0 0 (cProm (if 24 ≤ N1 37 0 2 then 1 else N1 23 0 20) x n w))) : N2 23 0 0 = z ∧ z ≤ 3 ∧ Inv N2 L2 ∧ (z = 0 → L2 47 0 0 = b.toInt64) := by
  have hF := f_reserve h1
  have e37 : N1 37 0 2 = N 8 2 3 := (hF 37 0 2 (by omega)).trans (h.z (by omega))
  have e20 : N1 23 0 20 = bo (TD N) := (hF 23 0 20 (by omega)).trans h.2.2.2.1.2.1
  have eok : ∀ L9 i n v, okM N1 L9 i n v ↔ okM N L9 i n v := fun L9 i n v => okM_fr hF
  rw [e20, e37] at h2
  obtain ⟨hz, ha, hb⟩ := h1
  obtain ⟨l2, hc, hd⟩ := h2
  subst l2
  have hle := (cProm_le : cProm (if 24 ≤ N 8 2 3 then 1 else bo (TD N)) x n w ≤ 3)
  by_cases e : cProm (if 24 ≤ N 8 2 3 then 1 else bo (TD N)) x n w = 0
  · obtain ⟨y, hy, l1⟩ := ha e
    have hc := hc e
    have e' : cProm (bo (TD N)) x n w = 0 ∧ N 8 2 3 < 24 := by
      by_cases h24 : 24 ≤ N 8 2 3
      · rw [if_pos h24] at e
        have := (cProm_0 e).2.2.2; omega
      · rw [if_neg h24] at e
        exact ⟨e, by omega⟩
    obtain ⟨g1, g2, g3, g4⟩ := cProm_0 e'.1
    have iff_ : (∀ u, w.toInt.toNat ≤ u → u < 12 → okW N L x.toInt.toNat n.toInt.toNat u) ↔ (∀ u, w.toInt.toNat ≤ u → u < 12 → okM N1 L1 x.toInt.toNat n.toInt.toNat u) := by
      rw [l1]
      constructor
      · intro q u hu hu2; exact (eok _ _ _ _).mpr ((h.ok _ g1 hu2 (TD_0 (bo_n1 g4) _ g1)).mp (q u hu hu2))
      · intro q u hu hu2; exact (h.ok _ g1 hu2 (TD_0 (bo_n1 g4) _ g1)).mpr ((eok _ _ _ _).mp (q u hu hu2))
    rcases hy with ⟨y1, y2, y3⟩ | ⟨y1, y2, y3⟩
    · rcases hc with ⟨c1, c2, c3⟩ | ⟨c1, c2, c3⟩
      · subst y3
        rw [c3, l1]
        exact ⟨by rw [upN_at, hz, e], by omega, h.of (fun t a_ b_ q1 q2 => upN_ne (by omega)) (fun t a_ b_ q => upL_ne (by omega)), fun _ => by rw [upL_at, y1, c1]⟩
      · exact absurd (iff_.mpr c2) y2
    · rcases hc with ⟨c1, c2, c3⟩ | ⟨c1, c2, c3⟩
      · exact absurd (iff_.mp y2) c2
      · have k := iv_res y.toInt64 h e'.2 g1 g2 g3 y3 c3
        rw [l1]
        exact ⟨by rw [k.2, hz, e], by omega, k.1, fun _ => by rw [upL_at, y1, c1]⟩
  · obtain ⟨n1, l1⟩ := hb e
    subst n1 l1
    rw [hd e]
    exact ⟨by rw [upN_at, hz], by omega, h.of (fun t a_ b_ q1 q2 => upN_ne (by omega)) (fun _ _ _ _ => rfl), fun q => absurd (hz.symm.trans q) e⟩
theorem f_giveBack {N N1 : TN} {L L1 : TL} {z : Nat} {x : Int32} (h1 : z = cGive (N 8 2 3) x ∧ (cGive (N 8 2 3) x = 0 → N1 = upN N 11 2 x.toInt.toNat 0 ∧ L1 = upL L 47 0 0 (q64 (N 11 2 x.toInt.toNat))) ∧ (¬ cGive (N 8 2 3) x = 0 → N1 = N ∧ L1 = L)) : ∀ t a_ b_, 23 ≤ t → N1 t a_ b_ = N t a_ b_ := by
  obtain ⟨-, ha, hb⟩ := h1
  intro t a_ b_ ht
  by_cases e : cGive (N 8 2 3) x = 0
  · rw [(ha e).1]; simp only [upN]; repeat rw [if_neg (by omega)]
  · rw [(hb e).1]
theorem k_giveBack {N N1 N2 : TN} {L L1 L2 : TL} {z : Nat} {b : Nat} {x : Int32} (h : Inv N L) (h1 : z = cGive (N 8 2 3) x ∧ (cGive (N 8 2 3) x = 0 → N1 = upN N 11 2 x.toInt.toNat 0 ∧ L1 = upL L 47 0 0 (q64 (N 11 2 x.toInt.toNat))) ∧ (¬ cGive (N 8 2 3) x = 0 → N1 = N ∧ L1 = L)) (h2 : L1 = L2 ∧ (cGive (N1 37 0 2) x = 0 → b = N1 40 0 (48 + x.toInt.toNat) ∧ N2 = upN (upN N1 23 0 0 0) 40 0 (48 + x.toInt.toNat) 0) ∧ (¬ cGive (N1 37 0 2) x = 0 → N2 = upN N1 23 0 0 (cGive (N1 37 0 2) x))) : N2 23 0 0 = z ∧ z ≤ 3 ∧ Inv N2 L2 ∧ (z = 0 → L2 47 0 0 = (nI b).toInt64) := by
  have e0 : N1 37 0 2 = N 8 2 3 := (f_giveBack h1 37 0 2 (by omega)).trans (h.z (by omega))
  rw [e0] at h2
  obtain ⟨hz, ha, hb⟩ := h1
  obtain ⟨l2, hc, hd⟩ := h2
  subst l2
  have hle := (cGive_le : cGive (N 8 2 3) x ≤ 3)
  by_cases e : cGive (N 8 2 3) x = 0
  · obtain ⟨a1, l1⟩ := ha e
    obtain ⟨c1, c2⟩ := hc e
    have k := iv_give (q64 (N 11 2 x.toInt.toNat)) h (cGive_0 e) a1 c2
    rw [l1]
    exact ⟨by rw [k.2.1, hz, e], by omega, k.1, fun _ => by rw [upL_at, c1, k.2.2]⟩
  · obtain ⟨n1, l1⟩ := hb e
    subst n1 l1
    rw [hd e]
    exact ⟨by rw [upN_at, hz], by omega, h.of (fun t a_ b_ q1 q2 => upN_ne (by omega)) (fun _ _ _ _ => rfl), fun q => absurd (hz.symm.trans q) e⟩
theorem f_load {N N1 : TN} {L L1 : TL} {z : Nat} {c w : Int32} (h1 : z = cLoad (bo (TD N)) c w ∧ (cLoad (bo (TD N)) c w = 0 → N1 = N ∧ L1 = upL L 47 0 0 (ldF N L c.toInt.toNat w.toInt.toNat)) ∧ (¬ cLoad (bo (TD N)) c w = 0 → N1 = N ∧ L1 = L)) : ∀ t a_ b_, 23 ≤ t → N1 t a_ b_ = N t a_ b_ := by
  obtain ⟨-, ha, hb⟩ := h1
  intro t a_ b_ ht
  by_cases e : cLoad (bo (TD N)) c w = 0
  · rw [(ha e).1]
  · rw [(hb e).1]
theorem g_load {N N1 : TN} {L L1 : TL} {z : Nat} {c w : Int32} (h1 : z = cLoad (bo (TD N)) c w ∧ (cLoad (bo (TD N)) c w = 0 → N1 = N ∧ L1 = upL L 47 0 0 (ldF N L c.toInt.toNat w.toInt.toNat)) ∧ (¬ cLoad (bo (TD N)) c w = 0 → N1 = N ∧ L1 = L)) : ∀ b_, N1 6 0 b_ = N 6 0 b_ := by
  obtain ⟨-, ha, hb⟩ := h1
  intro b_
  by_cases e : cLoad (bo (TD N)) c w = 0
  · rw [(ha e).1]
  · rw [(hb e).1]
theorem k_load {N N1 N2 : TN} {L L1 L2 : TL} {z : Nat} {b : Int64} {c w : Int32} (h : Inv N L) (h1 : z = cLoad (bo (TD N)) c w ∧ (cLoad (bo (TD N)) c w = 0 → N1 = N ∧ L1 = upL L 47 0 0 (ldF N L c.toInt.toNat w.toInt.toNat)) ∧ (¬ cLoad (bo (TD N)) c w = 0 → N1 = N ∧ L1 = L)) (h2 : L1 = L2 ∧ N2 = upN N1 23 0 0 (cLoad (N1 23 0 20) c w) ∧ (cLoad (N1 23 0 20) c w = 0 → b = ldF (mN N1) (mW L1) c.toInt.toNat w.toInt.toNat)) : N2 23 0 0 = z ∧ z ≤ 3 ∧ Inv N2 L2 ∧ (z = 0 → L2 47 0 0 = b) := by
  obtain ⟨hz, ha, hb⟩ := h1
  obtain ⟨l2, hn, hv⟩ := h2
  subst l2
  have hle := (cLoad_le : cLoad (bo (TD N)) c w ≤ 3)
  have n1 : N = N1 := by
    by_cases e : cLoad (bo (TD N)) c w = 0
    · exact (ha e).1.symm
    · exact (hb e).1.symm
  subst n1
  have e20 := h.2.2.2.1.2.1
  rw [e20] at hn hv
  rw [hn]
  by_cases e : cLoad (bo (TD N)) c w = 0
  · obtain ⟨-, l1⟩ := ha e
    have v1 := hv e
    rw [l1] at v1 ⊢
    exact ⟨by rw [upN_at, hz], by omega, h.of (fun t a_ b_ q1 q2 => upN_ne (by omega)) (fun t a_ b_ q => upL_ne (by omega)), fun _ => by rw [upL_at, v1]; exact h.ld _⟩
  · obtain ⟨-, l1⟩ := hb e
    subst l1
    exact ⟨by rw [upN_at, hz], by omega, h.of (fun t a_ b_ q1 q2 => upN_ne (by omega)) (fun _ _ _ _ => rfl), fun q => absurd (hz.symm.trans q) e⟩
theorem f_count {N N1 : TN} {L L1 : TL} {z : Nat} {x : Int32} (h1 : z = cCount (bo (TD N)) x ∧ (cCount (bo (TD N)) x = 0 → N1 = N ∧ L1 = upL L 47 0 0 ((vCount N L x).toInt64)) ∧ (¬ cCount (bo (TD N)) x = 0 → N1 = N ∧ L1 = L)) : ∀ t a_ b_, 23 ≤ t → N1 t a_ b_ = N t a_ b_ := by
  obtain ⟨-, ha, hb⟩ := h1
  intro t a_ b_ ht
  by_cases e : cCount (bo (TD N)) x = 0
  · rw [(ha e).1]
  · rw [(hb e).1]
theorem g_count {N N1 : TN} {L L1 : TL} {z : Nat} {x : Int32} (h1 : z = cCount (bo (TD N)) x ∧ (cCount (bo (TD N)) x = 0 → N1 = N ∧ L1 = upL L 47 0 0 ((vCount N L x).toInt64)) ∧ (¬ cCount (bo (TD N)) x = 0 → N1 = N ∧ L1 = L)) : ∀ b_, N1 6 0 b_ = N 6 0 b_ := by
  obtain ⟨-, ha, hb⟩ := h1
  intro b_
  by_cases e : cCount (bo (TD N)) x = 0
  · rw [(ha e).1]
  · rw [(hb e).1]
theorem k_count {N N1 N2 : TN} {L L1 L2 : TL} {z : Nat} {b : Int32} {x : Int32} (h : Inv N L) (h1 : z = cCount (bo (TD N)) x ∧ (cCount (bo (TD N)) x = 0 → N1 = N ∧ L1 = upL L 47 0 0 ((vCount N L x).toInt64)) ∧ (¬ cCount (bo (TD N)) x = 0 → N1 = N ∧ L1 = L)) (h2 : L1 = L2 ∧ N2 = upN N1 23 0 0 (cCount (N1 23 0 20) x) ∧ (cCount (N1 23 0 20) x = 0 → b = vCountM N1 L1 x)) : N2 23 0 0 = z ∧ z ≤ 3 ∧ Inv N2 L2 ∧ (z = 0 → L2 47 0 0 = b.toInt64) := by
  obtain ⟨hz, ha, hb⟩ := h1
  obtain ⟨l2, hn, hv⟩ := h2
  subst l2
  have hle := (cCount_le : cCount (bo (TD N)) x ≤ 3)
  have n1 : N = N1 := by
    by_cases e : cCount (bo (TD N)) x = 0
    · exact (ha e).1.symm
    · exact (hb e).1.symm
  subst n1
  have e20 := h.2.2.2.1.2.1
  rw [e20] at hn hv
  rw [hn]
  by_cases e : cCount (bo (TD N)) x = 0
  · obtain ⟨-, l1⟩ := ha e
    have v1 := hv e
    rw [l1] at v1 ⊢
    exact ⟨by rw [upN_at, hz], by omega, h.of (fun t a_ b_ q1 q2 => upN_ne (by omega)) (fun t a_ b_ q => upL_ne (by omega)), fun _ => by rw [upL_at, v1]; exact congrArg Int32.toInt64 (h.cnt _ e)⟩
  · obtain ⟨-, l1⟩ := hb e
    subst l1
    exact ⟨by rw [upN_at, hz], by omega, h.of (fun t a_ b_ q1 q2 => upN_ne (by omega)) (fun _ _ _ _ => rfl), fun q => absurd (hz.symm.trans q) e⟩
