-- ===== replanning: both pictures go the same way, all is planned, nothing runs over =====
def Tb : Nat → Int
  | 0 => 0
  | l + 1 => 132 * Tb l + 290144
theorem Tb_nn (l : Nat) : 0 ≤ Tb l := by
  induction l with
  | zero => exact Int.le_refl 0
  | succ l ih => simp only [Tb]; omega
theorem Tb_up {m n : Nat} (h : m ≤ n) : Tb m ≤ Tb n := by
  induction n with
  | zero => have : m = 0 := by omega
            subst this; exact Int.le_refl _
  | succ n ih =>
    by_cases e : m = n + 1
    · subst e; exact Int.le_refl _
    · have a := ih (by omega)
      have b := Tb_nn n
      simp only [Tb]; omega
theorem Tb_5 : Tb 5 ≤ 100000000000000 := by decide
theorem stp_20 {X : TN × TL × Nat} {i w : Nat} (hw : w < 12) : (stp X i).2.1 20 i w = grF X.1 X.2.1 i w := by
  simp only [stp]; rw [upW_ne (by omega), upW_at hw]
theorem stp_21 {X : TN × TL × Nat} {i w : Nat} (hw : w < 12) : (stp X i).2.1 21 i w = planF (X.1 19 i) (brF X.1 i) (grF X.1 X.2.1 i) w := by
  simp only [stp]; rw [upW_at hw]
theorem stp_ne {X : TN × TL × Nat} {i t a w : Nat} (h : a ≠ i) : (stp X i).2.1 t a w = X.2.1 t a w := by
  simp only [stp]; rw [upW_ne (by omega), upW_ne (by omega)]
/-- two pictures alike -/
def EQ (X Y : TN × TL × Nat) : Prop := SD X.1 Y.1 ∧ (∀ i, i < 12 → Y.1 19 i 10 = X.1 19 i 10) ∧ (∀ i w, i < 12 → w < 12 → Y.2.1 20 i w = X.2.1 20 i w ∧ Y.2.1 21 i w = X.2.1 21 i w) ∧ Y.2.2 = X.2.2
theorem EQ.st_ {X Y : TN × TL × Nat} (h : EQ X Y) {i : Nat} (hi : i < 12) : EQ (stp X i) (stp Y i) := by
  obtain ⟨h1, h2, h3, h4⟩ := h
  have hg : ∀ w, grF Y.1 Y.2.1 i w = grF X.1 X.2.1 i w := h1.gr hi (fun p q hp hq => (h3 p q hp hq).2)
  refine ⟨(SD_told.symm.trans h1).trans SD_told, fun a ha => ?_, fun a w ha hw => ?_, ?_⟩
  · simp only [stp]
    by_cases e : a = i
    · subst e; rw [upN_at, upN_at]
    · rw [upN_ne (by omega), upN_ne (by omega)]; exact h2 a ha
  · by_cases e : a = i
    · subst e
      rw [stp_20 hw, stp_20 hw, stp_21 hw, stp_21 hw]
      exact ⟨hg w, h1.pl ha (fun q _ => hg q) hw⟩
    · rw [stp_ne e, stp_ne e, stp_ne e, stp_ne e]
      exact h3 a w ha hw
  · simp only [stp]
    rw [h4, h2 i hi]
    congr 1
    apply bo_cg
    constructor
    · rintro (q | q)
      · exact Or.inl q
      · exact Or.inr (fun e => q (fun w hw => by rw [hg, e w hw, (h3 i w hi hw).1]))
    · rintro (q | q)
      · exact Or.inl q
      · exact Or.inr (fun e => q (fun w hw => by rw [← hg, e w hw, (h3 i w hi hw).1]))
theorem EQ.rI_ {lv : Nat → Nat} {l : Nat} {X Y : TN × TL × Nat} (h : EQ X Y) {n : Nat} (hn : n ≤ 12) : EQ (rpI lv l X n) (rpI lv l Y n) := by
  induction n with
  | zero => exact h
  | succ n ih =>
    simp only [rpI]
    split
    · exact (ih (by omega)).st_ (by omega)
    · exact ih (by omega)
theorem EQ.rL_ {lv : Nat → Nat} {X Y : TN × TL × Nat} (h : EQ X Y) (l : Nat) : EQ (rpL lv X l) (rpL lv Y l) := by
  induction l with
  | zero => exact h
  | succ l ih => exact ih.rI_ (Nat.le_refl 12)
/-- as far as the levels below l, and the first n items of level l, are planned -/
def BI (N : TN) (lv : Nat → Nat) (l n : Nat) (X : TN × TL × Nat) : Prop := (SD N X.1 ∧ ∀ i, i < 12 → X.1 19 i 10 ≤ 1) ∧ (X.1 2 0 5 ≤ 24) ∧ ∀ i, i < 12 → (lv i < l ∨ (lv i = l ∧ i < n)) → X.1 19 i 10 = 0 ∧ Bd1 (X.2.1 20 i) (Tb (lv i + 1)) ∧ Bd1 (X.2.1 21 i) (Tb (lv i + 1))
theorem BI.go {N : TN} {lv : Nat → Nat} {l n : Nat} {X : TN × TL × Nat} (hc : CD N) (hl : ∀ p i, p < 12 → i < 12 → ¬ N 3 0 (p * 12 + i) = 0 → lv p < lv i) (hl4 : l ≤ 4) (hn : n < 12) (h : BI N lv l n X) (e : lv n = l) : BI N lv l (n + 1) (stp X n) := by
  obtain ⟨⟨h1, h2⟩, h3, h4⟩ := h
  have hcx : CD X.1 := hc.of h1 h2 h3
  have hT : Tb l ≤ 100000000000000 := Int.le_trans (Tb_up (n := 5) (by omega)) Tb_5
  have hT1 : Tb (l + 1) ≤ 100000000000000 := Int.le_trans (Tb_up (n := 5) (by omega)) Tb_5
  have hgb : Bd1 (grF X.1 X.2.1 n) (288000 + 132 * Tb l + 144) := gr_bd hcx hn hT (Tb_nn l) (fun p hp h0 => by
    rw [(h1.2.2.1 _ (by omega)).1] at h0
    have a := hl p n hp hn h0
    exact (h4 p hp (Or.inl (by omega))).2.2.mono (Tb_up (by omega)))
  have hx := hcx.1 n hn
  have e1 : Tb (l + 1) = 132 * Tb l + 290144 := rfl
  have hpb : Bd1 (planF (X.1 19 n) (brF X.1 n) (grF X.1 X.2.1 n)) (288000 + 132 * Tb l + 144 + 2000) := plan_bd hx.2.1 hx.2.2.1 hx.2.2.2.2.2.2.2.2.1 hx.2.2.2.2.1 (br_bd hcx n) hgb (by omega)
  refine ⟨⟨h1.trans SD_told, fun i hi => ?_⟩, ?_, fun i hi hq => ?_⟩
  · simp only [stp]
    by_cases z : i = n
    · subst z; rw [upN_at]; omega
    · rw [upN_ne (by omega)]; exact h2 i hi
  · simp only [stp]
    rw [upN_ne (by omega)]; exact h3
  · by_cases z : i = n
    · subst z
      rw [e]
      exact ⟨upN_at, (hgb.mono (by omega)).cg (fun w hw => stp_20 hw), (hpb.mono (by omega)).cg (fun w hw => stp_21 hw)⟩
    · obtain ⟨q1, q2, q3⟩ := h4 i hi (by omega)
      exact ⟨(upN_ne (by omega)).trans q1, q2.cg (fun w hw => stp_ne z), q3.cg (fun w hw => stp_ne z)⟩
theorem BI.skip {N : TN} {lv : Nat → Nat} {l n : Nat} {X : TN × TL × Nat} (h : BI N lv l n X) (e : ¬ lv n = l) : BI N lv l (n + 1) X := by
  obtain ⟨h1, h3, h4⟩ := h
  refine ⟨h1, h3, fun i hi hq => h4 i hi ?_⟩
  by_cases z : i = n
  · subst z; omega
  · omega
theorem BI.all {N : TN} {lv : Nat → Nat} {X : TN × TL × Nat} (hc : CD N) (hl : ∀ p i, p < 12 → i < 12 → ¬ N 3 0 (p * 12 + i) = 0 → lv p < lv i) (h : BI N lv 0 0 X) {l : Nat} (hl5 : l ≤ 5) : BI N lv l 0 (rpL lv X l) := by
  induction l with
  | zero => exact h
  | succ l ih =>
    have a := ih (by omega)
    have b : ∀ n, n ≤ 12 → BI N lv l n (rpI lv l (rpL lv X l) n) := by
      intro n
      induction n with
      | zero => intro _; exact a
      | succ n ihn =>
        intro hn
        have c := ihn (by omega)
        simp only [rpI]
        split
        · rename_i e; exact c.go hc hl (by omega) (by omega) e
        · rename_i e; exact c.skip e
    obtain ⟨h1, h3, h4⟩ := b 12 (by omega)
    exact ⟨h1, h3, fun i hi hq => h4 i hi (by omega)⟩
theorem lv_up {N : TN} {T : Nat → Nat} (h : LvOk N T) {p i : Nat} (hp : p < 12) (hi : i < 12) (he : ¬ N 3 0 (p * 12 + i) = 0) : T p < T i := by
  obtain ⟨a1, a2, a3⟩ := h p hp
  obtain ⟨b1, b2, b3⟩ := h i hi
  rcases Nat.lt_or_ge (T p) (T i) with q | q
  · exact q
  · exact absurd (wk_le (n := T p + 1) (by omega) (⟨p, hp, by unfold eg; omega, a2⟩ : wk (eg N) (T p + 1) i)) b3
/-- class and model have replanned -/
theorem iv_replan {N N1 N2 : TN} {L L1 L2 : TL} {z1 z2 : Nat} (h : Inv N L)
    (h1 : z1 = (rpL (N 6 0) (N, L, 0) 5).2.2 ∧ RA N1 L1 (rpL (N 6 0) (N, L, 0) 5) ∧ PC N1 L1 ∧ (∀ t a b, t ≠ 16 → ¬ (t = 19 ∧ a < 12 ∧ b = 10) → N1 t a b = N t a b) ∧ (∀ t a b, t ≠ 13 → t ≠ 14 → t ≠ 15 → t ≠ 17 → t ≠ 18 → t ≠ 20 → t ≠ 21 → t ≠ 22 → L1 t a b = L t a b) ∧ CD N1)
    (h2 : z2 = (rpL (N1 6 0) (mN N1, mW L1, 0) 5).2.2 ∧ (∀ t a b, t ≠ 41 → ¬ (t = 23 ∧ (b = 0 ∨ b = 19 ∨ b = 20)) → N2 t a b = N1 t a b) ∧ N2 23 0 0 = 0 ∧ N2 23 0 19 = 1 ∧ N2 23 0 20 = 0 ∧ (∀ i, i < 12 → N2 41 0 i = 0) ∧ (∀ i w, i < 12 → w < 12 → L2 42 0 (12 * i + w) = (rpL (N1 6 0) (mN N1, mW L1, 0) 5).2.1 20 i w ∧ L2 43 0 (12 * i + w) = (rpL (N1 6 0) (mN N1, mW L1, 0) 5).2.1 21 i w) ∧ (∀ t a b, t ≠ 42 → t ≠ 43 → t ≠ 44 → t ≠ 45 → t ≠ 46 → L2 t a b = L1 t a b)) : z1 = z2 ∧ Inv N2 L2 := by
  obtain ⟨a1, a2, a3, a4, a5, a6⟩ := h1
  obtain ⟨b1, b2, b3, b4, b5, b6, b7, b8⟩ := h2
  have e6 : N1 6 0 = N 6 0 := funext (fun j => a4 6 0 j (by omega) (by omega))
  rw [e6] at b1 b7
  have hEQ : EQ (N, L, 0) (mN N1, mW L1, 0) := by
    refine ⟨⟨fun i f hi hf => ?_, fun b hb => ?_, fun c hc => ?_, fun i hi => a4 6 0 i (by omega) (by omega)⟩, fun i hi => ?_, fun i w hi hw => ?_, rfl⟩
    · show mN N1 19 i f = N 19 i f
      rw [mN_19 hf, a4 _ _ _ (by omega) (by omega)]; exact h.d hi hf
    · show N1 37 0 b = N 8 b 3 ∧ ∀ k, k < N 8 b 3 → N1 38 0 (24 * b + k) = N 9 b k ∧ N1 39 0 (24 * b + k) = N 10 b k ∧ N1 40 0 (24 * b + k) = N 11 b k
      rw [a4 37 _ _ (by omega) (by omega)]
      refine ⟨h.z hb, fun k hk => ?_⟩
      rw [a4 38 _ _ (by omega) (by omega), a4 39 _ _ (by omega) (by omega), a4 40 _ _ (by omega) (by omega)]
      exact h.bk hb hk
    · show N1 34 0 c = N 3 0 c ∧ (¬ N 3 0 c = 0 → N1 35 0 c = N 4 0 c ∧ N1 36 0 c = N 5 0 c)
      rw [a4 34 _ _ (by omega) (by omega), a4 35 _ _ (by omega) (by omega), a4 36 _ _ (by omega) (by omega)]
      exact h.2.1.2.2.1 c hc
    · show (if N1 23 0 19 = 0 then 1 else N1 41 0 i) = N 19 i 10
      rw [a4 23 _ _ (by omega) (by omega), a4 41 _ _ (by omega) (by omega)]
      exact (h.2.2.2.1.1 i hi).symm
    · show L1 42 0 (12 * i + w) = L 20 i w ∧ L1 43 0 (12 * i + w) = L 21 i w
      rw [a5 42 _ _ (by omega) (by omega) (by omega) (by omega) (by omega) (by omega) (by omega) (by omega), a5 43 _ _ (by omega) (by omega) (by omega) (by omega) (by omega) (by omega) (by omega) (by omega)]
      exact h.2.2.2.2.2.1 i w hi hw
  have hX := hEQ.rL_ (lv := N 6 0) 5
  have hB := BI.all (lv := N 6 0) (X := (N, L, 0)) h.1 (fun p i hp hi he => lv_up h.2.2.1.2.2 hp hi he) ⟨⟨SD.refl N, h.t1⟩, h.1.2.2.1, fun i hi q => by omega⟩ (l := 5) (by omega)
  generalize hXX : rpL (N 6 0) (N, L, 0) 5 = X at a1 a2 hX hB
  generalize hYY : rpL (N 6 0) (mN N1, mW L1, 0) 5 = Y at b1 b7 hX
  obtain ⟨-, x2, x3, x4⟩ := hX
  refine ⟨by rw [a1, b1, x4], ?_⟩
  have hall : ∀ i, i < 12 → X.1 19 i 10 = 0 ∧ Bd1 (X.2.1 20 i) (Tb (N 6 0 i + 1)) ∧ Bd1 (X.2.1 21 i) (Tb (N 6 0 i + 1)) := fun i hi => hB.2.2 i hi (Or.inl (by have := (h.2.2.1.2.2 i hi).1; omega))
  have ht : ∀ i, i < 12 → N1 19 i 10 = 0 := fun i hi => by rw [a2.2.1 i hi]; exact (hall i hi).1
  have c0 : ∀ t a b, t ≠ 41 → t ≠ 23 → N2 t a b = N1 t a b := fun t a b q1 q2 => b2 t a b q1 (by omega)
  have c1 : ∀ t a b, t ≠ 16 → ¬ (t = 19 ∧ a < 12 ∧ b = 10) → t ≠ 41 → t ≠ 23 → N2 t a b = N t a b := fun t a b q1 q2 q3 q4 => by rw [c0 t a b q3 q4, a4 t a b q1 q2]
  have hs12 : SD N1 N2 := ⟨fun i f _ _ => c0 _ _ _ (by omega) (by omega), fun b _ => ⟨c0 _ _ _ (by omega) (by omega), fun k _ => ⟨c0 _ _ _ (by omega) (by omega), c0 _ _ _ (by omega) (by omega), c0 _ _ _ (by omega) (by omega)⟩⟩, fun c _ => ⟨c0 _ _ _ (by omega) (by omega), fun _ => ⟨c0 _ _ _ (by omega) (by omega), c0 _ _ _ (by omega) (by omega)⟩⟩, fun i _ => c0 _ _ _ (by omega) (by omega)⟩
  have ht2 : ∀ i, i < 12 → N2 19 i 10 = 0 := fun i hi => by rw [c0 _ _ _ (by omega) (by omega)]; exact ht i hi
  have b8' : ∀ t a b, t < 42 → L2 t a b = L1 t a b := fun t a b q => b8 t a b (by omega) (by omega) (by omega) (by omega) (by omega)
  refine ⟨a6.of hs12 (fun i hi => by rw [ht2 i hi]; omega) (by rw [c0 2 0 5 (by omega) (by omega)]; exact a6.2.2.1), SD_of (fun i f hi hf => ?_) (fun b hb => ?_) (fun c hc => ?_), Ln_eq h.2.2.1 (fun t a c q1 q2 => c1 t a c (by omega) (by omega) (by omega) (by omega)) (by rw [b2 23 0 14 (by omega) (by omega)]; exact a4 23 0 14 (by omega) (by omega)), ⟨fun i hi => ?_, ?_, by omega, fun i hi => by rw [b6 i hi]; omega⟩, fun i hi h0 w hw => ?_, fun i w hi hw => ?_, fun i hi => ?_⟩
  · rw [c1 _ _ _ (by omega) (by omega) (by omega) (by omega), c1 19 _ _ (by omega) (by omega) (by omega) (by omega)]; exact h.d hi hf
  · rw [c1 37 _ _ (by omega) (by omega) (by omega) (by omega), c1 8 _ _ (by omega) (by omega) (by omega) (by omega)]
    refine ⟨h.z hb, fun k hk => ?_⟩
    rw [c1 38 _ _ (by omega) (by omega) (by omega) (by omega), c1 39 _ _ (by omega) (by omega) (by omega) (by omega), c1 40 _ _ (by omega) (by omega) (by omega) (by omega), c1 9 _ _ (by omega) (by omega) (by omega) (by omega), c1 10 _ _ (by omega) (by omega) (by omega) (by omega), c1 11 _ _ (by omega) (by omega) (by omega) (by omega)]
    exact h.bk hb hk
  · rw [c1 34 _ _ (by omega) (by omega) (by omega) (by omega), c1 35 _ _ (by omega) (by omega) (by omega) (by omega), c1 36 _ _ (by omega) (by omega) (by omega) (by omega), c1 3 _ _ (by omega) (by omega) (by omega) (by omega), c1 4 _ _ (by omega) (by omega) (by omega) (by omega), c1 5 _ _ (by omega) (by omega) (by omega) (by omega)]
    exact h.2.1.2.2.1 c hc
  · rw [ht2 i hi, mN_t, b4, if_neg (by omega), b6 i hi]
  · rw [b5, bo_f]
    intro q
    exact q ht2
  · have hg : ∀ q, q < 12 → L2 20 i q = L1 20 i q := fun q _ => b8' 20 i q (by omega)
    obtain ⟨p1, p2⟩ := a3 i hi (ht i hi) w hw
    rw [b8' 21 i w (by omega), b8' 22 i w (by omega), hs12.pl hi hg hw, hs12.bl hi hg hw]
    exact ⟨p1, p2⟩
  · obtain ⟨q1, q2⟩ := b7 i w hi hw
    obtain ⟨r1, r2⟩ := x3 i w hi hw
    obtain ⟨s1, s2⟩ := a2.2.2 i w hi hw
    rw [q1, q2, b8' 20 i w (by omega), b8' 21 i w (by omega), r1, r2, s1, s2]
    exact ⟨rfl, rfl⟩
  · obtain ⟨-, q2, q3⟩ := hall i hi
    have l4 := (h.2.2.1.2.2 i hi).1
    have hT : Tb (N 6 0 i + 1) ≤ 100000000000000 := Int.le_trans (Tb_up (n := 5) (by omega)) Tb_5
    exact ⟨(q2.mono hT).cg (fun w hw => by rw [b8' 20 i w (by omega), (a2.2.2 i w hi hw).1]), (q3.mono hT).cg (fun w hw => by rw [b8' 21 i w (by omega), (a2.2.2 i w hi hw).2])⟩
