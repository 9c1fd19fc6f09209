-- ===== bounds: nothing runs over =====
theorem smI_nn {f : Nat → Int} {n : Nat} (h : ∀ k, k < n → 0 ≤ f k) : 0 ≤ smI f n := by
  induction n with
  | zero => exact Int.le_refl 0
  | succ n ih =>
    have a := ih (fun k hk => h k (by omega))
    have b := h n (by omega)
    simp only [smI]; omega
theorem smI_mono {f : Nat → Int} {m n : Nat} (h : ∀ k, k < n → 0 ≤ f k) (hm : m ≤ n) : smI f m ≤ smI f n := by
  induction n with
  | zero => have : m = 0 := by omega
            subst this; exact Int.le_refl _
  | succ n ih =>
    by_cases e : m = n + 1
    · subst e; exact Int.le_refl _
    · have a := ih (fun k hk => h k (by omega)) (by omega)
      have b := h n (by omega)
      simp only [smI]; omega
theorem smI_at {f : Nat → Int} {k n : Nat} (h : ∀ k, k < n → 0 ≤ f k) (hk : k < n) : f k ≤ smI f n := by
  have a := smI_mono (m := k + 1) h (by omega)
  have b := smI_nn (f := f) (n := k) (fun j hj => h j (by omega))
  simp only [smI] at a
  omega
theorem smI_cg {f g : Nat → Int} {n : Nat} (h : ∀ k, k < n → f k = g k) : smI f n = smI g n := by
  induction n with
  | zero => rfl
  | succ n ih => simp only [smI]; rw [ih (fun k hk => h k (by omega)), h n (by omega)]
theorem smI_le {f g : Nat → Int} {n : Nat} (h : ∀ k, k < n → f k ≤ g k) : smI f n ≤ smI g n := by
  induction n with
  | zero => exact Int.le_refl _
  | succ n ih =>
    have a := ih (fun k hk => h k (by omega))
    have b := h n (by omega)
    simp only [smI]; omega
theorem smI_c (c : Int) (n : Nat) : smI (fun _ => c) n = c * n := by
  induction n with
  | zero => simp [smI]
  | succ n ih => simp only [smI]; rw [ih]; rw [Int.natCast_succ, Int.mul_add, Int.mul_one]
theorem smI_add (f g : Nat → Int) (n : Nat) : smI (fun k => f k + g k) n = smI f n + smI g n := by
  induction n with
  | zero => rfl
  | succ n ih => simp only [smI]; rw [ih]; omega
theorem smI_swap (f : Nat → Nat → Int) (m n : Nat) : smI (fun a => smI (fun b => f a b) n) m = smI (fun b => smI (fun a => f a b) m) n := by
  induction m with
  | zero => simp only [smI]; rw [smI_c]; omega
  | succ m ih => simp only [smI]; rw [ih, ← smI_add]
theorem toInt_add' {a b : Int64} (h1 : -4000000000000000000 ≤ a.toInt + b.toInt) (h2 : a.toInt + b.toInt ≤ 4000000000000000000) : (a + b).toInt = a.toInt + b.toInt := by
  rw [Int64.toInt_add, Int.bmod_eq_of_le] <;> omega
theorem toInt_sub' {a b : Int64} (h1 : -4000000000000000000 ≤ a.toInt - b.toInt) (h2 : a.toInt - b.toInt ≤ 4000000000000000000) : (a - b).toInt = a.toInt - b.toInt := by
  rw [Int64.toInt_sub, Int.bmod_eq_of_le] <;> omega
theorem toInt_mul' {a b : Int64} (h1 : -4000000000000000000 ≤ a.toInt * b.toInt) (h2 : a.toInt * b.toInt ≤ 4000000000000000000) : (a * b).toInt = a.toInt * b.toInt := by
  rw [Int64.toInt_mul, Int.bmod_eq_of_le] <;> omega
theorem sm_toInt {f : Nat → Int64} {n : Nat} (h : ∀ k, k < n → 0 ≤ (f k).toInt) (hS : smI (fun k => (f k).toInt) n ≤ 1000000000000000000) : (sm f n).toInt = smI (fun k => (f k).toInt) n := by
  induction n with
  | zero => rfl
  | succ n ih =>
    have a := smI_nn (f := fun k => (f k).toInt) (n := n) (fun k hk => h k (by omega))
    have b := h n (by omega)
    simp only [smI] at hS
    have c := ih (fun k hk => h k (by omega)) (by omega)
    simp only [sm, smI]
    rw [toInt_add' (by rw [c]; omega) (by rw [c]; omega), c]
/-- sums of at most 24 quantities -/
theorem qty_toInt {f : Nat → Int64} {n : Nat} (hn : n ≤ 24) (t : ∀ k, k < n → 0 ≤ (f k).toInt ∧ (f k).toInt ≤ 1000) : 0 ≤ (sm f n).toInt ∧ (sm f n).toInt ≤ 24000 := by
  have a := smI_nn (f := fun k => (f k).toInt) (fun k hk => (t k hk).1)
  have b := smI_le (f := fun k => (f k).toInt) (g := fun _ => 1000) (fun k hk => (t k hk).2)
  rw [smI_c] at b
  rw [sm_toInt (fun k hk => (t k hk).1) (by omega)]
  omega
theorem bat_toInt {I W M : Nat → Nat} {i w n : Nat} (hn : n ≤ 24) (hM : ∀ k, k < n → M k ≤ 1000) : 0 ≤ (bat I W M i w n).toInt ∧ (bat I W M i w n).toInt ≤ 24000 := by
  refine qty_toInt hn (fun k hk => ?_)
  have := hM k hk
  split
  · rw [q64_toInt (by omega)]; omega
  · exact ⟨by decide, by decide⟩
theorem bsm_toInt {I W M : Nat → Nat} {i w n : Nat} (hn : n ≤ 24) (hM : ∀ k, k < n → M k ≤ 1000) : 0 ≤ (bsm I W M i w n).toInt ∧ (bsm I W M i w n).toInt ≤ 24000 := by
  refine qty_toInt hn (fun k hk => ?_)
  have := hM k hk
  split
  · rw [q64_toInt (by omega)]; omega
  · exact ⟨by decide, by decide⟩
theorem Bd1.mono {f : Nat → Int64} {S S' : Int} (h : Bd1 f S) (hs : S ≤ S') : Bd1 f S' := ⟨h.1, Int.le_trans h.2 hs⟩
theorem Bd1.cg {f g : Nat → Int64} {S : Int} (h : Bd1 f S) (e : ∀ w, w < 12 → g w = f w) : Bd1 g S := by
  refine ⟨fun w hw => by rw [e w hw]; exact h.1 w hw, ?_⟩
  rw [smI_cg (g := fun w => (f w).toInt) (fun w hw => by rw [e w hw])]
  exact h.2
theorem Bd1.at {f : Nat → Int64} {S : Int} (h : Bd1 f S) {w : Nat} (hw : w < 12) : 0 ≤ (f w).toInt ∧ (f w).toInt ≤ S :=
  ⟨h.1 w hw, Int.le_trans (smI_at (f := fun w => (f w).toInt) h.1 hw) h.2⟩
theorem Bd1.smb {f : Nat → Int64} {S : Int} (h : Bd1 f S) (hS : S ≤ 1000000000000000000) {w : Nat} (hw : w ≤ 12) : 0 ≤ (sm f w).toInt ∧ (sm f w).toInt ≤ S ∧ (sm f w).toInt = smI (fun k => (f k).toInt) w := by
  have a := smI_mono (f := fun k => (f k).toInt) (m := w) h.1 hw
  have b := smI_nn (f := fun k => (f k).toInt) (n := w) (fun k hk => h.1 k (by omega))
  have c := h.2
  rw [sm_toInt (fun k hk => h.1 k (by omega)) (by omega)]
  omega
theorem scr_toInt {x : Int64} {pr s : Nat} (h0 : 0 ≤ x.toInt) (h1 : x.toInt ≤ 100000000000000) (hp : pr ≤ 9) (hs : s ≤ 200) : 0 ≤ (scr (x * q64 pr) s).toInt ∧ (scr (x * q64 pr) s).toInt ≤ 11 * x.toInt + 1 := by
  unfold scr
  have k1 : x.toInt * (pr : Int) ≤ x.toInt * 9 := Int.mul_le_mul_of_nonneg_left (by omega) h0
  have k0 : 0 ≤ x.toInt * (pr : Int) := Int.mul_nonneg h0 (by omega)
  have e1 : (x * q64 pr).toInt = x.toInt * (pr : Int) := by
    rw [toInt_mul' (by rw [q64_toInt (by omega)]; omega) (by rw [q64_toInt (by omega)]; omega), q64_toInt (by omega)]
  have k2 : (x.toInt * (pr : Int)) * ((1000 + s : Nat) : Int) ≤ (x.toInt * (pr : Int)) * 1200 := Int.mul_le_mul_of_nonneg_left (by omega) k0
  have k3 : 0 ≤ (x.toInt * (pr : Int)) * ((1000 + s : Nat) : Int) := Int.mul_nonneg k0 (by omega)
  have e2 : (x * q64 pr * q64 (1000 + s)).toInt = (x.toInt * (pr : Int)) * ((1000 + s : Nat) : Int) := by
    rw [toInt_mul' (by rw [q64_toInt (by omega), e1]; omega) (by rw [q64_toInt (by omega), e1]; omega), q64_toInt (by omega), e1]
  generalize (x.toInt * (pr : Int)) * ((1000 + s : Nat) : Int) = y at k2 k3 e2
  have n9 : (Int64.ofNat 999).toInt = 999 := by decide
  have n10 : (Int64.ofNat 1000).toInt = 1000 := by decide
  have e3 : (x * q64 pr * q64 (1000 + s) + Int64.ofNat 999).toInt = y + 999 := by
    rw [toInt_add' (by rw [e2, n9]; omega) (by rw [e2, n9]; omega), e2, n9]
  rw [Int64.toInt_div, e3, n10, Int.tdiv_eq_ediv_of_nonneg (by omega), Int.bmod_eq_of_le (by omega) (by omega)]
  omega
theorem sh12 {f : Nat → Int} {d : Nat} (hd : d ≤ 4) (h : ∀ w, w < 12 → 0 ≤ f w) : smI (fun w => if w + d < 12 then f (w + d) else 0) 12 ≤ smI f 12 := by
  have h0 := h 0 (by omega)
  have h1 := h 1 (by omega)
  have h2 := h 2 (by omega)
  have h3 := h 3 (by omega)
  have hh : d = 0 ∨ d = 1 ∨ d = 2 ∨ d = 3 ∨ d = 4 := by omega
  rcases hh with rfl | rfl | rfl | rfl | rfl <;> simp [smI] <;> omega
/-- what item p asks of item i in all weeks -/
theorem ask_bd {N : TN} {L : TL} {p i : Nat} {T : Int} (h9 : N 3 0 (p * 12 + i) ≤ 9) (hl : N 19 p 2 ≤ 4) (hs : N 19 i 4 ≤ 200) (hT : T ≤ 100000000000000) (hT0 : 0 ≤ T) (hb : ¬ N 3 0 (p * 12 + i) = 0 → Bd1 (L 21 p) T) : Bd1 (askF N L p i) (11 * T + 12) := by
  by_cases h0 : N 3 0 (p * 12 + i) = 0
  · have e : ∀ w, askF N L p i w = 0 := fun w => askF_no h0
    refine ⟨fun w hw => by rw [e w]; decide, ?_⟩
    rw [smI_cg (g := fun _ => 0) (fun w _ => by simp only [e w]; decide), smI_c]
    omega
  · have hB := hb h0
    have k : ∀ w, w < 12 → 0 ≤ (askF N L p i w).toInt ∧ (askF N L p i w).toInt ≤ 11 * (if w + N 19 p 2 < 12 then (L 21 p (w + N 19 p 2)).toInt else 0) + 1 := by
      intro w hw
      by_cases hr : N 4 0 (p * 12 + i) ≤ w ∧ w ≤ N 5 0 (p * 12 + i)
      · rw [askF_in h0 hr]
        by_cases hv : w + N 19 p 2 < 12
        · rw [if_pos hv, if_pos hv]
          have := hB.at hv
          exact scr_toInt this.1 (by omega) h9 hs
        · rw [if_neg hv, if_neg hv]
          exact scr_toInt (x := 0) (by decide) (by decide) h9 hs
      · rw [askF_out hr]
        have z : (0 : Int64).toInt = 0 := rfl
        rw [z]
        split
        · rename_i hv
          have := hB.at hv
          omega
        · omega
    refine ⟨fun w hw => (k w hw).1, ?_⟩
    have a := smI_le (f := fun w => (askF N L p i w).toInt) (g := fun w => 11 * (if w + N 19 p 2 < 12 then (L 21 p (w + N 19 p 2)).toInt else 0) + 1) (fun w hw => (k w hw).2)
    have b := sh12 (f := fun w => (L 21 p w).toInt) hl hB.1
    have c := hB.2
    have e : ∀ (g : Nat → Int) (n : Nat), smI (fun w => 11 * g w + 1) n = 11 * smI g n + n := by
      intro g n
      induction n with
      | zero => rfl
      | succ n ih => simp only [smI]; rw [ih]; omega
    rw [e] at a
    omega
theorem gr_bd {N : TN} {L : TL} {i : Nat} {T : Int} (hc : CD N) (hi : i < 12) (hT : T ≤ 100000000000000) (hT0 : 0 ≤ T) (hb : ∀ p, p < 12 → ¬ N 3 0 (p * 12 + i) = 0 → Bd1 (L 21 p) T) : Bd1 (grF N L i) (288000 + 132 * T + 144) := by
  have ha : ∀ p, p < 12 → Bd1 (askF N L p i) (11 * T + 12) := fun p hp => ask_bd (hc.2.2.2.1 _ (by omega)) (hc.1 p hp).2.2.2.1 (hc.1 i hi).2.2.2.2.2.1 hT hT0 (hb p hp)
  have hd : ∀ w, 0 ≤ (dmF N i w).toInt ∧ (dmF N i w).toInt ≤ 24000 := fun w => bat_toInt (hc.2.1 0 (by omega)).1 (hc.2.1 0 (by omega)).2.2.2
  have e1 : ∀ w, w < 12 → (sm (fun p => askF N L p i w) 12).toInt = smI (fun p => (askF N L p i w).toInt) 12 ∧ 0 ≤ smI (fun p => (askF N L p i w).toInt) 12 ∧ smI (fun p => (askF N L p i w).toInt) 12 ≤ (11 * T + 12) * 12 := fun w hw => by
    have b := smI_le (f := fun p => (askF N L p i w).toInt) (g := fun _ => 11 * T + 12) (n := 12) (fun p hp => ((ha p hp).at hw).2)
    have b0 := smI_nn (f := fun p => (askF N L p i w).toInt) (n := 12) (fun p hp => ((ha p hp).at hw).1)
    rw [smI_c] at b
    have b' : smI (fun p => (askF N L p i w).toInt) 12 ≤ (11 * T + 12) * 12 := b
    exact ⟨sm_toInt (fun p hp => ((ha p hp).at hw).1) (by omega), b0, b'⟩
  have e2 : ∀ w, w < 12 → (grF N L i w).toInt = (dmF N i w).toInt + smI (fun p => (askF N L p i w).toInt) 12 := fun w hw => by
    obtain ⟨q1, q2, q3⟩ := e1 w hw
    obtain ⟨q4, q5⟩ := hd w
    unfold grF
    rw [toInt_add' (by rw [q1]; omega) (by rw [q1]; omega), q1]
  refine ⟨fun w hw => ?_, ?_⟩
  · rw [e2 w hw]
    have := (e1 w hw).2.1
    have := (hd w).1
    omega
  · rw [smI_cg (g := fun w => (dmF N i w).toInt + smI (fun p => (askF N L p i w).toInt) 12) (fun w hw => e2 w hw), smI_add, smI_swap]
    have b := smI_le (f := fun w => (dmF N i w).toInt) (g := fun _ => 24000) (n := 12) (fun w _ => (hd w).2)
    have c := smI_le (f := fun p => smI (fun w => (askF N L p i w).toInt) 12) (g := fun _ => 11 * T + 12) (n := 12) (fun p hp => (ha p hp).2)
    rw [smI_c] at b c
    have b' : smI (fun w => (dmF N i w).toInt) 12 ≤ 24000 * 12 := b
    have c' : smI (fun p => smI (fun w => (askF N L p i w).toInt) 12) 12 ≤ (11 * T + 12) * 12 := c
    omega
theorem mx_toInt (a b : Int64) : ((mx a b).toInt = a.toInt ∧ b.toInt ≤ a.toInt) ∨ ((mx a b).toInt = b.toInt ∧ a.toInt ≤ b.toInt) := by
  unfold mx
  by_cases h : b < a
  · rw [if_pos h]
    have := Int64.lt_iff_toInt_lt.mp h
    left; exact ⟨rfl, by omega⟩
  · rw [if_neg h]
    have : ¬ b.toInt < a.toInt := fun q => h (Int64.lt_iff_toInt_lt.mpr q)
    right; exact ⟨rfl, by omega⟩
section Pl
variable {D : Nat → Nat} {br gr : Nat → Int64} {S : Int}
theorem bare_bd (h7 : D 7 ≤ 10000) (hb : Bd1 br 288000) (hg : Bd1 gr S) (hS : S ≤ 100000000000000) {w : Nat} (hw : w ≤ 12) : - S ≤ (barA (D 7) br gr w).toInt ∧ (barA (D 7) br gr w).toInt ≤ 298000 := by
  obtain ⟨a1, a2, _⟩ := hb.smb (by omega) hw
  obtain ⟨b1, b2, _⟩ := hg.smb (by omega) hw
  have e : (q64 (D 7)).toInt = (D 7 : Int) := q64_toInt (by omega)
  have e1 : (q64 (D 7) + sm br w).toInt = (D 7 : Int) + (sm br w).toInt := by
    rw [toInt_add' (by rw [e]; omega) (by rw [e]; omega), e]
  rw [barA_eq, toInt_sub' (by rw [e1]; omega) (by rw [e1]; omega), e1]
  omega
theorem mos_bd (h7 : D 7 ≤ 10000) (h3 : D 3 ≤ 1000) (hb : Bd1 br 288000) (hg : Bd1 gr S) (hS : S ≤ 100000000000000) {w : Nat} (hw : w ≤ 12) : 0 ≤ (mosA D br gr w).toInt ∧ (mosA D br gr w).toInt ≤ S + 1000 := by
  have hS0 : 0 ≤ S := Int.le_trans (smI_nn hg.1) hg.2
  induction w with
  | zero => exact ⟨by simp only [mosA]; decide, by simp only [mosA]; rw [show (0 : Int64).toInt = 0 from rfl]; omega⟩
  | succ w ih =>
    obtain ⟨a1, a2⟩ := ih (by omega)
    obtain ⟨b1, b2⟩ := bare_bd h7 hb hg hS hw
    have e : (q64 (D 3)).toInt = (D 3 : Int) := q64_toInt (by omega)
    have e1 : (q64 (D 3) - barA (D 7) br gr (w + 1)).toInt = (D 3 : Int) - (barA (D 7) br gr (w + 1)).toInt := by
      rw [toInt_sub' (by rw [e]; omega) (by rw [e]; omega), e]
    simp only [mosA]
    rcases mx_toInt (mosA D br gr w) (q64 (D 3) - barA (D 7) br gr (w + 1)) with ⟨q, r⟩ | ⟨q, r⟩ <;> rw [q] <;> omega
theorem need_bd (h7 : D 7 ≤ 10000) (h3 : D 3 ≤ 1000) (hb : Bd1 br 288000) (hg : Bd1 gr S) (hS : S ≤ 100000000000000) {w : Nat} (hw : w < 12) : 0 ≤ (needF D br gr w).toInt ∧ (needF D br gr w).toInt ≤ S + 1000 := by
  have hS0 : 0 ≤ S := Int.le_trans (smI_nn hg.1) hg.2
  unfold needF
  split
  · rw [show (0 : Int64).toInt = 0 from rfl]; omega
  · exact mos_bd h7 h3 hb hg hS (by omega)
theorem lmu_bd {n : Nat} {x : Int64} (h1 : 1 ≤ n) (h2 : n ≤ 1000) (h3 : 0 ≤ x.toInt) (h4 : x.toInt ≤ 1000000000000000) : 0 ≤ (lmu n x).toInt ∧ (lmu n x).toInt ≤ x.toInt + 1000 := by
  unfold lmu
  rw [if_neg (by omega)]
  have e : (q64 n).toInt = (n : Int) := q64_toInt (by omega)
  have n1 : (Int64.ofNat 1).toInt = 1 := by decide
  have e1 : (x + q64 n).toInt = x.toInt + n := by rw [toInt_add' (by rw [e]; omega) (by rw [e]; omega), e]
  have e2 : (x + q64 n - Int64.ofNat 1).toInt = x.toInt + n - 1 := by rw [toInt_sub' (by rw [e1, n1]; omega) (by rw [e1, n1]; omega), e1, n1]
  have k1 : (x.toInt + n - 1) / (n : Int) * n ≤ x.toInt + n - 1 := Int.ediv_mul_le _ (by omega)
  have k2 : 0 ≤ (x.toInt + n - 1) / (n : Int) := Int.ediv_nonneg (by omega) (by omega)
  have k4 : 0 ≤ (x.toInt + n - 1) / (n : Int) * n := Int.mul_nonneg k2 (by omega)
  have k3 : (x.toInt + n - 1) / (n : Int) ≤ x.toInt + n - 1 := Int.ediv_le_self _ (by omega)
  have e3 : ((x + q64 n - Int64.ofNat 1) / q64 n).toInt = (x.toInt + n - 1) / (n : Int) := by
    rw [Int64.toInt_div, e2, e, Int.tdiv_eq_ediv_of_nonneg (by omega), Int.bmod_eq_of_le (by omega) (by omega)]
  rw [toInt_mul' (by rw [e3, e]; omega) (by rw [e3, e]; omega), e3, e]
  omega
theorem plO_bd (hc0 : 1 ≤ D 1) (hc1 : D 1 ≤ 1000) {nd : Nat → Int64} {U : Int} (hU : U ≤ 200000000000000) (hm : ∀ v w, v ≤ w → w < 12 → nd v ≤ nd w) (hn : ∀ w, w < 12 → 0 ≤ (nd w).toInt ∧ (nd w).toInt ≤ U) {w : Nat} (hw : w < 12) {got : Int64} (h0 : 0 ≤ got.toInt) (h1 : got.toInt ≤ U + 1000) : 0 ≤ (plO D nd w got).toInt ∧ got.toInt + (plO D nd w got).toInt ≤ U + 1000 := by
  unfold plO
  by_cases hq : nd w ≤ got
  · rw [if_pos hq, show (0 : Int64).toInt = 0 from rfl]; omega
  · rw [if_neg hq]
    have hq' : ¬ (nd w).toInt ≤ got.toInt := fun q => hq (Int64.le_iff_toInt_le.mpr q)
    obtain ⟨a1, a2⟩ := hn w hw
    have sb : ∀ v, w ≤ v → v < 12 → (nd v - got).toInt = (nd v).toInt - got.toInt ∧ (nd w).toInt ≤ (nd v).toInt ∧ (nd v).toInt ≤ U := fun v hv hv2 => by
      have b := Int64.le_iff_toInt_le.mp (hm w v hv hv2)
      have c := hn v hv2
      exact ⟨toInt_sub' (by omega) (by omega), b, c.2⟩
    have sw := sb w (by omega) hw
    unfold lotF
    by_cases d1 : D 0 = 1
    · rw [if_pos d1]
      have := lmu_bd (x := nd w - got) hc0 hc1 (by omega) (by omega)
      omega
    · rw [if_neg d1]
      by_cases d2 : D 0 = 2
      · rw [if_pos d2]
        have := sb (if 11 < w + D 1 - 1 then 11 else w + D 1 - 1) (by split <;> omega) (by split <;> omega)
        omega
      · rw [if_neg d2]
        by_cases d3 : D 0 = 3
        · rw [if_pos d3]
          have z := lastF_at (D := D) (nd := nd) hw
          have := sb (lastF D nd w) z.1 z.2
          omega
        · rw [if_neg d3]; omega
theorem plan_bd (hc0 : 1 ≤ D 1) (hc1 : D 1 ≤ 1000) (h7 : D 7 ≤ 10000) (h3 : D 3 ≤ 1000) (hb : Bd1 br 288000) (hg : Bd1 gr S) (hS : S ≤ 100000000000000) : Bd1 (planF D br gr) (S + 2000) := by
  have hS0 : 0 ≤ S := Int.le_trans (smI_nn hg.1) hg.2
  have st : ∀ w, w < 12 → ∀ got : Int64, 0 ≤ got.toInt → got.toInt ≤ (S + 1000) + 1000 → 0 ≤ (plO D (needF D br gr) w got).toInt ∧ got.toInt + (plO D (needF D br gr) w got).toInt ≤ (S + 1000) + 1000 := fun w hw got g0 g1 =>
    plO_bd hc0 hc1 (by omega) (fun v w h _ => needF_mono h) (fun w hw => need_bd h7 h3 hb hg hS hw) hw g0 g1
  have k : ∀ w, w ≤ 12 → (0 ≤ (gotA D (needF D br gr) w).toInt ∧ (gotA D (needF D br gr) w).toInt ≤ (S + 1000) + 1000) ∧ smI (fun v => (planF D br gr v).toInt) w = (gotA D (needF D br gr) w).toInt := by
    intro w
    induction w with
    | zero => intro _; exact ⟨⟨by simp only [gotA]; decide, by simp only [gotA]; rw [show (0 : Int64).toInt = 0 from rfl]; omega⟩, rfl⟩
    | succ w ih =>
      intro hw
      obtain ⟨⟨a1, a2⟩, a3⟩ := ih (by omega)
      obtain ⟨b1, b2⟩ := st w (by omega) _ a1 a2
      have e : (gotA D (needF D br gr) (w + 1)).toInt = (gotA D (needF D br gr) w).toInt + (plO D (needF D br gr) w (gotA D (needF D br gr) w)).toInt := by
        simp only [gotA]
        exact toInt_add' (by omega) (by omega)
      refine ⟨by rw [e]; omega, ?_⟩
      rw [e]
      simp only [smI]
      rw [a3]
      rfl
  refine ⟨fun w hw => ?_, ?_⟩
  · obtain ⟨⟨a1, a2⟩, a3⟩ := k w (by omega)
    exact (st w hw _ a1 a2).1
  · rw [(k 12 (by omega)).2]
    have := (k 12 (by omega)).1.2
    omega
end Pl
theorem br_bd {N : TN} (hc : CD N) (i : Nat) : Bd1 (brF N i) 288000 := by
  have hd : ∀ w, 0 ≤ (brF N i w).toInt ∧ (brF N i w).toInt ≤ 24000 := fun w => bat_toInt (hc.2.1 1 (by omega)).1 (hc.2.1 1 (by omega)).2.2.2
  refine ⟨fun w _ => (hd w).1, ?_⟩
  have b := smI_le (f := fun w => (brF N i w).toInt) (g := fun _ => 24000) (n := 12) (fun w _ => (hd w).2)
  rw [smI_c] at b
  have b' : smI (fun w => (brF N i w).toInt) 12 ≤ 24000 * 12 := b
  omega
