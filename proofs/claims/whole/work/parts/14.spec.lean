-- ===== words of the picture: sums, rows =====
abbrev q64 (n : Nat) : Int64 := (nI n).toInt64
def sm (f : Nat → Int64) : Nat → Int64
  | 0 => 0
  | n + 1 => sm f n + f n
theorem sm_congr {f g : Nat → Int64} {n : Nat} (h : ∀ k, k < n → f k = g k) : sm f n = sm g n := by
  induction n with
  | zero => rfl
  | succ n ih => simp only [sm]; rw [ih (fun k hk => h k (by omega)), h n (by omega)]
theorem sm_add (f g : Nat → Int64) (n : Nat) : sm (fun k => f k + g k) n = sm f n + sm g n := by
  induction n with
  | zero => rfl
  | succ n ih => simp only [sm]; rw [ih]; ac_rfl
theorem sm_zero (n : Nat) : sm (fun _ => 0) n = 0 := by
  induction n with
  | zero => rfl
  | succ n ih => simp only [sm]; rw [ih]; rfl
def upW (L : TL) (t i n : Nat) (f : Nat → Int64) : TL := fun t' i' j => if t' = t ∧ i' = i ∧ j < n then f j else L t' i' j
def upV (N : TN) (t i n : Nat) (f : Nat → Nat) : TN := fun t' i' j => if t' = t ∧ i' = i ∧ j < n then f j else N t' i' j
theorem upW_at {L : TL} {t i n j : Nat} {f : Nat → Int64} (h : j < n) : upW L t i n f t i j = f j := if_pos ⟨rfl, rfl, h⟩
theorem upV_at {N : TN} {t i n j : Nat} {f : Nat → Nat} (h : j < n) : upV N t i n f t i j = f j := if_pos ⟨rfl, rfl, h⟩
theorem upW_ne {L : TL} {t i n t' i' j : Nat} {f : Nat → Int64} (h : ¬ (t' = t ∧ i' = i ∧ j < n)) : upW L t i n f t' i' j = L t' i' j := if_neg h
theorem upV_ne {N : TN} {t i n t' i' j : Nat} {f : Nat → Nat} (h : ¬ (t' = t ∧ i' = i ∧ j < n)) : upV N t i n f t' i' j = N t' i' j := if_neg h
theorem upW_0 {L : TL} {t i : Nat} {f : Nat → Int64} : upW L t i 0 f = L := by
  funext t' i' j; simp [upW]
theorem upV_0 {N : TN} {t i : Nat} {f : Nat → Nat} : upV N t i 0 f = N := by
  funext t' i' j; simp [upV]
theorem upW_s {L : TL} {t i n : Nat} {f : Nat → Int64} {x : Int64} (h : x = f n) : upL (upW L t i n f) t i n x = upW L t i (n + 1) f := by
  subst h
  funext t' i' j
  simp only [upL, upW]
  by_cases h1 : t' = t ∧ i' = i
  · obtain ⟨rfl, rfl⟩ := h1
    by_cases h2 : j = n
    · subst h2; simp
    · by_cases h3 : j < n
      · have : j < n + 1 := by omega
        simp [h2, h3, this]
      · have : ¬ j < n + 1 := by omega
        simp [h2, h3, this]
  · have a1 : ∀ P : Prop, ¬ (t' = t ∧ i' = i ∧ P) := fun P q => h1 ⟨q.1, q.2.1⟩
    simp [a1]
theorem upV_s {N : TN} {t i n : Nat} {f : Nat → Nat} {x : Nat} (h : x = f n) : upN (upV N t i n f) t i n x = upV N t i (n + 1) f := by
  subst h
  funext t' i' j
  simp only [upN, upV]
  by_cases h1 : t' = t ∧ i' = i
  · obtain ⟨rfl, rfl⟩ := h1
    by_cases h2 : j = n
    · subst h2; simp
    · by_cases h3 : j < n
      · have : j < n + 1 := by omega
        simp [h2, h3, this]
      · have : ¬ j < n + 1 := by omega
        simp [h2, h3, this]
  · have a1 : ∀ P : Prop, ¬ (t' = t ∧ i' = i ∧ P) := fun P q => h1 ⟨q.1, q.2.1⟩
    simp [a1]
theorem upW_cg {L : TL} {t i n : Nat} {f g : Nat → Int64} (h : ∀ j, j < n → f j = g j) : upW L t i n f = upW L t i n g := by
  funext t' i' j
  simp only [upW]
  by_cases h1 : t' = t ∧ i' = i ∧ j < n
  · rw [if_pos h1, if_pos h1, h j h1.2.2]
  · rw [if_neg h1, if_neg h1]
theorem upW_ex {L : TL} {t i n j : Nat} {f : Nat → Int64} {x : Int64} (hj : j < n) : upL (upW L t i n f) t i j x = upW L t i n (fun q => if q = j then x else f q) := by
  funext t' i' q
  simp only [upL, upW]
  by_cases h1 : t' = t ∧ i' = i
  · obtain ⟨rfl, rfl⟩ := h1
    by_cases h2 : q = j
    · subst h2; simp [hj]
    · simp [h2]
  · have a1 : ∀ P : Prop, ¬ (t' = t ∧ i' = i ∧ P) := fun P q => h1 ⟨q.1, q.2.1⟩
    simp [a1]
theorem upW_id {L : TL} {t i n : Nat} : upW L t i n (fun j => L t i j) = L := by
  funext t' i' j
  simp only [upW]
  by_cases h1 : t' = t ∧ i' = i ∧ j < n
  · rw [if_pos h1, h1.1, h1.2.1]
  · rw [if_neg h1]
theorem upW_2 {L : TL} {t i n : Nat} {f g : Nat → Int64} : upW (upW L t i n f) t i n g = upW L t i n g := by
  funext t' i' j
  simp only [upW]
  by_cases h1 : t' = t ∧ i' = i ∧ j < n
  · rw [if_pos h1, if_pos h1]
  · rw [if_neg h1, if_neg h1, if_neg h1]
theorem q64_toInt {n : Nat} (h : n < 2 ^ 31) : (q64 n).toInt = (n : Int) := by
  rw [q64, Int32.toInt_toInt64, nI_toInt h]
theorem q64_ne {n : Nat} (h0 : 0 < n) (h : n < 2 ^ 31) : ¬ q64 n = 0 := by
  intro e
  have h1 := congrArg Int64.toInt e
  rw [q64_toInt h] at h1
  have h2 : (0 : Int64).toInt = 0 := rfl
  omega
theorem q64_add {a b : Nat} (h : a + b < 2 ^ 31) : q64 (a + b) = q64 a + q64 b := by
  apply Int64.toInt_inj.mp
  rw [q64_toInt h, Int64.toInt_add, q64_toInt (by omega), q64_toInt (by omega), Int.bmod_eq_of_le] <;> omega
/-- what a book holds of an item ahead of week u -/
def bsm (I W M : Nat → Nat) (i u n : Nat) : Int64 := sm (fun k => if I k = i ∧ W k < u then q64 (M k) else 0) n
/-- what a book holds of an item in week w -/
def bat (I W M : Nat → Nat) (i w n : Nat) : Int64 := sm (fun k => if I k = i ∧ W k = w then q64 (M k) else 0) n
def scr (n : Int64) (s : Nat) : Int64 := (n * q64 (1000 + s) + Int64.ofNat 999) / Int64.ofNat 1000
noncomputable def bo (P : Prop) : Nat := @ite Nat P (Classical.propDecidable P) 1 0
theorem bo_t {P : Prop} (h : P) : bo P = 1 := by unfold bo; exact if_pos h
theorem bo_f {P : Prop} (h : ¬ P) : bo P = 0 := by unfold bo; exact if_neg h
theorem bo_le (P : Prop) : bo P ≤ 1 := by
  rcases Classical.em P with h | h
  · rw [bo_t h]; exact Nat.le_refl 1
  · rw [bo_f h]; exact Nat.zero_le 1
theorem bo_cg {P Q : Prop} (h : P ↔ Q) : bo P = bo Q := by rw [propext h]
theorem all_s {P : Nat → Prop} {n : Nat} (h : ∀ v, v < n → P v) (hn : P n) : ∀ v, v < n + 1 → P v := fun v hv => by
  rcases Nat.lt_or_ge v n with q | q
  · exact h v q
  · have e : v = n := by omega
    subst e; exact hn
