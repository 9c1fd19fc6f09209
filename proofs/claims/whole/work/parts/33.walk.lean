-- ===== levels: walks in the bill =====
def wk (E : Nat → Nat → Prop) : Nat → Nat → Prop
  | 0, _ => True
  | n + 1, i => ∃ p, p < 12 ∧ E p i ∧ wk E n p
theorem wk_less {E : Nat → Nat → Prop} {n : Nat} : ∀ {i : Nat}, wk E (n + 1) i → wk E n i := by
  induction n with
  | zero => intro i _; exact trivial
  | succ n ih =>
    intro i h
    obtain ⟨p, h1, h2, h3⟩ := h
    exact ⟨p, h1, h2, ih h3⟩
theorem wk_le {E : Nat → Nat → Prop} {m n i : Nat} (h : m ≤ n) (hw : wk E n i) : wk E m i := by
  induction n with
  | zero => have : m = 0 := by omega
            subst this; exact hw
  | succ n ih =>
    by_cases e : m = n + 1
    · subst e; exact hw
    · exact ih (by omega) (wk_less hw)
theorem wk_mono {E E' : Nat → Nat → Prop} (h : ∀ p i, p < 12 → i < 12 → E p i → E' p i) {n : Nat} : ∀ {i : Nat}, i < 12 → wk E n i → wk E' n i := by
  induction n with
  | zero => intro i _ _; exact trivial
  | succ n ih =>
    intro i hi hw
    obtain ⟨p, h1, h2, h3⟩ := hw
    exact ⟨p, h1, h p i h1 hi h2, ih h1 h3⟩
/-- no walk of five lines -/
def SN (E : Nat → Nat → Prop) : Prop := ∀ i, i < 12 → ¬ wk E 5 i
def RI (E : Nat → Nat → Prop) (r p c : Nat) (T : Nat → Nat) (h : Nat) : Prop :=
  (∀ i, i < 12 → T i ≤ 144 * r + 12 * p + c) ∧ (∀ i, i < 12 → wk E (T i) i) ∧ (∀ i, i < 12 → ∀ n, n ≤ r → wk E n i → n ≤ T i) ∧
  (∀ a b, a < 12 → b < 12 → (a < p ∨ (a = p ∧ b < c)) → E a b → ∀ n, n ≤ r → wk E n a → n + 1 ≤ T b) ∧ (∀ i, i < 12 → T i ≤ h) ∧ (h = 0 ∨ ∃ i, i < 12 ∧ T i = h)
theorem RI_cg {E : Nat → Nat → Prop} {r p c h : Nat} {T T' : Nat → Nat} (e : ∀ i, i < 12 → T' i = T i) (H : RI E r p c T h) : RI E r p c T' h := by
  obtain ⟨h1, h2, h3, h4, h5, h6⟩ := H
  refine ⟨fun i hi => by rw [e i hi]; exact h1 i hi, fun i hi => by rw [e i hi]; exact h2 i hi, fun i hi => by rw [e i hi]; exact h3 i hi, fun a b ha hb => by rw [e b hb]; exact h4 a b ha hb, fun i hi => by rw [e i hi]; exact h5 i hi, ?_⟩
  rcases h6 with q | ⟨i, hi, q⟩
  · exact Or.inl q
  · exact Or.inr ⟨i, hi, by rw [e i hi]; exact q⟩
theorem RI_0 {E : Nat → Nat → Prop} {T : Nat → Nat} (h : ∀ i, i < 12 → T i = 0) : RI E 0 0 0 T 0 := by
  refine ⟨fun i hi => by rw [h i hi]; omega, fun i hi => by rw [h i hi]; trivial, fun i hi n hn _ => by omega, fun a b _ _ q => by omega, fun i hi => by rw [h i hi]; omega, Or.inl rfl⟩
theorem RI_skip {E : Nat → Nat → Prop} {r p c h : Nat} {T : Nat → Nat} (H : RI E r p c T h) (hE : ¬ E p c) : RI E r p (c + 1) T h := by
  obtain ⟨h1, h2, h3, h4, h5, h6⟩ := H
  refine ⟨fun i hi => by have := h1 i hi; omega, h2, h3, fun a b ha hb q e n hn w => ?_, h5, h6⟩
  by_cases z : a = p ∧ b = c
  · obtain ⟨rfl, rfl⟩ := z; exact absurd e hE
  · exact h4 a b ha hb (by omega) e n hn w
theorem RI_row {E : Nat → Nat → Prop} {r p h : Nat} {T : Nat → Nat} (H : RI E r p 12 T h) : RI E r (p + 1) 0 T h := by
  obtain ⟨h1, h2, h3, h4, h5, h6⟩ := H
  exact ⟨fun i hi => by have := h1 i hi; omega, h2, h3, fun a b ha hb q e n hn w => h4 a b ha hb (by omega) e n hn w, h5, h6⟩
theorem RI_round {E : Nat → Nat → Prop} {r h : Nat} {T : Nat → Nat} (H : RI E r 12 0 T h) : RI E (r + 1) 0 0 T h := by
  obtain ⟨h1, h2, h3, h4, h5, h6⟩ := H
  refine ⟨fun i hi => by have := h1 i hi; omega, h2, fun i hi n hn w => ?_, fun a b ha hb q => by omega, h5, h6⟩
  cases n with
  | zero => omega
  | succ m =>
    obtain ⟨a, q1, q2, q3⟩ := w
    exact h4 a i q1 hi (Or.inl q1) q2 m (by omega) q3
theorem RI_up {E : Nat → Nat → Prop} {r p c h : Nat} {T T' : Nat → Nat} (hp : p < 12) (hc : c < 12) (H : RI E r p c T h) (hE : E p c) (ht : T' c = if T c < T p + 1 then T p + 1 else T c) (ho : ∀ i, i ≠ c → T' i = T i) : RI E r p (c + 1) T' (if h < T' c then T' c else h) := by
  obtain ⟨h1, h2, h3, h4, h5, h6⟩ := H
  have hge : ∀ i, T i ≤ T' i := fun i => by
    by_cases e : i = c
    · subst e; rw [ht]; split <;> omega
    · rw [ho i e]; omega
  have hpc : T p + 1 ≤ T' c := by rw [ht]; split <;> omega
  refine ⟨fun i hi => ?_, fun i hi => ?_, fun i hi n hn w => Nat.le_trans (h3 i hi n hn w) (hge i), fun a b ha hb q e n hn w => ?_, fun i hi => ?_, ?_⟩
  · have a1 := h1 i hi
    have a2 := h1 p hp
    by_cases e : i = c
    · subst e; rw [ht]; split <;> omega
    · rw [ho i e]; omega
  · by_cases e : i = c
    · subst e
      rw [ht]
      split
      · exact ⟨p, hp, hE, h2 p hp⟩
      · exact h2 i hi
    · rw [ho i e]; exact h2 i hi
  · by_cases z : a = p ∧ b = c
    · obtain ⟨rfl, rfl⟩ := z
      have := h3 a ha n hn w
      omega
    · exact Nat.le_trans (h4 a b ha hb (by omega) e n hn w) (hge b)
  · have a1 := h5 i hi
    by_cases e : i = c
    · subst e; split <;> omega
    · rw [ho i e]; split <;> omega
  · by_cases q : h < T' c
    · rw [if_pos q]; exact Or.inr ⟨c, hc, rfl⟩
    · rw [if_neg q]
      rcases h6 with z | ⟨i, hi, z⟩
      · exact Or.inl z
      · refine Or.inr ⟨i, hi, ?_⟩
        by_cases e : i = c
        · subst e
          have := hge i
          omega
        · rw [ho i e]; exact z
/-- five rounds: the levels are the longest walks, as far as they go -/
theorem RI_sn {E : Nat → Nat → Prop} {T : Nat → Nat} {h : Nat} (H : RI E 5 0 0 T h) : h ≤ 4 ↔ SN E := by
  obtain ⟨h1, h2, h3, h4, h5, h6⟩ := H
  constructor
  · intro q i hi w
    have a := h3 i hi 5 (by omega) w
    have b := h5 i hi
    omega
  · intro q
    rcases h6 with z | ⟨i, hi, z⟩
    · omega
    · rcases Nat.lt_or_ge h 5 with s | s
      · omega
      · exact absurd (wk_le s (z ▸ h2 i hi)) (q i hi)
theorem RI_lv {E : Nat → Nat → Prop} {T : Nat → Nat} {h : Nat} (H : RI E 5 0 0 T h) (hs : SN E) : ∀ i, i < 12 → T i ≤ 4 ∧ wk E (T i) i ∧ ¬ wk E (T i + 1) i := by
  have h4 := (RI_sn H).mpr hs
  obtain ⟨_, h2, h3, _, h5, _⟩ := H
  intro i hi
  have := h5 i hi
  refine ⟨by omega, h2 i hi, fun w => ?_⟩
  have := h3 i hi (T i + 1) (by omega) w
  omega
def eg (N : TN) (p c : Nat) : Prop := 0 < N 3 0 (p * 12 + c)
def edm (N : TN) (x : Int) (p c : Nat) : Prop := x = ((p * 12 + c : Nat) : Int) ∨ 0 < N 3 0 (p * 12 + c)
theorem edm_1 (N : TN) : edm N (-1) = eg N := by
  funext p c
  apply propext
  constructor
  · rintro (q | q)
    · omega
    · exact q
  · exact Or.inr
/-- the levels of the bill -/
def LvOk (N : TN) (T : Nat → Nat) : Prop := ∀ i, i < 12 → T i ≤ 4 ∧ wk (eg N) (T i) i ∧ ¬ wk (eg N) (T i + 1) i
def fitP (N : TN) (c : Nat) : Prop := 0 < N 3 0 c ∨ (N 2 0 5 < 24 ∧ SN (edm N (c : Int)))
def lineS (N : TN) : Nat := smN (fun c => if N 3 0 c = 0 then 0 else 1) 144
theorem smN_ge {f : Nat → Nat} {n k : Nat} (h : k < n) : f k ≤ smN f n := by
  induction n with
  | zero => omega
  | succ n ih =>
    simp only [smN]
    by_cases e : k = n
    · subst e; omega
    · have := ih (by omega); omega
theorem smN_up {f g : Nat → Nat} {n k : Nat} (h : k < n) (ho : ∀ j, j < n → j ≠ k → g j = f j) : smN g n + f k = smN f n + g k := by
  induction n with
  | zero => omega
  | succ n ih =>
    simp only [smN]
    by_cases e : k = n
    · subst e
      rw [smN_cg (f := g) (g := f) (fun j hj => ho j (by omega) (by omega))]; omega
    · have a := ih (by omega) (fun j hj => ho j (by omega))
      have b := ho n (by omega) (by omega)
      omega
