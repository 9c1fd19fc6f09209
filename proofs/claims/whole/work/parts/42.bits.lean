-- ===== bits (begun from kit/laws/BITS.to-paste, rows 3 to 39) =====
def bt (x : Int32) (i : Nat) : Bool := x.toBitVec.getLsbD i
theorem b_ext {x y : Int32} (h : ∀ i, i < 32 → bt x i = bt y i) : x = y := Int32.toBitVec_inj.mp (BitVec.eq_of_getLsbD_eq (fun i hi => h i hi))
theorem b_or (x y : Int32) (i : Nat) : bt (x ||| y) i = (bt x i || bt y i) := by unfold bt; rw [Int32.toBitVec_or, BitVec.getLsbD_or]
theorem b_and (x y : Int32) (i : Nat) : bt (x &&& y) i = (bt x i && bt y i) := by unfold bt; rw [Int32.toBitVec_and, BitVec.getLsbD_and]
theorem b_xor (x y : Int32) (i : Nat) : bt (x ^^^ y) i = (bt x i ^^ bt y i) := by unfold bt; rw [Int32.toBitVec_xor, BitVec.getLsbD_xor]
theorem b_big {x : Int32} {i : Nat} (h : 32 ≤ i) : bt x i = false := BitVec.getLsbD_of_ge _ _ h
theorem b_255 (i : Nat) : bt 255 i = decide (i < 8) := by
  rcases Nat.lt_or_ge i 32 with h | h
  · exact (by decide +kernel : ∀ i, i < 32 → bt 255 i = decide (i < 8)) i h
  · rw [b_big h, decide_eq_false (by omega)]
theorem b_65535 (i : Nat) : bt 65535 i = decide (i < 16) := by
  rcases Nat.lt_or_ge i 32 with h | h
  · exact (by decide +kernel : ∀ i, i < 32 → bt 65535 i = decide (i < 16)) i h
  · rw [b_big h, decide_eq_false (by omega)]
theorem b_m1 : ∀ i, i < 32 → bt (-1) i = true := by decide +kernel
theorem b_0 (i : Nat) : bt 0 i = false := BitVec.getLsbD_zero
theorem s_l : ∀ n, n < 32 → ((nI n &&& 31).toBitVec.smod 32).toNat = n := by decide +kernel
theorem s_u : ∀ n, n < 32 → (((nI n).toUInt32 &&& Int32.toUInt32 31).toBitVec % 32).toNat = n := by decide +kernel
theorem b_shl (n : Nat) (hn : n < 32) (x : Int32) {i : Nat} (hi : i < 32) : bt (x <<< (nI n &&& 31)) i = (decide (n ≤ i) && bt x (i - n)) := by
  unfold bt
  rw [Int32.toBitVec_shiftLeft]
  show (x.toBitVec <<< ((nI n &&& 31).toBitVec.smod 32).toNat).getLsbD i = _
  rw [s_l n hn, BitVec.getLsbD_shiftLeft]
  rcases Nat.lt_or_ge i n with h | h
  · simp [h, Nat.not_le.mpr h]
  · simp [hi, h, Nat.not_lt.mpr h]
theorem b_ushr (n : Nat) (hn : n < 32) (x : Int32) (i : Nat) : bt ((x.toUInt32 >>> ((nI n).toUInt32 &&& Int32.toUInt32 31)).toInt32) i = bt x (n + i) := by
  show (x.toUInt32 >>> ((nI n).toUInt32 &&& Int32.toUInt32 31)).toBitVec.getLsbD i = x.toUInt32.toBitVec.getLsbD (n + i)
  rw [UInt32.toBitVec_shiftRight]
  show (x.toUInt32.toBitVec >>> (((nI n).toUInt32 &&& Int32.toUInt32 31).toBitVec % 32).toNat).getLsbD i = _
  rw [s_u n hn, BitVec.getLsbD_ushiftRight]
theorem b_sshr (n : Nat) (hn : n < 32) (x : Int32) {i : Nat} (hi : i < 32) : bt (x >>> (nI n &&& 31)) i = if n + i < 32 then bt x (n + i) else bt x 31 := by
  unfold bt
  rw [Int32.toBitVec_shiftRight]
  show (x.toBitVec.sshiftRight ((nI n &&& 31).toBitVec.smod 32).toNat).getLsbD i = _
  rw [s_l n hn, BitVec.getLsbD_sshiftRight, BitVec.msb_eq_getLsbD_last]
  simp [hi]
theorem b_1 : ∀ i, i < 32 → bt (nI 1) i = decide (i = 0) := by decide +kernel
theorem b_one {k j : Nat} (hk : k < 32) (hj : j < 32) : bt (nI 1 <<< (nI k &&& 31)) j = decide (j = k) := by
  rw [b_shl k hk _ hj, b_1 (j - k) (by omega)]
  by_cases h : j = k
  · subst h; simp
  · by_cases h2 : k ≤ j
    · have : ¬ j - k = 0 := by omega
      simp [h, this]
    · simp [h, h2]
theorem b_tst {x : Int32} {k : Nat} (hk : k < 32) : ((x >>> (nI k &&& 31)) &&& nI 1).toInt = 1 ↔ bt x k = true := by
  have hb : ∀ i, i < 32 → bt ((x >>> (nI k &&& 31)) &&& nI 1) i = (decide (i = 0) && bt x k) := by
    intro i hi
    rw [b_and, b_1 i hi, b_sshr k hk x hi]
    by_cases h : i = 0
    · subst h; simp [hk]
    · simp [h]
  cases hx : bt x k with
  | true =>
    have e : (x >>> (nI k &&& 31)) &&& nI 1 = nI 1 := b_ext (fun i hi => by rw [hb i hi, hx, b_1 i hi, Bool.and_true])
    rw [e]
    exact ⟨fun _ => rfl, fun _ => by decide⟩
  | false =>
    have e : (x >>> (nI k &&& 31)) &&& nI 1 = 0 := b_ext (fun i hi => by rw [hb i hi, hx, b_0, Bool.and_false])
    rw [e]
    exact ⟨fun h => absurd h (by decide), fun h => absurd h (by decide)⟩
theorem b_zero {x : Int32} : x.toInt = 0 ↔ ∀ i, i < 32 → bt x i = false := by
  constructor
  · intro h i hi
    have e : x = 0 := Int32.toInt_inj.mp (by rw [h]; rfl)
    rw [e]; exact b_0 i
  · intro h
    have e : x = 0 := b_ext (fun i hi => by rw [h i hi, b_0])
    rw [e]; rfl
/-- i is reached from j by s lines -/
def rvs (E : Nat → Nat → Prop) : Nat → Nat → Nat → Prop
  | 0, i, j => j = i
  | s + 1, i, j => ∃ c, c < 12 ∧ rvs E s i c ∧ E j c
theorem rvs_wk {E : Nat → Nat → Prop} {i : Nat} (hi : i < 12) {s : Nat} : ∀ {n : Nat}, (∃ j, j < 12 ∧ rvs E s i j ∧ wk E n j) ↔ wk E (s + n) i := by
  induction s with
  | zero =>
    intro n
    rw [Nat.zero_add]
    constructor
    · rintro ⟨j, _, rfl, h⟩; exact h
    · intro h; exact ⟨i, hi, rfl, h⟩
  | succ s ih =>
    intro n
    rw [show s + 1 + n = s + (n + 1) by omega, ← ih]
    constructor
    · rintro ⟨j, hj, ⟨c, hc, h1, h2⟩, h3⟩
      exact ⟨c, hc, h1, j, hj, h2, h3⟩
    · rintro ⟨c, hc, h1, j, hj, h2, h3⟩
      exact ⟨j, hj, ⟨c, hc, h1, h2⟩, h3⟩
theorem rvs_wk0 {E : Nat → Nat → Prop} {i : Nat} (hi : i < 12) {s : Nat} : (∃ j, j < 12 ∧ rvs E s i j) ↔ wk E s i := by
  have h := rvs_wk (E := E) hi (s := s) (n := 0)
  rw [Nat.add_zero] at h
  rw [← h]
  constructor
  · rintro ⟨j, a, b⟩; exact ⟨j, a, b, trivial⟩
  · rintro ⟨j, a, b, _⟩; exact ⟨j, a, b⟩
def Msk (E : Nat → Nat → Prop) (s i : Nat) (m : Int32) : Prop := ∀ j, j < 32 → (bt m j = true ↔ j < 12 ∧ rvs E s i j)
def LVv (E : Nat → Nat → Prop) (i z : Nat) : Prop := (z ≤ 19 ∧ wk E z i ∧ ¬ wk E (z + 1) i) ∨ (z = 99 ∧ wk E 20 i)
theorem Msk_0 {E : Nat → Nat → Prop} {i : Nat} (hi : i < 12) : Msk E 0 i (nI 1 <<< (nI i &&& 31)) := by
  intro j hj
  rw [b_one (by omega) hj]
  constructor
  · intro h
    have e : j = i := of_decide_eq_true h
    subst e; exact ⟨hi, rfl⟩
  · rintro ⟨_, h⟩
    exact decide_eq_true h
theorem Msk_z {E : Nat → Nat → Prop} {s i : Nat} {m : Int32} (hi : i < 12) (h : Msk E s i m) : m.toInt = 0 ↔ ¬ wk E s i := by
  rw [b_zero, ← rvs_wk0 hi]
  constructor
  · rintro q ⟨j, a, b⟩
    have := (h j (by omega)).mpr ⟨a, b⟩
    rw [q j (by omega)] at this
    cases this
  · intro q j hj
    cases e : bt m j with
    | false => rfl
    | true => exact absurd ⟨j, (h j hj).mp e⟩ q
/-- the next mask, l places in -/
def Nxt (N : TN) (m : Int32) (l : Nat) (x : Int32) : Prop := ∀ j, j < 32 → (bt x j = true ↔ ∃ q, q < l ∧ 0 < N 34 0 q ∧ bt m (q % 12) = true ∧ q / 12 = j)
theorem Nxt_0 {N : TN} {m : Int32} : Nxt N m 0 (nI 0) := by
  intro j hj
  constructor
  · intro h
    rw [show nI 0 = 0 from rfl, b_0] at h
    cases h
  · rintro ⟨q, h, _⟩; omega
theorem Nxt_no {N : TN} {m x : Int32} {l : Nat} (H : Nxt N m l x) (h : ¬ (0 < N 34 0 l ∧ bt m (l % 12) = true)) : Nxt N m (l + 1) x := by
  intro j hj
  rw [H j hj]
  constructor
  · rintro ⟨q, a, b, c, d⟩; exact ⟨q, by omega, b, c, d⟩
  · rintro ⟨q, a, b, c, d⟩
    by_cases e : q = l
    · subst e; exact absurd ⟨b, c⟩ h
    · exact ⟨q, by omega, b, c, d⟩
theorem Nxt_go {N : TN} {m x : Int32} {l : Nat} (hl : l < 144) (H : Nxt N m l x) (h1 : 0 < N 34 0 l) (h2 : bt m (l % 12) = true) : Nxt N m (l + 1) (x ||| (nI 1 <<< (nI (l / 12) &&& 31))) := by
  intro j hj
  rw [b_or, b_one (by omega) hj, Bool.or_eq_true, H j hj]
  constructor
  · rintro (⟨q, a, b, c, d⟩ | e)
    · exact ⟨q, by omega, b, c, d⟩
    · exact ⟨l, by omega, h1, h2, (of_decide_eq_true e).symm⟩
  · rintro ⟨q, a, b, c, d⟩
    by_cases e : q = l
    · subst e; exact Or.inr (decide_eq_true d.symm)
    · exact Or.inl ⟨q, by omega, b, c, d⟩
theorem Nxt_all {N : TN} {s i : Nat} {m x : Int32} (hm : Msk (eg (mN N)) s i m) (H : Nxt N m 144 x) : Msk (eg (mN N)) (s + 1) i x := by
  intro j hj
  rw [H j hj]
  constructor
  · rintro ⟨q, a, b, c, d⟩
    refine ⟨by omega, q % 12, by omega, ((hm (q % 12) (by omega)).mp c).2, ?_⟩
    show 0 < N 34 0 (j * 12 + q % 12)
    rw [show j * 12 + q % 12 = q by omega]; exact b
  · rintro ⟨hj2, c, hc, h1, h2⟩
    have h3 : 0 < N 34 0 (j * 12 + c) := h2
    refine ⟨j * 12 + c, by omega, h3, ?_, by omega⟩
    rw [show (j * 12 + c) % 12 = c by omega]
    exact (hm c (by omega)).mpr ⟨hc, h1⟩
theorem LVv_4 {E : Nat → Nat → Prop} {i z : Nat} (h : LVv E i z) : z ≤ 4 ↔ ¬ wk E 5 i := by
  rcases h with ⟨h1, h2, h3⟩ | ⟨h1, h2⟩
  · constructor
    · intro q w; exact h3 (wk_le (by omega) w)
    · intro q
      rcases Nat.lt_or_ge z 5 with r | r
      · omega
      · exact absurd (wk_le r h2) q
  · constructor
    · intro q; omega
    · intro q; exact absurd (wk_le (by omega) h2) q
theorem LVv_lv {E : Nat → Nat → Prop} {i z t : Nat} (h : LVv E i z) (h4 : t ≤ 4) (h1 : wk E t i) (h2 : ¬ wk E (t + 1) i) : z = t := by
  rcases h with ⟨a, b, c⟩ | ⟨a, b⟩
  · rcases Nat.lt_trichotomy z t with q | q | q
    · exact absurd (wk_le (by omega) h1) c
    · exact q
    · exact absurd (wk_le (by omega) b) h2
  · exact absurd (wk_le (by omega) b) h2
