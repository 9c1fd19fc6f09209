-- ===== sums, for the model =====
theorem bsm_s {I W M : Nat → Nat} {i w n : Nat} : bsm I W M i (w + 1) n = bsm I W M i w n + bat I W M i w n := by
  unfold bsm bat
  rw [← sm_add]
  apply sm_congr
  intro k _
  by_cases h : I k = i
  · by_cases h2 : W k < w
    · rw [if_pos ⟨h, by omega⟩, if_pos ⟨h, h2⟩, if_neg (by omega), Int64.add_zero]
    · by_cases h3 : W k = w
      · rw [if_pos ⟨h, by omega⟩, if_neg (by omega), if_pos ⟨h, h3⟩, Int64.zero_add]
      · rw [if_neg (by omega), if_neg (by omega), if_neg (by omega), Int64.zero_add]
  · rw [if_neg (fun q => h q.1), if_neg (fun q => h q.1), if_neg (fun q => h q.1), Int64.zero_add]
theorem bsm_0 {I W M : Nat → Nat} {i n : Nat} : bsm I W M i 0 n = 0 := by
  unfold bsm
  rw [sm_congr (g := fun _ => 0) (fun k _ => if_neg (by omega)), sm_zero]
theorem sm_bat {I W M : Nat → Nat} {i n w : Nat} : sm (fun v => bat I W M i v n) w = bsm I W M i w n := by
  induction w with
  | zero => rw [bsm_0]; rfl
  | succ w ih => simp only [sm]; rw [ih, bsm_s]
theorem i64_a (a b c : Int64) : a + b - b = a := by rw [Int64.add_sub_cancel]
theorem i64_b (q a b x y : Int64) : q + a - b + (x - y) = q + (a + x) - (b + y) := by
  simp only [Int64.sub_eq_add_neg, Int64.neg_add]
  ac_rfl
theorem barA_eq {st : Nat} {br gr : Nat → Int64} {w : Nat} : barA st br gr w = q64 st + sm br w - sm gr w := by
  induction w with
  | zero => simp only [barA, sm]; rw [Int64.add_zero, Int64.sub_zero]
  | succ w ih => simp only [barA, sm]; rw [ih, i64_b]
theorem bare_M {N : TN} {gr : Nat → Int64} {i w : Nat} {D : Nat → Nat} : q64 (D 7) + bsm (N 9 1) (N 10 1) (N 11 1) i (w + 1) (N 8 1 3) - sm gr (w + 1) = bareF D (brF N i) gr w := by
  unfold bareF
  rw [barA_eq, ← sm_bat]
  rfl
theorem scr_0 (a : Int64) (s : Nat) : scr (0 * a) s = 0 := by
  unfold scr
  rw [Int64.zero_mul, Int64.zero_mul, Int64.zero_add]
  decide
theorem q64_1000 : q64 1000 = Int64.ofNat 1000 := by decide
theorem scr_eq {x : Int64} {s : Nat} (h : s ≤ 200) : (x * (Int64.ofNat 1000 + q64 s) + Int64.ofNat 999) / Int64.ofNat 1000 = scr x s := by
  unfold scr
  rw [q64_add (by omega), q64_1000]
theorem mx_le {a b : Int64} (h : b ≤ a) : mx a b = a := by
  unfold mx
  by_cases q : b < a
  · rw [if_pos q]
  · rw [if_neg q]
    exact Int64.le_antisymm h (Int64.not_lt.mp q)
theorem mx_gt {a b : Int64} (h : ¬ b ≤ a) : mx a b = b := by
  unfold mx
  rw [if_neg (fun q => h (Int64.le_of_lt q))]
theorem wai_1 {nd : Nat → Int64} {w : Nat} : wai nd w 1 = 0 := by
  simp only [wai]
  rw [show q64 0 = 0 from rfl, Int64.zero_mul, Int64.zero_add]
theorem pk_1 {D : Nat → Nat} {nd bt : Nat → Int64} {w n : Nat} (h : 0 < n) : (pk D nd bt w n).1 = cs D nd w ((pk D nd bt w n).2 - w) + bt ((pk D nd bt w n).2 + 1) := by
  induction n with
  | zero => omega
  | succ n ih =>
    simp only [pk]
    split
    · show _ = cs D nd w (w + n - w) + bt (w + n + 1)
      rw [Nat.add_sub_cancel_left]
    · rename_i h1
      exact ih (by omega)
theorem gotA_lead {D : Nat → Nat} {br gr : Nat → Int64} {w : Nat} (h : w ≤ D 2) : gotA D (needF D br gr) w = 0 := by
  induction w with
  | zero => rfl
  | succ w ih =>
    simp only [gotA, plO]
    rw [ih (by omega), needF_lt (by omega), if_pos (Int64.le_refl _), Int64.add_zero]
theorem sm_plan {D : Nat → Nat} {br gr : Nat → Int64} {w : Nat} : sm (planF D br gr) w = gotA D (needF D br gr) w := by
  induction w with
  | zero => rfl
  | succ w ih => simp only [sm, gotA]; rw [ih]; rfl
