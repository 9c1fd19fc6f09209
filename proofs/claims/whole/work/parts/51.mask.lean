-- ===== the picture of the model's answers =====
def okM (N : TN) (L : TL) (i n v : Nat) : Prop := q64 n ≤ bareF (mN N 19 i) (brF (mN N) i) (mW L 20 i) v + sm (mW L 21 i) (v + 1) - bsm (mN N 9 2) (mN N 10 2) (mN N 11 2) i (v + 1) (N 37 0 2)
def pgV (b q f n : Int64) : Int64 := if (if f + n ≤ b + q then f + n else b + q) ≤ (if b ≤ f then f else b) then 0 else (if f + n ≤ b + q then f + n else b + q) - (if b ≤ f then f else b)
noncomputable def shM (N : TN) (L : TL) (i : Nat) : Nat := bo (¬ ∀ w, w < 12 → ¬ bareF (mN N 19 i) (brF (mN N) i) (mW L 20 i) w + sm (mW L 21 i) (w + 1) < 0)
def spl (I W M : Nat → Nat) (i u m n : Nat) : Int64 := sm (fun k => if I k = i ∧ (W k < u ∨ (W k = u ∧ k < m)) then q64 (M k) else 0) n
theorem spl_eq {I W M : Nat → Nat} {i u m n : Nat} (h : m ≤ n) : spl I W M i u m n = bsm I W M i u n + bat I W M i u m := by
  induction n with
  | zero =>
    have : m = 0 := by omega
    subst this; rfl
  | succ n ih =>
    by_cases e : m = n + 1
    · subst e
      have g : ∀ j, j ≤ n + 1 → spl I W M i u (n + 1) j = bsm I W M i u j + bat I W M i u j := by
        intro j
        induction j with
        | zero => intro _; rfl
        | succ j ihj =>
          intro hj
          have := ihj (by omega)
          simp only [spl, bsm, bat, sm] at this ⊢
          rw [this]
          by_cases h1 : I j = i
          · by_cases h2 : W j < u
            · rw [if_pos (by omega), if_pos (by omega), if_neg (by omega)]; simp only [Int64.add_zero]; ac_rfl
            · by_cases h3 : W j = u
              · rw [if_pos (by omega), if_neg (by omega), if_pos (by omega)]; simp only [Int64.add_zero]; ac_rfl
              · rw [if_neg (by omega), if_neg (by omega), if_neg (by omega)]; simp only [Int64.add_zero]
          · rw [if_neg (by omega), if_neg (by omega), if_neg (by omega)]; simp only [Int64.add_zero]
      exact g (n + 1) (by omega)
    · have := ih (by omega)
      simp only [spl, bsm, sm] at this ⊢
      rw [this]
      by_cases h1 : I n = i
      · by_cases h2 : W n < u
        · rw [if_pos (by omega), if_pos (by omega)]; ac_rfl
        · rw [if_neg (by omega), if_neg (by omega)]; simp only [Int64.add_zero]
      · rw [if_neg (by omega), if_neg (by omega)]; simp only [Int64.add_zero]
def clM (N : TN) (L : TL) (d : Nat) : Int64 := sm (mW L 20 (N 38 0 d)) (N 39 0 d) + bat (mN N 9 0) (mN N 10 0) (mN N 11 0) (N 38 0 d) (N 39 0 d) d
def suO (N : TN) (L : TL) (i m : Nat) : Int64 := q64 (N 31 0 i) + bsm (mN N 9 1) (mN N 10 1) (mN N 11 1) i (N 39 0 (24 + m)) (N 37 0 1) + bat (mN N 9 1) (mN N 10 1) (mN N 11 1) i (N 39 0 (24 + m)) m + sm (mW L 21 i) (N 39 0 (24 + m))
def suR (N : TN) (L : TL) (i w : Nat) : Int64 := q64 (N 31 0 i) + bsm (mN N 9 1) (mN N 10 1) (mN N 11 1) i (w + 1) (N 37 0 1) + sm (mW L 21 i) w
def pgM (N : TN) (L : TL) (d k m : Nat) : Int64 :=
  if k = 1 then (if N 38 0 (24 + m) = N 38 0 d then pgV (clM N L d) (q64 (N 40 0 d)) (suO N L (N 38 0 d) m) (q64 (N 40 0 (24 + m))) else 0)
  else if k = 2 then pgV (clM N L d) (q64 (N 40 0 d)) (suR N L (N 38 0 d) m) (L 43 0 (12 * N 38 0 d + m))
  else pgV (clM N L d) (q64 (N 40 0 d)) 0 (q64 (N 31 0 (N 38 0 d)))
noncomputable def vCountM (N : TN) (L : TL) (x : Int32) : Int32 :=
  if x.toInt = 0 then nI (N 23 0 14) else if x.toInt = 1 then nI (N 37 0 0) else if x.toInt = 2 then nI (N 37 0 1) else if x.toInt = 3 then nI (N 37 0 2) else if x.toInt = 4 then nI (smN (shM N L) 12) else if x.toInt = 5 then nI (N 23 0 20) else Int32.ofInt (-1)
