-- ===== the picture of the answers =====
def smN (f : Nat → Nat) : Nat → Nat
  | 0 => 0
  | n + 1 => smN f n + f n
theorem smN_cg {f g : Nat → Nat} {n : Nat} (h : ∀ k, k < n → f k = g k) : smN f n = smN g n := by
  induction n with
  | zero => rfl
  | succ n ih => simp only [smN]; rw [ih (fun k hk => h k (by omega)), h n (by omega)]
theorem smN_le {f : Nat → Nat} {n : Nat} (h : ∀ k, k < n → f k ≤ 1) : smN f n ≤ n := by
  induction n with
  | zero => exact Nat.le_refl 0
  | succ n ih =>
    have h1 := ih (fun k hk => h k (by omega))
    have h2 := h n (by omega)
    simp only [smN]; omega
noncomputable def shF (L : TL) (i : Nat) : Nat := bo (¬ ∀ w, w < 12 → ¬ L 22 i w < 0)
noncomputable def vCount (N : TN) (L : TL) (x : Int32) : Int32 :=
  if x.toInt = 0 then nI (N 2 0 5) else if x.toInt = 1 then nI (N 8 0 3) else if x.toInt = 2 then nI (N 8 1 3) else if x.toInt = 3 then nI (N 8 2 3) else if x.toInt = 4 then nI (smN (shF L) 12) else if x.toInt = 5 then nI (bo (TD N)) else Int32.ofInt (-1)
def ldF (N : TN) (L : TL) (c w : Nat) : Int64 := sm (fun i => if N 19 i 8 = c then q64 (N 19 i 9) * (if w + N 19 i 2 < 12 then L 21 i (w + N 19 i 2) else 0) else 0) 12
def mn (a b : Int64) : Int64 := if b < a then b else a
/-- the last week of a run of true weeks that ends at week 11, not ahead of w -/
def LT (P : Nat → Prop) (w : Nat) (x : Int32) : Prop := (x = Int32.ofInt (-1) ∧ ¬ P 11) ∨ ∃ v, w ≤ v ∧ v < 12 ∧ x = nI v ∧ (∀ u, v ≤ u → u < 12 → P u) ∧ (v = w ∨ ¬ P (v - 1))
theorem LT.uniq {P : Nat → Prop} {w : Nat} {x y : Int32} (h : LT P w x) (g : LT P w y) : x = y := by
  rcases h with ⟨h1, h2⟩ | ⟨v, h1, h2, h3, h4, h5⟩
  · rcases g with ⟨g1, g2⟩ | ⟨u, g1, g2, g3, g4, g5⟩
    · rw [h1, g1]
    · exact absurd (g4 11 (by omega) (by omega)) h2
  · rcases g with ⟨g1, g2⟩ | ⟨u, g1, g2, g3, g4, g5⟩
    · exact absurd (h4 11 (by omega) (by omega)) g2
    · have e : v = u := by
        rcases Nat.lt_trichotomy v u with q | q | q
        · rcases g5 with r | r
          · omega
          · exact absurd (h4 (u - 1) (by omega) (by omega)) r
        · exact q
        · rcases h5 with r | r
          · omega
          · exact absurd (g4 (v - 1) (by omega) (by omega)) r
      rw [h3, g3, e]
/-- n of an item is true for week v -/
def okW (N : TN) (L : TL) (i n v : Nat) : Prop := q64 n ≤ L 22 i v - bsm (N 9 2) (N 10 2) (N 11 2) i (v + 1) (N 8 2 3)
def clF (N : TN) (L : TL) (d : Nat) : Int64 := sm (L 20 (N 9 0 d)) (N 10 0 d) + bat (N 9 0) (N 10 0) (N 11 0) (N 9 0 d) (N 10 0 d) d
def pgU (N : TN) (L : TL) (d : Nat) (s n : Int64) : Int64 := mx (mn (s + n) (clF N L d + q64 (N 11 0 d)) - mx s (clF N L d)) 0
def pgO (N : TN) (L : TL) (d m : Nat) : Int64 :=
  if N 9 1 m = N 9 0 d then pgU N L d (q64 (N 19 (N 9 1 m) 7) + bsm (N 9 1) (N 10 1) (N 11 1) (N 9 1 m) (N 10 1 m) (N 8 1 3) + bat (N 9 1) (N 10 1) (N 11 1) (N 9 1 m) (N 10 1 m) m + sm (L 21 (N 9 1 m)) (N 10 1 m)) (q64 (N 11 1 m)) else 0
def pgR (N : TN) (L : TL) (d w : Nat) : Int64 :=
  pgU N L d (q64 (N 19 (N 9 0 d) 7) + bsm (N 9 1) (N 10 1) (N 11 1) (N 9 0 d) (w + 1) (N 8 1 3) + sm (L 21 (N 9 0 d)) w) (L 21 (N 9 0 d) w)
def pgF (N : TN) (L : TL) (d k m : Nat) : Int64 := if k = 1 then pgO N L d m else if k = 2 then pgR N L d m else pgU N L d 0 (q64 (N 19 (N 9 0 d) 7))
