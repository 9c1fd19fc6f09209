-- ===== the picture of netting =====
def mx (a b : Int64) : Int64 := if b < a then a else b
def barA (st : Nat) (br gr : Nat → Int64) : Nat → Int64
  | 0 => q64 st
  | w + 1 => barA st br gr w + (br w - gr w)
def mosA (D : Nat → Nat) (br gr : Nat → Int64) : Nat → Int64
  | 0 => 0
  | w + 1 => mx (mosA D br gr w) (q64 (D 3) - barA (D 7) br gr (w + 1))
def bareF (D : Nat → Nat) (br gr : Nat → Int64) (w : Nat) : Int64 := barA (D 7) br gr (w + 1)
def needF (D : Nat → Nat) (br gr : Nat → Int64) (w : Nat) : Int64 := if w < D 2 then 0 else mosA D br gr (w + 1)
def prv (nd : Nat → Int64) (w : Nat) : Int64 := if w < 1 then 0 else nd (w - 1)
def wai (nd : Nat → Int64) (w : Nat) : Nat → Int64
  | 0 => 0
  | n + 1 => wai nd w n + q64 n * (nd (w + n) - prv nd (w + n))
/-- what a lot of week w costs that goes to week w + n -/
def cs (D : Nat → Nat) (nd : Nat → Int64) (w n : Nat) : Int64 := q64 (D 5) + q64 (D 6) * wai nd w (n + 1)
def pk (D : Nat → Nat) (nd bt : Nat → Int64) (w : Nat) : Nat → Int64 × Nat
  | 0 => (0, 0)
  | n + 1 => if n = 0 ∨ cs D nd w n + bt (w + n + 1) < (pk D nd bt w n).1 then (cs D nd w n + bt (w + n + 1), w + n) else pk D nd bt w n
theorem pk_cg {D : Nat → Nat} {nd bt bt' : Nat → Int64} {w n : Nat} (h : ∀ q, w < q → q ≤ w + n → bt q = bt' q) : pk D nd bt w n = pk D nd bt' w n := by
  induction n with
  | zero => rfl
  | succ n ih =>
    simp only [pk]
    rw [ih (fun q h1 h2 => h q h1 (by omega)), h (w + n + 1) (by omega) (by omega)]
theorem pk_at {D : Nat → Nat} {nd bt : Nat → Int64} {w n : Nat} (h : 0 < n) : w ≤ (pk D nd bt w n).2 ∧ (pk D nd bt w n).2 < w + n := by
  induction n with
  | zero => omega
  | succ n ih =>
    simp only [pk]
    split
    · constructor
      · show w ≤ w + n; omega
      · show w + n < w + (n + 1); omega
    · rename_i h1
      have := ih (by omega)
      omega
/-- best, m weeks from the end -/
def bst (D : Nat → Nat) (nd : Nat → Int64) : Nat → Nat → Int64
  | 0 => fun _ => 0
  | m + 1 => fun q => if q = 11 - m then (if nd q = prv nd q then bst D nd m (q + 1) else (pk D nd (bst D nd m) q (m + 1)).1) else bst D nd m q
def bestF (D : Nat → Nat) (nd : Nat → Int64) (q : Nat) : Int64 := bst D nd 12 q
theorem bst_st {D : Nat → Nat} {nd : Nat → Int64} {m n q : Nat} (hm : m ≤ n) (hn : n ≤ 12) (hq : 12 - m ≤ q) : bst D nd n q = bst D nd m q := by
  induction n with
  | zero =>
    have : m = 0 := by omega
    subst this; rfl
  | succ n ih =>
    by_cases h : m = n + 1
    · subst h; rfl
    · simp only [bst]
      rw [if_neg (by omega)]
      exact ih (by omega) (by omega)
theorem best_12 {D : Nat → Nat} {nd : Nat → Int64} : bestF D nd 12 = 0 := by
  unfold bestF
  rw [bst_st (m := 0) (by omega) (by omega) (by omega)]
  rfl
theorem best_w {D : Nat → Nat} {nd : Nat → Int64} {w : Nat} (h : w < 12) : bestF D nd w = if nd w = prv nd w then bestF D nd (w + 1) else (pk D nd (bestF D nd) w (12 - w)).1 := by
  have e1 : bestF D nd w = bst D nd (12 - w) w := bst_st (by omega) (by omega) (by omega)
  have e2 : 12 - w = (11 - w) + 1 := by omega
  rw [e1, e2]
  simp only [bst]
  rw [if_pos (by omega)]
  have e3 : bst D nd (11 - w) (w + 1) = bestF D nd (w + 1) := (bst_st (by omega) (by omega) (by omega)).symm
  rw [e3, pk_cg (bt' := bestF D nd) (fun q h1 h2 => (bst_st (by omega) (by omega) (by omega)).symm)]
def lastF (D : Nat → Nat) (nd : Nat → Int64) (w : Nat) : Nat := (pk D nd (bestF D nd) w (12 - w)).2
def lmu (n : Nat) (x : Int64) : Int64 := if n < 1 then x else (x + q64 n - Int64.ofNat 1) / q64 n * q64 n
def lotF (D : Nat → Nat) (nd : Nat → Int64) (w : Nat) (got : Int64) : Int64 :=
  if D 0 = 1 then lmu (D 1) (nd w - got) else if D 0 = 2 then nd (if 11 < w + D 1 - 1 then 11 else w + D 1 - 1) - got else if D 0 = 3 then nd (lastF D nd w) - got else nd w - got
def plO (D : Nat → Nat) (nd : Nat → Int64) (w : Nat) (got : Int64) : Int64 := if nd w ≤ got then 0 else lotF D nd w got
def gotA (D : Nat → Nat) (nd : Nat → Int64) : Nat → Int64
  | 0 => 0
  | w + 1 => gotA D nd w + plO D nd w (gotA D nd w)
def planF (D : Nat → Nat) (br gr : Nat → Int64) (w : Nat) : Int64 := plO D (needF D br gr) w (gotA D (needF D br gr) w)
def balF (D : Nat → Nat) (br gr : Nat → Int64) (w : Nat) : Int64 := bareF D br gr w + gotA D (needF D br gr) (w + 1)
theorem upLW {L : TL} {t i n t' i' j : Nat} {f : Nat → Int64} {x : Int64} (h : t' ≠ t) : upL (upW L t i n f) t' i' j x = upW (upL L t' i' j x) t i n f := by
  funext a b c
  simp only [upL, upW]
  by_cases h1 : a = t'
  · subst h1
    have a1 : ∀ P : Prop, ¬ (a = t ∧ P) := fun P q => h q.1
    simp [a1]
  · have a1 : ∀ P : Prop, ¬ (a = t' ∧ P) := fun P q => h1 q.1
    simp [a1]
theorem upNV {L : TN} {t i n t' i' j : Nat} {f : Nat → Nat} {x : Nat} (h : t' ≠ t) : upN (upV L t i n f) t' i' j x = upV (upN L t' i' j x) t i n f := by
  funext a b c
  simp only [upN, upV]
  by_cases h1 : a = t'
  · subst h1
    have a1 : ∀ P : Prop, ¬ (a = t ∧ P) := fun P q => h q.1
    simp [a1]
  · have a1 : ∀ P : Prop, ¬ (a = t' ∧ P) := fun P q => h1 q.1
    simp [a1]
theorem upL_at {L : TL} {t i j : Nat} {x : Int64} : upL L t i j x t i j = x := if_pos ⟨rfl, rfl, rfl⟩
theorem upN_at {L : TN} {t i j : Nat} {x : Nat} : upN L t i j x t i j = x := if_pos ⟨rfl, rfl, rfl⟩
theorem upL_ne {L : TL} {t i j t' i' j' : Nat} {x : Int64} (h : ¬ (t' = t ∧ i' = i ∧ j' = j)) : upL L t i j x t' i' j' = L t' i' j' := if_neg h
theorem upN_ne {L : TN} {t i j t' i' j' : Nat} {x : Nat} (h : ¬ (t' = t ∧ i' = i ∧ j' = j)) : upN L t i j x t' i' j' = L t' i' j' := if_neg h
theorem upL_2 {L : TL} {t i j : Nat} {x y : Int64} : upL (upL L t i j x) t i j y = upL L t i j y := by
  funext a b c
  simp only [upL]
  split <;> rfl
theorem upN_2 {L : TN} {t i j : Nat} {x y : Nat} : upN (upN L t i j x) t i j y = upN L t i j y := by
  funext a b c
  simp only [upN]
  split <;> rfl
theorem upW_s2 {L : TL} {t1 t2 i1 i2 n : Nat} {f g : Nat → Int64} {x y : Int64} (ht : t1 ≠ t2) (h1 : x = f n) (h2 : y = g n) : upL (upL (upW (upW L t1 i1 n f) t2 i2 n g) t1 i1 n x) t2 i2 n y = upW (upW L t1 i1 (n + 1) f) t2 i2 (n + 1) g := by
  rw [upLW ht, upW_s h1, upW_s h2]
theorem dec_toInt {a : Nat} (h : a < 2 ^ 31) : (nI a + Int32.ofInt (-1)).toInt = (a : Int) - 1 := by
  rcases Nat.eq_zero_or_pos a with q | q
  · subst q; decide
  · rw [nI_dec q, nI_toInt (by omega)]; omega
theorem mx_l (a b : Int64) : a ≤ mx a b := by
  unfold mx
  split
  · exact Int64.le_refl a
  · rename_i h; exact Int64.not_lt.mp h
theorem mx_r (a b : Int64) : b ≤ mx a b := by
  unfold mx
  split
  · rename_i h; exact Int64.le_of_lt h
  · exact Int64.le_refl b
theorem mosA_mono {D : Nat → Nat} {br gr : Nat → Int64} {v w : Nat} (h : v ≤ w) : mosA D br gr v ≤ mosA D br gr w := by
  induction w with
  | zero => have : v = 0 := by omega
            subst this; exact Int64.le_refl _
  | succ w ih =>
    by_cases q : v = w + 1
    · subst q; exact Int64.le_refl _
    · exact Int64.le_trans (ih (by omega)) (mx_l _ _)
theorem needF_mono {D : Nat → Nat} {br gr : Nat → Int64} {v w : Nat} (h : v ≤ w) : needF D br gr v ≤ needF D br gr w := by
  unfold needF
  by_cases h1 : v < D 2
  · rw [if_pos h1]
    by_cases h2 : w < D 2
    · rw [if_pos h2]; exact Int64.le_refl _
    · rw [if_neg h2]; exact mosA_mono (v := 0) (by omega)
  · rw [if_neg h1, if_neg (by omega)]
    exact mosA_mono (by omega)
theorem prv_0 {nd : Nat → Int64} : prv nd 0 = 0 := rfl
theorem prv_s {nd : Nat → Int64} {w : Nat} : prv nd (w + 1) = nd w := by
  unfold prv
  rw [if_neg (by omega)]
  rfl
theorem lastF_at {D : Nat → Nat} {nd : Nat → Int64} {w : Nat} (h : w < 12) : w ≤ lastF D nd w ∧ lastF D nd w < 12 := by
  have := pk_at (D := D) (nd := nd) (bt := bestF D nd) (w := w) (n := 12 - w) (by omega)
  unfold lastF
  omega
theorem got_prv {D : Nat → Nat} {br gr : Nat → Int64} (h3 : D 0 = 3) {w : Nat} (h : w ≤ 12) : prv (needF D br gr) w ≤ gotA D (needF D br gr) w := by
  induction w with
  | zero => exact Int64.le_refl _
  | succ w ih =>
    rw [prv_s]
    simp only [gotA, plO]
    split
    · rename_i h1; rw [Int64.add_zero]; exact h1
    · simp only [lotF]
      rw [if_neg (by omega), if_neg (by omega), if_pos h3]
      have e : ∀ a b : Int64, a + (b - a) = b := fun a b => by rw [Int64.add_comm, Int64.sub_add_cancel]
      rw [e]
      exact needF_mono (lastF_at (by omega)).1
theorem needF_ge {D : Nat → Nat} {br gr : Nat → Int64} {w : Nat} (h : ¬ w < D 2) : needF D br gr w = mosA D br gr (w + 1) := if_neg h
theorem needF_lt {D : Nat → Nat} {br gr : Nat → Int64} {w : Nat} (h : w < D 2) : needF D br gr w = 0 := if_pos h
section Cg
variable {D D' : Nat → Nat} {nd nd' : Nat → Int64}
theorem prv_cg (h : ∀ q, q < 12 → nd q = nd' q) {w : Nat} (hw : w ≤ 12) : prv nd w = prv nd' w := by
  unfold prv
  split
  · rfl
  · exact h _ (by omega)
theorem wai_cg (h : ∀ q, q < 12 → nd q = nd' q) {w n : Nat} (hw : w + n ≤ 12) : wai nd w n = wai nd' w n := by
  induction n with
  | zero => rfl
  | succ n ih => simp only [wai]; rw [ih (by omega), h _ (by omega), prv_cg h (by omega)]
theorem cs_cg (h5 : D 5 = D' 5) (h6 : D 6 = D' 6) (h : ∀ q, q < 12 → nd q = nd' q) {w n : Nat} (hw : w + n < 12) : cs D nd w n = cs D' nd' w n := by
  unfold cs
  rw [h5, h6, wai_cg h (by omega)]
theorem pk_cg2 (h5 : D 5 = D' 5) (h6 : D 6 = D' 6) (h : ∀ q, q < 12 → nd q = nd' q) {bt bt' : Nat → Int64} {w n : Nat} (hb : ∀ q, w < q → q ≤ w + n → bt q = bt' q) (hw : w + n ≤ 12) : pk D nd bt w n = pk D' nd' bt' w n := by
  induction n with
  | zero => rfl
  | succ n ih =>
    simp only [pk]
    rw [ih (fun q h1 h2 => hb q h1 (by omega)) (by omega), hb (w + n + 1) (by omega) (by omega), cs_cg h5 h6 h (by omega)]
theorem bst_cg (h5 : D 5 = D' 5) (h6 : D 6 = D' 6) (h : ∀ q, q < 12 → nd q = nd' q) {m : Nat} (hm : m ≤ 12) : bst D nd m = bst D' nd' m := by
  induction m with
  | zero => rfl
  | succ m ih =>
    funext q
    simp only [bst]
    rw [ih (by omega)]
    by_cases hq : q = 11 - m
    · rw [if_pos hq, if_pos hq, h q (by omega), prv_cg h (by omega), pk_cg2 h5 h6 h (bt' := bst D' nd' m) (fun _ _ _ => rfl) (by omega)]
    · rw [if_neg hq, if_neg hq]
theorem bestF_cg (h5 : D 5 = D' 5) (h6 : D 6 = D' 6) (h : ∀ q, q < 12 → nd q = nd' q) : bestF D nd = bestF D' nd' := bst_cg h5 h6 h (by omega)
theorem lastF_cg (h5 : D 5 = D' 5) (h6 : D 6 = D' 6) (h : ∀ q, q < 12 → nd q = nd' q) {w : Nat} (hw : w < 12) : lastF D nd w = lastF D' nd' w := by
  unfold lastF
  rw [bestF_cg h5 h6 h, pk_cg2 h5 h6 h (bt' := bestF D' nd') (fun _ _ _ => rfl) (by omega)]
theorem lotF_cg (hD : ∀ f, f < 8 → D f = D' f) (h : ∀ q, q < 12 → nd q = nd' q) {w : Nat} (hw : w < 12) (g : Int64) : lotF D nd w g = lotF D' nd' w g := by
  unfold lotF
  rw [hD 0 (by omega), hD 1 (by omega), h w hw, lastF_cg (hD 5 (by omega)) (hD 6 (by omega)) h hw, h (lastF D' nd' w) (lastF_at hw).2]
  split
  · rfl
  · split
    · congr 1
      split
      · exact h _ (by omega)
      · exact h _ (by omega)
    · rfl
theorem gotA_cg (hD : ∀ f, f < 8 → D f = D' f) (h : ∀ q, q < 12 → nd q = nd' q) {w : Nat} (hw : w ≤ 12) : gotA D nd w = gotA D' nd' w := by
  induction w with
  | zero => rfl
  | succ w ih => simp only [gotA, plO]; rw [ih (by omega), h w (by omega), lotF_cg hD h (by omega)]
variable {br br' gr gr' : Nat → Int64}
theorem barA_cg (hD : ∀ f, f < 8 → D f = D' f) (hb : ∀ q, q < 12 → br q = br' q) (hg : ∀ q, q < 12 → gr q = gr' q) {w : Nat} (hw : w ≤ 12) : barA (D 7) br gr w = barA (D' 7) br' gr' w := by
  induction w with
  | zero => simp only [barA]; rw [hD 7 (by omega)]
  | succ w ih => simp only [barA]; rw [ih (by omega), hb w (by omega), hg w (by omega)]
theorem mosA_cg (hD : ∀ f, f < 8 → D f = D' f) (hb : ∀ q, q < 12 → br q = br' q) (hg : ∀ q, q < 12 → gr q = gr' q) {w : Nat} (hw : w ≤ 12) : mosA D br gr w = mosA D' br' gr' w := by
  induction w with
  | zero => rfl
  | succ w ih => simp only [mosA]; rw [ih (by omega), barA_cg hD hb hg hw, hD 3 (by omega)]
theorem needF_cg (hD : ∀ f, f < 8 → D f = D' f) (hb : ∀ q, q < 12 → br q = br' q) (hg : ∀ q, q < 12 → gr q = gr' q) : ∀ w, w < 12 → needF D br gr w = needF D' br' gr' w := by
  intro w hw
  unfold needF
  rw [hD 2 (by omega), mosA_cg hD hb hg (by omega)]
theorem planF_cg (hD : ∀ f, f < 8 → D f = D' f) (hb : ∀ q, q < 12 → br q = br' q) (hg : ∀ q, q < 12 → gr q = gr' q) {w : Nat} (hw : w < 12) : planF D br gr w = planF D' br' gr' w := by
  unfold planF plO
  rw [gotA_cg hD (needF_cg hD hb hg) (by omega), needF_cg hD hb hg w hw, lotF_cg hD (needF_cg hD hb hg) hw]
theorem balF_cg (hD : ∀ f, f < 8 → D f = D' f) (hb : ∀ q, q < 12 → br q = br' q) (hg : ∀ q, q < 12 → gr q = gr' q) {w : Nat} (hw : w < 12) : balF D br gr w = balF D' br' gr' w := by
  unfold balF bareF
  rw [gotA_cg hD (needF_cg hD hb hg) (by omega), barA_cg hD hb hg (by omega)]
end Cg
