-- one instruction of a straight stretch
def ln : Instr → Nat
  | .bipush _ => 2
  | .sipush _ => 3
  | .iload _ => 2
  | .lload _ => 2
  | .aload _ => 2
  | .istore _ => 2
  | .lstore _ => 2
  | .astore _ => 2
  | .iinc _ _ => 3
  | .ldc _ => 2
  | .ldc2_w _ => 3
  | .getfield _ => 3
  | .putfield _ => 3
  | _ => 1
abbrev SR : Type := Option (List (Nat × AV) × List AV × NW × List Prop)
def isI (v : AV) : Bool := (toI v).isSome
def isL : AV → Bool
  | .inl (.long _) => true
  | _ => false
def ldX (ok : AV → Bool) (lv : List (Nat × AV)) (st : List AV) (w : NW) (i : Nat) : SR := match lkp lv i with
  | some v => if ok v = true then some (lv, v :: st, w, []) else none
  | none => none
def stX1 (ok : AV → Bool) (nL : Nat) (lv : List (Nat × AV)) (st : List AV) (w : NW) (i : Nat) : SR := match st with
  | v :: r => if ok v = true ∧ i < nL then some (st1L lv i v, r, w, []) else none
  | _ => none
def stX2 (nL : Nat) (lv : List (Nat × AV)) (st : List AV) (w : NW) (i : Nat) : SR := match st with
  | .inl (.long x) :: r => if i + 1 < nL then some (st2L lv i (aL x), r, w, []) else none
  | _ => none
def bin (f : AV → AV → Option AV) (lv : List (Nat × AV)) (st : List AV) (w : NW) : SR := match st with
  | v :: u :: r => match f u v with
    | some z => some (lv, z :: r, w, [])
    | none => none
  | _ => none
def binL (f : Int64 → Int64 → Int64) (lv : List (Nat × AV)) (st : List AV) (w : NW) (c : Int64 → List Prop) : SR := match st with
  | .inl (.long y) :: .inl (.long x) :: r => some (lv, aL (f x y) :: r, w, c y)
  | _ => none
def binC (f : AV → AV → Option (AV × List Prop)) (lv : List (Nat × AV)) (st : List AV) (w : NW) : SR := match st with
  | v :: u :: r => match f u v with
    | some (z, P) => some (lv, z :: r, w, P)
    | none => none
  | _ => none
def getF (h : Nat × Nat) (lv : List (Nat × AV)) (st : List AV) (w : NW) : SR := match st with
  | .inr (.inl (t, i)) :: r => if kd t = (3, h.1) then some (lv, fv h.1 h.2 w t i :: r, w, [vld w.1 t i]) else none
  | _ => none
def putF (k : Nat) (h : Nat × Nat) (lv : List (Nat × AV)) (st : List AV) (w : NW) : SR := match st with
  | v :: .inr (.inl (t, i)) :: r => if kd t = (3, h.1) then (match ftk h.1 h.2 with
      | 0 => match toN v with
        | some x => if ffn h.1 h.2 = false then some (lv, r, wN w t i h.2 x, [vld w.1 t i]) else none
        | none => none
      | 3 => match toN v with
        | some x => if ffn h.1 h.2 = false then some (lv, r, wN w t i h.2 x, [vld w.1 t i, x = 0 ∨ x = 1]) else none
        | none => none
      | 2 => match v with
        | .inr (.inl q) => if ini k = true ∧ ffn h.1 h.2 = true ∧ h.1 = mo k then some (lv, r, wR w t i h.2 (some q), [vld w.1 t i]) else none
        | _ => none
      | _ => none) else none
  | _ => none
def aldN (lv : List (Nat × AV)) (st : List AV) (w : NW) : SR := match st with
  | .inr (.inr j) :: .inr (.inl (t, i)) :: r => match kd t with
    | (0, n) => some (lv, aN (w.2.2.1 t i j) :: r, w, [vld w.1 t i, j < n])
    | _ => none
  | _ => none
def aldL (lv : List (Nat × AV)) (st : List AV) (w : NW) : SR := match st with
  | .inr (.inr j) :: .inr (.inl (t, i)) :: r => match kd t with
    | (1, n) => some (lv, aL (w.2.2.2.1 t i j) :: r, w, [vld w.1 t i, j < n])
    | _ => none
  | _ => none
def aldR (lv : List (Nat × AV)) (st : List AV) (w : NW) : SR := match st with
  | .inr (.inr j) :: .inr (.inl (t, i)) :: r => match kd t with
    | (2, n) => some (lv, rv (w.2.2.2.2 t i j) :: r, w, [vld w.1 t i, j < n])
    | _ => none
  | _ => none
def aldZ (lv : List (Nat × AV)) (st : List AV) (w : NW) : SR := match st with
  | .inr (.inr j) :: .inr (.inl (t, i)) :: r => match kd t with
    | (4, n) => some (lv, aN (w.2.2.1 t i j) :: r, w, [vld w.1 t i, j < n])
    | _ => none
  | _ => none
def astZ (lv : List (Nat × AV)) (st : List AV) (w : NW) : SR := match st with
  | v :: .inr (.inr j) :: .inr (.inl (t, i)) :: r => match toN v with
    | some x => match kd t with
      | (4, n) => some (lv, r, wN w t i j x, [vld w.1 t i, j < n, x = 0 ∨ x = 1])
      | _ => none
    | none => none
  | _ => none
def astN (lv : List (Nat × AV)) (st : List AV) (w : NW) : SR := match st with
  | v :: .inr (.inr j) :: .inr (.inl (t, i)) :: r => match toN v with
    | some x => match kd t with
      | (0, n) => some (lv, r, wN w t i j x, [vld w.1 t i, j < n])
      | _ => none
    | none => none
  | _ => none
def astL (lv : List (Nat × AV)) (st : List AV) (w : NW) : SR := match st with
  | .inl (.long x) :: .inr (.inr j) :: .inr (.inl (t, i)) :: r => match kd t with
    | (1, n) => some (lv, r, wL w t i j x, [vld w.1 t i, j < n])
    | _ => none
  | _ => none
def alen (lv : List (Nat × AV)) (st : List AV) (w : NW) : SR := match st with
  | .inr (.inl (t, i)) :: r => match kd t with
    | (0, n) => some (lv, aN n :: r, w, [vld w.1 t i])
    | (1, n) => some (lv, aN n :: r, w, [vld w.1 t i])
    | (2, n) => some (lv, aN n :: r, w, [vld w.1 t i])
    | _ => none
  | _ => none
def fI2l (lv : List (Nat × AV)) (st : List AV) (w : NW) : SR := match st with
  | v :: r => match toI v with
    | some x => some (lv, aL x.toInt64 :: r, w, [])
    | none => none
  | _ => none
def fDup (lv : List (Nat × AV)) (st : List AV) (w : NW) : SR := match st with
  | v :: r => if ct1 v = 1 then some (lv, v :: v :: r, w, []) else none
  | _ => none
def fPop (lv : List (Nat × AV)) (st : List AV) (w : NW) : SR := match st with
  | v :: r => if ct1 v = 1 then some (lv, r, w, []) else none
  | _ => none
def fDup2 (lv : List (Nat × AV)) (st : List AV) (w : NW) : SR := match st with
  | v :: r => if ct1 v = 2 then some (lv, v :: v :: r, w, []) else (match r with
    | u :: r' => if ct1 v = 1 ∧ ct1 u = 1 then some (lv, v :: u :: v :: u :: r', w, []) else none
    | _ => none)
  | _ => none
def st1 (k : Nat) (ins : Instr) (h : Nat × Nat) (lv : List (Nat × AV)) (st : List AV) (w : NW) : SR := match ins with
  | .iconst n => some (lv, cs4 n :: st, w, [])
  | .bipush n => some (lv, cs8 n :: st, w, [])
  | .sipush n => some (lv, cs16 n :: st, w, [])
  | .lconst n => some (lv, aL (Int64.ofNat n.val) :: st, w, [])
  | .ldc _ => some (lv, aN h.1 :: st, w, [])
  | .ldc2_w _ => some (lv, aL (Int64.ofNat h.1) :: st, w, [])
  | .iload_n j => ldX isI lv st w j.val
  | .iload j => ldX isI lv st w j
  | .lload_n j => ldX isL lv st w j.val
  | .lload j => ldX isL lv st w j
  | .aload_n j => ldX isA lv st w j.val
  | .aload j => ldX isA lv st w j
  | .istore_n j => stX1 isI (mL k) lv st w j.val
  | .istore j => stX1 isI (mL k) lv st w j
  | .astore_n j => stX1 isA (mL k) lv st w j.val
  | .astore j => stX1 isA (mL k) lv st w j
  | .lstore_n j => stX2 (mL k) lv st w j.val
  | .lstore j => stX2 (mL k) lv st w j
  | .iinc i n => match lkp lv i with
    | some u => match incA u n with
      | some z => if i < mL k then some (st1L lv i z, st, w, []) else none
      | none => none
    | none => none
  | .iadd => bin addA lv st w
  | .imul => bin mulA lv st w
  | .isub => bin subA lv st w
  | .ladd => binL (· + ·) lv st w (fun _ => [])
  | .lsub => binL (· - ·) lv st w (fun _ => [])
  | .lmul => binL (· * ·) lv st w (fun _ => [])
  | .ldiv => binL (· / ·) lv st w (fun y => [¬ y = 0])
  | .i2l => fI2l lv st w
  | .dup => fDup lv st w
  | .pop => fPop lv st w
  | .dup2 => fDup2 lv st w
  | .getfield _ => getF h lv st w
  | .putfield _ => putF k h lv st w
  | .baload => aldZ lv st w
  | .bastore => astZ lv st w
  | .iand => bin andA lv st w
  | .ior => bin orA lv st w
  | .ishl => bin shlA lv st w
  | .ishr => bin shrA lv st w
  | .idiv => binC divA lv st w
  | .irem => binC remA lv st w
  | .iaload => aldN lv st w
  | .laload => aldL lv st w
  | .aaload => aldR lv st w
  | .iastore => astN lv st w
  | .lastore => astL lv st w
  | .arraylength => alen lv st w
  | _ => none
def allP : List Prop → Prop
  | [] => True
  | [q] => q
  | q :: r => q ∧ allP r
theorem allP_c {q : Prop} {r : List Prop} (h : allP (q :: r)) : q ∧ allP r := by
  cases r with
  | nil => exact ⟨h, trivial⟩
  | cons a b => exact h
theorem allP_app {a b : List Prop} (h : allP (a ++ b)) : allP a ∧ allP b := by
  induction a with
  | nil => exact ⟨trivial, h⟩
  | cons q r ih =>
    obtain ⟨h1, h2⟩ := allP_c h
    obtain ⟨h3, h4⟩ := ih h2
    refine ⟨?_, h4⟩
    cases r with
    | nil => exact h1
    | cons a b => exact ⟨h1, h3⟩
def GF (o idx ci j : Nat) : Prop := ∀ (C : String) (T : u_T) (N : Nat), vwCl[ci]? = some (C, T, N) → j < N ∧ Cond.fieldLink (RN o) idx (T j).1 (T j).2.1 (T j).2.2.1 ∈ AW_ ∧ (T j).2.2.2 = ffn ci j ∧ (T j).1 = C
/-- what a hint must say -/
def hkP (k : Nat) (ins : Instr) (h : Nat × Nat) : Prop := match ins with
  | .getfield idx => GF (mo k) idx h.1 h.2
  | .putfield idx => GF (mo k) idx h.1 h.2
  | .ldc idx => Cond.constant (RN (mo k)) idx (nI h.1) ∈ AW_
  | .ldc2_w idx => Cond.constantLong (RN (mo k)) idx (Int64.ofNat h.1) ∈ AW_
  | _ => True
abbrev IH : Type := Instr × Nat × Nat
def okS (k : Nat) : Nat → List IH → Prop
  | _, [] => True
  | pc, i :: r => (decode (cc k) pc = .ok (i.1, ln i.1) ∧ hkP k i.1 i.2) ∧ okS k (pc + ln i.1) r
def stS (k : Nat) : List IH → List (Nat × AV) → List AV → NW → SR
  | [], lv, st, w => some (lv, st, w, [])
  | i :: r, lv, st, w => match st1 k i.1 i.2 lv st w with
    | some (lv1, st1, w1, P1) => match stS k r lv1 st1 w1 with
      | some (lv2, st2, w2, P2) => some (lv2, st2, w2, P1 ++ P2)
      | none => none
    | none => none
def lnS : List IH → Nat
  | [] => 0
  | i :: r => ln i.1 + lnS r
