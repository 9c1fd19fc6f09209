-- THE LAYER: a small machine of values, keys and numbers over the kit's rows. Cells lie at B, B + 1, .. in the order in which the law makes them.
-- abstract values: a machine value; a cell by its key (tag, index); a number n that stands for the int nI n
abbrev AV : Type := Value ⊕ (Nat × Nat) ⊕ Nat
abbrev aV (v : Value) : AV := .inl v
abbrev aI (x : Int32) : AV := .inl (.int x)
abbrev aL (x : Int64) : AV := .inl (.long x)
abbrev aR (t i : Nat) : AV := .inr (.inl (t, i))
abbrev aN (n : Nat) : AV := .inr (.inr n)
def gv (B : Nat) : AV → Value
  | .inl v => v
  | .inr (.inl k) => .ref (B + od k.1 k.2)
  | .inr (.inr n) => .int (nI n)
def gl (B : Nat) (lv : List (Nat × AV)) : List (Nat × Value) := lv.map (fun q => (q.1, gv B q.2))
def gs (B : Nat) (st : List AV) : List Value := st.map (gv B)
def ct1 : AV → Nat
  | .inl v => v.category
  | _ => 1
theorem ct1_gv (B : Nat) (v : AV) : (gv B v).category = ct1 v := by
  rcases v with v | k | n <;> rfl
-- the world: how many cells there are; whether nothing else was made; numbers; longs; references (as keys)
abbrev NW : Type := Nat × Bool × (Nat → Nat → Nat → Nat) × (Nat → Nat → Nat → Int64) × (Nat → Nat → Nat → Option (Nat × Nat))
def rv : Option (Nat × Nat) → AV
  | some k => .inr (.inl k)
  | none => aV .null
def fv (ci j : Nat) (w : NW) (t i : Nat) : AV := match ftk ci j with
  | 1 => aL (w.2.2.2.1 t i j)
  | 2 => rv (w.2.2.2.2 t i j)
  | _ => aN (w.2.2.1 t i j)
def fds (B ci : Nat) (w : NW) (t i : Nat) : List Value := (List.range (fn ci)).map (fun j => gv B (fv ci j w t i))
abbrev CA : Type := ClassId × ClassId × ClassId × ClassId
def en (B : Nat) (ca : CA) (w : NW) (t i : Nat) : va_E := match kd t with
  | (0, n) => .inl (ca.1, n, .inl (fun j => nI (w.2.2.1 t i j)))
  | (1, n) => .inl (ca.2.1, n, .inr (.inl (w.2.2.2.1 t i)))
  | (4, n) => .inl (ca.2.2.2, n, .inl (fun j => nI (w.2.2.1 t i j)))
  | (2, n) => .inl (ca.2.2.1, n, .inr (.inr (.inr (.inr (fun j => (w.2.2.2.2 t i j).map (fun k => B + od k.1 k.2))))))
  | (_, ci) => .inr (ci, fds B ci w t i)
def wsO (B : Nat) (ca : CA) (w : NW) : va_W := (List.range w.1).map (fun k => (B + k, en B ca w (ky k).1 (ky k).2))
-- a cell that is there
def vld (n t i : Nat) : Prop := i < ct t ∧ od t i < n
theorem wsO_at {B : Nat} {ca : CA} {w : NW} {t i : Nat} (h : vld w.1 t i) : (wsO B ca w)[od t i]? = some (B + od t i, en B ca w t i) := by
  have hk := ky_od h.1
  simp [wsO, List.getElem?_map, List.getElem?_range h.2, hk]
theorem wsO_set {B : Nat} {ca : CA} {w w' : NW} {t i : Nat} (h : vld w.1 t i) (hn : w.1 ≤ NN) (h1 : w'.1 = w.1) (ho : ∀ t' i', (t', i') ≠ (t, i) → en B ca w' t' i' = en B ca w t' i') : (wsO B ca w).set (od t i) (B + od t i, en B ca w' t i) = wsO B ca w' := by
  apply List.ext_getElem?
  intro k
  have hk := ky_od h.1
  by_cases hkk : k = od t i
  · subst hkk
    have hl : od t i < (wsO B ca w).length := by simp [wsO]; exact h.2
    rw [List.getElem?_set_self hl]
    have h2 : vld w'.1 t i := ⟨h.1, by rw [h1]; exact h.2⟩
    exact (wsO_at h2).symm
  · rw [List.getElem?_set_ne (Ne.symm hkk)]
    by_cases hlt : k < w.1
    · have hne : ((ky k).1, (ky k).2) ≠ (t, i) := by
        intro q
        apply hkk
        have := od_ky (Nat.lt_of_lt_of_le hlt hn)
        rw [← this]
        have q1 : (ky k).1 = t := congrArg Prod.fst q
        have q2 : (ky k).2 = i := congrArg Prod.snd q
        rw [q1, q2]
      simp [wsO, List.getElem?_map, List.getElem?_range hlt, List.getElem?_range (h1 ▸ hlt : k < w'.1), ho _ _ hne]
    · simp [wsO, List.getElem?_map, h1, hlt]
-- stores
def upN (f : Nat → Nat → Nat → Nat) (t i j x : Nat) : Nat → Nat → Nat → Nat := fun t' i' j' => if t' = t ∧ i' = i ∧ j' = j then x else f t' i' j'
def upL (f : Nat → Nat → Nat → Int64) (t i j : Nat) (x : Int64) : Nat → Nat → Nat → Int64 := fun t' i' j' => if t' = t ∧ i' = i ∧ j' = j then x else f t' i' j'
def upR (f : Nat → Nat → Nat → Option (Nat × Nat)) (t i j : Nat) (x : Option (Nat × Nat)) : Nat → Nat → Nat → Option (Nat × Nat) := fun t' i' j' => if t' = t ∧ i' = i ∧ j' = j then x else f t' i' j'
def wN (w : NW) (t i j x : Nat) : NW := (w.1, w.2.1, upN w.2.2.1 t i j x, w.2.2.2.1, w.2.2.2.2)
def wL (w : NW) (t i j : Nat) (x : Int64) : NW := (w.1, w.2.1, w.2.2.1, upL w.2.2.2.1 t i j x, w.2.2.2.2)
def wR (w : NW) (t i j : Nat) (x : Option (Nat × Nat)) : NW := (w.1, w.2.1, w.2.2.1, w.2.2.2.1, upR w.2.2.2.2 t i j x)
theorem fv_wN {w : NW} {t i j x t' i' : Nat} (h : (t', i') ≠ (t, i)) (ci q : Nat) : fv ci q (wN w t i j x) t' i' = fv ci q w t' i' := by
  have : ¬ (t' = t ∧ i' = i ∧ q = j) := fun z => h (by rw [z.1, z.2.1])
  simp [fv, wN, upN, this]
theorem fv_wL {w : NW} {t i j : Nat} {x : Int64} {t' i' : Nat} (h : (t', i') ≠ (t, i)) (ci q : Nat) : fv ci q (wL w t i j x) t' i' = fv ci q w t' i' := by
  have : ¬ (t' = t ∧ i' = i ∧ q = j) := fun z => h (by rw [z.1, z.2.1])
  simp [fv, wL, upL, this]
theorem fv_wR {w : NW} {t i j : Nat} {x : Option (Nat × Nat)} {t' i' : Nat} (h : (t', i') ≠ (t, i)) (ci q : Nat) : fv ci q (wR w t i j x) t' i' = fv ci q w t' i' := by
  have : ¬ (t' = t ∧ i' = i ∧ q = j) := fun z => h (by rw [z.1, z.2.1])
  simp [fv, wR, upR, this]
theorem en_wN {B : Nat} {ca : CA} {w : NW} {t i j x : Nat} : ∀ t' i', (t', i') ≠ (t, i) → en B ca (wN w t i j x) t' i' = en B ca w t' i' := by
  intro t' i' h
  have h2 : ∀ q, ¬ (t' = t ∧ i' = i ∧ q = j) := fun q z => h (by rw [z.1, z.2.1])
  have h3 : ∀ ci, fds B ci (wN w t i j x) t' i' = fds B ci w t' i' := fun ci => by simp [fds, fv_wN h]
  unfold en
  simp [wN, upN, h2] at h3 ⊢
  split <;> simp_all
theorem en_wL {B : Nat} {ca : CA} {w : NW} {t i j : Nat} {x : Int64} : ∀ t' i', (t', i') ≠ (t, i) → en B ca (wL w t i j x) t' i' = en B ca w t' i' := by
  intro t' i' h
  have h2 : ∀ q, ¬ (t' = t ∧ i' = i ∧ q = j) := fun q z => h (by rw [z.1, z.2.1])
  have h3 : ∀ ci, fds B ci (wL w t i j x) t' i' = fds B ci w t' i' := fun ci => by simp [fds, fv_wL h]
  have h4 : (fun j' => upL w.2.2.2.1 t i j x t' i' j') = w.2.2.2.1 t' i' := by funext q; simp [upL, h2]
  unfold en
  split <;> simp_all [wL]
theorem en_wR {B : Nat} {ca : CA} {w : NW} {t i j : Nat} {x : Option (Nat × Nat)} : ∀ t' i', (t', i') ≠ (t, i) → en B ca (wR w t i j x) t' i' = en B ca w t' i' := by
  intro t' i' h
  have h2 : ∀ q, ¬ (t' = t ∧ i' = i ∧ q = j) := fun q z => h (by rw [z.1, z.2.1])
  have h3 : ∀ ci, fds B ci (wR w t i j x) t' i' = fds B ci w t' i' := fun ci => by simp [fds, fv_wR h]
  unfold en
  simp [wR, upR, h2] at h3 ⊢
  split <;> simp_all
-- what holds while a method's body runs
abbrev XT : Type := Nat × Nat × (Nat → Int32)
abbrev AW_ : List Cond := lw_tbl.filter goodWord
theorem gAW : GoodIn AW_ AW_ := fun w h => ⟨h, good_of_word (List.mem_filter.mp h).2⟩
/-- the statics of Throwable that a throw reads; the texts of the messages -/
def stX (A : Nat → Prop) (U : State) (H : Heap) : Prop := oxT "UNASSIGNED_STACK" Bundle.steD A U H ∧ oxT "SUPPRESSED_SENTINEL" Bundle.listD A U H
/-- an object of class E is caught by E -/
def oxCa (E : String) (U : State) : Prop := ∃ c : ClassId, U.vm.findClass E = some c ∧ U.vm.assignable c c = true
theorem oxCa.moved {E : String} {u U : State} (hvm : u.vm.Alike U.vm) (h : oxCa E u) : oxCa E U := by
  obtain ⟨c, h1, h2⟩ := h
  exact ⟨c, by rw [hvm.findClass]; exact h1, by rw [hvm.assignable]; exact h2⟩
theorem oxCa.word {E : String} {s : State} {args : Array Value} (h : oxCa E s) : (Cond.castable E E).before args s = true := by
  obtain ⟨c, h1, h2⟩ := h
  simp [Cond.before, Cond.holds, Cond.value, h1, h2]
theorem oxCa.of {E : String} {s : State} {args : Array Value} (h : (Cond.castable E E).before args s = true) : oxCa E s := by
  obtain ⟨c3, c4, h3, h4, h5⟩ := Cond.castable_spec h
  cases Option.some.inj (h3.symm.trans h4)
  exact ⟨_, h3, h5⟩
abbrev DX (n : Nat) : String := ["java/lang/RuntimeException", "java/lang/Exception", "java/lang/Throwable"].getD n ""
def stR (U : State) : Prop := (∀ q ∈ strT, ∃ a : Nat, vk_R q.1 q.2.1 q.2.2 a U) ∧ (∀ q ∈ ncT, va_Nc q.1 q.2 U) ∧ (∀ q ∈ nlT, va_Nw (.methodLinkNest q.1 q.2.1 (yn q.2.2.1) q.2.2.2) U) ∧ va_AO itN U ∧ (∀ n, n < 3 → oxCa (EX n) U) ∧ ∀ n, n < 3 → va_Nw (.declares (Bundle.initS (DX n))) U
abbrev tyT (ca : CA) : List (ClassId × FieldType) := [(ca.1, .int), (ca.2.1, .long), (ca.2.2.1, .object itN), (ca.2.2.2, .boolean)]
def Cx (sc : XT) (k B : Nat) (D : va_G) (ca : CA) (p : Program) (l : Launch) (R : Room) (s : State) (m : MethodId) (args : Array Value) (meth : Method) (c : Code) (A : Nat → Prop) : Prop :=
  (p.tables.exec = Jvm.exec ∧ c.code = cc k ∧ c.maxLocals = mL k ∧ meth.sig.returnType = rt k ∧ meth.locks = false) ∧
  (s.vm.findClass (own k) = some m.cls ∧ (∀ w ∈ AW_, w.before args s = true) ∧ l.stackTraces = false ∧ (fr k ≤ R.frames ∧ lo k ≤ R.locals ∧ mc k ≤ R.cells ∧ ms k ≤ R.slots)) ∧
  (va_K D vwCl (tyT ca) s ∧ (∀ q, s.heap.size ≤ q → A q) ∧ c.exceptionTable.toList = tableOf (hh k) ∧ (ini k = true → meth.name = "<init>")) ∧
  ((stX A s s.heap ∧ ∀ (q : Nat) (cell : Cell), A q → s.heap[q]? = some cell → cell.vm.isStatics = false) ∧ stR s ∧ (k = LAW → va_X sc.1 sc.2.1 sc.2.2 s s.heap ∧ sc.1 < s.heap.size ∧ ¬ A sc.1))
def Wd (B : Nat) (D : va_G) (ca : CA) (A : Nat → Prop) (H0 : Heap) (cells : Nat) (w : NW) (H : Heap) (locs : List Loc) : Prop :=
  va_P D vwCl (wsO B ca w) H ∧ va_D A (wsO B ca w) ∧ va_S A H0 H locs ∧ (w.2.1 = true → H0.size + cells = B + w.1) ∧ w.1 ≤ NN
abbrev QT : Type := (Option AV ⊕ String) → NW → Prop
def Bd (B : Nat) (D : va_G) (ca : CA) (A : Nat → Prop) (n : Nat) (w : NW) (st t : State) : Prop := va_P D vwCl (wsO B ca w) t.heap ∧ va_D A (wsO B ca w) ∧ (w.2.1 = true → st.heap.size + n = B + w.1) ∧ w.1 ≤ NN
/-- the end that Q allows: an answer, or an exception of class E that is a cell -/
def Qo (B : Nat) (D : va_G) (ca : CA) (A : Nat → Prop) (n : Nat) (Q : QT) : State → Outcome → State → Prop := fun st o t => match o with
  | .returned v => ∃ (v0 : Option AV) (w : NW), v = v0.map (gv B) ∧ Q (.inl v0) w ∧ Bd B D ca A n w st t ∧ va_F A st t
  | .threw q => ∃ (E : String) (w : NW) (ce : Cell), (t.heap[q]? = some ce ∧ ce.vm = .none ∧ st.vm.findClass E = some ce.cls) ∧ Q (.inr E) w ∧ Bd B D ca A n w st t ∧ va_F A st t
/-- method k, at pc, with these locals, this stack and this world, comes to an end that Q allows -/
def Sem (sc : XT) (k pc : Nat) (lv : List (Nat × AV)) (st : List AV) (w : NW) (cells slots : Nat) (Q : QT) : Prop :=
  ∀ (B : Nat) (D : va_G) (ca : CA) (p : Program) (l : Launch) (e : Env) (R : Room) (s : State) (m : MethodId) (args : Array Value) (below : List Frame) (meth : Method) (c : Code) (A : Nat → Prop),
    Cx sc k B D ca p l R s m args meth c A → ∀ (H : Heap) (locs : List Loc) (ls : Array Slot), lv_has ls (mL k) (gl B lv) → Wd B D ca A s.heap cells w H locs →
      W p l e R s m args below meth c H locs cells slots (oxZ below (Qo B D ca A (mc k) Q) s (mc k) (ms k) A) (F0 m pc ls (gs B st))
/-- an exception E comes up at pc -/
def SemX (sc : XT) (k pc : Nat) (lv : List (Nat × AV)) (E : String) (w : NW) (cells slots : Nat) (Q : QT) : Prop :=
  ∀ (B : Nat) (D : va_G) (ca : CA) (p : Program) (l : Launch) (e : Env) (R : Room) (s : State) (m : MethodId) (args : Array Value) (below : List Frame) (meth : Method) (c : Code) (A : Nat → Prop),
    Cx sc k B D ca p l R s m args meth c A → ∀ (H : Heap) (locs : List Loc) (ls : Array Slot) (rest : List Value) (q : Addr) (ce : Cell), lv_has ls (mL k) (gl B lv) → Wd B D ca A s.heap cells w H locs → H[q]? = some ce → ce.vm = .none → s.vm.findClass E = some ce.cls →
      oxW p l e R s m args below meth c H locs cells slots (oxZ below (Qo B D ca A (mc k) Q) s (mc k) (ms k) A) (F0 m pc ls rest) q
-- lookups
def lkp (lv : List (Nat × AV)) (i : Nat) : Option AV := match lv with
  | [] => none
  | q :: r => if q.1 = i then some q.2 else lkp r i
theorem lkp_has {B nL : Nat} {ls : Array Slot} : ∀ {lv : List (Nat × AV)} {i : Nat} {v : AV}, lkp lv i = some v → lv_has ls nL (gl B lv) → ls[i]? = some (.val (gv B v)) := by
  intro lv i v h hl
  have key : ∀ (lv : List (Nat × AV)), lkp lv i = some v → ∃ k : Nat, (gl B lv)[k]? = some (i, gv B v) := by
    intro lv
    induction lv with
    | nil => intro h; cases h
    | cons q r ih =>
      intro h
      unfold lkp at h
      by_cases hq : q.1 = i
      · rw [if_pos hq] at h
        cases h
        exact ⟨0, by simp [gl, hq]⟩
      · rw [if_neg hq] at h
        obtain ⟨k, hk⟩ := ih h
        exact ⟨k + 1, by simpa [gl] using hk⟩
  obtain ⟨k, hk⟩ := key lv h
  exact lv_at hl k hk
def st1L (lv : List (Nat × AV)) (i : Nat) (v : AV) : List (Nat × AV) := (i, v) :: lv.filter (fun q => !(q.1 == i) && !(q.1 + 1 == i && ct1 q.2 == 2))
def st2L (lv : List (Nat × AV)) (i : Nat) (v : AV) : List (Nat × AV) := (i, v) :: lv.filter (fun q => !(q.1 == i) && (!(q.1 == i + 1) && !(q.1 + 1 == i && ct1 q.2 == 2)))
theorem st1L_gl (B : Nat) (lv : List (Nat × AV)) (i : Nat) (v : AV) : (i, gv B v) :: (gl B lv).filter (fun q => !(q.1 == i) && !(q.1 + 1 == i && q.2.category == 2)) = gl B (st1L lv i v) := by
  simp only [gl, st1L, List.map_cons, List.filter_map]
  congr 2
  apply List.filter_congr
  intro q _
  simp [ct1_gv]
theorem st2L_gl (B : Nat) (lv : List (Nat × AV)) (i : Nat) (v : AV) : (i, gv B v) :: (gl B lv).filter (fun q => !(q.1 == i) && (!(q.1 == i + 1) && !(q.1 + 1 == i && q.2.category == 2))) = gl B (st2L lv i v) := by
  simp only [gl, st2L, List.map_cons, List.filter_map]
  congr 2
  apply List.filter_congr
  intro q _
  simp [ct1_gv]
-- ints
def toI : AV → Option Int32
  | .inl (.int x) => some x
  | .inr (.inr n) => some (nI n)
  | _ => none
theorem toI_gv {B : Nat} {v : AV} {x : Int32} (h : toI v = some x) : gv B v = .int x := by
  rcases v with v | k | n
  · cases v <;> simp_all [toI, gv]
  · cases h
  · simp_all [toI, gv]
def tn (x : Int32) : Nat := x.toBitVec.toNat
theorem nI_tn (x : Int32) : nI (tn x) = x := by
  apply Int32.toBitVec_inj.mp
  simp [nI, tn, Int32.toBitVec_ofNat]
def toN : AV → Option Nat
  | .inl (.int x) => some (tn x)
  | .inr (.inr n) => some n
  | _ => none
theorem toN_gv {B : Nat} {v : AV} {n : Nat} (h : toN v = some n) : gv B v = .int (nI n) := by
  rcases v with v | k | n
  · cases v <;> simp_all [toN, gv]
    rw [← h, nI_tn]
  · cases h
  · simp_all [toN, gv]
theorem ofI_nat (n : Nat) : Int32.ofInt (Int.ofNat n) = nI n := by
  apply Int32.toBitVec_inj.mp
  simp [nI, Int32.ofInt, Int32.ofNat]
theorem i8_nat {n : Nat} (h : n < 128) : (Int8.ofInt (Int.ofNat n)).toInt32 = nI n := by
  apply Int32.toInt_inj.mp
  rw [nI_toInt (by omega), Int8.toInt_toInt32, Int8.toInt_ofInt]
  simp only [Int.ofNat_eq_natCast]
  rw [Int.bmod_eq_of_le] <;> simp only [Int8.size, Int16.size] <;> omega
theorem i16_nat {n : Nat} (h : n < 32768) : (Int16.ofInt (Int.ofNat n)).toInt32 = nI n := by
  apply Int32.toInt_inj.mp
  rw [nI_toInt (by omega), Int16.toInt_toInt32, Int16.toInt_ofInt]
  simp only [Int.ofNat_eq_natCast]
  rw [Int.bmod_eq_of_le] <;> simp only [Int8.size, Int16.size] <;> omega
def cst (f : Int → Int32) (b : Nat) (n : Int) : AV := match n with
  | .ofNat q => if q < b then aN q else aI (f n)
  | .negSucc _ => aI (f n)
theorem cst_gv (B : Nat) {f : Int → Int32} {b : Nat} (hf : ∀ q, q < b → f (Int.ofNat q) = nI q) (n : Int) : gv B (cst f b n) = .int (f n) := by
  unfold cst
  split
  · split
    · rename_i h; simp only [gv]; rw [hf _ h]
    · rfl
  · rfl
def cs4 (n : Int) : AV := cst Int32.ofInt 6 n
def cs8 (n : Int) : AV := cst (fun z => (Int8.ofInt z).toInt32) 128 n
def cs16 (n : Int) : AV := cst (fun z => (Int16.ofInt z).toInt32) 32768 n
theorem cs4_gv (B : Nat) (n : Int) : gv B (cs4 n) = .int (Int32.ofInt n) := cst_gv B (fun q _ => ofI_nat q) n
theorem cs8_gv (B : Nat) (n : Int) : gv B (cs8 n) = .int (Int8.ofInt n).toInt32 := cst_gv B (f := fun z => (Int8.ofInt z).toInt32) (fun _ h => i8_nat h) n
theorem cs16_gv (B : Nat) (n : Int) : gv B (cs16 n) = .int (Int16.ofInt n).toInt32 := cst_gv B (f := fun z => (Int16.ofInt z).toInt32) (fun _ h => i16_nat h) n
def isA : AV → Bool
  | .inl (.ref _) => true
  | .inr (.inl _) => true
  | _ => false
theorem isA_gv {B : Nat} {v : AV} (h : isA v = true) : ∃ a : Nat, gv B v = .ref a := by
  rcases v with v | k | n
  · cases v <;> simp_all [isA, gv]
  · exact ⟨_, rfl⟩
  · cases h
def addA (u v : AV) : Option AV := match u, v with
  | .inr (.inr a), .inr (.inr b) => some (aN (a + b))
  | u, v => match toI u, toI v with
    | some x, some y => some (aI (x + y))
    | _, _ => none
def mulA (u v : AV) : Option AV := match u, v with
  | .inr (.inr a), .inr (.inr b) => some (aN (a * b))
  | u, v => match toI u, toI v with
    | some x, some y => some (aI (x * y))
    | _, _ => none
def subA (u v : AV) : Option AV := match toI u, toI v with
  | some x, some y => some (aI (x - y))
  | _, _ => none
theorem addA_gv {B : Nat} {u v z : AV} (h : addA u v = some z) : ∃ x y : Int32, gv B u = .int x ∧ gv B v = .int y ∧ gv B z = .int (x + y) := by
  unfold addA at h
  split at h
  · cases h; exact ⟨_, _, rfl, rfl, by simp [gv, nI_add]⟩
  · split at h
    · rename_i hx hy; cases h; exact ⟨_, _, toI_gv hx, toI_gv hy, rfl⟩
    · cases h
theorem mulA_gv {B : Nat} {u v z : AV} (h : mulA u v = some z) : ∃ x y : Int32, gv B u = .int x ∧ gv B v = .int y ∧ gv B z = .int (x * y) := by
  unfold mulA at h
  split at h
  · cases h; exact ⟨_, _, rfl, rfl, by simp [gv, pk_mul]⟩
  · split at h
    · rename_i hx hy; cases h; exact ⟨_, _, toI_gv hx, toI_gv hy, rfl⟩
    · cases h
theorem subA_gv {B : Nat} {u v z : AV} (h : subA u v = some z) : ∃ x y : Int32, gv B u = .int x ∧ gv B v = .int y ∧ gv B z = .int (x - y) := by
  unfold subA at h
  split at h
  · rename_i hx hy; cases h; exact ⟨_, _, toI_gv hx, toI_gv hy, rfl⟩
  · cases h
def incA (u : AV) (n : Int) : Option AV := match u with
  | .inr (.inr a) => (match n with
    | .ofNat q => some (aN (a + q))
    | .negSucc _ => some (aI (nI a + Int32.ofInt n)))
  | .inl (.int x) => some (aI (x + Int32.ofInt n))
  | _ => none
theorem incA_gv {B : Nat} {u z : AV} {n : Int} (h : incA u n = some z) : ∃ x : Int32, gv B u = .int x ∧ gv B z = .int (x + Int32.ofInt n) := by
  unfold incA at h
  split at h
  · split at h
    · cases h; exact ⟨_, rfl, by rw [ofI_nat, nI_add]; rfl⟩
    · cases h; exact ⟨_, rfl, rfl⟩
  · cases h; exact ⟨_, rfl, rfl⟩
  · cases h
def intA (f : Int32 → Int32 → Int32) (u v : AV) : Option AV := match toI u, toI v with
  | some x, some y => some (aI (f x y))
  | _, _ => none
def andA (u v : AV) : Option AV := intA (fun x y => x &&& y) u v
def orA (u v : AV) : Option AV := intA (fun x y => x ||| y) u v
def shlA (u v : AV) : Option AV := intA (fun x y => x <<< (y &&& 31)) u v
def shrA (u v : AV) : Option AV := intA (fun x y => x >>> (y &&& 31)) u v
theorem intA_gv {B : Nat} {f : Int32 → Int32 → Int32} {u v z : AV} (h : intA f u v = some z) : ∃ x y : Int32, gv B u = .int x ∧ gv B v = .int y ∧ gv B z = .int (f x y) := by
  unfold intA at h
  split at h
  · rename_i hx hy; cases h; exact ⟨_, _, toI_gv hx, toI_gv hy, rfl⟩
  · cases h
def divA (u v : AV) : Option (AV × List Prop) := match u, v with
  | .inr (.inr a), .inr (.inr b) => some (aN (a / b), [a < 2 ^ 31, 0 < b, b < 2 ^ 31])
  | _, _ => none
def remA (u v : AV) : Option (AV × List Prop) := match u, v with
  | .inr (.inr a), .inr (.inr b) => some (aN (a % b), [a < 2 ^ 31, 0 < b, b < 2 ^ 31])
  | _, _ => none
