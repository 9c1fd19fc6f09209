theorem fds_at {B ci j : Nat} {w : NW} {t i : Nat} (h : j < fn ci) : (fds B ci w t i)[j]? = some (gv B (fv ci j w t i)) := by
  simp [fds, List.getElem?_map, List.getElem?_range h]
theorem fds_set {B ci j : Nat} {w w' : NW} {t i : Nat} {v : Value} (h : j < fn ci) (h1 : gv B (fv ci j w' t i) = v) (h2 : ∀ q, q ≠ j → fv ci q w' t i = fv ci q w t i) : (fds B ci w t i).set j v = fds B ci w' t i := by
  apply List.ext_getElem?
  intro q
  by_cases hq : q = j
  · subst hq
    rw [List.getElem?_set_self (by simp [fds]; exact h), fds_at h, h1]
  · rw [List.getElem?_set_ne (Ne.symm hq)]
    by_cases hl : q < fn ci
    · rw [fds_at hl, fds_at hl, h2 q hq]
    · simp [fds, hl]
theorem en_obj {B : Nat} {ca : CA} {w : NW} {t i ci : Nat} (h : kd t = (3, ci)) : en B ca w t i = .inr (ci, fds B ci w t i) := by simp [en, h]
theorem en_int {B : Nat} {ca : CA} {w : NW} {t i n : Nat} (h : kd t = (0, n)) : en B ca w t i = .inl (ca.1, n, .inl (fun j => nI (w.2.2.1 t i j))) := by simp [en, h]
theorem en_lng {B : Nat} {ca : CA} {w : NW} {t i n : Nat} (h : kd t = (1, n)) : en B ca w t i = .inl (ca.2.1, n, .inr (.inl (w.2.2.2.1 t i))) := by simp [en, h]
theorem en_bl {B : Nat} {ca : CA} {w : NW} {t i n : Nat} (h : kd t = (4, n)) : en B ca w t i = .inl (ca.2.2.2, n, .inl (fun j => nI (w.2.2.1 t i j))) := by simp [en, h]
theorem en_rf {B : Nat} {ca : CA} {w : NW} {t i n : Nat} (h : kd t = (2, n)) : en B ca w t i = .inl (ca.2.2.1, n, .inr (.inr (.inr (.inr (fun j => (w.2.2.2.2 t i j).map (fun k => B + od k.1 k.2)))))) := by simp [en, h]
theorem rv_gv (B : Nat) (o : Option (Nat × Nat)) : va_rf (o.map (fun k => B + od k.1 k.2)) = gv B (rv o) := by
  cases o <;> rfl
section Go
variable {sc : XT} {k B : Nat} {D : va_G} {ca : CA} {p : Program} {l : Launch} {e : Env} {R : Room} {s : State} {m : MethodId} {args : Array Value} {below : List Frame} {meth : Method} {c : Code} {A : Nat → Prop} {Q : State → Prop} {cells slots : Nat}
/-- the goal at pc, for every heap that holds the world -/
def Go (k B : Nat) (D : va_G) (ca : CA) (p : Program) (l : Launch) (e : Env) (R : Room) (s : State) (m : MethodId) (args : Array Value) (below : List Frame) (meth : Method) (c : Code) (A : Nat → Prop) (Q : State → Prop) (pc : Nat) (lv : List (Nat × AV)) (st : List AV) (w : NW) (cells slots : Nat) : Prop :=
  ∀ (H : Heap) (locs : List Loc) (ls : Array Slot), lv_has ls (mL k) (gl B lv) → Wd B D ca A s.heap cells w H locs → W p l e R s m args below meth c H locs cells slots Q (F0 m pc ls (gs B st))
variable {pc : Nat} {lv : List (Nat × AV)} {st : List AV} {w : NW}
theorem go_iconst (C : Cx sc k B D ca p l R s m args meth c A) {n : Int} (hd : decode (cc k) pc = .ok (.iconst n, 1)) (kk : Go k B D ca p l e R s m args below meth c A Q (pc + 1) lv (cs4 n :: st) w cells slots) : Go k B D ca p l e R s m args below meth c A Q pc lv st w cells slots := by
  intro H locs ls hl hw
  obtain ⟨⟨hx, hb, -⟩, -⟩ := C
  have h1 := kk H locs ls hl hw
  rw [gs, List.map_cons, cs4_gv] at h1
  exact lv_iconst hx hb hd rfl h1
theorem go_bipush (C : Cx sc k B D ca p l R s m args meth c A) {n : Int} (hd : decode (cc k) pc = .ok (.bipush n, 2)) (kk : Go k B D ca p l e R s m args below meth c A Q (pc + 2) lv (cs8 n :: st) w cells slots) : Go k B D ca p l e R s m args below meth c A Q pc lv st w cells slots := by
  intro H locs ls hl hw
  obtain ⟨⟨hx, hb, -⟩, -⟩ := C
  have h1 := kk H locs ls hl hw
  rw [gs, List.map_cons, cs8_gv] at h1
  exact lv_bipush hx hb hd rfl h1
theorem go_sipush (C : Cx sc k B D ca p l R s m args meth c A) {n : Int} (hd : decode (cc k) pc = .ok (.sipush n, 3)) (kk : Go k B D ca p l e R s m args below meth c A Q (pc + 3) lv (cs16 n :: st) w cells slots) : Go k B D ca p l e R s m args below meth c A Q pc lv st w cells slots := by
  intro H locs ls hl hw
  obtain ⟨⟨hx, hb, -⟩, -⟩ := C
  have h1 := kk H locs ls hl hw
  rw [gs, List.map_cons, cs16_gv] at h1
  exact lv_sipush hx hb hd rfl h1
theorem go_lconst (C : Cx sc k B D ca p l R s m args meth c A) {n : Fin 2} (hd : decode (cc k) pc = .ok (.lconst n, 1)) (kk : Go k B D ca p l e R s m args below meth c A Q (pc + 1) lv (aL (Int64.ofNat n.val) :: st) w cells slots) : Go k B D ca p l e R s m args below meth c A Q pc lv st w cells slots := by
  intro H locs ls hl hw
  obtain ⟨⟨hx, hb, -⟩, -⟩ := C
  exact lv_lconst hx hb hd rfl (kk H locs ls hl hw)
theorem go_ldI (C : Cx sc k B D ca p l R s m args meth c A) {i : Nat} {lv' : List (Nat × AV)} {st' : List AV} {w' : NW} {P : List Prop} (h : ldX isI lv st w i = some (lv', st', w', P)) {q : Nat} (hrow : ∀ (H : Heap) (locs : List Loc) (ls : Array Slot) (x : Int32), ls[i]? = some (.val (.int x)) → W p l e R s m args below meth c H locs cells slots Q (F0 m q ls (.int x :: gs B st)) → W p l e R s m args below meth c H locs cells slots Q (F0 m pc ls (gs B st))) (kk : Go k B D ca p l e R s m args below meth c A Q q lv' st' w' cells slots) : Go k B D ca p l e R s m args below meth c A Q pc lv st w cells slots := by
  intro H locs ls hl hw
  unfold ldX at h
  split at h
  · rename_i v hv
    split at h
    · rename_i ho
      cases h
      have h1 := kk H locs ls hl hw
      obtain ⟨x, hx⟩ := Option.isSome_iff_exists.mp ho
      have h2 := lkp_has hv hl
      rw [toI_gv hx] at h2
      refine hrow H locs ls x h2 ?_
      rw [gs, List.map_cons, toI_gv hx] at h1
      exact h1
    · cases h
  · cases h
theorem go_ldL (C : Cx sc k B D ca p l R s m args meth c A) {i : Nat} {lv' : List (Nat × AV)} {st' : List AV} {w' : NW} {P : List Prop} (h : ldX isL lv st w i = some (lv', st', w', P)) {q : Nat} (hrow : ∀ (H : Heap) (locs : List Loc) (ls : Array Slot) (x : Int64), ls[i]? = some (.val (.long x)) → W p l e R s m args below meth c H locs cells slots Q (F0 m q ls (.long x :: gs B st)) → W p l e R s m args below meth c H locs cells slots Q (F0 m pc ls (gs B st))) (kk : Go k B D ca p l e R s m args below meth c A Q q lv' st' w' cells slots) : Go k B D ca p l e R s m args below meth c A Q pc lv st w cells slots := by
  intro H locs ls hl hw
  unfold ldX at h
  split at h
  · rename_i v hv
    split at h
    · rename_i ho
      cases h
      have h1 := kk H locs ls hl hw
      have h2 := lkp_has hv hl
      rcases v with v | q | n
      · cases v with
        | long x => exact hrow H locs ls x h2 h1
        | _ => cases ho
      · cases ho
      · cases ho
    · cases h
  · cases h
theorem go_ldA (C : Cx sc k B D ca p l R s m args meth c A) {i : Nat} {lv' : List (Nat × AV)} {st' : List AV} {w' : NW} {P : List Prop} (h : ldX isA lv st w i = some (lv', st', w', P)) {q : Nat} (hrow : ∀ (H : Heap) (locs : List Loc) (ls : Array Slot) (x : Nat), ls[i]? = some (.val (.ref x)) → W p l e R s m args below meth c H locs cells slots Q (F0 m q ls (.ref x :: gs B st)) → W p l e R s m args below meth c H locs cells slots Q (F0 m pc ls (gs B st))) (kk : Go k B D ca p l e R s m args below meth c A Q q lv' st' w' cells slots) : Go k B D ca p l e R s m args below meth c A Q pc lv st w cells slots := by
  intro H locs ls hl hw
  unfold ldX at h
  split at h
  · rename_i v hv
    split at h
    · rename_i ho
      cases h
      have h1 := kk H locs ls hl hw
      have h2 := lkp_has hv hl
      obtain ⟨a, ha⟩ := isA_gv (B := B) ho
      rw [ha] at h2
      refine hrow H locs ls a h2 ?_
      rw [gs, List.map_cons, ha] at h1
      exact h1
    · cases h
  · cases h
theorem go_stI (C : Cx sc k B D ca p l R s m args meth c A) {i : Nat} {lv' : List (Nat × AV)} {st' : List AV} {w' : NW} {P : List Prop} (h : stX1 isI (mL k) lv st w i = some (lv', st', w', P)) {q : Nat} (hrow : ∀ (H : Heap) (locs : List Loc) (ls : Array Slot) (x : Int32) (r : List Value) (l1 l2 : List (Nat × Value)), lv_has ls (mL k) l1 → i < mL k → (i, Value.int x) :: l1.filter (fun q => !(q.1 == i) && !(q.1 + 1 == i && q.2.category == 2)) = l2 → (∀ ls' : Array Slot, lv_has ls' (mL k) l2 → W p l e R s m args below meth c H locs cells slots Q (F0 m q ls' r)) → W p l e R s m args below meth c H locs cells slots Q (F0 m pc ls (.int x :: r))) (kk : Go k B D ca p l e R s m args below meth c A Q q lv' st' w' cells slots) : Go k B D ca p l e R s m args below meth c A Q pc lv st w cells slots := by
  intro H locs ls hl hw
  unfold stX1 at h
  split at h
  · rename_i v r
    split at h
    · rename_i ho
      cases h
      obtain ⟨x, hx⟩ := Option.isSome_iff_exists.mp ho.1
      rw [gs, List.map_cons, toI_gv hx]
      refine hrow H locs ls x _ _ _ hl ho.2 (by rw [← toI_gv (B := B) hx]; exact st1L_gl B lv i v) (fun ls' hl' => kk H locs ls' hl' hw)
    · cases h
  · cases h
theorem go_stA (C : Cx sc k B D ca p l R s m args meth c A) {i : Nat} {lv' : List (Nat × AV)} {st' : List AV} {w' : NW} {P : List Prop} (h : stX1 isA (mL k) lv st w i = some (lv', st', w', P)) {q : Nat} (hrow : ∀ (H : Heap) (locs : List Loc) (ls : Array Slot) (x : Nat) (r : List Value) (l1 l2 : List (Nat × Value)), lv_has ls (mL k) l1 → i < mL k → (i, Value.ref x) :: l1.filter (fun q => !(q.1 == i) && !(q.1 + 1 == i && q.2.category == 2)) = l2 → (∀ ls' : Array Slot, lv_has ls' (mL k) l2 → W p l e R s m args below meth c H locs cells slots Q (F0 m q ls' r)) → W p l e R s m args below meth c H locs cells slots Q (F0 m pc ls (.ref x :: r))) (kk : Go k B D ca p l e R s m args below meth c A Q q lv' st' w' cells slots) : Go k B D ca p l e R s m args below meth c A Q pc lv st w cells slots := by
  intro H locs ls hl hw
  unfold stX1 at h
  split at h
  · rename_i v r
    split at h
    · rename_i ho
      cases h
      obtain ⟨a, ha⟩ := isA_gv (B := B) ho.1
      rw [gs, List.map_cons, ha]
      refine hrow H locs ls a _ _ _ hl ho.2 (by rw [← ha]; exact st1L_gl B lv i v) (fun ls' hl' => kk H locs ls' hl' hw)
    · cases h
  · cases h
theorem go_stL (C : Cx sc k B D ca p l R s m args meth c A) {i : Nat} {lv' : List (Nat × AV)} {st' : List AV} {w' : NW} {P : List Prop} (h : stX2 (mL k) lv st w i = some (lv', st', w', P)) {q : Nat} (hrow : ∀ (H : Heap) (locs : List Loc) (ls : Array Slot) (x : Int64) (r : List Value) (l1 l2 : List (Nat × Value)), lv_has ls (mL k) l1 → i + 1 < mL k → (i, Value.long x) :: l1.filter (fun q => !(q.1 == i) && (!(q.1 == i + 1) && !(q.1 + 1 == i && q.2.category == 2))) = l2 → (∀ ls' : Array Slot, lv_has ls' (mL k) l2 → W p l e R s m args below meth c H locs cells slots Q (F0 m q ls' r)) → W p l e R s m args below meth c H locs cells slots Q (F0 m pc ls (.long x :: r))) (kk : Go k B D ca p l e R s m args below meth c A Q q lv' st' w' cells slots) : Go k B D ca p l e R s m args below meth c A Q pc lv st w cells slots := by
  intro H locs ls hl hw
  unfold stX2 at h
  split at h
  · rename_i x r
    split at h
    · rename_i ho
      cases h
      exact hrow H locs ls x _ _ _ hl ho (st2L_gl B lv i (aL x)) (fun ls' hl' => kk H locs ls' hl' hw)
    · cases h
  · cases h
theorem go_iinc (C : Cx sc k B D ca p l R s m args meth c A) {i : Nat} {n : Int} (hd : decode (cc k) pc = .ok (.iinc i n, 3)) {u z : AV} (hu : lkp lv i = some u) (hz : incA u n = some z) (hn : i < mL k) (kk : Go k B D ca p l e R s m args below meth c A Q (pc + 3) (st1L lv i z) st w cells slots) : Go k B D ca p l e R s m args below meth c A Q pc lv st w cells slots := by
  intro H locs ls hl hw
  obtain ⟨⟨hx, hb, -⟩, -⟩ := C
  obtain ⟨x, h1, h2⟩ := incA_gv (B := B) hz
  have key : ∀ (lv : List (Nat × AV)), lkp lv i = some u → ∃ k : Nat, (gl B lv)[k]? = some (i, gv B u) := by
    intro lv
    induction lv with
    | nil => intro h; cases h
    | cons q r ih =>
      intro h
      unfold lkp at h
      by_cases hq : q.1 = i
      · rw [if_pos hq] at h
        cases h
        exact ⟨0, by simp [gl, hq]⟩
      · rw [if_neg hq] at h
        obtain ⟨k, hk⟩ := ih h
        exact ⟨k + 1, by simpa [gl] using hk⟩
  obtain ⟨j, hj⟩ := key lv hu
  rw [h1] at hj
  exact lv_iinc hx hb hd hl hj rfl hn (by rw [← h2]; exact st1L_gl B lv i z) (fun ls' hl' => kk H locs ls' hl' hw)
theorem go_bin (C : Cx sc k B D ca p l R s m args meth c A) {f : AV → AV → Option AV} {g : Int32 → Int32 → Int32} (hf : ∀ {u v z : AV}, f u v = some z → ∃ x y : Int32, gv B u = .int x ∧ gv B v = .int y ∧ gv B z = .int (g x y)) {lv' : List (Nat × AV)} {st' : List AV} {w' : NW} {P : List Prop} (h : bin f lv st w = some (lv', st', w', P)) {q : Nat} (hrow : ∀ (H : Heap) (locs : List Loc) (ls : Array Slot) (x y : Int32) (r : List Value), W p l e R s m args below meth c H locs cells slots Q (F0 m q ls (.int (g x y) :: r)) → W p l e R s m args below meth c H locs cells slots Q (F0 m pc ls (.int y :: .int x :: r))) (kk : Go k B D ca p l e R s m args below meth c A Q q lv' st' w' cells slots) : Go k B D ca p l e R s m args below meth c A Q pc lv st w cells slots := by
  intro H locs ls hl hw
  unfold bin at h
  split at h
  · rename_i v u r
    split at h
    · rename_i z hz
      cases h
      obtain ⟨x, y, h1, h2, h3⟩ := hf hz
      have h4 := kk H locs ls hl hw
      rw [gs, List.map_cons, h3] at h4
      rw [gs, List.map_cons, List.map_cons, h1, h2]
      exact hrow H locs ls x y _ h4
    · cases h
  · cases h
theorem go_binL (C : Cx sc k B D ca p l R s m args meth c A) {f : Int64 → Int64 → Int64} {cd : Int64 → List Prop} {lv' : List (Nat × AV)} {st' : List AV} {w' : NW} {P : List Prop} (h : binL f lv st w cd = some (lv', st', w', P)) (hP : allP P) {q : Nat} (hrow : ∀ (H : Heap) (locs : List Loc) (ls : Array Slot) (x y : Int64) (r : List Value), allP (cd y) → W p l e R s m args below meth c H locs cells slots Q (F0 m q ls (.long (f x y) :: r)) → W p l e R s m args below meth c H locs cells slots Q (F0 m pc ls (.long y :: .long x :: r))) (kk : Go k B D ca p l e R s m args below meth c A Q q lv' st' w' cells slots) : Go k B D ca p l e R s m args below meth c A Q pc lv st w cells slots := by
  intro H locs ls hl hw
  unfold binL at h
  split at h
  · rename_i y x r
    cases h
    exact hrow H locs ls x y _ hP (kk H locs ls hl hw)
  · cases h
theorem go_get (C : Cx sc k B D ca p l R s m args meth c A) {idx : Nat} {h9 : Nat × Nat} (hg : GF (mo k) idx h9.1 h9.2) (hd : decode (cc k) pc = .ok (.getfield idx, 3)) {lv' : List (Nat × AV)} {st' : List AV} {w' : NW} {P : List Prop} (h : getF h9 lv st w = some (lv', st', w', P)) (hP : allP P) (kk : Go k B D ca p l e R s m args below meth c A Q (pc + 3) lv' st' w' cells slots) : Go k B D ca p l e R s m args below meth c A Q pc lv st w cells slots := by
  intro H locs ls hl hw
  obtain ⟨⟨hx, hb, -⟩, ⟨hown, hts, -⟩, ⟨hK, -⟩, -⟩ := C
  unfold getF at h
  split at h
  · rename_i t i r
    split at h
    · rename_i hk
      cases h
      obtain ⟨C, T, ty, c1, c2, c3, c4, c5⟩ := ck_ok hk
      obtain ⟨g1, g2, g3, g4⟩ := hg C T _ c1
      have he := wsO_at (B := B) (ca := ca) (w := w) hP
      rw [en_obj hk] at he
      have h1 := kk H locs ls hl hw
      rw [gs, List.map_cons] at h1
      exact va_get (D := D) (ci := h9.1) (C := C) (T := T) (N := fn h9.1) hx hb hts c2 hown hK hw.1 (od t i) he c1 h9.2 g1 (hts _ g2) (fun _ h9 => h9) (fds_at g1) hd h1
    · cases h
  · cases h
theorem Wd.put {B : Nat} {D : va_G} {ca : CA} {A : Nat → Prop} {H0 H H1 : Heap} {cells : Nat} {w w' : NW} {locs locs1 : List Loc} {t i : Nat} (hw : Wd B D ca A H0 cells w H locs) (hv : vld w.1 t i) (h1 : w'.1 = w.1) (h2 : w'.2.1 = w.2.1) (ho : ∀ t' i', (t', i') ≠ (t, i) → en B ca w' t' i' = en B ca w t' i')
    (hP : va_P D vwCl ((wsO B ca w).set (od t i) (B + od t i, en B ca w' t i)) H1) (hD : va_D A ((wsO B ca w).set (od t i) (B + od t i, en B ca w' t i))) (hS : va_S A H0 H1 locs1) : Wd B D ca A H0 cells w' H1 locs1 := by
  obtain ⟨-, -, -, q4, q5⟩ := hw
  rw [wsO_set hv q5 h1 ho] at hP hD
  exact ⟨hP, hD, hS, fun z => by rw [h1]; exact q4 (h2 ▸ z), by rw [h1]; exact q5⟩
theorem fv_wN_ne {w : NW} {t i j x ci q : Nat} (h : q ≠ j) : fv ci q (wN w t i j x) t i = fv ci q w t i := by simp [fv, wN, upN, h]
theorem fv_wR_ne {w : NW} {t i j ci q : Nat} {x : Option (Nat × Nat)} (h : q ≠ j) : fv ci q (wR w t i j x) t i = fv ci q w t i := by simp [fv, wR, upR, h]
theorem go_putN (C : Cx sc k B D ca p l R s m args meth c A) {idx : Nat} (hd : decode (cc k) pc = .ok (.putfield idx, 3)) {t i ci j x : Nat} {v : AV} {r : List AV} (hg : GF (mo k) idx ci j) (hk : kd t = (3, ci)) (hf : ftk ci j = 0 ∨ (ftk ci j = 3 ∧ (x = 0 ∨ x = 1))) (hx0 : toN v = some x) (hff : ffn ci j = false) (hv : vld w.1 t i) (kk : Go k B D ca p l e R s m args below meth c A Q (pc + 3) lv r (wN w t i j x) cells slots) : Go k B D ca p l e R s m args below meth c A Q pc lv (v :: .inr (.inl (t, i)) :: r) w cells slots := by
  intro H locs ls hl hw
  obtain ⟨⟨hx, hb, -⟩, ⟨hown, hts, -⟩, ⟨hK, -⟩, -⟩ := C
  obtain ⟨C, T, ty, c1, c2, c3, c4, c5⟩ := ck_ok hk
  obtain ⟨g1, g2, g3, g4⟩ := hg C T _ c1
  have he := wsO_at (B := B) (ca := ca) (w := w) hv
  rw [en_obj hk] at he
  have hty : narrow (ty j) (.int (nI x)) = .int (nI x) ∧ fits (ty j) (.int (nI x)) = true := by
    have h5 := c5 j g1
    rcases hf with hf | ⟨hf, hxx⟩
    · rw [hf] at h5
      rw [show ty j = .int from h5]
      exact ⟨rfl, rfl⟩
    · rw [hf] at h5
      rw [show ty j = .boolean from h5]
      rcases hxx with rfl | rfl <;> exact ⟨by decide +kernel, by decide +kernel⟩
  show W p l e R s m args below meth c H locs cells slots Q (F0 m pc ls (gv B v :: .ref (B + od t i) :: gs B r))
  rw [toN_gv hx0]
  refine va_put (D := D) (ci := ci) (C := C) (T := T) (N := fn ci) (ty := ty j) hx hb hts c2 ty c3 c4 hown hK hw.1 hw.2.1 hw.2.2.1 (od t i) he c1 j g1 (hts _ g2) (fun _ h9 => h9) (by rw [g3]; exact hff) (c3 j g1) hty.1 hty.2 (by simp [fds]; exact g1) hd (fun H1 locs1 hP hD hS => ?_)
  refine kk H1 locs1 ls hl (hw.put (t := t) (i := i) hv rfl rfl en_wN ?_ ?_ hS)
  · rw [en_obj hk, ← fds_set (w := w) (v := .int (nI x)) g1 ?_ (fun q hq => fv_wN_ne hq)]
    · exact hP
    · have : fv ci j (wN w t i j x) t i = aN x := by
        rcases hf with hf | ⟨hf, -⟩ <;> simp [fv, hf, wN, upN]
      rw [this]; rfl
  · rw [en_obj hk, ← fds_set (w := w) (v := .int (nI x)) g1 ?_ (fun q hq => fv_wN_ne hq)]
    · exact hD
    · have : fv ci j (wN w t i j x) t i = aN x := by
        rcases hf with hf | ⟨hf, -⟩ <;> simp [fv, hf, wN, upN]
      rw [this]; rfl
theorem go_putR (C : Cx sc k B D ca p l R s m args meth c A) {idx : Nat} (hd : decode (cc k) pc = .ok (.putfield idx, 3)) {t i ci j : Nat} {q : Nat × Nat} {r : List AV} (hg : GF (mo k) idx ci j) (hk : kd t = (3, ci)) (hf : ftk ci j = 2) (hi : ini k = true) (hff : ffn ci j = true) (hci : ci = mo k) (hv : vld w.1 t i) (kk : Go k B D ca p l e R s m args below meth c A Q (pc + 3) lv r (wR w t i j (some q)) cells slots) : Go k B D ca p l e R s m args below meth c A Q pc lv (.inr (.inl q) :: .inr (.inl (t, i)) :: r) w cells slots := by
  intro H locs ls hl hw
  obtain ⟨⟨hx, hb, -⟩, ⟨hown, hts, -⟩, ⟨hK, -, -, hin⟩, -⟩ := C
  obtain ⟨C, T, ty, c1, c2, c3, c4, c5⟩ := ck_ok hk
  obtain ⟨g1, g2, g3, g4⟩ := hg C T _ c1
  have he := wsO_at (B := B) (ca := ca) (w := w) hv
  rw [en_obj hk] at he
  have hty : narrow (ty j) (.ref (B + od q.1 q.2)) = .ref (B + od q.1 q.2) ∧ fits (ty j) (.ref (B + od q.1 q.2)) = true := by
    have h5 := c5 j g1
    rw [hf] at h5
    rcases h5 with ⟨n, h5⟩ | ⟨n, h5⟩ <;> rw [h5] <;> exact ⟨rfl, rfl⟩
  have hC : C = RN ci := by
    have := vwCl_name (ci := ci) (C := C) (T := T) c1
    exact this
  show W p l e R s m args below meth c H locs cells slots Q (F0 m pc ls (.ref (B + od q.1 q.2) :: .ref (B + od t i) :: gs B r))
  refine va_putF (D := D) (ci := ci) (C := C) (T := T) (N := fn ci) (ty := ty j) hx hb hts c2 ty c3 c4 hown hK hw.1 hw.2.1 hw.2.2.1 (od t i) he c1 j g1 (hts _ g2) (fun _ h9 => h9) (by rw [g3]; exact hff) (hin hi) (by rw [g4, hC, hci]) (c3 j g1) hty.1 hty.2 (by simp [fds]; exact g1) hd (fun H1 locs1 hP hD hS => ?_)
  have h8 : gv B (fv ci j (wR w t i j (some q)) t i) = .ref (B + od q.1 q.2) := by
    have : fv ci j (wR w t i j (some q)) t i = .inr (.inl q) := by simp [fv, hf, wR, upR, rv]
    rw [this]; rfl
  refine kk H1 locs1 ls hl (hw.put (t := t) (i := i) hv rfl rfl en_wR ?_ ?_ hS)
  · rw [en_obj hk, ← fds_set (w := w) g1 h8 (fun q hq => fv_wR_ne hq)]
    exact hP
  · rw [en_obj hk, ← fds_set (w := w) g1 h8 (fun q hq => fv_wR_ne hq)]
    exact hD
theorem go_put (C : Cx sc k B D ca p l R s m args meth c A) {idx : Nat} {h9 : Nat × Nat} (hg : GF (mo k) idx h9.1 h9.2) (hd : decode (cc k) pc = .ok (.putfield idx, 3)) {lv' : List (Nat × AV)} {st' : List AV} {w' : NW} {P : List Prop} (h : putF k h9 lv st w = some (lv', st', w', P)) (hP : allP P) (kk : Go k B D ca p l e R s m args below meth c A Q (pc + 3) lv' st' w' cells slots) : Go k B D ca p l e R s m args below meth c A Q pc lv st w cells slots := by
  unfold putF at h
  split at h
  · rename_i v t i r
    split at h
    · rename_i hk
      split at h
      · rename_i hf
        split at h
        · rename_i x hx
          split at h
          · rename_i hff
            cases h
            exact go_putN C hd hg hk (Or.inl hf) hx hff hP kk
          · cases h
        · cases h
      · rename_i hf
        split at h
        · rename_i x hx
          split at h
          · rename_i hff
            cases h
            exact go_putN C hd hg hk (Or.inr ⟨hf, hP.2⟩) hx hff hP.1 kk
          · cases h
        · cases h
      · rename_i hf
        split at h
        · rename_i q
          split at h
          · rename_i h3
            cases h
            exact go_putR C hd hg hk hf h3.1 h3.2.1 h3.2.2 hP kk
          · cases h
        · cases h
      · cases h
    · cases h
  · cases h
theorem nI_vin {j n t : Nat} (h : j < n) (hk : (kd t).2 = n) : vp_in (nI j) n ∧ (nI j).toNatClampNeg = j := by
  have h2 := kd_sm t
  rw [hk] at h2
  exact ⟨vp_in_nI h h2, nI_clamp (Nat.lt_trans h h2)⟩
theorem go_aldN (C : Cx sc k B D ca p l R s m args meth c A) (hd : decode (cc k) pc = .ok (.iaload, 1)) {lv' : List (Nat × AV)} {st' : List AV} {w' : NW} {P : List Prop} (h : aldN lv st w = some (lv', st', w', P)) (hP : allP P) (kk : Go k B D ca p l e R s m args below meth c A Q (pc + 1) lv' st' w' cells slots) : Go k B D ca p l e R s m args below meth c A Q pc lv st w cells slots := by
  intro H locs ls hl hw
  obtain ⟨⟨hx, hb, -⟩, ⟨hown, hts, -⟩, ⟨hK, -⟩, -⟩ := C
  unfold aldN at h
  split at h
  · rename_i j t i r
    split at h
    · rename_i n hk
      cases h
      have he := wsO_at (B := B) (ca := ca) (w := w) hP.1
      rw [en_int hk] at he
      obtain ⟨h1, h2⟩ := nI_vin (t := t) hP.2 (by rw [hk])
      have h3 := kk H locs ls hl hw
      refine va_iald (D := D) hx hb hK hw.1 (od t i) 0 he rfl h1 hd ?_
      rw [h2]
      exact h3
    · cases h
  · cases h
theorem go_aldL (C : Cx sc k B D ca p l R s m args meth c A) (hd : decode (cc k) pc = .ok (.laload, 1)) {lv' : List (Nat × AV)} {st' : List AV} {w' : NW} {P : List Prop} (h : aldL lv st w = some (lv', st', w', P)) (hP : allP P) (kk : Go k B D ca p l e R s m args below meth c A Q (pc + 1) lv' st' w' cells slots) : Go k B D ca p l e R s m args below meth c A Q pc lv st w cells slots := by
  intro H locs ls hl hw
  obtain ⟨⟨hx, hb, -⟩, ⟨hown, hts, -⟩, ⟨hK, -⟩, -⟩ := C
  unfold aldL at h
  split at h
  · rename_i j t i r
    split at h
    · rename_i n hk
      cases h
      have he := wsO_at (B := B) (ca := ca) (w := w) hP.1
      rw [en_lng hk] at he
      obtain ⟨h1, h2⟩ := nI_vin (t := t) hP.2 (by rw [hk])
      have h3 := kk H locs ls hl hw
      refine va_lald (D := D) hx hb hK hw.1 (od t i) 1 he rfl h1 hd ?_
      rw [h2]
      exact h3
    · cases h
  · cases h
theorem go_aldR (C : Cx sc k B D ca p l R s m args meth c A) (hd : decode (cc k) pc = .ok (.aaload, 1)) {lv' : List (Nat × AV)} {st' : List AV} {w' : NW} {P : List Prop} (h : aldR lv st w = some (lv', st', w', P)) (hP : allP P) (kk : Go k B D ca p l e R s m args below meth c A Q (pc + 1) lv' st' w' cells slots) : Go k B D ca p l e R s m args below meth c A Q pc lv st w cells slots := by
  intro H locs ls hl hw
  obtain ⟨⟨hx, hb, -⟩, ⟨hown, hts, -⟩, ⟨hK, -⟩, -⟩ := C
  unfold aldR at h
  split at h
  · rename_i j t i r
    split at h
    · rename_i n hk
      cases h
      have he := wsO_at (B := B) (ca := ca) (w := w) hP.1
      rw [en_rf hk] at he
      obtain ⟨h1, h2⟩ := nI_vin (t := t) hP.2 (by rw [hk])
      have h3 := kk H locs ls hl hw
      refine va_aldq (D := D) hx hb hK hw.1 (od t i) 2 he rfl h1 hd ?_
      rw [h2, rv_gv]
      exact h3
    · cases h
  · cases h
theorem go_astN (C : Cx sc k B D ca p l R s m args meth c A) (hd : decode (cc k) pc = .ok (.iastore, 1)) {lv' : List (Nat × AV)} {st' : List AV} {w' : NW} {P : List Prop} (h : astN lv st w = some (lv', st', w', P)) (hP : allP P) (kk : Go k B D ca p l e R s m args below meth c A Q (pc + 1) lv' st' w' cells slots) : Go k B D ca p l e R s m args below meth c A Q pc lv st w cells slots := by
  intro H locs ls hl hw
  obtain ⟨⟨hx, hb, -⟩, ⟨hown, hts, -⟩, ⟨hK, -⟩, -⟩ := C
  unfold astN at h
  split at h
  · rename_i v j t i r
    split at h
    · rename_i x hx0
      split at h
      · rename_i n hk
        cases h
        have he := wsO_at (B := B) (ca := ca) (w := w) hP.1
        rw [en_int hk] at he
        obtain ⟨h1, h2⟩ := nI_vin (t := t) hP.2 (by rw [hk])
        show W p l e R s m args below meth c H locs cells slots Q (F0 m pc ls (gv B v :: .int (nI j) :: .ref (B + od t i) :: gs B _))
        rw [toN_gv hx0]
        have e1 : (fun q => nI ((wN w t i j x).2.2.1 t i q)) = upd (fun q => nI (w.2.2.1 t i q)) j (nI x) := by
          funext q
          by_cases hq : q = j <;> simp [wN, upN, upd, hq]
        refine va_iast (D := D) hx hb hK hw.1 hw.2.1 hw.2.2.1 (od t i) 0 he rfl h1 hd (fun H1 locs1 hP1 hD1 hS1 => kk H1 locs1 ls hl (hw.put (t := t) (i := i) hP.1 rfl rfl en_wN ?_ ?_ hS1))
        · rw [en_int hk, e1]; rw [h2] at hP1; exact hP1
        · rw [en_int hk, e1]; rw [h2] at hD1; exact hD1
      · cases h
    · cases h
  · cases h
theorem go_astL (C : Cx sc k B D ca p l R s m args meth c A) (hd : decode (cc k) pc = .ok (.lastore, 1)) {lv' : List (Nat × AV)} {st' : List AV} {w' : NW} {P : List Prop} (h : astL lv st w = some (lv', st', w', P)) (hP : allP P) (kk : Go k B D ca p l e R s m args below meth c A Q (pc + 1) lv' st' w' cells slots) : Go k B D ca p l e R s m args below meth c A Q pc lv st w cells slots := by
  intro H locs ls hl hw
  obtain ⟨⟨hx, hb, -⟩, ⟨hown, hts, -⟩, ⟨hK, -⟩, -⟩ := C
  unfold astL at h
  split at h
  · rename_i x j t i r
    split at h
    · rename_i n hk
      cases h
      have he := wsO_at (B := B) (ca := ca) (w := w) hP.1
      rw [en_lng hk] at he
      obtain ⟨h1, h2⟩ := nI_vin (t := t) hP.2 (by rw [hk])
      have e1 : (wL w t i j x).2.2.2.1 t i = vp_updL (w.2.2.2.1 t i) j x := by
        funext q
        by_cases hq : q = j <;> simp [wL, upL, vp_updL, hq]
      refine va_last (D := D) hx hb hK hw.1 hw.2.1 hw.2.2.1 (od t i) 1 he rfl h1 hd (fun H1 locs1 hP1 hD1 hS1 => kk H1 locs1 ls hl (hw.put (t := t) (i := i) hP.1 rfl rfl en_wL ?_ ?_ hS1))
      · rw [en_lng hk, e1]; rw [h2] at hP1; exact hP1
      · rw [en_lng hk, e1]; rw [h2] at hD1; exact hD1
    · cases h
  · cases h
theorem go_alen (C : Cx sc k B D ca p l R s m args meth c A) (hd : decode (cc k) pc = .ok (.arraylength, 1)) {lv' : List (Nat × AV)} {st' : List AV} {w' : NW} {P : List Prop} (h : alen lv st w = some (lv', st', w', P)) (hP : allP P) (kk : Go k B D ca p l e R s m args below meth c A Q (pc + 1) lv' st' w' cells slots) : Go k B D ca p l e R s m args below meth c A Q pc lv st w cells slots := by
  intro H locs ls hl hw
  obtain ⟨⟨hx, hb, -⟩, ⟨hown, hts, -⟩, ⟨hK, -⟩, -⟩ := C
  unfold alen at h
  split at h
  · rename_i t i r
    split at h
    · rename_i n hk
      cases h
      have he := wsO_at (B := B) (ca := ca) (w := w) hP
      rw [en_int hk] at he
      exact va_alen (D := D) hx hb hK hw.1 (od t i) 0 he rfl rfl hd (kk H locs ls hl hw)
    · rename_i n hk
      cases h
      have he := wsO_at (B := B) (ca := ca) (w := w) hP
      rw [en_lng hk] at he
      exact va_alen (D := D) hx hb hK hw.1 (od t i) 1 he rfl rfl hd (kk H locs ls hl hw)
    · rename_i n hk
      cases h
      have he := wsO_at (B := B) (ca := ca) (w := w) hP
      rw [en_rf hk] at he
      exact va_alen (D := D) hx hb hK hw.1 (od t i) 2 he rfl rfl hd (kk H locs ls hl hw)
    · cases h
  · cases h
theorem go_aldZ (C : Cx sc k B D ca p l R s m args meth c A) (hd : decode (cc k) pc = .ok (.baload, 1)) {lv' : List (Nat × AV)} {st' : List AV} {w' : NW} {P : List Prop} (h : aldZ lv st w = some (lv', st', w', P)) (hP : allP P) (kk : Go k B D ca p l e R s m args below meth c A Q (pc + 1) lv' st' w' cells slots) : Go k B D ca p l e R s m args below meth c A Q pc lv st w cells slots := by
  intro H locs ls hl hw
  obtain ⟨⟨hx, hb, -⟩, ⟨hown, hts, -⟩, ⟨hK, -⟩, -⟩ := C
  unfold aldZ at h
  split at h
  · rename_i j t i r
    split at h
    · rename_i n hk
      cases h
      have he := wsO_at (B := B) (ca := ca) (w := w) hP.1
      rw [en_bl hk] at he
      obtain ⟨h1, h2⟩ := nI_vin (t := t) hP.2 (by rw [hk])
      have h3 := kk H locs ls hl hw
      refine va_zald (D := D) hx hb hK hw.1 (od t i) 3 he rfl h1 hd ?_
      rw [h2]
      exact h3
    · cases h
  · cases h
theorem go_astZ (C : Cx sc k B D ca p l R s m args meth c A) (hd : decode (cc k) pc = .ok (.bastore, 1)) {lv' : List (Nat × AV)} {st' : List AV} {w' : NW} {P : List Prop} (h : astZ lv st w = some (lv', st', w', P)) (hP : allP P) (kk : Go k B D ca p l e R s m args below meth c A Q (pc + 1) lv' st' w' cells slots) : Go k B D ca p l e R s m args below meth c A Q pc lv st w cells slots := by
  intro H locs ls hl hw
  obtain ⟨⟨hx, hb, -⟩, ⟨hown, hts, -⟩, ⟨hK, -⟩, -⟩ := C
  unfold astZ at h
  split at h
  · rename_i v j t i r
    split at h
    · rename_i x hx0
      split at h
      · rename_i n hk
        cases h
        have he := wsO_at (B := B) (ca := ca) (w := w) hP.1
        rw [en_bl hk] at he
        obtain ⟨h1, h2⟩ := nI_vin (t := t) hP.2.1 (by rw [hk])
        show W p l e R s m args below meth c H locs cells slots Q (F0 m pc ls (gv B v :: .int (nI j) :: .ref (B + od t i) :: gs B _))
        rw [toN_gv hx0]
        have e1 : (fun q => nI ((wN w t i j x).2.2.1 t i q)) = upd (fun q => nI (w.2.2.1 t i q)) j (nI x) := by
          funext q
          by_cases hq : q = j <;> simp [wN, upN, upd, hq]
        have nz : vp_nar .boolean (nI x) = nI x := by rcases hP.2.2 with rfl | rfl <;> decide +kernel
        refine va_zast (D := D) hx hb hK hw.1 hw.2.1 hw.2.2.1 (od t i) 3 he rfl h1 hd (fun H1 locs1 hP1 hD1 hS1 => kk H1 locs1 ls hl (hw.put (t := t) (i := i) hP.1 rfl rfl en_wN ?_ ?_ hS1))
        · rw [en_bl hk, e1]; rw [h2, nz] at hP1; exact hP1
        · rw [en_bl hk, e1]; rw [h2, nz] at hD1; exact hD1
      · cases h
    · cases h
  · cases h
theorem go_div (C : Cx sc k B D ca p l R s m args meth c A) (hd : decode (cc k) pc = .ok (.idiv, 1)) {lv' : List (Nat × AV)} {st' : List AV} {w' : NW} {P : List Prop} (h : binC divA lv st w = some (lv', st', w', P)) (hP : allP P) (kk : Go k B D ca p l e R s m args below meth c A Q (pc + 1) lv' st' w' cells slots) : Go k B D ca p l e R s m args below meth c A Q pc lv st w cells slots := by
  intro H locs ls hl hw
  obtain ⟨⟨hx, hb, -⟩, -⟩ := C
  unfold binC at h
  split at h
  · rename_i v u r
    split at h
    · rename_i z P9 hz
      cases h
      unfold divA at hz
      split at hz
      · cases hz
        have h1 := kk H locs ls hl hw
        refine lv_idiv hx hb hd (nI_ne0 hP.2.1 hP.2.2) ?_
        rw [pk_div hP.1 hP.2.1 hP.2.2]
        exact h1
      · cases hz
    · cases h
  · cases h
theorem go_rem (C : Cx sc k B D ca p l R s m args meth c A) (hd : decode (cc k) pc = .ok (.irem, 1)) {lv' : List (Nat × AV)} {st' : List AV} {w' : NW} {P : List Prop} (h : binC remA lv st w = some (lv', st', w', P)) (hP : allP P) (kk : Go k B D ca p l e R s m args below meth c A Q (pc + 1) lv' st' w' cells slots) : Go k B D ca p l e R s m args below meth c A Q pc lv st w cells slots := by
  intro H locs ls hl hw
  obtain ⟨⟨hx, hb, -⟩, -⟩ := C
  unfold binC at h
  split at h
  · rename_i v u r
    split at h
    · rename_i z P9 hz
      cases h
      unfold remA at hz
      split at hz
      · cases hz
        have h1 := kk H locs ls hl hw
        refine lv_irem hx hb hd (nI_ne0 hP.2.1 hP.2.2) ?_
        rw [pk_rem hP.1 hP.2.1 hP.2.2]
        exact h1
      · cases hz
    · cases h
  · cases h
theorem go_1 (C : Cx sc k B D ca p l R s m args meth c A) {ins : Instr} {h9 : Nat × Nat} (hd : decode (cc k) pc = .ok (ins, ln ins)) (hk : hkP k ins h9) {lv' : List (Nat × AV)} {st' : List AV} {w' : NW} {P : List Prop} (h : st1 k ins h9 lv st w = some (lv', st', w', P)) (hP : allP P) (kk : Go k B D ca p l e R s m args below meth c A Q (pc + ln ins) lv' st' w' cells slots) : Go k B D ca p l e R s m args below meth c A Q pc lv st w cells slots := by
  obtain ⟨⟨hx, hb, hmx⟩, ⟨hown, hts, hot⟩, hC3⟩ := id C
  cases ins with
  | iconst n =>
    have h' : some (lv, cs4 n :: st, w, ([] : List Prop)) = some (lv', st', w', P) := h
    cases h'
    exact go_iconst C hd kk
  | bipush n =>
    have h' : some (lv, cs8 n :: st, w, ([] : List Prop)) = some (lv', st', w', P) := h
    cases h'
    exact go_bipush C hd kk
  | sipush n =>
    have h' : some (lv, cs16 n :: st, w, ([] : List Prop)) = some (lv', st', w', P) := h
    cases h'
    exact go_sipush C hd kk
  | lconst n =>
    have h' : some (lv, aL (Int64.ofNat n.val) :: st, w, ([] : List Prop)) = some (lv', st', w', P) := h
    cases h'
    exact go_lconst C hd kk
  | ldc idx =>
    have h' : some (lv, aN h9.1 :: st, w, ([] : List Prop)) = some (lv', st', w', P) := h
    cases h'
    exact fun H locs ls hl hw => lv_ldc hx hb hown (hts _ hk) hd (kk H locs ls hl hw)
  | ldc2_w idx =>
    have h' : some (lv, aL (Int64.ofNat h9.1) :: st, w, ([] : List Prop)) = some (lv', st', w', P) := h
    cases h'
    exact fun H locs ls hl hw => lv_ldc2 hx hb hown (hts _ hk) hd (kk H locs ls hl hw)
  | iload_n j => exact go_ldI C (i := j.val) h (fun H locs ls x h1 h2 => lv_iload_n hx hb hd rfl h1 h2) kk
  | iload j => exact go_ldI C (i := j) h (fun H locs ls x h1 h2 => lv_iload hx hb hd h1 h2) kk
  | lload_n j => exact go_ldL C (i := j.val) h (fun H locs ls x h1 h2 => lv_lload_n hx hb hd rfl h1 h2) kk
  | lload j => exact go_ldL C (i := j) h (fun H locs ls x h1 h2 => lv_lload hx hb hd h1 h2) kk
  | aload_n j => exact go_ldA C (i := j.val) h (fun H locs ls x h1 h2 => lv_aload_n hx hb hd rfl h1 h2) kk
  | aload j => exact go_ldA C (i := j) h (fun H locs ls x h1 h2 => lv_aload hx hb hd h1 h2) kk
  | istore_n j => exact go_stI C (i := j.val) h (fun H locs ls x r l1 l2 h1 h2 h3 h4 => lv_istore_n hx hb hd rfl h1 h2 h3 h4) kk
  | istore j => exact go_stI C (i := j) h (fun H locs ls x r l1 l2 h1 h2 h3 h4 => lv_istore hx hb hd h1 h2 h3 h4) kk
  | astore_n j => exact go_stA C (i := j.val) h (fun H locs ls x r l1 l2 h1 h2 h3 h4 => lv_astore_n hx hb hd rfl h1 h2 h3 h4) kk
  | astore j => exact go_stA C (i := j) h (fun H locs ls x r l1 l2 h1 h2 h3 h4 => lv_astore hx hb hd h1 h2 h3 h4) kk
  | lstore_n j => exact go_stL C (i := j.val) h (fun H locs ls x r l1 l2 h1 h2 h3 h4 => lv_lstore_n hx hb hd rfl h1 h2 h3 h4) kk
  | lstore j => exact go_stL C (i := j) h (fun H locs ls x r l1 l2 h1 h2 h3 h4 => lv_lstore hx hb hd h1 h2 h3 h4) kk
  | iinc i n =>
    have h' : (match lkp lv i with | some u => (match incA u n with | some z => if i < mL k then some (st1L lv i z, st, w, ([] : List Prop)) else none | none => none) | none => none) = some (lv', st', w', P) := h
    split at h'
    · rename_i u hu
      split at h'
      · rename_i z hz
        split at h'
        · rename_i hn
          cases h'
          exact go_iinc C hd hu hz hn kk
        · cases h'
      · cases h'
    · cases h'
  | iadd => exact go_bin C (g := (· + ·)) (fun h => addA_gv h) h (fun H locs ls x y r h1 => lv_iadd hx hb hd h1) kk
  | imul => exact go_bin C (g := (· * ·)) (fun h => mulA_gv h) h (fun H locs ls x y r h1 => lv_imul hx hb hd h1) kk
  | isub => exact go_bin C (g := (· - ·)) (fun h => subA_gv h) h (fun H locs ls x y r h1 => lv_isub hx hb hd h1) kk
  | ladd => exact go_binL C (f := (· + ·)) (cd := fun _ => []) h hP (fun H locs ls x y r _ h1 => lv_ladd hx hb hd h1) kk
  | lsub => exact go_binL C (f := (· - ·)) (cd := fun _ => []) h hP (fun H locs ls x y r _ h1 => lv_lsub hx hb hd h1) kk
  | lmul => exact go_binL C (f := (· * ·)) (cd := fun _ => []) h hP (fun H locs ls x y r _ h1 => lv_lmul hx hb hd h1) kk
  | ldiv => exact go_binL C (f := (· / ·)) (cd := fun y => [¬ y = 0]) h hP (fun H locs ls x y r h0 h1 => lv_ldiv hx hb hd h0 h1) kk
  | i2l =>
    have h' : fI2l lv st w = some (lv', st', w', P) := h
    unfold fI2l at h'
    split at h'
    · rename_i v r
      split at h'
      · rename_i x hv
        cases h'
        intro H locs ls hl hw
        rw [gs, List.map_cons, toI_gv hv]
        exact lv_i2l hx hb hd rfl (kk H locs ls hl hw)
      · cases h'
    · cases h'
  | dup =>
    have h' : fDup lv st w = some (lv', st', w', P) := h
    unfold fDup at h'
    split at h'
    · rename_i v r
      split at h'
      · rename_i hv
        cases h'
        exact fun H locs ls hl hw => lv_dup hx hb hd (by rw [ct1_gv]; exact hv) (kk H locs ls hl hw)
      · cases h'
    · cases h'
  | pop =>
    have h' : fPop lv st w = some (lv', st', w', P) := h
    unfold fPop at h'
    split at h'
    · rename_i v r
      split at h'
      · rename_i hv
        cases h'
        exact fun H locs ls hl hw => lv_pop hx hb hd (by rw [ct1_gv]; exact hv) (kk H locs ls hl hw)
      · cases h'
    · cases h'
  | dup2 =>
    have h' : fDup2 lv st w = some (lv', st', w', P) := h
    unfold fDup2 at h'
    split at h'
    · rename_i v r
      split at h'
      · rename_i hv
        cases h'
        exact fun H locs ls hl hw => lv_dup2_2 hx hb hd (by rw [ct1_gv]; exact hv) (kk H locs ls hl hw)
      · split at h'
        · rename_i u r'
          split at h'
          · rename_i hv
            cases h'
            exact fun H locs ls hl hw => lv_dup2_11 hx hb hd (by rw [ct1_gv]; exact hv.1) (by rw [ct1_gv]; exact hv.2) (kk H locs ls hl hw)
          · cases h'
        · cases h'
    · cases h'
  | getfield idx => exact go_get C hk hd h hP kk
  | putfield idx => exact go_put C hk hd h hP kk
  | baload => exact go_aldZ C hd h hP kk
  | bastore => exact go_astZ C hd h hP kk
  | iand => exact go_bin C (g := fun x y => x &&& y) (fun h => intA_gv h) h (fun H locs ls x y r h1 => lv_iand hx hb hd h1) kk
  | ior => exact go_bin C (g := fun x y => x ||| y) (fun h => intA_gv h) h (fun H locs ls x y r h1 => lv_ior hx hb hd h1) kk
  | ishl => exact go_bin C (g := fun x y => x <<< (y &&& 31)) (fun h => intA_gv h) h (fun H locs ls x y r h1 => lv_ishl hx hb hd h1) kk
  | ishr => exact go_bin C (g := fun x y => x >>> (y &&& 31)) (fun h => intA_gv h) h (fun H locs ls x y r h1 => lv_ishr hx hb hd h1) kk
  | idiv => exact go_div C hd h hP kk
  | irem => exact go_rem C hd h hP kk
  | iaload => exact go_aldN C hd h hP kk
  | laload => exact go_aldL C hd h hP kk
  | aaload => exact go_aldR C hd h hP kk
  | iastore => exact go_astN C hd h hP kk
  | lastore => exact go_astL C hd h hP kk
  | arraylength => exact go_alen C hd h hP kk
  | _ => cases h
theorem go_S (C : Cx sc k B D ca p l R s m args meth c A) : ∀ (is : List IH) (pc : Nat) (lv : List (Nat × AV)) (st : List AV) (w : NW) {lv' : List (Nat × AV)} {st' : List AV} {w' : NW} {P : List Prop}, okS k pc is → stS k is lv st w = some (lv', st', w', P) → allP P → Go k B D ca p l e R s m args below meth c A Q (pc + lnS is) lv' st' w' cells slots → Go k B D ca p l e R s m args below meth c A Q pc lv st w cells slots := by
  intro is
  induction is with
  | nil =>
    intro pc lv st w lv' st' w' P _ h _ kk
    have h' : some (lv, st, w, ([] : List Prop)) = some (lv', st', w', P) := h
    cases h'
    exact kk
  | cons i r ih =>
    intro pc lv st w lv' st' w' P ho h hP kk
    unfold stS at h
    split at h
    · rename_i lv1 st1 w1 P1 h1
      split at h
      · rename_i lv2 st2 w2 P2 h2
        cases h
        obtain ⟨a1, a2⟩ := allP_app hP
        refine go_1 C ho.1.1 ho.1.2 h1 a1 (ih (pc + ln i.1) lv1 st1 w1 ho.2 h2 a2 ?_)
        rw [Nat.add_assoc]
        exact kk
      · cases h
    · cases h
end Go
section SemR
variable {sc : XT} {k pc : Nat} {lv : List (Nat × AV)} {st : List AV} {w : NW} {cells slots : Nat} {Q : QT}
/-- a straight stretch -/
theorem Sem.seg (is : List IH) (hs : okS k pc is) {lv' : List (Nat × AV)} {st' : List AV} {w' : NW} {P : List Prop} (h : stS k is lv st w = some (lv', st', w', P)) (hP : allP P) {pc' : Nat} (hpc : pc + lnS is = pc') (kk : Sem sc k pc' lv' st' w' cells slots Q) : Sem sc k pc lv st w cells slots Q := by
  intro B D ca p l e R s m args below meth c A C
  subst hpc
  exact go_S C is pc lv st w hs h hP (kk B D ca p l e R s m args below meth c A C)
def icP : ClassFile.Cond → Int32 → Int32 → Prop
  | .eq, x, y => x = y
  | .ne, x, y => ¬ x = y
  | .lt, x, y => x < y
  | .ge, x, y => y ≤ x
  | .gt, x, y => y < x
  | .le, x, y => x ≤ y
theorem Sem.icmp {cd : ClassFile.Cond} {off : Int} {tgt : Nat} (hd : decode (cc k) pc = .ok (.if_icmp cd off, 3)) (ht : (pc : Int) + off = (tgt : Int)) {u v : AV} {x y : Int32} (hx0 : toI u = some x) (hy0 : toI v = some y) (kt : icP cd x y → Sem sc k tgt lv st w cells slots Q) (kf : ¬ icP cd x y → Sem sc k (pc + 3) lv st w cells slots Q) : Sem sc k pc lv (v :: u :: st) w cells slots Q := by
  intro B D ca p l e R s m args below meth c A C H locs ls hl hw
  obtain ⟨⟨hx, hb, -⟩, -⟩ := id C
  rw [gs, List.map_cons, List.map_cons, toI_gv hx0, toI_gv hy0]
  cases cd with
  | eq => exact lv_icmp_eq hx hb hd ht (fun h => kt h B D ca p l e R s m args below meth c A C H locs ls hl hw) (fun h => kf h B D ca p l e R s m args below meth c A C H locs ls hl hw)
  | ne => exact lv_icmp_ne hx hb hd ht (fun h => kt h B D ca p l e R s m args below meth c A C H locs ls hl hw) (fun h => kf (fun n => n h) B D ca p l e R s m args below meth c A C H locs ls hl hw)
  | lt => exact lv_icmp_lt hx hb hd ht (fun h => kt h B D ca p l e R s m args below meth c A C H locs ls hl hw) (fun h => kf h B D ca p l e R s m args below meth c A C H locs ls hl hw)
  | ge => exact lv_icmp_ge hx hb hd ht (fun h => kt h B D ca p l e R s m args below meth c A C H locs ls hl hw) (fun h => kf h B D ca p l e R s m args below meth c A C H locs ls hl hw)
  | gt => exact lv_icmp_gt hx hb hd ht (fun h => kt h B D ca p l e R s m args below meth c A C H locs ls hl hw) (fun h => kf h B D ca p l e R s m args below meth c A C H locs ls hl hw)
  | le => exact lv_icmp_le hx hb hd ht (fun h => kt h B D ca p l e R s m args below meth c A C H locs ls hl hw) (fun h => kf h B D ca p l e R s m args below meth c A C H locs ls hl hw)
theorem Sem.ifc {cd : ClassFile.Cond} {off : Int} {tgt : Nat} (hd : decode (cc k) pc = .ok (.ifCond cd off, 3)) (ht : (pc : Int) + off = (tgt : Int)) {u : AV} {x : Int32} (hx0 : toI u = some x) (kt : icP cd x 0 → Sem sc k tgt lv st w cells slots Q) (kf : ¬ icP cd x 0 → Sem sc k (pc + 3) lv st w cells slots Q) : Sem sc k pc lv (u :: st) w cells slots Q := by
  intro B D ca p l e R s m args below meth c A C H locs ls hl hw
  obtain ⟨⟨hx, hb, -⟩, -⟩ := id C
  rw [gs, List.map_cons, toI_gv hx0]
  cases cd with
  | eq => exact lv_if_eq hx hb hd ht (fun h => kt h B D ca p l e R s m args below meth c A C H locs ls hl hw) (fun h => kf h B D ca p l e R s m args below meth c A C H locs ls hl hw)
  | ne => exact lv_if_ne hx hb hd ht (fun h => kt h B D ca p l e R s m args below meth c A C H locs ls hl hw) (fun h => kf (fun n => n h) B D ca p l e R s m args below meth c A C H locs ls hl hw)
  | lt => exact lv_if_lt hx hb hd ht (fun h => kt h B D ca p l e R s m args below meth c A C H locs ls hl hw) (fun h => kf h B D ca p l e R s m args below meth c A C H locs ls hl hw)
  | ge => exact lv_if_ge hx hb hd ht (fun h => kt h B D ca p l e R s m args below meth c A C H locs ls hl hw) (fun h => kf h B D ca p l e R s m args below meth c A C H locs ls hl hw)
  | gt => exact lv_if_gt hx hb hd ht (fun h => kt h B D ca p l e R s m args below meth c A C H locs ls hl hw) (fun h => kf h B D ca p l e R s m args below meth c A C H locs ls hl hw)
  | le => exact lv_if_le hx hb hd ht (fun h => kt h B D ca p l e R s m args below meth c A C H locs ls hl hw) (fun h => kf h B D ca p l e R s m args below meth c A C H locs ls hl hw)
def icN : ClassFile.Cond → Nat → Nat → Prop
  | .eq, a, b => a = b
  | .ne, a, b => ¬ a = b
  | .lt, a, b => a < b
  | .ge, a, b => b ≤ a
  | .gt, a, b => b < a
  | .le, a, b => a ≤ b
theorem icN_iff {cd : ClassFile.Cond} {a b : Nat} (ha : a < 2 ^ 31) (hb : b < 2 ^ 31) : icP cd (nI a) (nI b) ↔ icN cd a b := by
  cases cd with
  | eq => exact nI_eq ha hb
  | ne => exact not_congr (nI_eq ha hb)
  | lt => exact nI_ltI ha hb
  | ge => exact nI_leI hb ha
  | gt => exact nI_ltI hb ha
  | le => exact nI_leI ha hb
theorem Sem.icmpN {cd : ClassFile.Cond} {off : Int} {tgt : Nat} (hd : decode (cc k) pc = .ok (.if_icmp cd off, 3)) (ht : (pc : Int) + off = (tgt : Int)) {a b : Nat} (ha : a < 2 ^ 31) (hb : b < 2 ^ 31) (kt : icN cd a b → Sem sc k tgt lv st w cells slots Q) (kf : ¬ icN cd a b → Sem sc k (pc + 3) lv st w cells slots Q) : Sem sc k pc lv (aN b :: aN a :: st) w cells slots Q :=
  Sem.icmp hd ht (u := aN a) (v := aN b) rfl rfl (fun h => kt ((icN_iff ha hb).mp h)) (fun h => kf (fun z => h ((icN_iff ha hb).mpr z)))
theorem Sem.ifN {cd : ClassFile.Cond} {off : Int} {tgt : Nat} (hd : decode (cc k) pc = .ok (.ifCond cd off, 3)) (ht : (pc : Int) + off = (tgt : Int)) {a : Nat} (ha : a < 2 ^ 31) (kt : icN cd a 0 → Sem sc k tgt lv st w cells slots Q) (kf : ¬ icN cd a 0 → Sem sc k (pc + 3) lv st w cells slots Q) : Sem sc k pc lv (aN a :: st) w cells slots Q :=
  Sem.ifc hd ht (u := aN a) rfl (fun h => kt ((icN_iff ha (by decide)).mp (by rw [nI_0]; exact h))) (fun h => kf (fun z => h (by have := (icN_iff ha (show 0 < 2 ^ 31 by decide)).mpr z; rw [nI_0] at this; exact this)))
def lcP : ClassFile.Cond → Int64 → Int64 → Prop
  | .eq, x, y => x = y
  | .ne, x, y => ¬ x = y
  | .lt, x, y => x < y
  | .ge, x, y => y ≤ x
  | .gt, x, y => y < x
  | .le, x, y => x ≤ y
theorem lcP_iff {cd : ClassFile.Cond} {x y : Int64} : icP cd (lg_cmp x y) 0 ↔ lcP cd x y := by
  cases cd with
  | eq => exact lg_cmp_eq x y
  | ne => exact not_congr (lg_cmp_eq x y)
  | lt => exact lg_cmp_lt x y
  | ge => exact lg_cmp_ge x y
  | gt => exact lg_cmp_gt x y
  | le => exact lg_cmp_le x y
theorem Sem.lcmp {cd : ClassFile.Cond} {off : Int} {tgt : Nat} (hd1 : decode (cc k) pc = .ok (.lcmp, 1)) (hd : decode (cc k) (pc + 1) = .ok (.ifCond cd off, 3)) (ht : ((pc + 1 : Nat) : Int) + off = (tgt : Int)) {x y : Int64} (kt : lcP cd x y → Sem sc k tgt lv st w cells slots Q) (kf : ¬ lcP cd x y → Sem sc k (pc + 4) lv st w cells slots Q) : Sem sc k pc lv (aL y :: aL x :: st) w cells slots Q := by
  intro B D ca p l e R s m args below meth c A C H locs ls hl hw
  obtain ⟨⟨hx, hb, -⟩, -⟩ := id C
  refine W.lcmp hx hb hd1 ?_
  exact Sem.ifc (u := aI (lg_cmp x y)) hd ht rfl (fun h => kt (lcP_iff.mp h)) (fun h => kf (fun z => h (lcP_iff.mpr z))) B D ca p l e R s m args below meth c A C H locs ls hl hw
theorem Sem.goto {off : Int} {tgt : Nat} (hd : decode (cc k) pc = .ok (.goto off, 3)) (ht : (pc : Int) + off = (tgt : Int)) (kk : Sem sc k tgt lv st w cells slots Q) : Sem sc k pc lv st w cells slots Q := by
  intro B D ca p l e R s m args below meth c A C H locs ls hl hw
  obtain ⟨⟨hx, hb, -⟩, -⟩ := id C
  exact lv_goto hx hb hd ht (kk B D ca p l e R s m args below meth c A C H locs ls hl hw)
/-- other words for the same locals and stack -/
theorem Sem.eqv {lv' : List (Nat × AV)} {st' : List AV} (h1 : ∀ B, ∀ q ∈ gl B lv', q ∈ gl B lv) (h2 : ∀ B, gs B st = gs B st') (kk : Sem sc k pc lv' st' w cells slots Q) : Sem sc k pc lv st w cells slots Q := by
  intro B D ca p l e R s m args below meth c A C H locs ls hl hw
  rw [h2 B]
  exact kk B D ca p l e R s m args below meth c A C H locs ls ⟨hl.1, hl.2.1, fun q hq => hl.2.2 q (h1 B q hq)⟩ hw
theorem Sem.lsub {lv' : List (Nat × AV)} (h : ∀ q ∈ lv', q ∈ lv) (kk : Sem sc k pc lv' st w cells slots Q) : Sem sc k pc lv st w cells slots Q :=
  Sem.eqv (fun B q hq => by
    obtain ⟨z, hz, rfl⟩ := List.mem_map.mp hq
    exact List.mem_map.mpr ⟨z, h z hz, rfl⟩) (fun _ => rfl) kk
theorem Sem.topN {x : Int32} {n : Nat} (h : x = nI n) (kk : Sem sc k pc lv (aN n :: st) w cells slots Q) : Sem sc k pc lv (aI x :: st) w cells slots Q := by
  subst h
  exact kk
/-- ends -/
theorem Wd.bd {B : Nat} {D : va_G} {ca : CA} {A : Nat → Prop} {s t : State} {cells n : Nat} {w : NW} {H : Heap} {locs : List Loc} (hw : Wd B D ca A s.heap cells w H locs) (ht : t.heap = H) (hz : w.2.1 = true → cells = n) : Bd B D ca A n w s t := by
  obtain ⟨h1, h2, h3, h4, h5⟩ := hw
  exact ⟨by rw [ht]; exact h1, h2, fun z => by rw [← hz z]; exact h4 z, h5⟩
theorem Sem.vret (hd : decode (cc k) pc = .ok (.return_, 1)) (hr : rt k = none) (hc : cells ≤ mc k) (hs : slots ≤ ms k) (hz : w.2.1 = true → cells = mc k) (hQ : Q (.inl none) w) : Sem sc k pc lv [] w cells slots Q := by
  intro B D ca p l e R s m args below meth c A C H locs ls hl hw
  obtain ⟨⟨hx, hb, hmx, hrt, hlk⟩, -⟩ := id C
  refine W.widen hc hs (oxRet ?_)
  exact W.vret hx hb (hrt.trans hr) (fun t ht hW => ⟨none, w, rfl, hQ, hw.bd ht hz, hw.2.2.1.F ht⟩) hw.2.2.1.2.2 hd hlk
theorem Sem.iret {v : AV} {x : Int32} (hv : toI v = some x) (hd : decode (cc k) pc = .ok (.ireturn, 1)) (hr : rt k = some .int ∨ (rt k = some .boolean ∧ (x = 0 ∨ x = 1))) (hc : cells ≤ mc k) (hs : slots ≤ ms k) (hz : w.2.1 = true → cells = mc k) (hQ : Q (.inl (some v)) w) : Sem sc k pc lv [v] w cells slots Q := by
  intro B D ca p l e R s m args below meth c A C H locs ls hl hw
  obtain ⟨⟨hx, hb, hmx, hrt, hlk⟩, -⟩ := id C
  refine W.widen hc hs (oxRet ?_)
  rw [gs, List.map_cons, toI_gv hv]
  have hq : ∀ t : State, t.heap = H → s.WarmedH t.vm → Qo B D ca A (mc k) Q s (.returned (some (.int x))) t := fun t ht hW => ⟨some v, w, by rw [Option.map_some, toI_gv hv], hQ, hw.bd ht hz, hw.2.2.1.F ht⟩
  rcases hr with hr | ⟨hr, hx1⟩
  · exact W.iret hx hb (hrt.trans hr) hq hw.2.2.1.2.2 hd hlk
  · exact W.zret hx hb (hrt.trans hr) (by rcases hx1 with rfl | rfl <;> decide +kernel) hq hw.2.2.1.2.2 hd hlk
theorem Sem.lret {x : Int64} (hd : decode (cc k) pc = .ok (.lreturn, 1)) (hr : rt k = some .long) (hc : cells ≤ mc k) (hs : slots ≤ ms k) (hz : w.2.1 = true → cells = mc k) (hQ : Q (.inl (some (aL x))) w) : Sem sc k pc lv [aL x] w cells slots Q := by
  intro B D ca p l e R s m args below meth c A C H locs ls hl hw
  obtain ⟨⟨hx, hb, hmx, hrt, hlk⟩, -⟩ := id C
  refine W.widen hc hs (oxRet ?_)
  exact W.lret hx hb (hrt.trans hr) (fun t ht hW => ⟨some (aL x), w, rfl, hQ, hw.bd ht hz, hw.2.2.1.F ht⟩) hw.2.2.1.2.2 hd hlk
theorem Sem.aret {v : AV} (hv : isA v = true) {ty : FieldType} (hd : decode (cc k) pc = .ok (.areturn, 1)) (hr : rt k = some ty) (hty : (∃ n, ty = .object n) ∨ ∃ t, ty = .array t) (hc : cells ≤ mc k) (hs : slots ≤ ms k) (hz : w.2.1 = true → cells = mc k) (hQ : Q (.inl (some v)) w) : Sem sc k pc lv [v] w cells slots Q := by
  intro B D ca p l e R s m args below meth c A C H locs ls hl hw
  obtain ⟨⟨hx, hb, hmx, hrt, hlk⟩, -⟩ := id C
  refine W.widen hc hs (oxRet ?_)
  obtain ⟨a, ha⟩ := isA_gv (B := B) hv
  exact W.aret hx hb (hrt.trans hr) hty (Or.inr ⟨a, ha⟩) (fun t ht hW => ⟨some v, w, rfl, hQ, hw.bd ht hz, hw.2.2.1.F ht⟩) hw.2.2.1.2.2 hd hlk
end SemR
