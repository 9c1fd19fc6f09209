-- ===== calls =====
def AR (B n sz : Nat) : Nat → Prop := fun q => (B ≤ q ∧ q < B + n) ∨ sz ≤ q
theorem wsO_key {B : Nat} {ca : CA} {w : NW} {k : Nat} {q : Nat × va_E} (h : (wsO B ca w)[k]? = some q) : k < w.1 ∧ q.1 = B + k := by
  have hl : k < (wsO B ca w).length := (List.getElem?_eq_some_iff.mp h).1
  have hl2 : k < w.1 := by simpa [wsO] using hl
  refine ⟨hl2, ?_⟩
  simp [wsO, List.getElem?_map, List.getElem?_range hl2] at h
  rw [← h]
theorem wsO_D {B : Nat} {ca : CA} {w : NW} {A : Nat → Prop} (h : va_D A (wsO B ca w)) {q : Nat} (h1 : B ≤ q) (h2 : q < B + w.1) : A q := by
  have hk : q - B < w.1 := by omega
  have h3 : (wsO B ca w)[q - B]? = some (B + (q - B), en B ca w (ky (q - B)).1 (ky (q - B)).2) := by
    simp [wsO, List.getElem?_map, List.getElem?_range hk]
  have h4 := h.2 _ _ h3
  rw [show B + (q - B) = q by omega] at h4
  exact h4
theorem wsO_DR {B : Nat} {ca : CA} {w : NW} {A : Nat → Prop} {sz : Nat} (h : va_D A (wsO B ca w)) : va_D (AR B w.1 sz) (wsO B ca w) := by
  refine ⟨h.1, fun k q hk => ?_⟩
  obtain ⟨h1, h2⟩ := wsO_key hk
  exact Or.inl ⟨by omega, by omega⟩
theorem AR_sub {B : Nat} {D : va_G} {ca : CA} {A : Nat → Prop} {H0 H : Heap} {cells : Nat} {w : NW} {locs : List Loc} (hw : Wd B D ca A H0 cells w H locs) (hA : ∀ q, H0.size ≤ q → A q) : ∀ q, AR B w.1 H.size q → A q := by
  intro q h
  rcases h with ⟨h1, h2⟩ | h
  · exact wsO_D hw.2.1 h1 h2
  · exact hA q (Nat.le_trans hw.2.2.1.1 h)
theorem stR.warm {s U : State} (hW : s.WarmedH U.vm) (h : stR s) : stR U :=
  ⟨fun q hq => by obtain ⟨a, ha⟩ := h.1 q hq; exact ⟨a, vk_R.warm hW ha⟩, fun q hq => (h.2.1 q hq).moved hW.alike, fun q hq => va_Nw.warmM hW (h.2.2.1 q hq), h.2.2.2.1.moved hW.alike, fun n hn => (h.2.2.2.2.1 n hn).moved hW.alike, fun n hn => va_Nw.warmD hW (h.2.2.2.2.2 n hn)⟩
theorem stR.same {s U : State} (hv : s.vm = U.vm) (h : stR s) : stR U :=
  ⟨fun q hq => by obtain ⟨a, ha⟩ := h.1 q hq; exact ⟨a, vk_R.same hv.symm ha⟩, fun q hq => (h.2.1 q hq).moved (by rw [hv]; exact Vm.Alike.refl _), fun q hq => va_Nw.same rfl hv (h.2.2.1 q hq), h.2.2.2.1.moved (by rw [hv]; exact Vm.Alike.refl _), fun n hn => (h.2.2.2.2.1 n hn).moved (by rw [hv]; exact Vm.Alike.refl _), fun n hn => va_Nw.same rfl hv (h.2.2.2.2.2 n hn)⟩
theorem stX.moved {A : Nat → Prop} {u U : State} {H : Heap} (hvm : u.vm.Alike U.vm) (h : stX A u H) : stX A U H := ⟨h.1.moved hvm, h.2.moved hvm⟩
theorem stX.kept {A : Nat → Prop} {U : State} {H H1 : Heap} (h : stX A U H) (hq : ∀ a : Nat, a < H.size → ¬ A a → H1[a]? = H[a]?) : stX A U H1 := ⟨h.1.kept hq, h.2.kept hq⟩
theorem stX.narrow {A A' : Nat → Prop} {U : State} {H : Heap} (h : stX A U H) (hAB : ∀ q, A' q → A q) : stX A' U H := ⟨h.1.narrow hAB, h.2.narrow hAB⟩
def PcB (B : Nat) (D : va_G) (ca : CA) (w : NW) (sz : Nat) (U : State) : Prop := U.heap.size = sz ∧ va_P D vwCl (wsO B ca w) U.heap ∧ va_K D vwCl (tyT ca) U ∧ va_D (fun _ => True) (wsO B ca w) ∧ stX (AR B w.1 sz) U U.heap ∧ stR U ∧ (w.2.1 = true → sz = B + w.1) ∧ w.1 ≤ NN
def PcM (B : Nat) (D : va_G) (ca : CA) (as : List AV) (w : NW) (sz : Nat) : Array Value → State → Prop := va_Pc (gs B as) (PcB B D ca w sz)
theorem PcM.blind {B : Nat} {D : va_G} {ca : CA} {as : List AV} {w : NW} {sz : Nat} : FrameBlind (PcM B D ca as w sz) := by
  intro a U g mk h
  obtain ⟨h0, h1, h2, h3, h4, h5, h6, h7⟩ := h
  exact ⟨h0, h1, h2, va_K.moved (u := U) (U := U.calling g mk a) (Vm.Alike.refl U.vm) h3, h4, stX.moved (u := U) (U := U.calling g mk a) (Vm.Alike.refl U.vm) h5, stR.same (s := U) (U := U.calling g mk a) rfl h6, h7⟩
def aArgs : Nat → List AV → List (Nat × AV)
  | _, [] => []
  | i, v :: vs => (i, v) :: aArgs (if ct1 v = 2 then i + 2 else i + 1) vs
theorem aArgs_gl (B : Nat) : ∀ (as : List AV) (i : Nat), gl B (aArgs i as) = lv_args i (gs B as) := by
  intro as
  induction as with
  | nil => intro i; rfl
  | cons v vs ih =>
    intro i
    show (i, gv B v) :: gl B (aArgs (if ct1 v = 2 then i + 2 else i + 1) vs) = (i, gv B v) :: lv_args (if (gv B v).category = 2 then i + 2 else i + 1) (gs B vs)
    rw [ih, ct1_gv]
theorem lg_sl_len (B : Nat) : ∀ as : List AV, (∀ v ∈ as, ct1 v = 1 ∨ ct1 v = 2) → (lg_sl (gs B as)).length = (as.map ct1).sum := by
  intro as
  induction as with
  | nil => intro _; rfl
  | cons v vs ih =>
    intro h
    have h1 := ih (fun u hu => h u (List.mem_cons_of_mem _ hu))
    show (lg_sl (gv B v :: gs B vs)).length = ct1 v + (vs.map ct1).sum
    rw [← h1]
    rcases h v List.mem_cons_self with hv | hv
    · simp [lg_sl, ct1_gv, hv]; omega
    · simp [lg_sl, ct1_gv, hv]; omega
theorem ct1_or (v : AV) : ct1 v = 1 ∨ ct1 v = 2 := by
  rcases v with v | k | n
  · exact lv_cat v
  · exact Or.inl rfl
  · exact Or.inl rfl
abbrev rmk (k : Nat) : Room := { frames := fr k, cells := mc k, slots := ms k, locals := lo k }
def wsM (k : Nat) : List Cond := .code (yn k) (cc k) (mL k) (rt k) :: AW_
def wsW (k : Nat) : List Cond := .codeWith (yn k) (cc k) (mL k) (rt k) (hh k) :: AW_
theorem nost {D : va_G} {cl : List vw_C} {q : Nat} {en9 : va_E} {H : Heap} {cell : Cell} (h : va_at D cl (q, en9) H) (hc : H[q]? = some cell) : cell.vm.isStatics = false := by
  cases en9 with
  | inl x =>
    have h1 : H[q]? = some (vp_cell x.1 x.2) := h
    cases Option.some.inj (hc.symm.trans h1)
    obtain ⟨a, n, f⟩ := x
    rcases f with f | f | f | f | f <;> rfl
  | inr o =>
    obtain ⟨r, h1, cell9, h2, h3, h4, -⟩ := h
    cases Option.some.inj (hc.symm.trans h2)
    rw [h4]; rfl
theorem Cx_of {sc : XT} {k : Nat} (hlaw : k ≠ LAW) {B : Nat} {D : va_G} {ca : CA} {p : Program} {l : Launch} {s : State} {m : MethodId} {args : Array Value} {meth : Method} {c : Code} {w : NW} {sz : Nat} (hv : PcB B D ca w sz s) (hx : p.tables.exec = Jvm.exec) (hb : c.code = cc k) (hml : c.maxLocals = mL k) (hr : meth.sig.returnType = rt k) (hlk : meth.locks = false) (hown : s.vm.findClass (own k) = some m.cls) (hts : ∀ w ∈ AW_, w.before args s = true) (hl : l.stackTraces = false) (ht : c.exceptionTable.toList = tableOf (hh k)) (hn : meth.name = nm k) :
    Cx sc k B D ca p l (rmk k) s m args meth c (AR B w.1 sz) := by
  obtain ⟨h1, h2, h3, h4, h5, h6, h7, h8⟩ := hv
  refine ⟨⟨hx, hb, hml, hr, hlk⟩, ⟨hown, hts, hl, Nat.le_refl _, Nat.le_refl _, Nat.le_refl _, Nat.le_refl _⟩, ⟨h3, fun q hq => Or.inr (by rw [← h1]; exact hq), ht, fun hi => ?_⟩, ⟨⟨h5, fun q cell hq hc => ?_⟩, h6, fun z => absurd z hlaw⟩⟩
  · rw [hn]
    exact ini_nm hi
  · rcases hq with ⟨q1, q2⟩ | hq
    · have hk : q - B < w.1 := by omega
      have h9 : (wsO B ca w)[q - B]? = some (B + (q - B), en B ca w (ky (q - B)).1 (ky (q - B)).2) := by
        simp [wsO, List.getElem?_map, List.getElem?_range hk]
      have h10 := h2 _ _ h9
      rw [show B + (q - B) = q by omega] at h10
      exact nost h10 hc
    · have := (Array.getElem?_eq_some_iff.mp hc).1
      omega
theorem Sem.met {sc : XT} {k : Nat} {as : List AV} {w : NW} {Q : QT} (hS : Sem sc k 0 (aArgs 0 as) [] w 0 0 Q) (hlaw : k ≠ LAW) (hpl : plainName (RN (mo k)) = true) (hnh : hh k = []) (hlen : (as.map ct1).sum ≤ mL k) {l : Launch} (hl : l.stackTraces = false) (B : Nat) (D : va_G) (ca : CA) (sz : Nat) :
    oxM l (yn k) (wsM k) (rmk k) (PcM B D ca as w sz) (Qo B D ca (AR B w.1 sz) (mc k) Q) (mc k) (ms k) (AR B w.1 sz) := by
  refine oxM.body (cc := cc k) (maxL := mL k) (ret := rt k) hpl rfl ?_
  intro p e s m args below meth c s₁ Bd hml ht hv
  obtain ⟨rfl, hv⟩ := hv
  have hts := atoms_spec (ws := wsM k) Bd.pre
  have hC : Cx sc k B D ca p l (rmk k) s m (gs B as).toArray meth c (AR B w.1 sz) := Cx_of hlaw hv Bd.exec Bd.bytes hml Bd.returns Bd.notSynchronized (findClass_of_methodNamed Bd.named) (fun w hw => hts w (List.mem_cons_of_mem _ hw)) hl (by rw [hnh, ht]; rfl) (name_of_methodNamed Bd.named Bd.method).1
  have hll := lv_entry (gs B as) (n := mL k) (by rw [lg_sl_len B as (fun v _ => ct1_or v)]; exact hlen)
  rw [lg_entry_eq]
  rw [← aArgs_gl] at hll
  exact hS B D ca p l e _ s m _ below meth c (AR B w.1 sz) hC s.heap [] _ hll ⟨hv.2.1, wsO_DR hv.2.2.2.1, va_S.rf, fun z => by rw [hv.1]; exact hv.2.2.2.2.2.2.1 z, hv.2.2.2.2.2.2.2⟩
theorem Sem.metW {sc : XT} {k : Nat} {as : List AV} {w : NW} {Q : QT} (hS : Sem sc k 0 (aArgs 0 as) [] w 0 0 Q) (hlaw : k ≠ LAW) (hpl : plainName (RN (mo k)) = true) (hlen : (as.map ct1).sum ≤ mL k) {l : Launch} (hl : l.stackTraces = false) (B : Nat) (D : va_G) (ca : CA) (sz : Nat) :
    oxM l (yn k) (wsW k) (rmk k) (PcM B D ca as w sz) (Qo B D ca (AR B w.1 sz) (mc k) Q) (mc k) (ms k) (AR B w.1 sz) := by
  refine oxM.bodyH (cc := cc k) (maxL := mL k) (ret := rt k) (hd := hh k) hpl rfl ?_
  intro p e s m args below meth c s₁ Bd hml ht hv
  obtain ⟨rfl, hv⟩ := hv
  have hts := atoms_spec (ws := wsW k) Bd.pre
  have hC : Cx sc k B D ca p l (rmk k) s m (gs B as).toArray meth c (AR B w.1 sz) := Cx_of hlaw hv Bd.exec Bd.bytes hml Bd.returns Bd.notSynchronized (findClass_of_methodNamed Bd.named) (fun w hw => hts w (List.mem_cons_of_mem _ hw)) hl ht (name_of_methodNamed Bd.named Bd.method).1
  have hll := lv_entry (gs B as) (n := mL k) (by rw [lg_sl_len B as (fun v _ => ct1_or v)]; exact hlen)
  rw [lg_entry_eq]
  rw [← aArgs_gl] at hll
  exact hS B D ca p l e _ s m _ below meth c (AR B w.1 sz) hC s.heap [] _ hll ⟨hv.2.1, wsO_DR hv.2.2.2.1, va_S.rf, fun z => by rw [hv.1]; exact hv.2.2.2.2.2.2.1 z, hv.2.2.2.2.2.2.2⟩
theorem Sem.metR {sc : XT} {k : Nat} {as : List AV} {w : NW} {Q : QT} (hS : Sem sc k 0 (aArgs 0 as) [] w 0 0 Q) (hno : ∀ E w', ¬ Q (.inr E) w') (hlaw : k ≠ LAW) (hpl : plainName (RN (mo k)) = true) (hnh : hh k = []) (hlen : (as.map ct1).sum ≤ mL k) {l : Launch} (hl : l.stackTraces = false) (B : Nat) (D : va_G) (ca : CA) (sz : Nat) :
    Met l (yn k) (wsM k) (rmk k) (PcM B D ca as w sz) (fun _ st o t => Qo B D ca (AR B w.1 sz) (mc k) Q st o t) (mc k) (ms k) (AR B w.1 sz) := by
  refine Met.ofW (cc := cc k) (maxL := mL k) (ret := rt k) hpl rfl ?_
  intro p e s m args below meth c s₁ Bd hml hv
  obtain ⟨rfl, hv⟩ := hv
  have hts := atoms_spec (ws := wsM k) Bd.pre
  have hno9 : c.exceptionTable.isEmpty = true := Bd.noHandlers (hts _ List.mem_cons_self)
  have hC : Cx sc k B D ca p l (rmk k) s m (gs B as).toArray meth c (AR B w.1 sz) := Cx_of hlaw hv Bd.exec Bd.bytes hml Bd.returns Bd.notSynchronized (findClass_of_methodNamed Bd.named) (fun w hw => hts w (List.mem_cons_of_mem _ hw)) hl (by
    rw [hnh, Array.isEmpty_iff.mp hno9]; rfl) (name_of_methodNamed Bd.named Bd.method).1
  have hll := lv_entry (gs B as) (n := mL k) (by rw [lg_sl_len B as (fun v _ => ct1_or v)]; exact hlen)
  rw [lg_entry_eq]
  rw [← aArgs_gl] at hll
  refine Wmono ?_ (hS B D ca p l e _ s m _ below meth c (AR B w.1 sz) hC s.heap [] _ hll ⟨hv.2.1, wsO_DR hv.2.2.2.1, va_S.rf, fun z => by rw [hv.1]; exact hv.2.2.2.2.2.2.1 z, hv.2.2.2.2.2.2.2⟩)
  rintro t ⟨o, h1, h2, h3, h4, L, h5, h6⟩
  cases o with
  | returned v => exact ⟨.returned v, h1, h2, h3, L, ⟨⟨v, rfl⟩, h4, h5⟩, h6⟩
  | threw q =>
    obtain ⟨E, w', ce, -, h7, -⟩ := h3
    exact (hno E w' h7).elim
/-- a call, as the caller sees it -/
def oxRun (p : Program) (l : Launch) (e : Env) (R : Room) (s : State) (m : MethodId) (args : Array Value) (below : List Frame) (meth : Method) (c : Code) (H : Heap) (locs : List Loc) (cells slots n z : Nat) (g : JFrame) (rest : List Value) (Qe : State → Outcome → State → Prop) (free : Addr → Prop) : Prop :=
  ∀ T : State, T.heap = H → Stand p l e R s m args below meth c T locs cells slots → ∃ (o : Outcome) (st₀ t T' : State) (L : List Loc), st₀.heap = H ∧ ((∃ q, o = .threw q) → s.WarmedH st₀.vm) ∧ Stand p l e R s m args below meth c T' (locs ++ L) (cells + n) (slots + z) ∧ (∀ q ∈ L, free q.base) ∧ T'.heap = t.heap ∧ T'.vm = t.vm ∧ Qe st₀ o t ∧
    oxAfter p e below (T.setTop g) T' g 3 rest o
theorem oxAfter.pre {p : Program} {e : Env} {below : List Frame} {S S' T' : State} {g : JFrame} {len : Nat} {rest : List Value} {o : Outcome} (h : oxAfter p e below S T' g len rest o) (hs : ∀ target, Steps p.tables e below S target → Steps p.tables e below S' target) : oxAfter p e below S' T' g len rest o := by
  cases o with
  | returned v => exact hs _ h
  | threw q => exact hs _ h
section Runs
variable {p : Program} {l : Launch} {e : Env} {R : Room} {s : State} {m : MethodId} {args : Array Value} {below : List Frame} {meth : Method} {c : Code} {H : Heap} {locs : List Loc} {cells slots : Nat} {y : MethodName} {ws : List Cond} {rm : Room} {Pc : Array Value → State → Prop} {Qe : State → Outcome → State → Prop} {mc ms maxL : Nat} {free : Addr → Prop} {own : String} {index : Nat} {g : JFrame} {As rest : List Value}
theorem oxRunS (hM : oxM l y ws rm Pc Qe mc ms free) (hblind : FrameBlind Pc) (hx : p.tables.exec = Jvm.exec) (hown : s.vm.findClass own = some m.cls) (hws : ∀ w ∈ ws, ∀ (a' : Array Value) (U : State), s.WarmedH U.vm → w.before a' U = true)
    (hlk : (Cond.methodLink own index y).before args s = true) (hst : (Cond.static y).before args s = true) (hini : ∀ (a' : Array Value) (U : State), s.WarmedH U.vm → (Cond.initialized y.cls).before a' U = true) (hy : y.cls ≠ "java/lang/invoke/MethodHandle" ∧ y.cls ≠ "java/lang/invoke/VarHandle")
    (hco : ∀ (a' : Array Value) (U : State), s.WarmedH U.vm → ∃ (mk : MethodId) (mY : Method) (cY : Code), U.methodNamed? y = some mk ∧ U.vm.method? mk = some mY ∧ mY.code = some cY ∧ cY.maxLocals = maxL ∧ parseMethodDescriptor y.desc = some mY.sig)
    (hlen : ∀ sig, parseMethodDescriptor y.desc = some sig → As.length = sig.parameters.length) (hrc : rm.cells = mc) (hrs : rm.slots = ms) (hfr : rm.frames + 1 ≤ R.frames) (hlo : 8 + (maxL + 11) + rm.locals ≤ R.locals) (hcs : cells + mc ≤ R.cells) (hss : slots + ms ≤ R.slots)
    (hg : g.method = m) (hsize : g.locals.size = c.maxLocals) (hstack : g.stack = As.reverse ++ rest) (hW : 2 * g.monitorRoom + (rest.map fun v => v.category).sum ≤ 8) (hdg : decode c.code g.pc = .ok (.invokestatic index, 3)) (hPc : ∀ U : State, U.heap = H → s.WarmedH U.vm → Pc As.toArray U) :
    oxRun p l e R s m args below meth c H locs cells slots mc ms g rest Qe free := by
  intro T hT X
  obtain ⟨mk, mY, cY, hnamed, hmY, hcY, hlY, hsig⟩ := hco args s (State.WarmedH.refl s)
  have hstat : mY.isStatic = true := Cond.static_spec hnamed hmY hst
  obtain ⟨kP, hkP, -⟩ := className_of_methodNamed hnamed
  have hinP : kP.init = .initialized := Cond.initialized_spec (findClass_of_methodNamed hnamed) hkP (hini args s (State.WarmedH.refl s))
  obtain ⟨vm₁, X₁, hstep⟩ := X.invokestatic hx hown hlk hnamed hmY hstat hkP hinP hy (g := g) hg (argsL := As) (rest := rest) (hlen _ hsig) hstack hdg
  obtain ⟨mk', mY', cY', hnamed', hmY', hcY', hlY', -⟩ := hco As.toArray (T.setVm vm₁) X₁.warmed
  cases Option.some.inj (hnamed'.symm.trans (X₁.named hnamed))
  obtain ⟨o, t, T', L, X', hL, e1, e2, hq, haft⟩ := oxCore hM X₁ (maxL := maxL) hrc hrs hfr hlo hcs hss (g := { g with stack := rest }) hg hsize hdg hW hnamed' hmY' hcY' hlY' (fun w hw => hws w hw _ _ X₁.warmed) (hini _ _ X₁.warmed) (hblind _ _ _ _ (hPc _ hT X₁.warmed))
  refine ⟨o, _, t, T', L, ?_, ?_, X', hL, e1, e2, hq, haft.pre (fun target h => hstep _ fun acts => by rw [doInvoke_state]; exact h)⟩
  · exact hT
  · exact fun _ => X₁.warmed
theorem oxRunV (hM : oxM l y ws rm Pc Qe mc ms free) (hblind : FrameBlind Pc) (hx : p.tables.exec = Jvm.exec) (hown : s.vm.findClass own = some m.cls) (hws : ∀ w ∈ ws, ∀ (a' : Array Value) (U : State), s.WarmedH U.vm → w.before a' U = true)
    (hlk : (Cond.methodLink own index y).before args s = true) (him : (Cond.instanceMethod y).before args s = true) {C : String} (hse : (Cond.selects C y y).before args s = true) (hini : ∀ (a' : Array Value) (U : State), s.WarmedH U.vm → (Cond.initialized y.cls).before a' U = true) (hy : y.cls ≠ "java/lang/invoke/MethodHandle" ∧ y.cls ≠ "java/lang/invoke/VarHandle")
    (hco : ∀ (a' : Array Value) (U : State), s.WarmedH U.vm → ∃ (mk : MethodId) (mY : Method) (cY : Code), U.methodNamed? y = some mk ∧ U.vm.method? mk = some mY ∧ mY.code = some cY ∧ cY.maxLocals = maxL ∧ parseMethodDescriptor y.desc = some mY.sig)
    {b : Addr} {cellB : Cell} (hcell : H[b]? = some cellB) (hobj : cellB.vm.isStatics = false) (hcls : s.vm.findClass C = some cellB.cls)
    (hlen : ∀ sig, parseMethodDescriptor y.desc = some sig → As.length = sig.parameters.length) (hrc : rm.cells = mc) (hrs : rm.slots = ms) (hfr : rm.frames + 1 ≤ R.frames) (hlo : 8 + (maxL + 11) + rm.locals ≤ R.locals) (hcs : cells + mc ≤ R.cells) (hss : slots + ms ≤ R.slots)
    (hg : g.method = m) (hsize : g.locals.size = c.maxLocals) (hstack : g.stack = As.reverse ++ .ref b :: rest) (hW : 2 * g.monitorRoom + (rest.map fun v => v.category).sum ≤ 8) (hdg : decode c.code g.pc = .ok (.invokevirtual index, 3)) (hPc : ∀ U : State, U.heap = H → s.WarmedH U.vm → Pc (Value.ref b :: As).toArray U) :
    oxRun p l e R s m args below meth c H locs cells slots mc ms g rest Qe free := by
  intro T hT X
  obtain ⟨mk, mY, hnamed, hmY, hstM, habM⟩ := Cond.instanceMethod_spec him
  obtain ⟨mk2, mY2, cY, hn2, hmY2, hcY, hlY, hsig⟩ := hco args s (State.WarmedH.refl s)
  cases Option.some.inj (hn2.symm.trans hnamed)
  cases Option.some.inj (hmY2.symm.trans hmY)
  obtain ⟨c2, r2, m2, q1, q2, q3, q4, kP, hkP, hkPi⟩ := Cond.selects_spec hse
  cases hcls.symm.trans q1
  cases (State.methodFound?_of_named hnamed hy).symm.trans q2
  cases hnamed.symm.trans q3
  have hselP : selectMethod e.platform s.vm cellB.cls mk = .method mk := by rw [Launch.admits_selectMethod X.admits]; exact q4
  obtain ⟨vm₁, X₁, hstep⟩ := X.invokevirtual hx hown hlk hnamed hmY hstM hkP hkPi hy (a := b) (cell := cellB) (by rw [hT]; exact hcell)
    (fun z h => by rw [h] at hobj; cases hobj) hselP hmY habM hkP hkPi (g := g) hg (argsL := As) (rest := rest) (hlen _ hsig) hstack hdg
  obtain ⟨mk', mY', cY', hnamed', hmY', hcY', hlY', -⟩ := hco (Value.ref b :: As).toArray (T.setVm vm₁) X₁.warmed
  cases Option.some.inj (hnamed'.symm.trans (X₁.named hnamed))
  obtain ⟨o, t, T', L, X', hL, e1, e2, hq, haft⟩ := oxCore hM X₁ (maxL := maxL) hrc hrs hfr hlo hcs hss (g := { g with stack := rest }) hg hsize hdg hW hnamed' hmY' hcY' hlY' (fun w hw => hws w hw _ _ X₁.warmed) (hini _ _ X₁.warmed) (hblind _ _ _ _ (hPc _ hT X₁.warmed))
  refine ⟨o, _, t, T', L, ?_, ?_, X', hL, e1, e2, hq, haft.pre (fun target h => hstep _ fun acts => by rw [doInvoke_state]; exact h)⟩
  · exact hT
  · exact fun _ => X₁.warmed
end Runs
section Calls
variable {sc : XT} {k : Nat} {lv : List (Nat × AV)} {w : NW} {cells slots : Nat} {Q : QT}
/-- behind a call that returns or throws -/
theorem go_run {B : Nat} {D : va_G} {ca : CA} {p : Program} {l : Launch} {e : Env} {R : Room} {s : State} {m : MethodId} {args : Array Value} {below : List Frame} {meth : Method} {c : Code} {A : Nat → Prop} {H : Heap} {locs : List Loc} {ls : Array Slot} {pc n z : Nat} {st0 : List Value} {rst : List AV} {Qs : State → Prop} {Q' : QT}
    (hA : ∀ q, s.heap.size ≤ q → A q) (hw : Wd B D ca A s.heap cells w H locs) (hfz : ∀ v w', Q' (.inl v) w' → w'.2.1 = true → H.size = s.heap.size + cells) (hfx : ∀ E w', Q' (.inr E) w' → w'.2.1 = false)
    (hr : oxRun p l e R s m args below meth c H locs cells slots n z (F0 m pc ls st0) (gs B rst) (Qo B D ca (AR B w.1 H.size) n Q') (AR B w.1 H.size))
    (kk : ∀ (v : Option AV) (w' : NW) (H1 : Heap) (locs1 : List Loc), Q' (.inl v) w' → Wd B D ca A s.heap (cells + n) w' H1 locs1 → W p l e R s m args below meth c H1 locs1 (cells + n) (slots + z) Qs (F0 m (pc + 3) ls (gs B (v.toList ++ rst))))
    (kx : ∀ (E : String) (w' : NW) (H1 : Heap) (locs1 : List Loc) (q : Addr) (ce : Cell), Q' (.inr E) w' → Wd B D ca A s.heap (cells + n) w' H1 locs1 → H1[q]? = some ce → ce.vm = .none → s.vm.findClass E = some ce.cls → oxW p l e R s m args below meth c H1 locs1 (cells + n) (slots + z) Qs (F0 m pc ls (gs B rst)) q) :
    W p l e R s m args below meth c H locs cells slots Qs (F0 m pc ls st0) := by
  intro T hT X
  have hsub := AR_sub hw hA
  obtain ⟨o, st₀, t, T', L, h0, hW0, X', hL, e1, e2, hq, haft⟩ := hr T hT X
  have key : ∀ w' : NW, Bd B D ca (AR B w.1 H.size) n w' st₀ t → va_F (AR B w.1 H.size) st₀ t → (w'.2.1 = true → H.size = s.heap.size + cells) → Wd B D ca A s.heap (cells + n) w' T'.heap (locs ++ L) := by
    rintro w' ⟨b1, b2, b3, b4⟩ ⟨f1, f2⟩ hz
    rw [h0] at f1 f2 b3
    refine ⟨by rw [e1]; exact b1, b2.weaken (fun k q hk h => hsub _ h), ⟨?_, ?_, ?_⟩, fun z => ?_, b4⟩
    · rw [e1]; exact Nat.le_trans hw.2.2.1.1 f1
    · intro q h1 h2
      rw [e1, f2 q (Nat.lt_of_lt_of_le h1 hw.2.2.1.1) (fun z => h2 (hsub q z))]
      exact hw.2.2.1.2.1 q h1 h2
    · intro q h
      rcases List.mem_append.mp h with h | h
      · exact hw.2.2.1.2.2 q h
      · exact hsub _ (hL q h)
    · have h8 := b3 z
      have h9 := hz z
      omega
  cases o with
  | returned v =>
    obtain ⟨v0, w', rfl, h1, h2, h3⟩ := hq
    obtain ⟨t2, a1, b5⟩ := kk v0 w' T'.heap (locs ++ L) h1 (key w' h2 h3 (hfz v0 w' h1)) T' rfl X'
    refine ⟨t2, Steps.trans haft ?_, b5⟩
    have e9 : (v0.map (gv B)).toList ++ gs B rst = gs B (v0.toList ++ rst) := by cases v0 <;> rfl
    show Steps p.tables e below (T'.setTop { F0 m pc ls st0 with pc := pc + 3, stack := (v0.map (gv B)).toList ++ gs B rst }) t2
    rw [e9]
    exact a1
  | threw q =>
    obtain ⟨E, w', ce, ⟨c1, c2, c3⟩, h1, h2, h3⟩ := hq
    obtain ⟨t2, a1, b5⟩ := kx E w' T'.heap (locs ++ L) q ce h1 (key w' h2 h3 (fun z => by rw [hfx E w' h1] at z; cases z)) (by rw [e1]; exact c1) c2 (by rw [← (hW0 ⟨q, rfl⟩).alike.findClass]; exact c3) T' rfl X'
    exact ⟨t2, Steps.trans haft a1, b5⟩
theorem PcB_of {B : Nat} {D : va_G} {ca : CA} {A : Nat → Prop} {s U : State} {H : Heap} {locs : List Loc} (hw : Wd B D ca A s.heap cells w H locs) (hA : ∀ q, s.heap.size ≤ q → A q) (hK : va_K D vwCl (tyT ca) s) (hX : stX A s s.heap) (hR : stR s) (hz : w.2.1 = true → H.size = B + w.1) (hU : U.heap = H) (hW : s.WarmedH U.vm) : PcB B D ca w H.size U :=
  ⟨by rw [hU], by rw [hU]; exact hw.1, va_K.moved hW.alike hK, hw.2.1.weaken (fun _ _ _ _ => trivial), by rw [hU]; exact ((hX.kept hw.2.2.1.2.1).moved hW.alike).narrow (AR_sub hw hA), stR.warm hW hR, hz, hw.2.2.2.2⟩
theorem co_of {k : Nat} {s : State} {args : Array Value} (hts : ∀ w ∈ AW_, w.before args s = true) (h : Cond.code (yn k) (cc k) (mL k) (rt k) ∈ AW_ ∨ Cond.codeWith (yn k) (cc k) (mL k) (rt k) (hh k) ∈ AW_) : ∀ (a' : Array Value) (U : State), s.WarmedH U.vm → ∃ (mk : MethodId) (mY : Method) (cY : Code), U.methodNamed? (yn k) = some mk ∧ U.vm.method? mk = some mY ∧ mY.code = some cY ∧ cY.maxLocals = mL k ∧ parseMethodDescriptor (yn k).desc = some mY.sig := by
  intro a' U hW
  rcases h with h | h
  · have h1 := pay_in hts gAW _ h a' U hW
    obtain ⟨mk, hn⟩ := Cond.named_of_code h1
    obtain ⟨mY, cY, h2, h3, -, h4, -, -, -, h5⟩ := Cond.code_spec hn h1
    exact ⟨mk, mY, cY, hn, h2, h3, h4, h5⟩
  · have h1 := pay_in hts gAW _ h a' U hW
    obtain ⟨mk, mY, cY, hn, h2, h3, -, h4, -, -, -, h5⟩ := Cond.codeWith_spec h1
    exact ⟨mk, mY, cY, hn, h2, h3, h4, h5⟩
def MK (k : Nat) : Prop := Cond.initialized (RN (mo k)) ∈ AW_ ∧ plainName (RN (mo k)) = true ∧ (RN (mo k) ≠ "java/lang/invoke/MethodHandle" ∧ RN (mo k) ≠ "java/lang/invoke/VarHandle") ∧ (parseMethodDescriptor (ds k)).map (fun d => d.parameters.length) = some (np k) ∧ k ≠ LAW ∧ ((hh k = [] ∧ Cond.code (yn k) (cc k) (mL k) (rt k) ∈ AW_) ∨ Cond.codeWith (yn k) (cc k) (mL k) (rt k) (hh k) ∈ AW_)
theorem gsub {ws : List Cond} (h : ∀ w ∈ ws, w ∈ AW_) : GoodIn AW_ ws := fun w hw => gAW w (h w hw)
theorem gs_len (B : Nat) (as : List AV) : (gs B as).length = as.length := by simp [gs]
theorem gs_cat (B : Nat) (as : List AV) : ((gs B as).map fun v => v.category).sum = (as.map ct1).sum := by
  induction as with
  | nil => rfl
  | cons v vs ih =>
    show (((gv B v).category :: (gs B vs).map fun v => v.category).sum) = (ct1 v :: vs.map ct1).sum
    rw [List.sum_cons, List.sum_cons, ct1_gv, ih]
/-- a virtual call -/
theorem Sem.callV {pc idx k' t i : Nat} {as rst : List AV} {Q' : QT} (hd : decode (cc k) pc = .ok (.invokevirtual idx, 3)) (hM : MK k') (hnh : hh k' = []) (hco : Cond.code (yn k') (cc k') (mL k') (rt k') ∈ AW_)
    (hlk : Cond.methodLink (RN (mo k)) idx (yn k') ∈ AW_) (him : Cond.instanceMethod (yn k') ∈ AW_) (hse : Cond.selects (RN (mo k')) (yn k') (yn k') ∈ AW_) (hkt : kd t = (3, mo k')) (hv : vld w.1 t i) (hfz : w.2.1 = false) (hq1 : ∀ v w', Q' (.inl v) w' → w'.2.1 = false) (hq2 : ∀ E w', Q' (.inr E) w' → w'.2.1 = false)
    (hlen : ((aR t i :: as).map ct1).sum ≤ mL k') (hn : as.length = np k') (hrs : (rst.map ct1).sum ≤ 8) (hfr : fr k' + 1 ≤ fr k) (hlo : 8 + (mL k' + 11) + lo k' ≤ lo k) (hc : cells + mc k' ≤ mc k) (hs : slots + ms k' ≤ ms k)
    (hS : Sem sc k' 0 (aArgs 0 (aR t i :: as)) [] w 0 0 Q')
    (kk : ∀ v w', Q' (.inl v) w' → Sem sc k (pc + 3) lv (v.toList ++ rst) w' (cells + mc k') (slots + ms k') Q) (kx : ∀ E w', Q' (.inr E) w' → SemX sc k pc lv E w' (cells + mc k') (slots + ms k') Q) :
    Sem sc k pc lv (as.reverse ++ aR t i :: rst) w cells slots Q := by
  intro B D ca p l e R s m args below meth c A C H locs ls hl hw
  obtain ⟨⟨hx, hb, hmx, hrt, hlks⟩, ⟨hown, hts, hst, r1, r2, r3, r4⟩, ⟨hK, hA, het, hin⟩, ⟨hX, hR, hlaw⟩⟩ := id C
  obtain ⟨m1, m2, m3, m4, m5, -⟩ := hM
  obtain ⟨C9, T9, ty9, c1, -⟩ := ck_ok hkt
  have hC9 : C9 = RN (mo k') := vwCl_name c1
  have he := wsO_at (B := B) (ca := ca) (w := w) hv
  rw [en_obj hkt] at he
  have hg0 : GoodIn AW_ (wsM k') := gsub (fun w9 h9 => by
    rcases List.mem_cons.mp h9 with rfl | h9
    · exact hco
    · exact h9)
  have hrecv := va_recv (cl := vwCl) hK hw.1 c1 he
  rw [hC9] at hrecv
  obtain ⟨cellB, hr1, hr2, hr3⟩ := hrecv
  refine go_run (Q' := Q') hA hw (fun v w' h z => by rw [hq1 v w' h] at z; cases z) hq2 (oxRunV (As := gs B as) (rest := gs B rst) (hS.met m5 m2 hnh hlen hst B D ca H.size) PcM.blind hx hown (pay_in hts hg0) (hts _ hlk) (hts _ him) (hts _ hse) (fun a' U hW => pay_in hts gAW _ m1 a' U hW) m3 (co_of hts (Or.inl hco)) hr1 hr2 hr3 (fun sig h => by rw [gs_len, hn]; have h9 := m4; rw [show parseMethodDescriptor (ds k') = some sig from h] at h9; exact (Option.some.inj h9).symm) rfl rfl (Nat.le_trans hfr r1) (Nat.le_trans hlo r2) (Nat.le_trans hc r3) (Nat.le_trans hs r4) rfl (hl.1.trans hmx.symm) (by simp [gs, List.map_append, List.map_reverse, gv]) (lv_room (by rw [gs_cat]; exact hrs)) (by rw [hb]; exact hd) (fun U hU hW => ⟨rfl, PcB_of hw hA hK hX.1 hR (fun z => by rw [hfz] at z; cases z) hU hW⟩)) ?_ ?_
  · intro v w' H1 locs1 hq hw1
    exact kk v w' hq B D ca p l e R s m args below meth c A C H1 locs1 ls hl hw1
  · intro E w' H1 locs1 q ce hq hw1 h1 h2 h3
    exact kx E w' hq B D ca p l e R s m args below meth c A C H1 locs1 ls _ q ce hl hw1 h1 h2 h3
/-- a static call -/
theorem Sem.callS {pc idx k' : Nat} {as rst : List AV} {Q' : QT} (hd : decode (cc k) pc = .ok (.invokestatic idx, 3)) (hM : MK k') (hnh : hh k' = []) (hco : Cond.code (yn k') (cc k') (mL k') (rt k') ∈ AW_)
    (hlk : Cond.methodLink (RN (mo k)) idx (yn k') ∈ AW_) (hstt : Cond.static (yn k') ∈ AW_) (hfz : w.2.1 = false) (hq1 : ∀ v w', Q' (.inl v) w' → w'.2.1 = false) (hq2 : ∀ E w', Q' (.inr E) w' → w'.2.1 = false)
    (hlen : (as.map ct1).sum ≤ mL k') (hn : as.length = np k') (hrs : (rst.map ct1).sum ≤ 8) (hfr : fr k' + 1 ≤ fr k) (hlo : 8 + (mL k' + 11) + lo k' ≤ lo k) (hc : cells + mc k' ≤ mc k) (hs : slots + ms k' ≤ ms k)
    (hS : Sem sc k' 0 (aArgs 0 as) [] w 0 0 Q')
    (kk : ∀ v w', Q' (.inl v) w' → Sem sc k (pc + 3) lv (v.toList ++ rst) w' (cells + mc k') (slots + ms k') Q) (kx : ∀ E w', Q' (.inr E) w' → SemX sc k pc lv E w' (cells + mc k') (slots + ms k') Q) :
    Sem sc k pc lv (as.reverse ++ rst) w cells slots Q := by
  intro B D ca p l e R s m args below meth c A C H locs ls hl hw
  obtain ⟨⟨hx, hb, hmx, hrt, hlks⟩, ⟨hown, hts, hst, r1, r2, r3, r4⟩, ⟨hK, hA, het, hin⟩, ⟨hX, hR, hlaw⟩⟩ := id C
  obtain ⟨m1, m2, m3, m4, m5, -⟩ := hM
  have hg0 : GoodIn AW_ (wsM k') := gsub (fun w9 h9 => by
    rcases List.mem_cons.mp h9 with rfl | h9
    · exact hco
    · exact h9)
  refine go_run (Q' := Q') hA hw (fun v w' h z => by rw [hq1 v w' h] at z; cases z) hq2 (oxRunS (As := gs B as) (rest := gs B rst) (hS.met m5 m2 hnh hlen hst B D ca H.size) PcM.blind hx hown (pay_in hts hg0) (hts _ hlk) (hts _ hstt) (fun a' U hW => pay_in hts gAW _ m1 a' U hW) m3 (co_of hts (Or.inl hco)) (fun sig h => by rw [gs_len, hn]; have h9 := m4; rw [show parseMethodDescriptor (ds k') = some sig from h] at h9; exact (Option.some.inj h9).symm) rfl rfl (Nat.le_trans hfr r1) (Nat.le_trans hlo r2) (Nat.le_trans hc r3) (Nat.le_trans hs r4) rfl (hl.1.trans hmx.symm) (by simp [gs, List.map_append, List.map_reverse]) (lv_room (by rw [gs_cat]; exact hrs)) (by rw [hb]; exact hd) (fun U hU hW => ⟨rfl, PcB_of hw hA hK hX.1 hR (fun z => by rw [hfz] at z; cases z) hU hW⟩)) ?_ ?_
  · intro v w' H1 locs1 hq hw1
    exact kk v w' hq B D ca p l e R s m args below meth c A C H1 locs1 ls hl hw1
  · intro E w' H1 locs1 q ce hq hw1 h1 h2 h3
    exact kx E w' hq B D ca p l e R s m args below meth c A C H1 locs1 ls _ q ce hl hw1 h1 h2 h3
/-- a static call of a method with handlers -/
theorem Sem.callSH {pc idx k' : Nat} {as rst : List AV} {Q' : QT} (hd : decode (cc k) pc = .ok (.invokestatic idx, 3)) (hM : MK k') (hco : Cond.codeWith (yn k') (cc k') (mL k') (rt k') (hh k') ∈ AW_)
    (hlk : Cond.methodLink (RN (mo k)) idx (yn k') ∈ AW_) (hstt : Cond.static (yn k') ∈ AW_) (hfz : w.2.1 = false) (hq1 : ∀ v w', Q' (.inl v) w' → w'.2.1 = false) (hq2 : ∀ E w', Q' (.inr E) w' → w'.2.1 = false)
    (hlen : (as.map ct1).sum ≤ mL k') (hn : as.length = np k') (hrs : (rst.map ct1).sum ≤ 8) (hfr : fr k' + 1 ≤ fr k) (hlo : 8 + (mL k' + 11) + lo k' ≤ lo k) (hc : cells + mc k' ≤ mc k) (hs : slots + ms k' ≤ ms k)
    (hS : Sem sc k' 0 (aArgs 0 as) [] w 0 0 Q')
    (kk : ∀ v w', Q' (.inl v) w' → Sem sc k (pc + 3) lv (v.toList ++ rst) w' (cells + mc k') (slots + ms k') Q) (kx : ∀ E w', Q' (.inr E) w' → SemX sc k pc lv E w' (cells + mc k') (slots + ms k') Q) :
    Sem sc k pc lv (as.reverse ++ rst) w cells slots Q := by
  intro B D ca p l e R s m args below meth c A C H locs ls hl hw
  obtain ⟨⟨hx, hb, hmx, hrt, hlks⟩, ⟨hown, hts, hst, r1, r2, r3, r4⟩, ⟨hK, hA, het, hin⟩, ⟨hX, hR, hlaw⟩⟩ := id C
  obtain ⟨m1, m2, m3, m4, m5, -⟩ := hM
  have hg0 : GoodIn AW_ (wsW k') := gsub (fun w9 h9 => by
    rcases List.mem_cons.mp h9 with rfl | h9
    · exact hco
    · exact h9)
  refine go_run (Q' := Q') hA hw (fun v w' h z => by rw [hq1 v w' h] at z; cases z) hq2 (oxRunS (As := gs B as) (rest := gs B rst) (hS.metW m5 m2 hlen hst B D ca H.size) PcM.blind hx hown (pay_in hts hg0) (hts _ hlk) (hts _ hstt) (fun a' U hW => pay_in hts gAW _ m1 a' U hW) m3 (co_of hts (Or.inr hco)) (fun sig h => by rw [gs_len, hn]; have h9 := m4; rw [show parseMethodDescriptor (ds k') = some sig from h] at h9; exact (Option.some.inj h9).symm) rfl rfl (Nat.le_trans hfr r1) (Nat.le_trans hlo r2) (Nat.le_trans hc r3) (Nat.le_trans hs r4) rfl (hl.1.trans hmx.symm) (by simp [gs, List.map_append, List.map_reverse]) (lv_room (by rw [gs_cat]; exact hrs)) (by rw [hb]; exact hd) (fun U hU hW => ⟨rfl, PcB_of hw hA hK hX.1 hR (fun z => by rw [hfz] at z; cases z) hU hW⟩)) ?_ ?_
  · intro v w' H1 locs1 hq hw1
    exact kk v w' hq B D ca p l e R s m args below meth c A C H1 locs1 ls hl hw1
  · intro E w' H1 locs1 q ce hq hw1 h1 h2 h3
    exact kx E w' hq B D ca p l e R s m args below meth c A C H1 locs1 ls _ q ce hl hw1 h1 h2 h3
/-- an exception that nobody catches here -/
theorem SemX.out {pc : Nat} {E : String} (hnh : ∀ x ∈ tableOf (hh k), covers x pc = false) (hc : cells ≤ mc k) (hs : slots ≤ ms k) (hz : w.2.1 = false) (hQ : Q (.inr E) w) : SemX sc k pc lv E w cells slots Q := by
  intro B D ca p l e R s m args below meth c A C H locs ls rest q ce hl hw h1 h2 h3
  obtain ⟨⟨hx, hb, hmx, hrt, hlks⟩, ⟨hown, hts, hst, r1, r2, r3, r4⟩, ⟨hK, hA, het, hin⟩, ⟨hX, hR, hlaw⟩⟩ := id C
  intro T hT X
  have X2 := stand_widen X hc hs
  obtain ⟨h4, h5, h6, h7, h8⟩ := X2.leaveThrown q (g := F0 m pc ls rest) rfl rfl rfl (fun x hx9 => hnh x (by rw [← het]; exact hx9)) hlks
  exact ⟨_, h4, .threw q, h5, h6, ⟨E, w, ce, ⟨by show T.heap[q]? = some ce; rw [hT]; exact h1, h2, h3⟩, hQ, hw.bd hT (fun z => by rw [hz] at z; cases z), hw.2.2.1.F hT⟩, h7, locs, h8, hw.2.2.1.2.2⟩
/-- an exception that is caught here -/
theorem SemX.catch {pc en9 : Nat} (he3 : en9 < 3) (pre : List ExceptionTableEntry) (x : ExceptionTableEntry) (suf : List ExceptionTableEntry) (hsplit : tableOf (hh k) = pre ++ x :: suf)
    (hpass : ∀ z ∈ pre, covers z pc = false ∨ (z.catchType ≠ 0 ∧ ∃ nm : String, Cond.classLink (RN (mo k)) z.catchType nm ∈ AW_ ∧ (EX en9, nm) ∈ ncT)) (hx0 : covers x pc = true) (h0 : x.catchType ≠ 0)
    (hlink : Cond.classLink (RN (mo k)) x.catchType (EX en9) ∈ AW_)
    (kk : ∀ q : Nat, Sem sc k x.handlerPc lv [aV (.ref q)] w cells slots Q) : SemX sc k pc lv (EX en9) w cells slots Q := by
  intro B D ca p l e R s m args below meth c A C H locs ls rest q ce hl hw h1 h2 h3
  obtain ⟨⟨hx, hb, hmx, hrt, hlks⟩, ⟨hown, hts, hst, r1, r2, r3, r4⟩, ⟨hK, hA, het, hin⟩, ⟨hX, hR, hlaw⟩⟩ := id C
  intro T hT X
  have hpl : e.platform.magicAccessors = ({} : Platform).magicAccessors := by rw [X.admits.platform]
  obtain ⟨c4, hc4, hasg⟩ := hR.2.2.2.2.1 en9 he3
  cases Option.some.inj (hc4.symm.trans h3)
  obtain ⟨c5, hc5, hcl5⟩ := Cond.classLink_spec hown (hts _ hlink) e.platform hpl
  cases Option.some.inj (hc4.symm.trans hc5)
  obtain ⟨k9, hk9, -⟩ := Vm.findClass_spec h3
  obtain ⟨vm', hW', hf⟩ := oxFinds (e := e) (s₀ := s) (S := (T.setTop (F0 m pc ls rest)).pushFrame (.throwing q)) (f := F0 m pc ls rest) (a := q) (meth := meth) (code := c) (cell := ce) X.method' X.code X.warmed (by show T.heap[q]? = some ce; rw [hT]; exact h1) (fun z h => by rw [h2] at h; cases h) ⟨k9, hk9⟩ pre x suf (by rw [het]; exact hsplit) (fun z hz => by
    rcases hpass z hz with h | ⟨h4, nm9, h5, h6⟩
    · exact Or.inl h
    · obtain ⟨c6, hc6, hcl6⟩ := Cond.classLink_spec hown (hts _ h5) e.platform hpl
      obtain ⟨a8, b8, g1, g2, g3⟩ := hR.2.1 _ h6
      cases Option.some.inj (g1.symm.trans h3)
      cases Option.some.inj (g2.symm.trans hc6)
      exact Or.inr ⟨h4, _, hcl6, g3⟩) hx0 h0 hcl5 hasg
  obtain ⟨t, a1, b1⟩ := kk q B D ca p l e R s m args below meth c A C H locs ls hl hw (T.setVm vm') hT (X.noted hW')
  exact ⟨t, oxCaught X.here hf a1, b1⟩
end Calls
