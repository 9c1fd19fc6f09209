-- ===== throws, new cells, the library's own methods =====
theorem le_loc {B n x y : Nat} {st : List AV} (h : (st.map ct1).sum + n ≤ x) (h2 : x ≤ y) : ((gs B st).map fun v => v.category).sum + n ≤ y := by rw [gs_cat]; exact Nat.le_trans h h2
section More
variable {sc : XT} {k pc : Nat} {lv : List (Nat × AV)} {st : List AV} {w : NW} {cells slots : Nat} {Q : QT}
/-- the same frame, with the heap as it stands for its start -/
theorem anew {p : Program} {l : Launch} {e : Env} {R : Room} {s : State} {m : MethodId} {args : Array Value} {below : List Frame} {meth : Method} {c : Code} {T : State} {locs : List Loc} (X : Stand p l e R s m args below meth c T locs cells slots) {nc ns : Nat} (hc : cells + nc ≤ R.cells) (hs : slots + ns ≤ R.slots) :
    Stand p l e { frames := R.frames, locals := R.locals, cells := nc, slots := ns } ((T.setVm s.vm).setFrames (.invoking m args :: below)) m args below meth c T [] 0 0 := by
  have htop : (T.setVm s.vm).topJava?.isSome := X.here.top
  obtain ⟨g₀, hg0⟩ := Option.isSome_iff_exists.mp htop
  obtain ⟨r, hr⟩ := State.topJava?_eq_some.mp hg0
  have hF : ((T.setVm s.vm).setFrames (.invoking m args :: below)).frames = .invoking m args :: below := State.frames_setFrames _ (State.cur_lt_of_top htop)
  have hlim : e.platform.stackLimits (T.setVm s.vm).me = e.platform.stackLimits s.me := X.limits
  have hbyt : (T.setVm s.vm).me.stackBytes = s.me.stackBytes := X.bytes
  have hnil : ((T.heap.toList.drop T.heap.size).map (·.slots.size)).sum = 0 := by
    rw [List.drop_eq_nil_of_le (Nat.le_of_eq Array.length_toList)]; rfl
  refine ⟨X.admits, X.cas, X.clock, hF, ?_, X.hears, X.method, X.code, X.here, X.tail, X.warmed, by rw [State.stackLimits_setFrames]; rfl, by rw [State.stackBytes_setFrames]; rfl, ?_⟩
  · have h := X.room
    have hU : ((T.setVm s.vm).setFrames (.invoking m args :: below)).localsInUse = s.localsInUse := by
      rw [State.localsInUse_invoking hF (meth := meth) (c := c) X.method X.code, State.localsInUse_invoking X.frames X.method X.code]
    simp only [State.hasRoom, Bool.and_eq_true, decide_eq_true_eq] at h ⊢
    obtain ⟨⟨⟨⟨h1, h2, h3, h4, h5, h6⟩, h7⟩, h8⟩, h9⟩ := h
    rw [X.frames, List.length_cons] at h2 h3
    have q1 := X.heapSize
    have q2 := X.used
    simp only [hF, hU, List.length_cons, State.stackLimits_setFrames, State.stackBytes_setFrames, hlim, hbyt]
    refine ⟨⟨⟨⟨by omega, by omega, by omega, by omega, by omega, h6⟩, ?_⟩, ?_⟩, X.book⟩
    · show T.heap.size + nc ≤ e.platform.maxCells
      omega
    · show T.slotsUsed + ns ≤ e.platform.maxSlots
      omega
  · refine ⟨?_, Nat.le_refl _, Nat.le_refl _, ?_, ?_, fun a c9 h9 => ⟨c9, h9, rfl, rfl, fun _ _ => rfl⟩⟩
    · obtain ⟨th, hth, -⟩ := State.frames_cons hr
      show T.setVm s.vm = { ((T.setVm s.vm).setFrames (.invoking m args :: below)).setFrames (T.setVm s.vm).frames with heap := T.heap, slotsUsed := T.slotsUsed }
      rw [State.setFrames_setFrames, State.setFrames_self hth]
      rfl
    · show T.slotsUsed = T.slotsUsed + ((T.heap.toList.drop T.heap.size).map (·.slots.size)).sum
      rw [hnil]; rfl
    · show ((T.heap.toList.drop T.heap.size).map (·.slots.size)).sum ≤ 0
      rw [hnil]
      exact Nat.le_refl _
theorem same_at {s U : State} {n z : Nat} (h : s.sameButNew ({ U with vm := s.vm } : State) [] n z) : s.heap.size ≤ U.heap.size ∧ ∀ q : Nat, q < s.heap.size → U.heap[q]? = s.heap[q]? := by
  obtain ⟨-, h2, -, -, -, h6⟩ := h
  refine ⟨h2, fun q hq => ?_⟩
  have hc : s.heap[q]? = some s.heap[q] := Array.getElem?_eq_getElem hq
  obtain ⟨c', h7, h8, h9, h10⟩ := h6 q _ hc
  have h7' : U.heap[q]? = some c' := h7
  rw [h7', hc]
  have hsl : c'.slots = (s.heap[q]).slots := by
    apply Array.ext_getElem?
    intro i
    exact h10 i (fun z => nomatch z)
  rw [h8, hsl]
theorem Sem.throw {ik is ic en9 : Nat} (he3 : en9 < 3) {E text : String} (hEn : E = EX en9) {names : List String} (d0 : decode (cc k) pc = .ok (.new ik, 3)) (d3 : decode (cc k) (pc + 3) = .ok (.dup, 1)) (d4 : decode (cc k) (pc + 4) = .ok (.ldc is, 2)) (d6 : decode (cc k) (pc + 6) = .ok (.invokespecial ic, 3)) (d9 : decode (cc k) (pc + 9) = .ok (.athrow, 1))
    (hE : Bundle.fit E = true) (hnm : ∀ n ∈ names, Bundle.fit n = true) (hk : Cond.classLink (RN (mo k)) ik E ∈ AW_) (hini : Cond.initialized E ∈ AW_) (hins : Cond.instantiable E 6 ∈ AW_) (hstr : (RN (mo k), is, text) ∈ strT)
    (hat : ∀ w ∈ Bundle.ownAtoms (RN (mo k)) ic E names, w ∈ AW_ ∨ w ∈ ([.laysStatic Bundle.tN "UNASSIGNED_STACK" Bundle.steD, .isRef (.static Bundle.tN "UNASSIGNED_STACK" Bundle.steD), .laysStatic Bundle.tN "SUPPRESSED_SENTINEL" Bundle.listD, .isRef (.static Bundle.tN "SUPPRESSED_SENTINEL" Bundle.listD), .castable E E, .declares (Bundle.initS (DX 0)), .declares (Bundle.initS (DX 1)), .declares (Bundle.initS (DX 2))] : List Cond)) (hnh : ∀ x ∈ tableOf (hh k), covers x (pc + 9) = false)
    (hfr : names.length + 3 < fr k) (hlo : (st.map ct1).sum + (13 * (names.length + 1) + 43) ≤ lo k) (hc : cells + 1 ≤ mc k) (hs : slots + 6 ≤ ms k) (hz : w.2.1 = false) (hQ : Q (.inr E) w) : Sem sc k pc lv st w cells slots Q := by
  intro B D ca p l e R s0 m args below meth c A C H locs ls hl hw T hT X0
  obtain ⟨⟨hx, hb, hmx, hrt, hlks⟩, ⟨hown0, hts0, hst, r1, r2, r3, r4⟩, ⟨hK, hA, het, hin⟩, ⟨hX, hR, hlaw⟩⟩ := id C
  have X := anew X0 (nc := 1) (ns := 6) (Nat.le_trans hc r3) (Nat.le_trans hs r4)
  obtain ⟨s, hsd⟩ : ∃ z, z = (T.setVm s0.vm).setFrames (.invoking m args :: below) := ⟨_, rfl⟩
  rw [← hsd] at X
  have hvm : s.vm = s0.vm := by rw [hsd]; rfl
  have hhp : s.heap = H := by rw [hsd]; exact hT
  have hW0 : s0.WarmedH s.vm := by rw [hvm]; exact State.WarmedH.refl s0
  have hts : ∀ w ∈ AW_, w.before args s = true := fun w9 h9 => pay_in hts0 gAW w9 h9 args s hW0
  have hown : s.vm.findClass (RN (mo k)) = some m.cls := by rw [hvm]; exact hown0
  have hX1 : oxT "UNASSIGNED_STACK" Bundle.steD A s s.heap := by rw [hhp]; exact (hX.1.1.kept hw.2.2.1.2.1).moved hW0.alike
  have hX2 : oxT "SUPPRESSED_SENTINEL" Bundle.listD A s s.heap := by rw [hhp]; exact (hX.1.2.kept hw.2.2.1.2.1).moved hW0.alike
  obtain ⟨sa, hsa0⟩ := hR.1 _ hstr
  have hsa : vk_R (RN (mo k)) is text sa s := vk_R.warm hW0 hsa0
  have htr : e.platform.stackTraces = false := (show e.platform.stackTraces = l.stackTraces by rw [X.admits.platform]).trans hst
  have hall : ∀ w ∈ Bundle.ownAtoms (RN (mo k)) ic E names, w.before args s = true := fun w9 h9 => by
    rcases hat w9 h9 with h | h
    · exact hts _ h
    · simp only [List.mem_cons, List.not_mem_nil, or_false] at h
      rcases h with rfl | rfl | rfl | rfl | rfl | rfl | rfl | rfl
      · exact (hX1.word).1
      · exact (hX1.word).2
      · exact (hX2.word).1
      · exact (hX2.word).2
      · rw [hEn]
        exact (((hR.2.2.2.2.1 en9 he3).moved hW0.alike)).word
      · exact va_Nw.use rfl (va_Nw.warmD hW0 (hR.2.2.2.2.2 0 (by decide)))
      · exact va_Nw.use rfl (va_Nw.warmD hW0 (hR.2.2.2.2.2 1 (by decide)))
      · exact va_Nw.use rfl (va_Nw.warmD hW0 (hR.2.2.2.2.2 2 (by decide)))
  obtain ⟨vm₁, cX, kX, hfX, hkX, -, -, X₁, hst1⟩ := X.newCold hx (own := RN (mo k)) (C := E) (index := ik) (n := 6) hown (hts _ hk) (hts _ hins) (hts _ hini) (g := F0 m pc ls (gs B st)) rfl (by rw [hb]; exact d0) (Nat.le_refl _) (Nat.le_refl _)
  generalize hT1 : (T.setVm vm₁).pushCell { cls := cX, slots := kX.instanceTypes.map defaultValue, vm := .none } = T1 at X₁ hst1
  have hsz : T.heap.size = s.heap.size := by rw [hT, hhp]
  have hcat : (Value.ref T.heap.size).category = 1 := rfl
  have hcellA : T1.heap[T.heap.size]? = some (freshCell cX kX) := by rw [← hT1]; exact State.heap_pushCell_size _ _
  have d3' : decode c.code (pc + 3) = .ok (.dup, 1) := by rw [hb]; exact d3
  have d4' : decode c.code (pc + 4) = .ok (.ldc is, 2) := by rw [hb]; exact d4
  have hargs : (Cond.stringRef (RN (mo k)) is text).before args s = true := hsa.1
  have hev : (Term.string (RN (mo k)) is).eval args s none [] s = some (.ref sa) := hsa.2
  obtain ⟨U, hsteps, hrun, hend, hW, hsame, ce, hce, hO⟩ := X₁.ctorThrowS hx htr (own := RN (mo k)) (cls := E) (names := names) (ic := ic) hown hE hnm hall (fun y hy => nomatch hy) hfX hkX hcellA (Nat.le_of_eq hsz.symm) (msg := .ref sa) rfl
    (g := { method := m, pc := pc + 6, locals := ls, stack := .ref sa :: .ref T.heap.size :: .ref T.heap.size :: gs B st, locked := none }) rfl (hl.1.trans hmx.symm) rfl rfl (rest := gs B st) rfl
    (by rw [hb]; exact d6) (by rw [hb]; exact d9) (fun x hx9 => hnh x (by rw [← het]; exact hx9)) (Nat.lt_of_lt_of_le hfr r1) (by have h9 := le_loc (B := B) hlo r2; simp only [List.map_cons, List.sum_cons, hcat]; show 2 * 0 + (1 + ((gs B st).map fun v => v.category).sum) + (13 * (names.length + 1) + 42) ≤ R.locals; omega) hlks
  obtain ⟨f1, f2⟩ := same_at hsame
  rw [hhp] at f1 f2
  have hWs : s0.WarmedH U.vm := State.WarmedH.trans hW0 hW
  have hlast : s0.sameButNew ({ U with vm := s0.vm } : State) locs (mc k) (ms k) := by
    subst hsd
    obtain ⟨e1, e2⟩ := hsame
    rw [State.setFrames_setFrames] at e1
    have h2 : (T.setVm s0.vm).sameButNew ({ U with vm := s0.vm } : State) [] (0 + 1) (0 + 6) := ⟨e1, e2⟩
    have h3 := X0.same.trans h2
    rw [List.append_nil] at h3
    exact h3.mono hc hs
  refine ⟨U, ?_, .threw T.heap.size, hrun, hend, ⟨E, w, ce, ⟨hce, hO.vm, ?_⟩, hQ, ⟨?_, hw.2.1, ?_, hw.2.2.2.2⟩, ?_, ?_⟩, hWs, locs, hlast, hw.2.2.1.2.2⟩
  · refine hst1 _ ?_
    show Steps p.tables e below (T1.setTop { method := m, pc := pc + 3, locals := ls, stack := .ref T.heap.size :: gs B st, locked := none }) _
    jvm_step X₁.here [X₁.here.top, hx, d3', Value.category]
    exact X₁.ldcString hx (own := RN (mo k)) (text := text) (index := is) (a := sa) hown hargs hev
      (g := { method := m, pc := pc + 4, locals := ls, stack := .ref T.heap.size :: .ref T.heap.size :: gs B st, locked := none }) rfl d4' _ hsteps
  · have h9 := hO.cls
    rw [hvm] at h9
    exact h9
  · exact hw.1.kept (fun k9 q9 h9 => f2 _ ((hw.1 k9 q9 h9).lt))
  · intro z
    rw [hz] at z
    cases z
  · exact Nat.le_trans hw.2.2.1.1 f1
  · intro q h1 h2
    rw [f2 q (Nat.lt_of_lt_of_le h1 hw.2.2.1.1)]
    exact hw.2.2.1.2.1 q h1 h2
/-- the next cell's place -/
theorem next_at {B : Nat} {D : va_G} {ca : CA} {A : Nat → Prop} {p : Program} {l : Launch} {e : Env} {R : Room} {s : State} {m : MethodId} {args : Array Value} {below : List Frame} {meth : Method} {c : Code} {H : Heap} {locs : List Loc} {T : State} (hw : Wd B D ca A s.heap cells w H locs) (hz : w.2.1 = true) (h0 : 0 < w.1 ∨ cells = 0) (hT : T.heap = H) (X : Stand p l e R s m args below meth c T locs cells slots) : H.size = B + w.1 ∧ H.size = s.heap.size + cells := by
  have h1 := X.heapSize
  rw [hT] at h1
  have h2 := hw.2.2.2.1 hz
  have h3 : B + w.1 ≤ H.size := by
    rcases h0 with h0 | h0
    · have h4 : (wsO B ca w)[w.1 - 1]? = some (B + (w.1 - 1), en B ca w (ky (w.1 - 1)).1 (ky (w.1 - 1)).2) := by
        simp [wsO, List.getElem?_map, List.getElem?_range (show w.1 - 1 < w.1 by omega)]
      have h5 : B + (w.1 - 1) < H.size := (hw.1 _ _ h4).lt
      omega
    · have := hw.2.2.1.1
      omega
  exact ⟨by omega, by omega⟩
def wS (w : NW) : NW := (w.1 + 1, w.2)
theorem wsO_S {B : Nat} {ca : CA} {w : NW} {t i : Nat} (hi : i < ct t) (ho : od t i = w.1) : wsO B ca (wS w) = wsO B ca w ++ [(B + w.1, en B ca w t i)] := by
  have hk : ky w.1 = (t, i) := by rw [← ho]; exact ky_od hi
  have e1 : ∀ t' i', en B ca (wS w) t' i' = en B ca w t' i' := fun t' i' => rfl
  unfold wsO
  show (List.range (w.1 + 1)).map _ = _
  rw [List.range_succ, List.map_append]
  simp [e1, hk]
theorem Wd.push {B : Nat} {D : va_G} {ca : CA} {A : Nat → Prop} {s : State} {H H1 : Heap} {locs : List Loc} {t i : Nat} (hw : Wd B D ca A s.heap cells w H locs) (hA : ∀ q, s.heap.size ≤ q → A q) (hi : i < ct t) (ho : od t i = w.1) (hN : w.1 < NN) (hsz : H.size = B + w.1) (hsz2 : H.size = s.heap.size + cells) (z1 : H1.size = H.size + 1) (o1 : ∀ q : Nat, q < H.size → H1[q]? = H[q]?) (he : va_at D vwCl (B + w.1, en B ca w t i) H1) : Wd B D ca A s.heap (cells + 1) (wS w) H1 locs := by
  have hk : ∀ (k : Nat) (x : Nat × va_E), (wsO B ca w)[k]? = some x → H1[x.1]? = H[x.1]? := fun k x hx => o1 x.1 ((hw.1 k x hx).lt)
  have hP1 : va_P D vwCl (wsO B ca w ++ [(B + w.1, en B ca w t i)]) H1 := (hw.1.kept hk).app (fun k x hx => by
    have hz : k < 1 := (List.getElem?_eq_some_iff.mp hx).1
    rw [show k = 0 by omega] at hx
    cases hx
    exact he)
  have hD1 : va_D A (wsO B ca w ++ [(B + w.1, en B ca w t i)]) := hw.2.1.push hw.1 hsz.symm (hA _ (by rw [← hsz]; exact hw.2.2.1.1))
  rw [← wsO_S hi ho] at hP1 hD1
  exact ⟨hP1, hD1, ⟨Nat.le_trans hw.2.2.1.1 (by omega), fun x h1 h2 => (o1 x (Nat.lt_of_lt_of_le h1 hw.2.2.1.1)).trans (hw.2.2.1.2.1 x h1 h2), hw.2.2.1.2.2⟩, fun _ => by show s.heap.size + (cells + 1) = B + (w.1 + 1); omega, hN⟩
theorem Sem.new {idx ci t i : Nat} (hd : decode (cc k) pc = .ok (.new idx, 3)) (hcl : Cond.classLink (RN (mo k)) idx (RN ci) ∈ AW_) (hins : Cond.instantiable (RN ci) (fn ci) ∈ AW_) (hini : Cond.initialized (RN ci) ∈ AW_) (hkt : kd t = (3, ci)) (hi : i < ct t) (ho : od t i = w.1) (hN : w.1 < NN) (hz : w.2.1 = true) (h0 : 0 < w.1 ∨ cells = 0) (hc : cells + 1 ≤ mc k) (hs : slots + fn ci ≤ ms k)
    (hd0 : ∀ j, w.2.2.1 t i j = 0 ∧ w.2.2.2.1 t i j = 0 ∧ w.2.2.2.2 t i j = none) (kk : Sem sc k (pc + 3) lv (aR t i :: st) (wS w) (cells + 1) (slots + fn ci) Q) : Sem sc k pc lv st w cells slots Q := by
  intro B D ca p l e R s m args below meth c A C H locs ls hl hw T hT X
  obtain ⟨⟨hx, hb, hmx, hrt, hlks⟩, ⟨hown, hts, hst, r1, r2, r3, r4⟩, ⟨hK, hA, het, hin⟩, ⟨hX, hR, hlaw⟩⟩ := id C
  obtain ⟨hsz, hsz2⟩ := next_at hw hz h0 hT X
  obtain ⟨C9, T9, ty, c1, c2, c3, c4, c5⟩ := ck_ok hkt
  have hC9 : C9 = RN ci := vwCl_name c1
  subst hC9
  have hKn := hK.1 ci _ c1
  suffices hgl : W p l e R s m args below meth c H locs cells slots (oxZ below (Qo B D ca A (mc k) Q) s (mc k) (ms k) A) (F0 m pc ls (gs B st)) from hgl T hT X
  refine W.newcK (n := fn ci) (h := B + w.1) hx hb hown (hts _ hcl) (hts _ hins) (hts _ hini) rfl hd (Nat.le_trans hc r3) (Nat.le_trans hs r4) hKn.2.1 hsz (fun H1 kC hkC e1 z1 o1 => ?_)
  have hfs : ∀ j, j < fn ci → defaultValue (ty j) = vp_V (fds B ci w t i) j := fun j hj => by
    obtain ⟨d1, d2, d3⟩ := hd0 j
    have h9 : vp_V (fds B ci w t i) j = gv B (fv ci j w t i) := by
      show (fds B ci w t i).getD j .null = _
      rw [List.getD_eq_getElem?_getD, fds_at hj]; rfl
    rw [h9]
    have h5 := c5 j hj
    unfold fv
    unfold tyOK at h5
    split at h5
    · rename_i hf; rw [h5, hf]; simp [gv, d1, nI_0, defaultValue]
    · rename_i hf; rw [h5, hf]; simp [gv, d1, nI_0, defaultValue]
    · rename_i hf; rw [h5, hf]; simp [gv, d2, defaultValue]
    · rename_i f n1 n2 n3
      rw [ft2 hj n1 n2 n3, d3]
      rcases h5 with ⟨n, h5⟩ | ⟨n, h5⟩ <;> rw [h5] <;> rfl
  have hW := hw.push (t := t) (i := i) hA hi ho hN hsz hsz2 (by rw [z1, hsz]) (fun q hq => o1 q (by rw [← hsz]; exact hq)) (by
    rw [en_obj hkt]
    exact ⟨_, c1, (u_born ty hts c2 hKn hkC e1 c3).to hfs⟩)
  have h9 := kk B D ca p l e R s m args below meth c A C H1 locs ls hl hW
  have e9 : gs B (aR t i :: st) = .ref (B + w.1) :: gs B st := by show Value.ref (B + od t i) :: _ = _; rw [ho]; rfl
  rw [e9] at h9
  exact h9
theorem Sem.newaN {t i n : Nat} (hd : decode (cc k) pc = .ok (.newarray .int, 2)) (harr : Cond.arrayClass .int ∈ AW_) (hkt : kd t = (0, n)) (hi : i < ct t) (ho : od t i = w.1) (hN : w.1 < NN) (hz : w.2.1 = true) (h0 : 0 < w.1 ∨ cells = 0) (hc : cells + 1 ≤ mc k) (hs : slots + n ≤ ms k) (hb0 : n * componentBytes .int ≤ 536870912)
    (hd0 : ∀ j, w.2.2.1 t i j = 0) (kk : Sem sc k (pc + 2) lv (aR t i :: st) (wS w) (cells + 1) (slots + n) Q) : Sem sc k pc lv (aN n :: st) w cells slots Q := by
  intro B D ca p l e R s m args below meth c A C H locs ls hl hw T hT X
  obtain ⟨⟨hx, hb, hmx, hrt, hlks⟩, ⟨hown, hts, hst, r1, r2, r3, r4⟩, ⟨hK, hA, het, hin⟩, ⟨hX, hR, hlaw⟩⟩ := id C
  obtain ⟨hsz, hsz2⟩ := next_at hw hz h0 hT X
  have hn31 : n < 2 ^ 31 := by have := kd_sm t; rw [hkt] at this; exact this
  suffices hgl : W p l e R s m args below meth c H locs cells slots (oxZ below (Qo B D ca A (mc k) Q) s (mc k) (ms k) A) (F0 m pc ls (gs B (aN n :: st))) from hgl T hT X
  refine va_newaK (atype := .int) (N := n) (h := B + w.1) hx hb (hts _ harr) rfl hd (n := nI n) (rest := gs B st) rfl (nI_pos hn31) (nI_clamp hn31) hb0 (Nat.le_trans hc r3) (Nat.le_trans hs r4) hsz (fun H1 cA e1 z1 o1 hAr hNm => ?_)
  have hcA : cA = ca.1 := by
    have h2 := (hK.2 0 (ca.1, .int) rfl).2
    exact Option.some.inj (hNm.symm.trans h2)
  subst hcA
  have hW := hw.push (t := t) (i := i) hA hi ho hN hsz hsz2 (by rw [z1, hsz]) (fun q hq => o1 q (by rw [← hsz]; exact hq)) (by
    rw [en_int hkt]
    show H1[B + w.1]? = some (vp_cell _ _)
    rw [e1, vp_cell_i]
    congr 2
    funext j
    rw [hd0 j, nI_0]; rfl)
  have h9 := kk B D ca p l e R s m args below meth c A C H1 locs ls hl hW
  have e9 : gs B (aR t i :: st) = .ref (B + w.1) :: gs B st := by show Value.ref (B + od t i) :: _ = _; rw [ho]; rfl
  rw [e9] at h9
  exact h9
theorem Sem.newaL {t i n : Nat} (hd : decode (cc k) pc = .ok (.newarray .long, 2)) (harr : Cond.arrayClass .long ∈ AW_) (hkt : kd t = (1, n)) (hi : i < ct t) (ho : od t i = w.1) (hN : w.1 < NN) (hz : w.2.1 = true) (h0 : 0 < w.1 ∨ cells = 0) (hc : cells + 1 ≤ mc k) (hs : slots + n ≤ ms k) (hb0 : n * componentBytes .long ≤ 536870912)
    (hd0 : ∀ j, w.2.2.2.1 t i j = 0) (kk : Sem sc k (pc + 2) lv (aR t i :: st) (wS w) (cells + 1) (slots + n) Q) : Sem sc k pc lv (aN n :: st) w cells slots Q := by
  intro B D ca p l e R s m args below meth c A C H locs ls hl hw T hT X
  obtain ⟨⟨hx, hb, hmx, hrt, hlks⟩, ⟨hown, hts, hst, r1, r2, r3, r4⟩, ⟨hK, hA, het, hin⟩, ⟨hX, hR, hlaw⟩⟩ := id C
  obtain ⟨hsz, hsz2⟩ := next_at hw hz h0 hT X
  have hn31 : n < 2 ^ 31 := by have := kd_sm t; rw [hkt] at this; exact this
  suffices hgl : W p l e R s m args below meth c H locs cells slots (oxZ below (Qo B D ca A (mc k) Q) s (mc k) (ms k) A) (F0 m pc ls (gs B (aN n :: st))) from hgl T hT X
  refine va_newaK (atype := .long) (N := n) (h := B + w.1) hx hb (hts _ harr) rfl hd (n := nI n) (rest := gs B st) rfl (nI_pos hn31) (nI_clamp hn31) hb0 (Nat.le_trans hc r3) (Nat.le_trans hs r4) hsz (fun H1 cA e1 z1 o1 hAr hNm => ?_)
  have hcA : cA = ca.2.1 := by
    have h2 := (hK.2 1 (ca.2.1, .long) rfl).2
    exact Option.some.inj (hNm.symm.trans h2)
  subst hcA
  have hW := hw.push (t := t) (i := i) hA hi ho hN hsz hsz2 (by rw [z1, hsz]) (fun q hq => o1 q (by rw [← hsz]; exact hq)) (by
    rw [en_lng hkt]
    show H1[B + w.1]? = some (vp_cell _ _)
    rw [e1, vp_cell_l]
    congr 2
    funext j
    rw [hd0 j]; rfl)
  have h9 := kk B D ca p l e R s m args below meth c A C H1 locs ls hl hW
  have e9 : gs B (aR t i :: st) = .ref (B + w.1) :: gs B st := by show Value.ref (B + od t i) :: _ = _; rw [ho]; rfl
  rw [e9] at h9
  exact h9
theorem Sem.objInit {idx t i : Nat} (hd : decode (cc k) pc = .ok (.invokespecial idx, 3)) (hlk : Cond.methodLink (RN (mo k)) idx Lib.objectInit ∈ AW_) (him : Cond.instanceMethod Lib.objectInit ∈ AW_) (hco : Cond.code Lib.objectInit ⟨#[0xb1]⟩ 1 none ∈ AW_) (hfr : 1 ≤ fr k) (hlo : (st.map ct1).sum + 12 ≤ lo k) (kk : Sem sc k (pc + 3) lv st w cells slots Q) : Sem sc k pc lv (aR t i :: st) w cells slots Q := by
  intro B D ca p l e R s m args below meth c A C H locs ls hl hw
  obtain ⟨⟨hx, hb, hmx, hrt, hlks⟩, ⟨hown, hts, hst, r1, r2, r3, r4⟩, ⟨hK, hA, het, hin⟩, ⟨hX, hR, hlaw⟩⟩ := id C
  exact W.objInit hx hb hown (hts _ hlk) (hts _ him) (hts _ hco) rfl (hl.1.trans hmx.symm) rfl hd (Nat.le_trans hfr r1) (by have h9 := le_loc (B := B) hlo r2; show 2 * 0 + ((gs B st).map fun v => v.category).sum + 12 ≤ _; omega) (kk B D ca p l e R s m args below meth c A C H locs ls hl hw)
/-- Math.max, Math.min -/
theorem Sem.maxL {idx : Nat} {x y : Int64} (hd : decode (cc k) pc = .ok (.invokestatic idx, 3)) (hlk : Cond.methodLink (RN (mo k)) idx Lib.MathLoose.max_long.x ∈ AW_) (hstt : Cond.static Lib.MathLoose.max_long.x ∈ AW_) (hini : Cond.initialized "java/lang/Math" ∈ AW_) (hco : Cond.code Lib.MathLoose.max_long.x Lib.MathLoose.max_long.code 4 (some .long) ∈ AW_) (hfr : 1 ≤ fr k) (hlo : (st.map ct1).sum + 15 ≤ lo k) (hc : cells ≤ mc k) (hs : slots ≤ ms k) (kk : Sem sc k (pc + 3) lv (aL (if y < x then x else y) :: st) w cells slots Q) : Sem sc k pc lv (aL y :: aL x :: st) w cells slots Q := by
  intro B D ca p l e R s m args below meth c A C H locs ls hl hw
  obtain ⟨⟨hx, hb, hmx, hrt, hlks⟩, ⟨hown, hts, hst, r1, r2, r3, r4⟩, ⟨hK, hA, het, hin⟩, ⟨hX, hR, hlaw⟩⟩ := id C
  exact va_mmax_long hx hb (hmx.trans hl.1.symm) hown (hts _ hlk) (hts _ hstt) (hts _ hini) (hts _ hco) (Nat.le_trans hfr r1) (le_loc hlo r2) (Nat.le_trans hc r3) (Nat.le_trans hs r4) hd (kk B D ca p l e R s m args below meth c A C H locs ls hl hw)
theorem Sem.minL {idx : Nat} {x y : Int64} (hd : decode (cc k) pc = .ok (.invokestatic idx, 3)) (hlk : Cond.methodLink (RN (mo k)) idx Lib.MathLoose.min_long.x ∈ AW_) (hstt : Cond.static Lib.MathLoose.min_long.x ∈ AW_) (hini : Cond.initialized "java/lang/Math" ∈ AW_) (hco : Cond.code Lib.MathLoose.min_long.x Lib.MathLoose.min_long.code 4 (some .long) ∈ AW_) (hfr : 1 ≤ fr k) (hlo : (st.map ct1).sum + 15 ≤ lo k) (hc : cells ≤ mc k) (hs : slots ≤ ms k) (kk : Sem sc k (pc + 3) lv (aL (if y < x then y else x) :: st) w cells slots Q) : Sem sc k pc lv (aL y :: aL x :: st) w cells slots Q := by
  intro B D ca p l e R s m args below meth c A C H locs ls hl hw
  obtain ⟨⟨hx, hb, hmx, hrt, hlks⟩, ⟨hown, hts, hst, r1, r2, r3, r4⟩, ⟨hK, hA, het, hin⟩, ⟨hX, hR, hlaw⟩⟩ := id C
  exact va_mmin_long hx hb (hmx.trans hl.1.symm) hown (hts _ hlk) (hts _ hstt) (hts _ hini) (hts _ hco) (Nat.le_trans hfr r1) (le_loc hlo r2) (Nat.le_trans hc r3) (Nat.le_trans hs r4) hd (kk B D ca p l e R s m args below meth c A C H locs ls hl hw)
theorem Sem.maxN {idx a b : Nat} (ha : a < 2 ^ 31) (hb0 : b < 2 ^ 31) (hd : decode (cc k) pc = .ok (.invokestatic idx, 3)) (hlk : Cond.methodLink (RN (mo k)) idx Lib.Math.max.name ∈ AW_) (hstt : Cond.static Lib.Math.max.name ∈ AW_) (hini : Cond.initialized "java/lang/Math" ∈ AW_) (hco : Cond.code Lib.Math.max.name Lib.Math.max.code 2 (some .int) ∈ AW_) (hfr : 1 ≤ fr k) (hlo : (st.map ct1).sum + 13 ≤ lo k) (hc : cells ≤ mc k) (hs : slots ≤ ms k) (kk : Sem sc k (pc + 3) lv (aN (if a < b then b else a) :: st) w cells slots Q) : Sem sc k pc lv (aN b :: aN a :: st) w cells slots Q := by
  intro B D ca p l e R s m args below meth c A C H locs ls hl hw
  obtain ⟨⟨hx, hb, hmx, hrt, hlks⟩, ⟨hown, hts, hst, r1, r2, r3, r4⟩, ⟨hK, hA, het, hin⟩, ⟨hX, hR, hlaw⟩⟩ := id C
  have h9 := kk B D ca p l e R s m args below meth c A C H locs ls hl hw
  have e9 : (if nI a < nI b then nI b else nI a) = nI (if a < b then b else a) := by
    by_cases h : a < b
    · rw [if_pos h, if_pos ((nI_ltI ha hb0).mpr h)]
    · rw [if_neg h, if_neg (fun z => h ((nI_ltI ha hb0).mp z))]
  exact va_mmax hx hb (hmx.trans hl.1.symm) hown (hts _ hlk) (hts _ hstt) (hts _ hini) (hts _ hco) (Nat.le_trans hfr r1) (le_loc hlo r2) (Nat.le_trans hc r3) (Nat.le_trans hs r4) hd (by rw [e9]; exact h9)
theorem Sem.minN {idx a b : Nat} (ha : a < 2 ^ 31) (hb0 : b < 2 ^ 31) (hd : decode (cc k) pc = .ok (.invokestatic idx, 3)) (hlk : Cond.methodLink (RN (mo k)) idx Lib.Math.min.name ∈ AW_) (hstt : Cond.static Lib.Math.min.name ∈ AW_) (hini : Cond.initialized "java/lang/Math" ∈ AW_) (hco : Cond.code Lib.Math.min.name Lib.Math.min.code 2 (some .int) ∈ AW_) (hfr : 1 ≤ fr k) (hlo : (st.map ct1).sum + 13 ≤ lo k) (hc : cells ≤ mc k) (hs : slots ≤ ms k) (kk : Sem sc k (pc + 3) lv (aN (if b < a then b else a) :: st) w cells slots Q) : Sem sc k pc lv (aN b :: aN a :: st) w cells slots Q := by
  intro B D ca p l e R s m args below meth c A C H locs ls hl hw
  obtain ⟨⟨hx, hb, hmx, hrt, hlks⟩, ⟨hown, hts, hst, r1, r2, r3, r4⟩, ⟨hK, hA, het, hin⟩, ⟨hX, hR, hlaw⟩⟩ := id C
  have h9 := kk B D ca p l e R s m args below meth c A C H locs ls hl hw
  have e9 : (if nI b < nI a then nI b else nI a) = nI (if b < a then b else a) := by
    by_cases h : b < a
    · rw [if_pos h, if_pos ((nI_ltI hb0 ha).mpr h)]
    · rw [if_neg h, if_neg (fun z => h ((nI_ltI hb0 ha).mp z))]
  exact va_mmin hx hb (hmx.trans hl.1.symm) hown (hts _ hlk) (hts _ hstt) (hts _ hini) (hts _ hco) (Nat.le_trans hfr r1) (le_loc hlo r2) (Nat.le_trans hc r3) (Nat.le_trans hs r4) hd (by rw [e9]; exact h9)
/-- System.arraycopy of a whole row -/
def wCN (w : NW) (t0 i0 t1 i1 n : Nat) : NW := (w.1, w.2.1, (fun t i j => if t = t1 ∧ i = i1 ∧ j < n then w.2.2.1 t0 i0 j else w.2.2.1 t i j), w.2.2.2.1, w.2.2.2.2)
def wCL (w : NW) (t0 i0 t1 i1 n : Nat) : NW := (w.1, w.2.1, w.2.2.1, (fun t i j => if t = t1 ∧ i = i1 ∧ j < n then w.2.2.2.1 t0 i0 j else w.2.2.2.1 t i j), w.2.2.2.2)
theorem en_wCN {B : Nat} {ca : CA} {w : NW} {t0 i0 t1 i1 n : Nat} : ∀ t' i', (t', i') ≠ (t1, i1) → en B ca (wCN w t0 i0 t1 i1 n) t' i' = en B ca w t' i' := by
  intro t' i' h
  have h2 : ∀ q, ¬ (t' = t1 ∧ i' = i1 ∧ q < n) := fun q z => h (by rw [z.1, z.2.1])
  have h3 : ∀ ci, fds B ci (wCN w t0 i0 t1 i1 n) t' i' = fds B ci w t' i' := fun ci => by simp [fds, fv, wCN, h2]
  unfold en
  simp [wCN, h2] at h3 ⊢
  split <;> simp_all
theorem en_wCL {B : Nat} {ca : CA} {w : NW} {t0 i0 t1 i1 n : Nat} : ∀ t' i', (t', i') ≠ (t1, i1) → en B ca (wCL w t0 i0 t1 i1 n) t' i' = en B ca w t' i' := by
  intro t' i' h
  have h2 : ∀ q, ¬ (t' = t1 ∧ i' = i1 ∧ q < n) := fun q z => h (by rw [z.1, z.2.1])
  have h3 : ∀ ci, fds B ci (wCL w t0 i0 t1 i1 n) t' i' = fds B ci w t' i' := fun ci => by simp [fds, fv, wCL, h2]
  unfold en
  split <;> simp_all [wCL]
  funext j
  rw [if_neg (fun z => h z.1 z.2.1)]
theorem Sem.copyN {idx t0 i0 t1 i1 n0 n1 n : Nat} (hd : decode (cc k) pc = .ok (.invokestatic idx, 3)) (hlk : Cond.methodLink (RN (mo k)) idx arraycopyName ∈ AW_) (hnat : Cond.native arraycopyName ∈ AW_) (hstt : Cond.static arraycopyName ∈ AW_) (hini : Cond.initialized "java/lang/System" ∈ AW_) (hk0 : kd t0 = (0, n0)) (hk1 : kd t1 = (0, n1)) (hv0 : vld w.1 t0 i0) (hv1 : vld w.1 t1 i1) (hn0 : n ≤ n0) (hn1 : n ≤ n1) (hfr : 1 ≤ fr k) (hlo : (st.map ct1).sum + (nativeFrameWords "java/lang/System" "arraycopy" 5 + 11) ≤ lo k) (kk : Sem sc k (pc + 3) lv st (wCN w t0 i0 t1 i1 n) cells slots Q) : Sem sc k pc lv (aN n :: aN 0 :: aR t1 i1 :: aN 0 :: aR t0 i0 :: st) w cells slots Q := by
  intro B D ca p l e R s m args below meth c A C H locs ls hl hw
  obtain ⟨⟨hx, hb, hmx, hrt, hlks⟩, ⟨hown, hts, hst, r1, r2, r3, r4⟩, ⟨hK, hA, het, hin⟩, ⟨hX, hR, hlaw⟩⟩ := id C
  have he0 := wsO_at (B := B) (ca := ca) (w := w) hv0
  rw [en_int hk0] at he0
  have he1 := wsO_at (B := B) (ca := ca) (w := w) hv1
  rw [en_int hk1] at he1
  have hn31 : n < 2 ^ 31 := by have := kd_sm t0; rw [hk0] at this; exact Nat.lt_of_le_of_lt hn0 this
  have z0 : (nI 0).toNatClampNeg = 0 := nI_clamp (by decide)
  have zn : (nI n).toNatClampNeg = n := nI_clamp hn31
  refine va_copyi (D := D) (ty := .int) hx hb (hmx.trans hl.1.symm) hown (hts _ hlk) (hts _ hnat) (hts _ hstt) (hts _ hini) hK hw.1 hw.2.1 hw.2.2.1 (od t0 i0) (od t1 i1) 0 0 he0 he1 rfl rfl rfl (sp := nI 0) (dp := nI 0) (n := nI n) (nI_pos (by decide)) (nI_pos (by decide)) (nI_pos hn31) (by rw [z0, zn]; omega) (by rw [z0, zn]; omega) (fun i hi => rfl) (Nat.le_trans hfr r1) (le_loc hlo r2) hd (fun H1 locs1 hP1 hD1 hS1 => kk B D ca p l e R s m args below meth c A C H1 locs1 ls hl (hw.put (t := t1) (i := i1) hv1 rfl rfl en_wCN ?_ ?_ hS1))
  · rw [en_int hk1]
    rw [z0, zn] at hP1
    have e1 : (fun j => nI ((wCN w t0 i0 t1 i1 n).2.2.1 t1 i1 j)) = va_cpy (fun j => nI (w.2.2.1 t0 i0 j)) (fun j => nI (w.2.2.1 t1 i1 j)) 0 0 n := by
      funext j
      by_cases hj : j < n <;> simp [wCN, va_cpy, hj]
    rw [e1]; exact hP1
  · rw [en_int hk1]
    rw [z0, zn] at hD1
    have e1 : (fun j => nI ((wCN w t0 i0 t1 i1 n).2.2.1 t1 i1 j)) = va_cpy (fun j => nI (w.2.2.1 t0 i0 j)) (fun j => nI (w.2.2.1 t1 i1 j)) 0 0 n := by
      funext j
      by_cases hj : j < n <;> simp [wCN, va_cpy, hj]
    rw [e1]; exact hD1
theorem Sem.copyL {idx t0 i0 t1 i1 n0 n1 n : Nat} (hd : decode (cc k) pc = .ok (.invokestatic idx, 3)) (hlk : Cond.methodLink (RN (mo k)) idx arraycopyName ∈ AW_) (hnat : Cond.native arraycopyName ∈ AW_) (hstt : Cond.static arraycopyName ∈ AW_) (hini : Cond.initialized "java/lang/System" ∈ AW_) (hk0 : kd t0 = (1, n0)) (hk1 : kd t1 = (1, n1)) (hv0 : vld w.1 t0 i0) (hv1 : vld w.1 t1 i1) (hn0 : n ≤ n0) (hn1 : n ≤ n1) (hfr : 1 ≤ fr k) (hlo : (st.map ct1).sum + (nativeFrameWords "java/lang/System" "arraycopy" 5 + 11) ≤ lo k) (kk : Sem sc k (pc + 3) lv st (wCL w t0 i0 t1 i1 n) cells slots Q) : Sem sc k pc lv (aN n :: aN 0 :: aR t1 i1 :: aN 0 :: aR t0 i0 :: st) w cells slots Q := by
  intro B D ca p l e R s m args below meth c A C H locs ls hl hw
  obtain ⟨⟨hx, hb, hmx, hrt, hlks⟩, ⟨hown, hts, hst, r1, r2, r3, r4⟩, ⟨hK, hA, het, hin⟩, ⟨hX, hR, hlaw⟩⟩ := id C
  have he0 := wsO_at (B := B) (ca := ca) (w := w) hv0
  rw [en_lng hk0] at he0
  have he1 := wsO_at (B := B) (ca := ca) (w := w) hv1
  rw [en_lng hk1] at he1
  have hn31 : n < 2 ^ 31 := by have := kd_sm t0; rw [hk0] at this; exact Nat.lt_of_le_of_lt hn0 this
  have z0 : (nI 0).toNatClampNeg = 0 := nI_clamp (by decide)
  have zn : (nI n).toNatClampNeg = n := nI_clamp hn31
  have e1 : (wCL w t0 i0 t1 i1 n).2.2.2.1 t1 i1 = va_cpy (w.2.2.2.1 t0 i0) (w.2.2.2.1 t1 i1) 0 0 n := by
    funext j
    by_cases hj : j < n <;> simp [wCL, va_cpy, hj]
  refine va_copyl (D := D) (ty := .long) hx hb (hmx.trans hl.1.symm) hown (hts _ hlk) (hts _ hnat) (hts _ hstt) (hts _ hini) hK hw.1 hw.2.1 hw.2.2.1 (od t0 i0) (od t1 i1) 1 1 he0 he1 rfl rfl rfl (sp := nI 0) (dp := nI 0) (n := nI n) (nI_pos (by decide)) (nI_pos (by decide)) (nI_pos hn31) (by rw [z0, zn]; omega) (by rw [z0, zn]; omega) (fun i hi => rfl) (Nat.le_trans hfr r1) (le_loc hlo r2) hd (fun H1 locs1 hP1 hD1 hS1 => kk B D ca p l e R s m args below meth c A C H1 locs1 ls hl (hw.put (t := t1) (i := i1) hv1 rfl rfl en_wCL ?_ ?_ hS1))
  · rw [en_lng hk1, e1]
    rw [z0, zn] at hP1
    exact hP1
  · rw [en_lng hk1, e1]
    rw [z0, zn] at hD1
    exact hD1
end More
