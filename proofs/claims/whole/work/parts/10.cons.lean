-- ===== constructors' calls, rows of references, switches, the script =====
section Cons
variable {sc : XT} {k pc : Nat} {lv : List (Nat × AV)} {st : List AV} {w : NW} {cells slots : Nat} {Q : QT}
theorem run_x {p : Program} {l : Launch} {e : Env} {R : Room} {s : State} {m : MethodId} {args : Array Value} {below : List Frame} {meth : Method} {c : Code} {H : Heap} {locs : List Loc} {n z : Nat} {g : JFrame} {rest : List Value} {Qe : State → Outcome → State → Prop} {free : Addr → Prop} (h : va_Run p l e R s m args below meth c H locs cells slots n z g rest Qe free) : oxRun p l e R s m args below meth c H locs cells slots n z g rest Qe free := fun T hT X => by
  obtain ⟨v, st₀, t, T', L, h0, X', hL, e1, e2, hq, st⟩ := h T hT X
  exact ⟨.returned v, st₀, t, T', L, h0, (fun ⟨q, hq⟩ => nomatch hq), X', hL, e1, e2, hq, st _ (Steps.refl _)⟩
/-- a constructor of ours, while the cells are being made -/
theorem Sem.callI {idx k' t i : Nat} {as rst : List AV} {Q' : QT} (nest : Bool) (host : String) (hd : decode (cc k) pc = .ok (.invokespecial idx, 3)) (hM : MK k') (hnh : hh k' = []) (hco : Cond.code (yn k') (cc k') (mL k') (rt k') ∈ AW_) (hrt0 : rt k' = none) (hi0 : nm k' = "<init>")
    (hlk : if nest = true then (RN (mo k), idx, k', host) ∈ nlT else Cond.methodLink (RN (mo k)) idx (yn k') ∈ AW_) (him : Cond.instanceMethod (yn k') ∈ AW_) (h0 : 0 < w.1 ∨ cells = 0) (hfz : w.2.1 = true) (hno : ∀ E w', ¬ Q' (.inr E) w')
    (hlen : ((aR t i :: as).map ct1).sum ≤ mL k') (hn : as.length = np k') (hrs : (rst.map ct1).sum ≤ 8) (hfr : fr k' + 1 ≤ fr k) (hlo : 8 + (mL k' + 11) + lo k' ≤ lo k) (hc : cells + mc k' ≤ mc k) (hs : slots + ms k' ≤ ms k)
    (hS : Sem sc k' 0 (aArgs 0 (aR t i :: as)) [] w 0 0 Q')
    (kk : ∀ v w', Q' (.inl v) w' → Sem sc k (pc + 3) lv (v.toList ++ rst) w' (cells + mc k') (slots + ms k') Q) :
    Sem sc k pc lv (as.reverse ++ aR t i :: rst) w cells slots Q := by
  intro B D ca p l e R s m args below meth c A C H locs ls hl hw T hT X
  obtain ⟨⟨hx, hb, hmx, hrt, hlks⟩, ⟨hown, hts, hst, r1, r2, r3, r4⟩, ⟨hK, hA, het, hin⟩, ⟨hX, hR, hlaw⟩⟩ := id C
  obtain ⟨m1, m2, m3, m4, m5, -⟩ := hM
  obtain ⟨hsz, hsz2⟩ := next_at hw hfz h0 hT X
  have hg : GoodIn AW_ (wsM k') := gsub (fun w9 h9 => by
    rcases List.mem_cons.mp h9 with rfl | h9
    · exact hco
    · exact h9)
  have hpre : PreS s H (PcM B D ca (aR t i :: as) w H.size) (.ref (B + od t i) :: gs B as) := ⟨PcM.blind, fun U hU hW => ⟨rfl, PcB_of hw hA hK hX.1 hR (fun _ => hsz) hU hW⟩⟩
  have hmet := hS.metR hno m5 m2 hnh hlen hst B D ca H.size
  have hw0 : wsM k' = Cond.code (yn k') (cc k') (mL k') none :: AW_ := by rw [wsM, hrt0]
  have hstk : (F0 m pc ls (gs B (as.reverse ++ aR t i :: rst))).stack = (gs B as).reverse ++ .ref (B + od t i) :: gs B rst := by simp [gs, List.map_append, List.map_reverse, gv]
  have hrun : va_Run p l e R s m args below meth c H locs cells slots (mc k') (ms k') (F0 m pc ls (gs B (as.reverse ++ aR t i :: rst))) (gs B rst) (Qo B D ca (AR B w.1 H.size) (mc k') Q') (AR B w.1 H.size) := by
    cases nest with
    | true => exact va_runIN (host := host) ⟨hx, hb, hmx, hown, hts⟩ hmet ⟨va_cnB (np k') hts hg hw0 rfl rfl (hR.2.2.1 _ hlk) (hts _ m1) ⟨m3.1, m3.2, m4⟩ ⟨Nat.le_trans hfr r1, Nat.le_trans hlo r2⟩, hi0, hts _ him⟩ hpre rfl (by rw [gs_len]; exact hn) hl.1 hstk (lv_room (by rw [gs_cat]; exact hrs)) hd ⟨Nat.le_trans hc r3, Nat.le_trans hs r4⟩
    | false => exact va_runI ⟨hx, hb, hmx, hown, hts⟩ hmet (cwI (np k') hts hg hw0 rfl rfl (hts _ m1) (hts _ hlk) (hts _ him) hi0 ⟨m3.1, m3.2, m4⟩ ⟨Nat.le_trans hfr r1, Nat.le_trans hlo r2⟩) hpre rfl (by rw [gs_len]; exact hn) hl.1 hstk (lv_room (by rw [gs_cat]; exact hrs)) hd ⟨Nat.le_trans hc r3, Nat.le_trans hs r4⟩
  suffices hgl : W p l e R s m args below meth c H locs cells slots (oxZ below (Qo B D ca A (mc k) Q) s (mc k) (ms k) A) (F0 m pc ls (gs B (as.reverse ++ aR t i :: rst))) from hgl T hT X
  refine go_run (Q' := Q') hA hw (fun v w' h z => hsz2) (fun E w' h => (hno E w' h).elim) (run_x hrun) ?_ ?_
  · intro v w' H1 locs1 hq hw1
    exact kk v w' hq B D ca p l e R s m args below meth c A C H1 locs1 ls hl hw1
  · intro E w' H1 locs1 q ce hq
    exact (hno E w' hq).elim
theorem Sem.aast {t i j t' i' n : Nat} (hd : decode (cc k) pc = .ok (.aastore, 1)) (hkt : kd t = (2, n)) {ci : Nat} (hkt' : kd t' = (3, ci)) (hci : RN ci = itN) (hv : vld w.1 t i) (hv' : vld w.1 t' i') (hj : j < n) (kk : Sem sc k (pc + 1) lv st (wR w t i j (some (t', i'))) cells slots Q) : Sem sc k pc lv (aR t' i' :: aN j :: aR t i :: st) w cells slots Q := by
  intro B D ca p l e R s m args below meth c A C H locs ls hl hw
  obtain ⟨⟨hx, hb, hmx, hrt, hlks⟩, ⟨hown, hts, hst, r1, r2, r3, r4⟩, ⟨hK, hA, het, hin⟩, ⟨hX, hR, hlaw⟩⟩ := id C
  obtain ⟨C9, T9, ty, c1, -⟩ := ck_ok hkt'
  have hC9 : C9 = itN := (vwCl_name c1).trans hci
  subst hC9
  have he := wsO_at (B := B) (ca := ca) (w := w) hv
  rw [en_rf hkt] at he
  have he' := wsO_at (B := B) (ca := ca) (w := w) hv'
  rw [en_obj hkt'] at he'
  obtain ⟨h1, h2⟩ := nI_vin (t := t) hj (by rw [hkt])
  have e1 : (fun q => ((wR w t i j (some (t', i'))).2.2.2.2 t i q).map (fun k => B + od k.1 k.2)) = va_up (fun q => (w.2.2.2.2 t i q).map (fun k => B + od k.1 k.2)) j (some (B + od t' i')) := by
    funext q
    by_cases hq : q = j <;> simp [wR, upR, va_up, hq]
  refine va_astq (D := D) hx hb hK hw.1 hw.2.1 hw.2.2.1 (od t i) 2 (od t' i') ci he rfl he' c1 h1 hd (fun H1 locs1 hP1 hD1 hS1 => kk B D ca p l e R s m args below meth c A C H1 locs1 ls hl (hw.put (t := t) (i := i) hv rfl rfl en_wR ?_ ?_ hS1))
  · rw [en_rf hkt, e1]; rw [h2] at hP1; exact hP1
  · rw [en_rf hkt, e1]; rw [h2] at hD1; exact hD1
theorem Sem.anewq {t i n idx : Nat} (hd : decode (cc k) pc = .ok (.anewarray idx, 3)) (hcl : Cond.classLink (RN (mo k)) idx itN ∈ AW_) (hkt : kd t = (2, n)) (hi : i < ct t) (ho : od t i = w.1) (hN : w.1 < NN) (hz : w.2.1 = true) (h0 : 0 < w.1 ∨ cells = 0) (hc : cells + 1 ≤ mc k) (hs : slots + n ≤ ms k) (hb0 : n * 4 ≤ 536870912)
    (hd0 : ∀ j, w.2.2.2.2 t i j = none) (kk : Sem sc k (pc + 3) lv (aR t i :: st) (wS w) (cells + 1) (slots + n) Q) : Sem sc k pc lv (aN n :: st) w cells slots Q := by
  intro B D ca p l e R s m args below meth c A C H locs ls hl hw T hT X
  obtain ⟨⟨hx, hb, hmx, hrt, hlks⟩, ⟨hown, hts, hst, r1, r2, r3, r4⟩, ⟨hK, hA, het, hin⟩, ⟨hX, hR, hlaw⟩⟩ := id C
  obtain ⟨hsz, hsz2⟩ := next_at hw hz h0 hT X
  have hn31 : n < 2 ^ 31 := by have := kd_sm t; rw [hkt] at this; exact this
  have hcl0 : (nI n).toNatClampNeg = n := nI_clamp hn31
  suffices hgl : W p l e R s m args below meth c H locs cells slots (oxZ below (Qo B D ca A (mc k) Q) s (mc k) (ms k) A) (F0 m pc ls (gs B (aN n :: st))) from hgl T hT X
  refine W.anew (C := itN) hx hb hown (hts _ hcl) (va_AO.use hR.2.2.2.1) rfl hd (n := nI n) (rest := gs B st) rfl (nI_pos hn31) (by rw [hcl0]; exact hb0) (Nat.le_trans hc r3) (by rw [hcl0]; exact Nat.le_trans hs r4) (fun cA kA comp f1 f2 f3 f4 => ?_)
  rw [hcl0]
  have hcA : cA = ca.2.2.1 := by
    obtain ⟨kB, cB, b1, b2, b3, b4⟩ := (hK.2 2 (ca.2.2.1, .object itN) rfl).2
    exact Option.some.inj (f1.symm.trans b4)
  subst hcA
  generalize hH1 : H.push ({ cls := ca.2.2.1, slots := Array.replicate n .null, vm := .none } : Cell) = H1
  have z1 : H1.size = H.size + 1 := by rw [← hH1, Array.size_push]
  have e1 : H1[H.size]? = some (arrV ca.2.2.1 n (fun _ => .null)) := by rw [← hH1, Array.getElem?_push_size, ← arrV_new]
  have o1 : ∀ q : Nat, q < H.size → H1[q]? = H[q]? := fun q hq => by rw [← hH1, Array.getElem?_push, if_neg (Nat.ne_of_lt hq)]
  have hW := hw.push (t := t) (i := i) hA hi ho hN hsz hsz2 z1 o1 (by
    rw [en_rf hkt]
    show H1[B + w.1]? = some (vp_cell _ _)
    rw [← hsz, e1]
    show _ = some (arrV ca.2.2.1 n (fun j => va_rf ((w.2.2.2.2 t i j).map (fun k => B + od k.1 k.2))))
    congr 2
    funext j
    rw [hd0 j]; rfl)
  have h9 := kk B D ca p l e R s m args below meth c A C H1 locs ls hl hW
  have e9 : gs B (aR t i :: st) = .ref H.size :: gs B st := by show Value.ref (B + od t i) :: _ = _; rw [ho, ← hsz]; rfl
  rw [e9] at h9
  exact h9
theorem Sem.tabIn {dflt lo0 hi0 : Int} {offs : Array Int} {len : Nat} {x : Int32} {off : Int} {tgt : Nat} {u : AV} (hu : toI u = some x) (hd : decode (cc k) pc = .ok (.tableswitch dflt lo0 hi0 offs, len)) (h1 : ¬ x.toInt < lo0) (h2 : ¬ hi0 < x.toInt) (ho : offs[(x.toInt - lo0).toNat]? = some off) (ht : (pc : Int) + off = (tgt : Int)) (kk : Sem sc k tgt lv st w cells slots Q) : Sem sc k pc lv (u :: st) w cells slots Q := by
  intro B D ca p l e R s m args below meth c A C H locs ls hl hw
  obtain ⟨⟨hx, hb, hmx, hrt, hlks⟩, -⟩ := id C
  rw [gs, List.map_cons, toI_gv hu]
  exact lv_tableIn hx hb hd h1 h2 ho ht (kk B D ca p l e R s m args below meth c A C H locs ls hl hw)
theorem Sem.tabOut {dflt lo0 hi0 : Int} {offs : Array Int} {len : Nat} {x : Int32} {tgt : Nat} {u : AV} (hu : toI u = some x) (hd : decode (cc k) pc = .ok (.tableswitch dflt lo0 hi0 offs, len)) (h : x.toInt < lo0 ∨ hi0 < x.toInt) (ht : (pc : Int) + dflt = (tgt : Int)) (kk : Sem sc k tgt lv st w cells slots Q) : Sem sc k pc lv (u :: st) w cells slots Q := by
  intro B D ca p l e R s m args below meth c A C H locs ls hl hw
  obtain ⟨⟨hx, hb, hmx, hrt, hlks⟩, -⟩ := id C
  rw [gs, List.map_cons, toI_gv hu]
  exact lv_tableOut hx hb hd h ht (kk B D ca p l e R s m args below meth c A C H locs ls hl hw)
theorem Sem.lookup {dflt : Int} {ps : Array (Int × Int)} {len : Nat} {x : Int32} {off : Int} {tgt : Nat} {u : AV} (hu : toI u = some x) (hd : decode (cc k) pc = .ok (.lookupswitch dflt ps, len)) (hp : (ps.toList.zip (ps.toList.drop 1)).all (fun (a, next) => a.1 < next.1) = true) (ho : Op.lookupswitch.offset ps.toList dflt x.toInt = off) (ht : (pc : Int) + off = (tgt : Int)) (kk : Sem sc k tgt lv st w cells slots Q) : Sem sc k pc lv (u :: st) w cells slots Q := by
  intro B D ca p l e R s m args below meth c A C H locs ls hl hw
  obtain ⟨⟨hx, hb, hmx, hrt, hlks⟩, -⟩ := id C
  rw [gs, List.map_cons, toI_gv hu]
  exact lv_lookup hx hb hd hp ho ht (kk B D ca p l e R s m args below meth c A C H locs ls hl hw)
theorem Sem.sld {j : Nat} (hk : k = LAW) (hd : decode (cc k) pc = .ok (.iaload, 1)) (hj : j < sc.2.1) (h31 : sc.2.1 < 2 ^ 31) (kk : Sem sc k (pc + 1) lv (aI (sc.2.2 j) :: st) w cells slots Q) : Sem sc k pc lv (aN j :: aV (.ref sc.1) :: st) w cells slots Q := by
  intro B D ca p l e R s m args below meth c A C H locs ls hl hw
  obtain ⟨⟨hx, hb, hmx, hrt, hlks⟩, ⟨hown, hts, hst, r1, r2, r3, r4⟩, ⟨hK, hA, het, hin⟩, ⟨hX, hR, hlaw⟩⟩ := id C
  obtain ⟨s1, s2, s3⟩ := hlaw hk
  have h9 := kk B D ca p l e R s m args below meth c A C H locs ls hl hw
  refine va_sld hx hb s1 s2 s3 hw.2.2.1 (vp_in_nI hj h31) hd ?_
  rw [nI_clamp (Nat.lt_trans hj h31)]
  exact h9
theorem Sem.slen (hk : k = LAW) (hd : decode (cc k) pc = .ok (.arraylength, 1)) (kk : Sem sc k (pc + 1) lv (aN sc.2.1 :: st) w cells slots Q) : Sem sc k pc lv (aV (.ref sc.1) :: st) w cells slots Q := by
  intro B D ca p l e R s m args below meth c A C H locs ls hl hw
  obtain ⟨⟨hx, hb, hmx, hrt, hlks⟩, ⟨hown, hts, hst, r1, r2, r3, r4⟩, ⟨hK, hA, het, hin⟩, ⟨hX, hR, hlaw⟩⟩ := id C
  obtain ⟨s1, s2, s3⟩ := hlaw hk
  exact va_slen hx hb s1 s2 s3 hw.2.2.1 hd (kk B D ca p l e R s m args below meth c A C H locs ls hl hw)
/-- from here on other things may be made -/
theorem Sem.loose {n : Nat} {N : Nat → Nat → Nat → Nat} {L : Nat → Nat → Nat → Int64} {F : Nat → Nat → Nat → Option (Nat × Nat)} (kk : Sem sc k pc lv st (n, false, N, L, F) cells slots Q) : Sem sc k pc lv st (n, true, N, L, F) cells slots Q := by
  intro B D ca p l e R s m args below meth c A C H locs ls hl hw
  exact kk B D ca p l e R s m args below meth c A C H locs ls hl ⟨hw.1, hw.2.1, hw.2.2.1, (fun z => nomatch z), hw.2.2.2.2⟩
/-- another world with the same cells -/
theorem Sem.weq {w' : NW} (h : w = w') (kk : Sem sc k pc lv st w' cells slots Q) : Sem sc k pc lv st w cells slots Q := h ▸ kk
theorem Sem.widen {a b : Nat} (h1 : cells ≤ a) (h2 : slots ≤ b) (hz : w.2.1 = true → cells = a) (kk : Sem sc k pc lv st w a b Q) : Sem sc k pc lv st w cells slots Q := by
  intro B D ca p l e R s m args below meth c A C H locs ls hl hw
  exact W.widen h1 h2 (kk B D ca p l e R s m args below meth c A C H locs ls hl ⟨hw.1, hw.2.1, hw.2.2.1, fun z => by rw [← hz z]; exact hw.2.2.2.1 z, hw.2.2.2.2⟩)
theorem Sem.mono {Q' : QT} (h : ∀ o w, Q' o w → Q o w) (kk : Sem sc k pc lv st w cells slots Q') : Sem sc k pc lv st w cells slots Q := by
  intro B D ca p l e R s m args below meth c A C H locs ls hl hw
  refine Wmono ?_ (kk B D ca p l e R s m args below meth c A C H locs ls hl hw)
  rintro t ⟨o, h1, h2, h3, h4⟩
  refine ⟨o, h1, h2, ?_, h4⟩
  cases o with
  | returned v =>
    obtain ⟨v0, w9, e1, q1, q2⟩ := h3
    exact ⟨v0, w9, e1, h _ _ q1, q2⟩
  | threw q =>
    obtain ⟨E, w9, ce, e1, q1, q2⟩ := h3
    exact ⟨E, w9, ce, e1, h _ _ q1, q2⟩
end Cons
-- ===== words for the finished world =====
section Fin
variable {sc : XT} {k pc : Nat} {lv : List (Nat × AV)} {st : List AV} {w : NW} {cells slots : Nat} {Q : QT}
theorem Sem.topNN {a b : Nat} (h : a = b) (kk : Sem sc k pc lv (aN b :: st) w cells slots Q) : Sem sc k pc lv (aN a :: st) w cells slots Q := h ▸ kk
theorem Sem.topLL {a b : Int64} (h : a = b) (kk : Sem sc k pc lv (aL b :: st) w cells slots Q) : Sem sc k pc lv (aL a :: st) w cells slots Q := h ▸ kk
theorem Sem.topII {a b : Int32} (h : a = b) (kk : Sem sc k pc lv (aI b :: st) w cells slots Q) : Sem sc k pc lv (aI a :: st) w cells slots Q := h ▸ kk
abbrev TN : Type := Nat → Nat → Nat → Nat
abbrev TL : Type := Nat → Nat → Nat → Int64
abbrev wd (N : TN) (L : TL) : NW := (NN, false, N, L, Fx)
def QN (f : (Option AV ⊕ String) → TN → TL → Prop) : QT := fun o w => ∃ (N : TN) (L : TL), w = wd N L ∧ f o N L
theorem QN1 {f : (Option AV ⊕ String) → TN → TL → Prop} : ∀ v w', QN f (.inl v) w' → w'.2.1 = false := by
  rintro v w' ⟨N, L, rfl, -⟩; rfl
theorem QN2 {f : (Option AV ⊕ String) → TN → TL → Prop} : ∀ E w', QN f (.inr E) w' → w'.2.1 = false := by
  rintro v w' ⟨N, L, rfl, -⟩; rfl
theorem vN {t i : Nat} (h : i < ct t) : vld NN t i := ⟨h, od_lt h⟩
end Fin
