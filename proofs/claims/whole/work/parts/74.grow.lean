-- ===== worlds that grow: rules, constructors =====
def QX (w1 : NW) : QT := fun o w => o = .inl none ∧ w = w1
theorem ky_ct {k : Nat} (h : k < NN) : (ky k).2 < ct (ky k).1 := by
  have h3 : ∀ k, k < NN → (ky k).2 < ct (ky k).1 := by decide +kernel
  exact h3 k h
section Grow
variable {sc : XT} {k pc : Nat} {lv : List (Nat × AV)} {st : List AV} {w : NW} {cells slots : Nat} {Q : QT}
theorem Sem.putR {idx t i ci j : Nat} {q : Nat × Nat} (hd : decode (cc k) pc = .ok (.putfield idx, 3)) (hg : GF (mo k) idx ci j) (hk : kd t = (3, ci)) (hf : ftk ci j = 2) (hi : ini k = true) (hff : ffn ci j = true) (hci : ci = mo k) (hv : vld w.1 t i) (kk : Sem sc k (pc + 3) lv st (wR w t i j (some q)) cells slots Q) : Sem sc k pc lv (aR q.1 q.2 :: aR t i :: st) w cells slots Q := by
  intro B D ca p l e R s m args below meth c A C H locs ls hl hw
  exact go_putR C hd hg hk hf hi hff hci hv (kk B D ca p l e R s m args below meth c A C) H locs ls hl hw
theorem Sem.newaZ {t i n : Nat} (hd : decode (cc k) pc = .ok (.newarray .boolean, 2)) (harr : Cond.arrayClass .boolean ∈ AW_) (hkt : kd t = (4, n)) (hi : i < ct t) (ho : od t i = w.1) (hN : w.1 < NN) (hz : w.2.1 = true) (h0 : 0 < w.1 ∨ cells = 0) (hc : cells + 1 ≤ mc k) (hs : slots + n ≤ ms k) (hb0 : n * componentBytes .boolean ≤ 536870912)
    (hd0 : ∀ j, w.2.2.1 t i j = 0) (kk : Sem sc k (pc + 2) lv (aR t i :: st) (wS w) (cells + 1) (slots + n) Q) : Sem sc k pc lv (aN n :: st) w cells slots Q := by
  intro B D ca p l e R s m args below meth c A C H locs ls hl hw T hT X
  obtain ⟨⟨hx, hb, hmx, hrt, hlks⟩, ⟨hown, hts, hst, r1, r2, r3, r4⟩, ⟨hK, hA, het, hin⟩, ⟨hX, hR, hlaw⟩⟩ := id C
  obtain ⟨hsz, hsz2⟩ := next_at hw hz h0 hT X
  have hn31 : n < 2 ^ 31 := by have := kd_sm t; rw [hkt] at this; exact this
  suffices hgl : W p l e R s m args below meth c H locs cells slots (oxZ below (Qo B D ca A (mc k) Q) s (mc k) (ms k) A) (F0 m pc ls (gs B (aN n :: st))) from hgl T hT X
  refine va_newaK (atype := .boolean) (N := n) (h := B + w.1) hx hb (hts _ harr) rfl hd (n := nI n) (rest := gs B st) rfl (nI_pos hn31) (nI_clamp hn31) hb0 (Nat.le_trans hc r3) (Nat.le_trans hs r4) hsz (fun H1 cA e1 z1 o1 hAr hNm => ?_)
  have hcA : cA = ca.2.2.2 := by
    have h2 := (hK.2 3 (ca.2.2.2, .boolean) rfl).2
    exact Option.some.inj (hNm.symm.trans h2)
  subst hcA
  have hW := hw.push (t := t) (i := i) hA hi ho hN hsz hsz2 (by rw [z1, hsz]) (fun q hq => o1 q (by rw [← hsz]; exact hq)) (by
    rw [en_bl hkt]
    show H1[B + w.1]? = some (vp_cell _ _)
    rw [e1, vp_cell_i]
    congr 2
    funext j
    rw [hd0 j, nI_0]; rfl)
  have h9 := kk B D ca p l e R s m args below meth c A C H1 locs ls hl hW
  have e9 : gs B (aR t i :: st) = .ref (B + w.1) :: gs B st := by show Value.ref (B + od t i) :: _ = _; rw [ho]; rfl
  rw [e9] at h9
  exact h9
theorem Sem.cI {idx k' t i c' s' : Nat} {w1 : NW} (nest : Bool) (host : String) (hd : decode (cc k) pc = .ok (.invokespecial idx, 3)) (hM : MK k') (hnh : hh k' = []) (hco : Cond.code (yn k') (cc k') (mL k') (rt k') ∈ AW_) (hrt0 : rt k' = none) (hi0 : nm k' = "<init>")
    (hlk : if nest = true then (RN (mo k), idx, k', host) ∈ nlT else Cond.methodLink (RN (mo k)) idx (yn k') ∈ AW_) (him : Cond.instanceMethod (yn k') ∈ AW_) (h0 : 0 < w.1 ∨ cells = 0) (hfz : w.2.1 = true)
    (hlen : 1 ≤ mL k') (hn : 0 = np k') (hrs : (st.map ct1).sum ≤ 8) (hfr : fr k' + 1 ≤ fr k) (hlo : 8 + (mL k' + 11) + lo k' ≤ lo k) (he1 : cells + mc k' = c') (he2 : slots + ms k' = s') (hc : c' ≤ mc k) (hs : s' ≤ ms k)
    (hS : Sem sc k' 0 [(0, aR t i)] [] w 0 0 (QX w1)) (kk : Sem sc k (pc + 3) lv st w1 c' s' Q) : Sem sc k pc lv (aR t i :: st) w cells slots Q := by
  subst he1 he2
  exact Sem.callI (as := []) (rst := st) nest host hd hM hnh hco hrt0 hi0 hlk him h0 hfz (fun E w' h => by cases h.1) hlen hn hrs hfr hlo hc hs hS (fun v w' h => by obtain ⟨h1, rfl⟩ := h; cases h1; exact kk)
theorem arrV_cg {c : ClassId} {n : Nat} {f g : Nat → Value} (h : ∀ j, j < n → f j = g j) : arrV c n f = arrV c n g := by
  unfold arrV
  congr 2
  funext j
  exact h j.1 j.2
/-- the references are those of the finished world, where anything looks -/
theorem Sem.fx {n : Nat} {z : Bool} {N : TN} {L : TL} {F : Nat → Nat → Nat → Option (Nat × Nat)} (h : ∀ t i j, i < ct t → (t = 1 → j < 12) → F t i j = Fx t i j) (kk : Sem sc k pc lv st (n, z, N, L, Fx) cells slots Q) : Sem sc k pc lv st (n, z, N, L, F) cells slots Q := by
  intro B D ca p l e R s m args below meth c A C H locs ls hl hw
  obtain ⟨hP, hD, hS, hZ, hN⟩ := hw
  have hat : ∀ (q : Nat) (x : Nat × va_E), (wsO B ca (n, z, N, L, Fx))[q]? = some x → ∃ y : va_E, (wsO B ca (n, z, N, L, F))[q]? = some (x.1, y) ∧ (va_at D vwCl (x.1, y) H → va_at D vwCl x H) := by
    intro q x hx
    have hq : q < n := by
      rcases Nat.lt_or_ge q n with r | r
      · exact r
      · simp [wsO, r] at hx
    have hx2 : x = (B + q, en B ca (n, z, N, L, Fx) (ky q).1 (ky q).2) := by
      simp [wsO, List.getElem?_map, List.getElem?_range hq] at hx
      exact hx.symm
    subst hx2
    refine ⟨en B ca (n, z, N, L, F) (ky q).1 (ky q).2, by simp [wsO, List.getElem?_map, List.getElem?_range hq], ?_⟩
    have hi : (ky q).2 < ct (ky q).1 := ky_ct (Nat.lt_of_lt_of_le hq hN)
    generalize (ky q).1 = t at hi
    generalize (ky q).2 = i at hi
    by_cases h1 : t = 1
    · subst h1
      have e1 : kd 1 = (2, 12) := rfl
      rw [en_rf e1, en_rf e1]
      intro q1
      have q2 : H[B + q]? = some (arrV ca.2.2.1 12 (fun j => va_rf ((F 1 i j).map (fun k => B + od k.1 k.2)))) := q1
      show H[B + q]? = some (arrV ca.2.2.1 12 (fun j => va_rf ((Fx 1 i j).map (fun k => B + od k.1 k.2))))
      rw [q2, arrV_cg (fun j hj => by rw [h 1 i j hi (fun _ => hj)])]
    · have e9 : en B ca (n, z, N, L, F) t i = en B ca (n, z, N, L, Fx) t i := by
        have hf : ∀ j, F t i j = Fx t i j := fun j => h t i j hi (fun q => absurd q h1)
        have h3 : ∀ ci, fds B ci (n, z, N, L, F) t i = fds B ci (n, z, N, L, Fx) t i := fun ci => by simp [fds, fv, hf]
        unfold en
        split
        · rfl
        · rfl
        · rfl
        · simp only [hf]
        · rw [h3]
      rw [e9]; exact id
  refine kk B D ca p l e R s m args below meth c A C H locs ls hl ⟨?_, ?_, hS, hZ, hN⟩
  · intro q x hx
    obtain ⟨y, h1, h2⟩ := hat q x hx
    exact h2 (hP q _ h1)
  · refine ⟨fun a b x y hx hy he => ?_, fun q x hx => ?_⟩
    · obtain ⟨x2, h1, _⟩ := hat a x hx
      obtain ⟨y2, h2, _⟩ := hat b y hy
      exact hD.1 a b (x.1, x2) (y.1, y2) h1 h2 he
    · obtain ⟨x2, h1, _⟩ := hat q x hx
      exact hD.2 q (x.1, x2) h1
end Grow
theorem n1 {sc : XT} (N : TN) (L : TL) (F : Nat → Nat → Nat → Option (Nat × Nat)) (h0 : ∀ t j, N t 0 j = 0) : Sem sc 1 0 [(0, aR 2 0)] [] (3, true, N, L, F) 0 0 (QX (8, true, N, L, (upR (upR (upR (upR (upR F 2 0 0 (some (3, 0))) 2 0 1 (some (4, 0))) 2 0 2 (some (5, 0))) 2 0 3 (some (6, 0))) 2 0 4 (some (7, 0))))) := by
  refine Sem.seg [(.aload_n 0, 0, 0)] ⟨⟨d1_0, trivial⟩, trivial⟩ (lv' := [(0, aR 2 0)]) (st' := [aR 2 0]) (w' := (3, true, N, L, F)) (P := []) rfl (trivial) (pc' := 1) rfl ?_
  refine Sem.objInit d1_1 lk0_3 w_instanceMethod_LibobjectInit w_code_LibobjectInit (by decide) (by decide) ?_
  refine Sem.seg [(.aload_n 0, 0, 0), (.sipush 144, 0, 0)] ⟨⟨d1_4, trivial⟩, ⟨d1_5, trivial⟩, trivial⟩ (lv' := [(0, aR 2 0)]) (st' := [aN 144, aR 2 0]) (w' := (3, true, N, L, F)) (P := []) rfl (trivial) (pc' := 8) rfl ?_
  refine Sem.newaN (t := 3) (i := 0) (n := 144) d1_8 ac_int rfl (by decide) rfl (show 3 < 100 by decide) rfl (Or.inl (show 0 < 3 by decide)) (by decide) (by decide) (by decide) (fun j => h0 3 j) ?_
  refine Sem.weq (show (wS (3, true, N, L, F) : NW) = (4, true, N, L, F) from rfl) ?_
  refine Sem.cz (show 0 + 1 = 1 by rfl) (show 0 + 144 = 144 by rfl) ?_
  refine Sem.putR (ci := 0) (j := 0) (q := (3, 0)) d1_10 gf0_9 rfl rfl (by decide +kernel) rfl rfl (show vld 4 2 0 from ⟨by decide, by decide⟩) ?_
  refine Sem.weq (show wR (4, true, N, L, F) 2 0 0 (some (3, 0)) = (4, true, N, L, (upR F 2 0 0 (some (3, 0)))) from rfl) ?_
  refine Sem.seg [(.aload_n 0, 0, 0), (.sipush 144, 0, 0)] ⟨⟨d1_13, trivial⟩, ⟨d1_14, trivial⟩, trivial⟩ (lv' := [(0, aR 2 0)]) (st' := [aN 144, aR 2 0]) (w' := (4, true, N, L, (upR F 2 0 0 (some (3, 0))))) (P := []) rfl (trivial) (pc' := 17) rfl ?_
  refine Sem.newaN (t := 4) (i := 0) (n := 144) d1_17 ac_int rfl (by decide) rfl (show 4 < 100 by decide) rfl (Or.inl (show 0 < 4 by decide)) (by decide) (by decide) (by decide) (fun j => h0 4 j) ?_
  refine Sem.weq (show (wS (4, true, N, L, (upR F 2 0 0 (some (3, 0)))) : NW) = (5, true, N, L, (upR F 2 0 0 (some (3, 0)))) from rfl) ?_
  refine Sem.cz (show 1 + 1 = 2 by rfl) (show 144 + 144 = 288 by rfl) ?_
  refine Sem.putR (ci := 0) (j := 1) (q := (4, 0)) d1_19 gf0_15 rfl rfl (by decide +kernel) rfl rfl (show vld 5 2 0 from ⟨by decide, by decide⟩) ?_
  refine Sem.weq (show wR (5, true, N, L, (upR F 2 0 0 (some (3, 0)))) 2 0 1 (some (4, 0)) = (5, true, N, L, (upR (upR F 2 0 0 (some (3, 0))) 2 0 1 (some (4, 0)))) from rfl) ?_
  refine Sem.seg [(.aload_n 0, 0, 0), (.sipush 144, 0, 0)] ⟨⟨d1_22, trivial⟩, ⟨d1_23, trivial⟩, trivial⟩ (lv' := [(0, aR 2 0)]) (st' := [aN 144, aR 2 0]) (w' := (5, true, N, L, (upR (upR F 2 0 0 (some (3, 0))) 2 0 1 (some (4, 0))))) (P := []) rfl (trivial) (pc' := 26) rfl ?_
  refine Sem.newaN (t := 5) (i := 0) (n := 144) d1_26 ac_int rfl (by decide) rfl (show 5 < 100 by decide) rfl (Or.inl (show 0 < 5 by decide)) (by decide) (by decide) (by decide) (fun j => h0 5 j) ?_
  refine Sem.weq (show (wS (5, true, N, L, (upR (upR F 2 0 0 (some (3, 0))) 2 0 1 (some (4, 0)))) : NW) = (6, true, N, L, (upR (upR F 2 0 0 (some (3, 0))) 2 0 1 (some (4, 0)))) from rfl) ?_
  refine Sem.cz (show 2 + 1 = 3 by rfl) (show 288 + 144 = 432 by rfl) ?_
  refine Sem.putR (ci := 0) (j := 2) (q := (5, 0)) d1_28 gf0_18 rfl rfl (by decide +kernel) rfl rfl (show vld 6 2 0 from ⟨by decide, by decide⟩) ?_
  refine Sem.weq (show wR (6, true, N, L, (upR (upR F 2 0 0 (some (3, 0))) 2 0 1 (some (4, 0)))) 2 0 2 (some (5, 0)) = (6, true, N, L, (upR (upR (upR F 2 0 0 (some (3, 0))) 2 0 1 (some (4, 0))) 2 0 2 (some (5, 0)))) from rfl) ?_
  refine Sem.seg [(.aload_n 0, 0, 0), (.bipush 12, 0, 0)] ⟨⟨d1_31, trivial⟩, ⟨d1_32, trivial⟩, trivial⟩ (lv' := [(0, aR 2 0)]) (st' := [aN 12, aR 2 0]) (w' := (6, true, N, L, (upR (upR (upR F 2 0 0 (some (3, 0))) 2 0 1 (some (4, 0))) 2 0 2 (some (5, 0))))) (P := []) rfl (trivial) (pc' := 34) rfl ?_
  refine Sem.newaN (t := 6) (i := 0) (n := 12) d1_34 ac_int rfl (by decide) rfl (show 6 < 100 by decide) rfl (Or.inl (show 0 < 6 by decide)) (by decide) (by decide) (by decide) (fun j => h0 6 j) ?_
  refine Sem.weq (show (wS (6, true, N, L, (upR (upR (upR F 2 0 0 (some (3, 0))) 2 0 1 (some (4, 0))) 2 0 2 (some (5, 0)))) : NW) = (7, true, N, L, (upR (upR (upR F 2 0 0 (some (3, 0))) 2 0 1 (some (4, 0))) 2 0 2 (some (5, 0)))) from rfl) ?_
  refine Sem.cz (show 3 + 1 = 4 by rfl) (show 432 + 12 = 444 by rfl) ?_
  refine Sem.putR (ci := 0) (j := 3) (q := (6, 0)) d1_36 gf0_21 rfl rfl (by decide +kernel) rfl rfl (show vld 7 2 0 from ⟨by decide, by decide⟩) ?_
  refine Sem.weq (show wR (7, true, N, L, (upR (upR (upR F 2 0 0 (some (3, 0))) 2 0 1 (some (4, 0))) 2 0 2 (some (5, 0)))) 2 0 3 (some (6, 0)) = (7, true, N, L, (upR (upR (upR (upR F 2 0 0 (some (3, 0))) 2 0 1 (some (4, 0))) 2 0 2 (some (5, 0))) 2 0 3 (some (6, 0)))) from rfl) ?_
  refine Sem.seg [(.aload_n 0, 0, 0), (.bipush 12, 0, 0)] ⟨⟨d1_39, trivial⟩, ⟨d1_40, trivial⟩, trivial⟩ (lv' := [(0, aR 2 0)]) (st' := [aN 12, aR 2 0]) (w' := (7, true, N, L, (upR (upR (upR (upR F 2 0 0 (some (3, 0))) 2 0 1 (some (4, 0))) 2 0 2 (some (5, 0))) 2 0 3 (some (6, 0))))) (P := []) rfl (trivial) (pc' := 42) rfl ?_
  refine Sem.newaN (t := 7) (i := 0) (n := 12) d1_42 ac_int rfl (by decide) rfl (show 7 < 100 by decide) rfl (Or.inl (show 0 < 7 by decide)) (by decide) (by decide) (by decide) (fun j => h0 7 j) ?_
  refine Sem.weq (show (wS (7, true, N, L, (upR (upR (upR (upR F 2 0 0 (some (3, 0))) 2 0 1 (some (4, 0))) 2 0 2 (some (5, 0))) 2 0 3 (some (6, 0)))) : NW) = (8, true, N, L, (upR (upR (upR (upR F 2 0 0 (some (3, 0))) 2 0 1 (some (4, 0))) 2 0 2 (some (5, 0))) 2 0 3 (some (6, 0)))) from rfl) ?_
  refine Sem.cz (show 4 + 1 = 5 by rfl) (show 444 + 12 = 456 by rfl) ?_
  refine Sem.putR (ci := 0) (j := 4) (q := (7, 0)) d1_44 gf0_24 rfl rfl (by decide +kernel) rfl rfl (show vld 8 2 0 from ⟨by decide, by decide⟩) ?_
  refine Sem.weq (show wR (8, true, N, L, (upR (upR (upR (upR F 2 0 0 (some (3, 0))) 2 0 1 (some (4, 0))) 2 0 2 (some (5, 0))) 2 0 3 (some (6, 0)))) 2 0 4 (some (7, 0)) = (8, true, N, L, (upR (upR (upR (upR (upR F 2 0 0 (some (3, 0))) 2 0 1 (some (4, 0))) 2 0 2 (some (5, 0))) 2 0 3 (some (6, 0))) 2 0 4 (some (7, 0)))) from rfl) ?_
  exact Sem.vret d1_47 rfl (by decide) (by decide) (fun _ => rfl) ⟨rfl, rfl⟩

theorem n2 {sc : XT} (N : TN) (L : TL) (F : Nat → Nat → Nat → Option (Nat × Nat)) (i : Nat) (hi : i < 3) (h0 : ∀ t j, N t i j = 0) : Sem sc 2 0 [(0, aR 8 i)] [] (9 + 4 * i, true, N, L, F) 0 0 (QX (12 + 4 * i, true, N, L, (upR (upR (upR F 8 i 0 (some (9, i))) 8 i 1 (some (10, i))) 8 i 2 (some (11, i))))) := by
  refine Sem.seg [(.aload_n 0, 0, 0)] ⟨⟨d2_0, trivial⟩, trivial⟩ (lv' := [(0, aR 8 i)]) (st' := [aR 8 i]) (w' := (9 + 4 * i, true, N, L, F)) (P := []) rfl (trivial) (pc' := 1) rfl ?_
  refine Sem.objInit d2_1 lk1_3 w_instanceMethod_LibobjectInit w_code_LibobjectInit (by decide) (by decide) ?_
  refine Sem.seg [(.aload_n 0, 0, 0), (.bipush 24, 0, 0)] ⟨⟨d2_4, trivial⟩, ⟨d2_5, trivial⟩, trivial⟩ (lv' := [(0, aR 8 i)]) (st' := [aN 24, aR 8 i]) (w' := (9 + 4 * i, true, N, L, F)) (P := []) rfl (trivial) (pc' := 7) rfl ?_
  refine Sem.newaN (t := 9) (i := i) (n := 24) d2_7 ac_int rfl (show i < 3 by omega) (show 9 + 4 * i = 9 + 4 * i by omega) (show 9 + 4 * i < 100 by omega) rfl (Or.inl (show 0 < 9 + 4 * i by omega)) (by decide) (by decide) (by decide) (fun j => h0 9 j) ?_
  refine Sem.weq (show (wS (9 + 4 * i, true, N, L, F) : NW) = (10 + 4 * i, true, N, L, F) from (congrArg (fun n_ => ((n_, true, N, L, F) : NW)) (by omega))) ?_
  refine Sem.cz (show 0 + 1 = 1 by rfl) (show 0 + 24 = 24 by rfl) ?_
  refine Sem.putR (ci := 1) (j := 0) (q := (9, i)) d2_9 gf1_9 rfl rfl (by decide +kernel) rfl rfl (show vld (10 + 4 * i) 8 i from ⟨(show i < 3 by omega), (show 8 + 4 * i < 10 + 4 * i by omega)⟩) ?_
  refine Sem.weq (show wR (10 + 4 * i, true, N, L, F) 8 i 0 (some (9, i)) = (10 + 4 * i, true, N, L, (upR F 8 i 0 (some (9, i)))) from rfl) ?_
  refine Sem.seg [(.aload_n 0, 0, 0), (.bipush 24, 0, 0)] ⟨⟨d2_12, trivial⟩, ⟨d2_13, trivial⟩, trivial⟩ (lv' := [(0, aR 8 i)]) (st' := [aN 24, aR 8 i]) (w' := (10 + 4 * i, true, N, L, (upR F 8 i 0 (some (9, i))))) (P := []) rfl (trivial) (pc' := 15) rfl ?_
  refine Sem.newaN (t := 10) (i := i) (n := 24) d2_15 ac_int rfl (show i < 3 by omega) (show 10 + 4 * i = 10 + 4 * i by omega) (show 10 + 4 * i < 100 by omega) rfl (Or.inl (show 0 < 10 + 4 * i by omega)) (by decide) (by decide) (by decide) (fun j => h0 10 j) ?_
  refine Sem.weq (show (wS (10 + 4 * i, true, N, L, (upR F 8 i 0 (some (9, i)))) : NW) = (11 + 4 * i, true, N, L, (upR F 8 i 0 (some (9, i)))) from (congrArg (fun n_ => ((n_, true, N, L, (upR F 8 i 0 (some (9, i)))) : NW)) (by omega))) ?_
  refine Sem.cz (show 1 + 1 = 2 by rfl) (show 24 + 24 = 48 by rfl) ?_
  refine Sem.putR (ci := 1) (j := 1) (q := (10, i)) d2_17 gf1_15 rfl rfl (by decide +kernel) rfl rfl (show vld (11 + 4 * i) 8 i from ⟨(show i < 3 by omega), (show 8 + 4 * i < 11 + 4 * i by omega)⟩) ?_
  refine Sem.weq (show wR (11 + 4 * i, true, N, L, (upR F 8 i 0 (some (9, i)))) 8 i 1 (some (10, i)) = (11 + 4 * i, true, N, L, (upR (upR F 8 i 0 (some (9, i))) 8 i 1 (some (10, i)))) from rfl) ?_
  refine Sem.seg [(.aload_n 0, 0, 0), (.bipush 24, 0, 0)] ⟨⟨d2_20, trivial⟩, ⟨d2_21, trivial⟩, trivial⟩ (lv' := [(0, aR 8 i)]) (st' := [aN 24, aR 8 i]) (w' := (11 + 4 * i, true, N, L, (upR (upR F 8 i 0 (some (9, i))) 8 i 1 (some (10, i))))) (P := []) rfl (trivial) (pc' := 23) rfl ?_
  refine Sem.newaN (t := 11) (i := i) (n := 24) d2_23 ac_int rfl (show i < 3 by omega) (show 11 + 4 * i = 11 + 4 * i by omega) (show 11 + 4 * i < 100 by omega) rfl (Or.inl (show 0 < 11 + 4 * i by omega)) (by decide) (by decide) (by decide) (fun j => h0 11 j) ?_
  refine Sem.weq (show (wS (11 + 4 * i, true, N, L, (upR (upR F 8 i 0 (some (9, i))) 8 i 1 (some (10, i)))) : NW) = (12 + 4 * i, true, N, L, (upR (upR F 8 i 0 (some (9, i))) 8 i 1 (some (10, i)))) from (congrArg (fun n_ => ((n_, true, N, L, (upR (upR F 8 i 0 (some (9, i))) 8 i 1 (some (10, i)))) : NW)) (by omega))) ?_
  refine Sem.cz (show 2 + 1 = 3 by rfl) (show 48 + 24 = 72 by rfl) ?_
  refine Sem.putR (ci := 1) (j := 2) (q := (11, i)) d2_25 gf1_18 rfl rfl (by decide +kernel) rfl rfl (show vld (12 + 4 * i) 8 i from ⟨(show i < 3 by omega), (show 8 + 4 * i < 12 + 4 * i by omega)⟩) ?_
  refine Sem.weq (show wR (12 + 4 * i, true, N, L, (upR (upR F 8 i 0 (some (9, i))) 8 i 1 (some (10, i)))) 8 i 2 (some (11, i)) = (12 + 4 * i, true, N, L, (upR (upR (upR F 8 i 0 (some (9, i))) 8 i 1 (some (10, i))) 8 i 2 (some (11, i)))) from rfl) ?_
  exact Sem.vret d2_28 rfl (by decide) (by decide) (fun _ => rfl) ⟨rfl, rfl⟩

theorem n3 {sc : XT} (N : TN) (L : TL) (F : Nat → Nat → Nat → Option (Nat × Nat)) (h0 : ∀ t j, N t 0 j = 0) (h1 : ∀ t j, L t 0 j = 0) : Sem sc 3 0 [(0, aR 12 0)] [] (21, true, N, L, F) 0 0 (QX (25, true, N, L, (upR (upR (upR (upR F 12 0 0 (some (13, 0))) 12 0 1 (some (14, 0))) 12 0 2 (some (15, 0))) 12 0 3 (some (16, 0))))) := by
  refine Sem.seg [(.aload_n 0, 0, 0)] ⟨⟨d3_0, trivial⟩, trivial⟩ (lv' := [(0, aR 12 0)]) (st' := [aR 12 0]) (w' := (21, true, N, L, F)) (P := []) rfl (trivial) (pc' := 1) rfl ?_
  refine Sem.objInit d3_1 lk3_3 w_instanceMethod_LibobjectInit w_code_LibobjectInit (by decide) (by decide) ?_
  refine Sem.seg [(.aload_n 0, 0, 0), (.bipush 12, 0, 0)] ⟨⟨d3_4, trivial⟩, ⟨d3_5, trivial⟩, trivial⟩ (lv' := [(0, aR 12 0)]) (st' := [aN 12, aR 12 0]) (w' := (21, true, N, L, F)) (P := []) rfl (trivial) (pc' := 7) rfl ?_
  refine Sem.newaL (t := 13) (i := 0) (n := 12) d3_7 ac_long rfl (by decide) rfl (show 21 < 100 by decide) rfl (Or.inl (show 0 < 21 by decide)) (by decide) (by decide) (by decide) (fun j => h1 13 j) ?_
  refine Sem.weq (show (wS (21, true, N, L, F) : NW) = (22, true, N, L, F) from rfl) ?_
  refine Sem.cz (show 0 + 1 = 1 by rfl) (show 0 + 12 = 12 by rfl) ?_
  refine Sem.putR (ci := 3) (j := 0) (q := (13, 0)) d3_9 gf3_9 rfl rfl (by decide +kernel) rfl rfl (show vld 22 12 0 from ⟨by decide, by decide⟩) ?_
  refine Sem.weq (show wR (22, true, N, L, F) 12 0 0 (some (13, 0)) = (22, true, N, L, (upR F 12 0 0 (some (13, 0)))) from rfl) ?_
  refine Sem.seg [(.aload_n 0, 0, 0), (.bipush 12, 0, 0)] ⟨⟨d3_12, trivial⟩, ⟨d3_13, trivial⟩, trivial⟩ (lv' := [(0, aR 12 0)]) (st' := [aN 12, aR 12 0]) (w' := (22, true, N, L, (upR F 12 0 0 (some (13, 0))))) (P := []) rfl (trivial) (pc' := 15) rfl ?_
  refine Sem.newaL (t := 14) (i := 0) (n := 12) d3_15 ac_long rfl (by decide) rfl (show 22 < 100 by decide) rfl (Or.inl (show 0 < 22 by decide)) (by decide) (by decide) (by decide) (fun j => h1 14 j) ?_
  refine Sem.weq (show (wS (22, true, N, L, (upR F 12 0 0 (some (13, 0)))) : NW) = (23, true, N, L, (upR F 12 0 0 (some (13, 0)))) from rfl) ?_
  refine Sem.cz (show 1 + 1 = 2 by rfl) (show 12 + 12 = 24 by rfl) ?_
  refine Sem.putR (ci := 3) (j := 1) (q := (14, 0)) d3_17 gf3_15 rfl rfl (by decide +kernel) rfl rfl (show vld 23 12 0 from ⟨by decide, by decide⟩) ?_
  refine Sem.weq (show wR (23, true, N, L, (upR F 12 0 0 (some (13, 0)))) 12 0 1 (some (14, 0)) = (23, true, N, L, (upR (upR F 12 0 0 (some (13, 0))) 12 0 1 (some (14, 0)))) from rfl) ?_
  refine Sem.seg [(.aload_n 0, 0, 0), (.bipush 13, 0, 0)] ⟨⟨d3_20, trivial⟩, ⟨d3_21, trivial⟩, trivial⟩ (lv' := [(0, aR 12 0)]) (st' := [aN 13, aR 12 0]) (w' := (23, true, N, L, (upR (upR F 12 0 0 (some (13, 0))) 12 0 1 (some (14, 0))))) (P := []) rfl (trivial) (pc' := 23) rfl ?_
  refine Sem.newaL (t := 15) (i := 0) (n := 13) d3_23 ac_long rfl (by decide) rfl (show 23 < 100 by decide) rfl (Or.inl (show 0 < 23 by decide)) (by decide) (by decide) (by decide) (fun j => h1 15 j) ?_
  refine Sem.weq (show (wS (23, true, N, L, (upR (upR F 12 0 0 (some (13, 0))) 12 0 1 (some (14, 0)))) : NW) = (24, true, N, L, (upR (upR F 12 0 0 (some (13, 0))) 12 0 1 (some (14, 0)))) from rfl) ?_
  refine Sem.cz (show 2 + 1 = 3 by rfl) (show 24 + 13 = 37 by rfl) ?_
  refine Sem.putR (ci := 3) (j := 2) (q := (15, 0)) d3_25 gf3_18 rfl rfl (by decide +kernel) rfl rfl (show vld 24 12 0 from ⟨by decide, by decide⟩) ?_
  refine Sem.weq (show wR (24, true, N, L, (upR (upR F 12 0 0 (some (13, 0))) 12 0 1 (some (14, 0)))) 12 0 2 (some (15, 0)) = (24, true, N, L, (upR (upR (upR F 12 0 0 (some (13, 0))) 12 0 1 (some (14, 0))) 12 0 2 (some (15, 0)))) from rfl) ?_
  refine Sem.seg [(.aload_n 0, 0, 0), (.bipush 12, 0, 0)] ⟨⟨d3_28, trivial⟩, ⟨d3_29, trivial⟩, trivial⟩ (lv' := [(0, aR 12 0)]) (st' := [aN 12, aR 12 0]) (w' := (24, true, N, L, (upR (upR (upR F 12 0 0 (some (13, 0))) 12 0 1 (some (14, 0))) 12 0 2 (some (15, 0))))) (P := []) rfl (trivial) (pc' := 31) rfl ?_
  refine Sem.newaN (t := 16) (i := 0) (n := 12) d3_31 ac_int rfl (by decide) rfl (show 24 < 100 by decide) rfl (Or.inl (show 0 < 24 by decide)) (by decide) (by decide) (by decide) (fun j => h0 16 j) ?_
  refine Sem.weq (show (wS (24, true, N, L, (upR (upR (upR F 12 0 0 (some (13, 0))) 12 0 1 (some (14, 0))) 12 0 2 (some (15, 0)))) : NW) = (25, true, N, L, (upR (upR (upR F 12 0 0 (some (13, 0))) 12 0 1 (some (14, 0))) 12 0 2 (some (15, 0)))) from rfl) ?_
  refine Sem.cz (show 3 + 1 = 4 by rfl) (show 37 + 12 = 49 by rfl) ?_
  refine Sem.putR (ci := 3) (j := 3) (q := (16, 0)) d3_33 gf3_21 rfl rfl (by decide +kernel) rfl rfl (show vld 25 12 0 from ⟨by decide, by decide⟩) ?_
  refine Sem.weq (show wR (25, true, N, L, (upR (upR (upR F 12 0 0 (some (13, 0))) 12 0 1 (some (14, 0))) 12 0 2 (some (15, 0)))) 12 0 3 (some (16, 0)) = (25, true, N, L, (upR (upR (upR (upR F 12 0 0 (some (13, 0))) 12 0 1 (some (14, 0))) 12 0 2 (some (15, 0))) 12 0 3 (some (16, 0)))) from rfl) ?_
  exact Sem.vret d3_36 rfl (by decide) (by decide) (fun _ => rfl) ⟨rfl, rfl⟩

theorem n4 {sc : XT} (N : TN) (L : TL) (F : Nat → Nat → Nat → Option (Nat × Nat)) (i : Nat) (hi : i < 12) (h1 : ∀ t j, L t i j = 0) : Sem sc 4 0 [(0, aR 19 i)] [] (28 + 4 * i, true, N, L, F) 0 0 (QX (31 + 4 * i, true, (upN (upN N 19 i 1 1) 19 i 10 1), L, (upR (upR (upR F 19 i 11 (some (20, i))) 19 i 12 (some (21, i))) 19 i 13 (some (22, i))))) := by
  refine Sem.seg [(.aload_n 0, 0, 0)] ⟨⟨d4_0, trivial⟩, trivial⟩ (lv' := [(0, aR 19 i)]) (st' := [aR 19 i]) (w' := (28 + 4 * i, true, N, L, F)) (P := []) rfl (trivial) (pc' := 1) rfl ?_
  refine Sem.objInit d4_1 lk2_3 w_instanceMethod_LibobjectInit w_code_LibobjectInit (by decide) (by decide) ?_
  refine Sem.seg [(.aload_n 0, 0, 0), (.iconst 1, 0, 0), (.putfield 9, 2, 1), (.aload_n 0, 0, 0), (.iconst 1, 0, 0), (.putfield 15, 2, 10), (.aload_n 0, 0, 0), (.bipush 12, 0, 0)] ⟨⟨d4_4, trivial⟩, ⟨d4_5, trivial⟩, ⟨d4_6, gf2_9⟩, ⟨d4_9, trivial⟩, ⟨d4_10, trivial⟩, ⟨d4_11, gf2_15⟩, ⟨d4_14, trivial⟩, ⟨d4_15, trivial⟩, trivial⟩ (lv' := [(0, aR 19 i)]) (st' := [aN 12, aR 19 i]) (w' := (28 + 4 * i, true, (upN (upN N 19 i 1 1) 19 i 10 1), L, F)) (P := [vld (28 + 4 * i) 19 i, vld (28 + 4 * i) 19 i, 1 = 0 ∨ 1 = 1]) rfl (⟨(show vld (28 + 4 * i) 19 i from ⟨(show i < 12 by omega), (show 27 + 4 * i < 28 + 4 * i by omega)⟩), (show vld (28 + 4 * i) 19 i from ⟨(show i < 12 by omega), (show 27 + 4 * i < 28 + 4 * i by omega)⟩), (show (1 : Nat) = 0 ∨ (1 : Nat) = 1 by decide)⟩) (pc' := 17) rfl ?_
  refine Sem.newaL (t := 20) (i := i) (n := 12) d4_17 ac_long rfl (show i < 12 by omega) (show 28 + 4 * i = 28 + 4 * i by omega) (show 28 + 4 * i < 100 by omega) rfl (Or.inl (show 0 < 28 + 4 * i by omega)) (by decide) (by decide) (by decide) (fun j => h1 20 j) ?_
  refine Sem.weq (show (wS (28 + 4 * i, true, (upN (upN N 19 i 1 1) 19 i 10 1), L, F) : NW) = (29 + 4 * i, true, (upN (upN N 19 i 1 1) 19 i 10 1), L, F) from (congrArg (fun n_ => ((n_, true, (upN (upN N 19 i 1 1) 19 i 10 1), L, F) : NW)) (by omega))) ?_
  refine Sem.cz (show 0 + 1 = 1 by rfl) (show 0 + 12 = 12 by rfl) ?_
  refine Sem.putR (ci := 2) (j := 11) (q := (20, i)) d4_19 gf2_19 rfl rfl (by decide +kernel) rfl rfl (show vld (29 + 4 * i) 19 i from ⟨(show i < 12 by omega), (show 27 + 4 * i < 29 + 4 * i by omega)⟩) ?_
  refine Sem.weq (show wR (29 + 4 * i, true, (upN (upN N 19 i 1 1) 19 i 10 1), L, F) 19 i 11 (some (20, i)) = (29 + 4 * i, true, (upN (upN N 19 i 1 1) 19 i 10 1), L, (upR F 19 i 11 (some (20, i)))) from rfl) ?_
  refine Sem.seg [(.aload_n 0, 0, 0), (.bipush 12, 0, 0)] ⟨⟨d4_22, trivial⟩, ⟨d4_23, trivial⟩, trivial⟩ (lv' := [(0, aR 19 i)]) (st' := [aN 12, aR 19 i]) (w' := (29 + 4 * i, true, (upN (upN N 19 i 1 1) 19 i 10 1), L, (upR F 19 i 11 (some (20, i))))) (P := []) rfl (trivial) (pc' := 25) rfl ?_
  refine Sem.newaL (t := 21) (i := i) (n := 12) d4_25 ac_long rfl (show i < 12 by omega) (show 29 + 4 * i = 29 + 4 * i by omega) (show 29 + 4 * i < 100 by omega) rfl (Or.inl (show 0 < 29 + 4 * i by omega)) (by decide) (by decide) (by decide) (fun j => h1 21 j) ?_
  refine Sem.weq (show (wS (29 + 4 * i, true, (upN (upN N 19 i 1 1) 19 i 10 1), L, (upR F 19 i 11 (some (20, i)))) : NW) = (30 + 4 * i, true, (upN (upN N 19 i 1 1) 19 i 10 1), L, (upR F 19 i 11 (some (20, i)))) from (congrArg (fun n_ => ((n_, true, (upN (upN N 19 i 1 1) 19 i 10 1), L, (upR F 19 i 11 (some (20, i)))) : NW)) (by omega))) ?_
  refine Sem.cz (show 1 + 1 = 2 by rfl) (show 12 + 12 = 24 by rfl) ?_
  refine Sem.putR (ci := 2) (j := 12) (q := (21, i)) d4_27 gf2_23 rfl rfl (by decide +kernel) rfl rfl (show vld (30 + 4 * i) 19 i from ⟨(show i < 12 by omega), (show 27 + 4 * i < 30 + 4 * i by omega)⟩) ?_
  refine Sem.weq (show wR (30 + 4 * i, true, (upN (upN N 19 i 1 1) 19 i 10 1), L, (upR F 19 i 11 (some (20, i)))) 19 i 12 (some (21, i)) = (30 + 4 * i, true, (upN (upN N 19 i 1 1) 19 i 10 1), L, (upR (upR F 19 i 11 (some (20, i))) 19 i 12 (some (21, i)))) from rfl) ?_
  refine Sem.seg [(.aload_n 0, 0, 0), (.bipush 12, 0, 0)] ⟨⟨d4_30, trivial⟩, ⟨d4_31, trivial⟩, trivial⟩ (lv' := [(0, aR 19 i)]) (st' := [aN 12, aR 19 i]) (w' := (30 + 4 * i, true, (upN (upN N 19 i 1 1) 19 i 10 1), L, (upR (upR F 19 i 11 (some (20, i))) 19 i 12 (some (21, i))))) (P := []) rfl (trivial) (pc' := 33) rfl ?_
  refine Sem.newaL (t := 22) (i := i) (n := 12) d4_33 ac_long rfl (show i < 12 by omega) (show 30 + 4 * i = 30 + 4 * i by omega) (show 30 + 4 * i < 100 by omega) rfl (Or.inl (show 0 < 30 + 4 * i by omega)) (by decide) (by decide) (by decide) (fun j => h1 22 j) ?_
  refine Sem.weq (show (wS (30 + 4 * i, true, (upN (upN N 19 i 1 1) 19 i 10 1), L, (upR (upR F 19 i 11 (some (20, i))) 19 i 12 (some (21, i)))) : NW) = (31 + 4 * i, true, (upN (upN N 19 i 1 1) 19 i 10 1), L, (upR (upR F 19 i 11 (some (20, i))) 19 i 12 (some (21, i)))) from (congrArg (fun n_ => ((n_, true, (upN (upN N 19 i 1 1) 19 i 10 1), L, (upR (upR F 19 i 11 (some (20, i))) 19 i 12 (some (21, i)))) : NW)) (by omega))) ?_
  refine Sem.cz (show 2 + 1 = 3 by rfl) (show 24 + 12 = 36 by rfl) ?_
  refine Sem.putR (ci := 2) (j := 13) (q := (22, i)) d4_35 gf2_26 rfl rfl (by decide +kernel) rfl rfl (show vld (31 + 4 * i) 19 i from ⟨(show i < 12 by omega), (show 27 + 4 * i < 31 + 4 * i by omega)⟩) ?_
  refine Sem.weq (show wR (31 + 4 * i, true, (upN (upN N 19 i 1 1) 19 i 10 1), L, (upR (upR F 19 i 11 (some (20, i))) 19 i 12 (some (21, i)))) 19 i 13 (some (22, i)) = (31 + 4 * i, true, (upN (upN N 19 i 1 1) 19 i 10 1), L, (upR (upR (upR F 19 i 11 (some (20, i))) 19 i 12 (some (21, i))) 19 i 13 (some (22, i)))) from rfl) ?_
  exact Sem.vret d4_38 rfl (by decide) (by decide) (fun _ => rfl) ⟨rfl, rfl⟩
