-- ===== the law =====
abbrev QL : QT := fun o _ => o = .inl (some (aN 1))
theorem N0_at (t a b : Nat) : Nq (Nl 12) 12 t a b = if t = 25 ∧ a = 0 ∧ b < 12 then 1 else if t = 23 ∧ a = 0 ∧ b = 20 then 1 else if t = 19 ∧ a < 12 ∧ (b = 1 ∨ b = 10) then 1 else 0 := rfl
theorem N0_0 {t a b : Nat} (h1 : t ≠ 25) (h2 : t ≠ 23) (h3 : t ≠ 19) : Nq (Nl 12) 12 t a b = 0 := by
  rw [N0_at, if_neg (by omega), if_neg (by omega), if_neg (by omega)]
theorem N0_19 {i f : Nat} (h : i < 12) : Nq (Nl 12) 12 19 i f = if f = 1 ∨ f = 10 then 1 else 0 := by
  rw [N0_at, if_neg (by omega), if_neg (by omega)]
  by_cases e : f = 1 ∨ f = 10
  · rw [if_pos ⟨rfl, h, e⟩, if_pos e]
  · rw [if_neg (by omega), if_neg e]
theorem Inv0 : Inv (Nq (Nl 12) 12) ZL := by
  have z : (0 : Int64).toInt = 0 := rfl
  have hbd : ∀ t i, Bd1 (ZL t i) 100000000000000 := fun t i => by
    refine ⟨fun w _ => by show 0 ≤ (0 : Int64).toInt; decide, ?_⟩
    rw [smI_cg (f := fun w => (ZL t i w).toInt) (g := fun _ => 0) (fun w _ => rfl), smI_c]
    decide
  refine ⟨⟨fun i hi => ?_, fun b hb => ?_, ?_⟩, SD_of (fun i f hi hf => ?_) (fun b hb => ?_) (fun c hc => ?_), ⟨?_, ?_, fun i hi => ?_⟩, ⟨fun i hi => ?_, ?_, ?_, fun i hi => ?_⟩, fun i hi h0 => ?_, fun i w _ _ => ⟨rfl, rfl⟩, fun i hi => ⟨hbd 20 i, hbd 21 i⟩⟩
  · unfold CI
    simp only [N0_19 hi]
    decide
  · unfold CB
    rw [N0_0 (t := 8) (by omega) (by omega) (by omega)]
    exact ⟨by omega, fun k hk => by omega, fun k hk => by omega, fun k hk => by omega⟩
  · refine ⟨by rw [N0_0 (by omega) (by omega) (by omega)]; omega, fun c _ => by rw [N0_0 (by omega) (by omega) (by omega)]; omega, fun c _ h => absurd (N0_0 (by omega) (by omega) (by omega)) h, fun i _ => by rw [N0_0 (by omega) (by omega) (by omega)]; omega⟩
  · rw [N0_19 hi, N0_at]
    by_cases e : f = 1
    · subst e; rw [if_pos ⟨rfl, rfl, hi⟩]; rfl
    · rw [if_neg (by omega), if_neg (by omega), if_neg (by omega), if_neg (by omega)]
  · rw [N0_0 (t := 37) (by omega) (by omega) (by omega), N0_0 (t := 8) (by omega) (by omega) (by omega)]
    exact ⟨rfl, fun k hk => by omega⟩
  · rw [N0_0 (t := 34) (by omega) (by omega) (by omega), N0_0 (t := 3) (by omega) (by omega) (by omega)]
    exact ⟨rfl, fun h => absurd rfl h⟩
  · rw [N0_0 (by omega) (by omega) (by omega)]
    unfold lineS
    have e : ∀ n, smN (fun c => if Nq (Nl 12) 12 3 0 c = 0 then 0 else 1) n = 0 := by
      intro n
      induction n with
      | zero => rfl
      | succ n ih => simp only [smN]; rw [ih, N0_0 (by omega) (by omega) (by omega)]; rfl
    exact (e 144).symm
  · rw [N0_0 (t := 2) (by omega) (by omega) (by omega), N0_at, if_neg (by omega), if_neg (by omega), if_neg (by omega)]
  · rw [N0_0 (t := 6) (by omega) (by omega) (by omega)]
    refine ⟨by omega, trivial, ?_⟩
    rintro ⟨p, _, q, _⟩
    unfold eg at q
    rw [N0_0 (by omega) (by omega) (by omega)] at q
    omega
  · have e19 : Nq (Nl 12) 12 23 0 19 = 0 := rfl
    rw [N0_19 hi, mN_t, e19]
    rfl
  · have e : Nq (Nl 12) 12 23 0 20 = 1 := rfl
    rw [e, bo_t]
    intro q
    have := q 0 (by omega)
    rw [N0_19 (by omega)] at this
    exact absurd this (by decide)
  · rw [N0_at, if_neg (by omega), if_neg (by omega), if_neg (by omega)]; omega
  · rw [N0_0 (by omega) (by omega) (by omega)]; omega
  · rw [N0_19 hi] at h0
    exact absurd h0 (by decide)
def fxB : Bool := (List.range 48).all fun t => (List.range 12).all fun i => (List.range 27).all fun j => (!decide (i < ct t)) || (decide (t = 1) && !decide (j < 12)) || (FM (Fl 12) t i j == Fx t i j)
theorem fxB_t : fxB = true := by decide +kernel
theorem fx_ok : ∀ t i j, i < ct t → (t = 1 → j < 12) → FM (Fl 12) t i j = Fx t i j := by
  intro t i j hi h1
  obtain ⟨ht, hi12⟩ := ct_le hi
  rcases Nat.lt_or_ge j 27 with hj | hj
  · have h3 := List.all_eq_true.mp (List.all_eq_true.mp (List.all_eq_true.mp fxB_t t (List.mem_range.mpr ht)) i (List.mem_range.mpr hi12)) j (List.mem_range.mpr hj)
    rw [Bool.or_eq_true, Bool.or_eq_true, Bool.and_eq_true, Bool.not_eq_true', Bool.not_eq_true', decide_eq_false_iff_not, decide_eq_false_iff_not, decide_eq_true_iff, beq_iff_eq] at h3
    rcases h3 with (q | q) | q
    · exact absurd hi q
    · exact absurd (h1 q.1) q.2
    · exact q
  · have hn : t ≠ 1 := fun q => by have := h1 q; omega
    have e1 : Fx t i j = none := by
      unfold Fx
      split <;> first | rfl | (exfalso; omega) | (split <;> first | rfl | (exfalso; omega))
    rw [e1]
    unfold FM
    simp only [upR]
    repeat rw [if_neg (by omega)]
    unfold Fl
    by_cases e19 : t = 19
    · subst e19
      rw [if_pos rfl, e1]; split <;> rfl
    · rw [if_neg e19, if_neg hn]
      unfold FB
      simp only [upR]
      repeat rw [if_neg (by omega)]
      rfl
theorem law_sub {n : Nat} (h : n ≤ 3072) : (nI n - nI 6).toInt = (n : Int) - 6 := by
  rw [Int32.toInt_sub, nI_toInt (by omega), nI_toInt (by omega), Int.bmod_eq_of_le] <;> omega
theorem law_lp {sc : XT} (h72 : sc.2.1 ≤ 3072) : ∀ (d i : Nat) (N : TN) (L : TL), sc.2.1 - i = d → i ≤ sc.2.1 → Inv N L → Sem sc 133 23 [(4, aN i), (0, aV (.ref sc.1)), (1, aR 0 0), (2, aR 23 0), (3, aR 47 0)] [] (wd N L) (100 + 17 * i) (2524 + 102 * i) QL := by
  intro d
  induction d using Nat.strongRecOn with
  | ind d ih =>
    intro i N L hd hi h
    refine Sem.seg [(.iload 4, 0, 0), (.aload_n 0, 0, 0)] ⟨⟨d133_23, trivial⟩, ⟨d133_25, trivial⟩, trivial⟩ (lv' := [(4, aN i), (0, aV (.ref sc.1)), (1, aR 0 0), (2, aR 23 0), (3, aR 47 0)]) (st' := [aV (.ref sc.1), aN i]) (w' := wd N L) (P := []) rfl trivial (pc' := 26) rfl ?_
    refine Sem.slen rfl d133_26 ?_
    refine Sem.seg [(.bipush 6, 0, 0), (.isub, 0, 0)] ⟨⟨d133_27, trivial⟩, ⟨d133_29, trivial⟩, trivial⟩ (lv' := [(4, aN i), (0, aV (.ref sc.1)), (1, aR 0 0), (2, aR 23 0), (3, aR 47 0)]) (st' := [aI (nI sc.2.1 - nI 6), aN i]) (w' := wd N L) (P := []) rfl trivial (pc' := 30) rfl ?_
    refine Sem.icmp (tgt := 1434) d133_30 (by decide) rfl rfl (fun b1 => ?_) (fun b1 => ?_)
    · refine Sem.seg [(.iconst 1, 0, 0)] ⟨⟨d133_1434, trivial⟩, trivial⟩ (lv' := [(4, aN i), (0, aV (.ref sc.1)), (1, aR 0 0), (2, aR 23 0), (3, aR 47 0)]) (st' := [aN 1]) (w' := wd N L) (P := []) rfl trivial (pc' := 1435) rfl ?_
      exact Sem.iret rfl d133_1435 (Or.inr ⟨rfl, by decide⟩) (lawC (by omega)) (lawS (by omega)) hzW rfl
    · have b2 : ¬ ((sc.2.1 : Int) - 6 < (i : Int)) := bF (nI_toInt (by omega)) (law_sub h72) b1
      have hi6 : i + 6 ≤ sc.2.1 := by omega
      have kk : ∀ (N' : TN) (L' : TL), Inv N' L' → Sem sc 133 1428 [(4, aN i), (0, aV (.ref sc.1)), (1, aR 0 0), (2, aR 23 0), (3, aR 47 0)] [] (wd N' L') (100 + 17 * (i + 6)) (2524 + 102 * (i + 6)) QL := by
        intro N' L' h'
        refine Sem.seg [(.iinc 4 6, 0, 0)] ⟨⟨d133_1428, trivial⟩, trivial⟩ (lv' := [(4, aN (i + 6)), (0, aV (.ref sc.1)), (1, aR 0 0), (2, aR 23 0), (3, aR 47 0)]) (st' := []) (w' := wd N' L') (P := []) rfl trivial (pc' := 1431) rfl ?_
        refine Sem.goto (tgt := 23) d133_1431 (by decide) ?_
        exact ih (sc.2.1 - (i + 6)) (by omega) (i + 6) N' L' rfl hi6 h'
      refine Sem.seg [(.aload_n 0, 0, 0), (.iload 4, 0, 0)] ⟨⟨d133_33, trivial⟩, ⟨d133_34, trivial⟩, trivial⟩ (lv' := [(4, aN i), (0, aV (.ref sc.1)), (1, aR 0 0), (2, aR 23 0), (3, aR 47 0)]) (st' := [aN i, aV (.ref sc.1)]) (w' := wd N L) (P := []) rfl trivial (pc' := 36) rfl ?_
      refine Sem.sld rfl d133_36 (show i < sc.2.1 by omega) (show sc.2.1 < 2 ^ 31 by omega) ?_
      refine Sem.seg [(.bipush 31, 0, 0), (.iand, 0, 0)] ⟨⟨d133_37, trivial⟩, ⟨d133_39, trivial⟩, trivial⟩ (lv' := [(4, aN i), (0, aV (.ref sc.1)), (1, aR 0 0), (2, aR 23 0), (3, aR 47 0)]) (st' := [aI (sc.2.2 i &&& nI 31)]) (w' := wd N L) (P := []) rfl trivial (pc' := 40) rfl ?_
      generalize sc.2.2 i &&& nI 31 = x
      by_cases hx : x.toInt < 0 ∨ 18 < x.toInt
      · refine Sem.tabOut rfl d133_40 hx (tgt := 1428) (by decide) ?_
        refine Sem.widen (a := 100 + 17 * (i + 6)) (b := 2524 + 102 * (i + 6)) (by omega) (by omega) hzW ?_
        exact kk N L h
      · have hx2 : x.toInt = 0 ∨ x.toInt = 1 ∨ x.toInt = 2 ∨ x.toInt = 3 ∨ x.toInt = 4 ∨ x.toInt = 5 ∨ x.toInt = 6 ∨ x.toInt = 7 ∨ x.toInt = 8 ∨ x.toInt = 9 ∨ x.toInt = 10 ∨ x.toInt = 11 ∨ x.toInt = 12 ∨ x.toInt = 13 ∨ x.toInt = 14 ∨ x.toInt = 15 ∨ x.toInt = 16 ∨ x.toInt = 17 ∨ x.toInt = 18 := by omega
        rcases hx2 with hv | hv | hv | hv | hv | hv | hv | hv | hv | hv | hv | hv | hv | hv | hv | hv | hv | hv | hv
        · exact Sem.tabIn rfl d133_40 (by omega) (by omega) (show _ = some 92 from by rw [hv]; rfl) (tgt := 132) (by decide) (c_item N L i h hi6 h72 kk)
        · exact Sem.tabIn rfl d133_40 (by omega) (by omega) (show _ = some 176 from by rw [hv]; rfl) (tgt := 216) (by decide) (c_costs N L i h hi6 h72 kk)
        · exact Sem.tabIn rfl d133_40 (by omega) (by omega) (show _ = some 248 from by rw [hv]; rfl) (tgt := 288) (by decide) (c_made N L i h hi6 h72 kk)
        · exact Sem.tabIn rfl d133_40 (by omega) (by omega) (show _ = some 308 from by rw [hv]; rfl) (tgt := 348) (by decide) (c_line N L i h hi6 h72 kk)
        · exact Sem.tabIn rfl d133_40 (by omega) (by omega) (show _ = some 392 from by rw [hv]; rfl) (tgt := 432) (by decide) (c_stock N L i h hi6 h72 kk)
        · exact Sem.tabIn rfl d133_40 (by omega) (by omega) (show _ = some 460 from by rw [hv]; rfl) (tgt := 500) (by decide) (c_demand N L i h hi6 h72 kk)
        · exact Sem.tabIn rfl d133_40 (by omega) (by omega) (show _ = some 540 from by rw [hv]; rfl) (tgt := 580) (by decide) (c_change N L i h hi6 h72 kk)
        · exact Sem.tabIn rfl d133_40 (by omega) (by omega) (show _ = some 620 from by rw [hv]; rfl) (tgt := 660) (by decide) (c_order N L i h hi6 h72 kk)
        · exact Sem.tabIn rfl d133_40 (by omega) (by omega) (show _ = some 700 from by rw [hv]; rfl) (tgt := 740) (by decide) (c_replan N L i h hi6 h72 kk)
        · exact Sem.tabIn rfl d133_40 (by omega) (by omega) (show _ = some 713 from by rw [hv]; rfl) (tgt := 753) (by decide) (c_level N L i h hi6 h72 kk)
        · exact Sem.tabIn rfl d133_40 (by omega) (by omega) (show _ = some 769 from by rw [hv]; rfl) (tgt := 809) (by decide) (c_gross N L i h hi6 h72 kk)
        · exact Sem.tabIn rfl d133_40 (by omega) (by omega) (show _ = some 836 from by rw [hv]; rfl) (tgt := 876) (by decide) (c_planned N L i h hi6 h72 kk)
        · exact Sem.tabIn rfl d133_40 (by omega) (by omega) (show _ = some 903 from by rw [hv]; rfl) (tgt := 943) (by decide) (c_balance N L i h hi6 h72 kk)
        · exact Sem.tabIn rfl d133_40 (by omega) (by omega) (show _ = some 970 from by rw [hv]; rfl) (tgt := 1010) (by decide) (c_peg N L i h hi6 h72 kk)
        · exact Sem.tabIn rfl d133_40 (by omega) (by omega) (show _ = some 1049 from by rw [hv]; rfl) (tgt := 1089) (by decide) (c_promise N L i h hi6 h72 kk)
        · exact Sem.tabIn rfl d133_40 (by omega) (by omega) (show _ = some 1129 from by rw [hv]; rfl) (tgt := 1169) (by decide) (c_reserve N L i h hi6 h72 kk)
        · exact Sem.tabIn rfl d133_40 (by omega) (by omega) (show _ = some 1209 from by rw [hv]; rfl) (tgt := 1249) (by decide) (c_giveBack N L i h hi6 h72 kk)
        · exact Sem.tabIn rfl d133_40 (by omega) (by omega) (show _ = some 1265 from by rw [hv]; rfl) (tgt := 1305) (by decide) (c_load N L i h hi6 h72 kk)
        · exact Sem.tabIn rfl d133_40 (by omega) (by omega) (show _ = some 1332 from by rw [hv]; rfl) (tgt := 1372) (by decide) (c_count N L i h hi6 h72 kk)
theorem law_all {sc : XT} (h72 : sc.2.1 ≤ 3072) : Sem sc 133 0 [(0, aV (.ref sc.1))] [] (0, true, ZN, ZL, ZF) 0 0 QL := by
  refine Sem.new (ci := 4) (t := 0) (i := 0) d133_0 cl6_8 it4 in4 rfl (by decide) rfl (show 0 < 100 by decide) rfl (Or.inr rfl) (by decide) (by decide) (fun j => ⟨rfl, rfl, rfl⟩) ?_
  refine Sem.weq (show (wS (0, true, ZN, ZL, ZF) : NW) = (1, true, ZN, ZL, ZF) from rfl) ?_
  refine Sem.cz (show 0 + 1 = 1 by rfl) (show 0 + 8 = 8 by rfl) ?_
  refine Sem.seg [(.dup, 0, 0)] ⟨⟨d133_3, trivial⟩, trivial⟩ (lv' := [(0, aV (.ref sc.1))]) (st' := [aR 0 0, aR 0 0]) (w' := (1, true, ZN, ZL, ZF)) (P := []) rfl (trivial) (pc' := 4) rfl ?_
  refine Sem.cI (c' := 75) (s' := 1387) false "NettedPlans" d133_4 mk0 rfl co0 rfl rfl lk6_77 im0 (Or.inl (show 0 < 1 by decide)) rfl (by decide) rfl (show 1 ≤ 8 by decide) (by decide) (by decide) rfl rfl (by decide) (by decide) (n0) ?_
  refine Sem.seg [(.astore_n 1, 0, 0)] ⟨⟨d133_7, trivial⟩, trivial⟩ (lv' := [(1, aR 0 0), (0, aV (.ref sc.1))]) (st' := []) (w' := (75, true, (Nl 12), ZL, (Fl 12))) (P := []) rfl (trivial) (pc' := 8) rfl ?_
  refine Sem.new (ci := 5) (t := 23) (i := 0) d133_8 cl6_78 it5 in5 rfl (by decide) rfl (show 75 < 100 by decide) rfl (Or.inl (show 0 < 75 by decide)) (by decide) (by decide) (fun j => ⟨by simp [Nl], rfl, by simp [Fl, FB, upR, ZF]⟩) ?_
  refine Sem.weq (show (wS (75, true, (Nl 12), ZL, (Fl 12)) : NW) = (76, true, (Nl 12), ZL, (Fl 12)) from rfl) ?_
  refine Sem.cz (show 75 + 1 = 76 by rfl) (show 1387 + 27 = 1414 by rfl) ?_
  refine Sem.seg [(.dup, 0, 0)] ⟨⟨d133_11, trivial⟩, trivial⟩ (lv' := [(1, aR 0 0), (0, aV (.ref sc.1))]) (st' := [aR 23 0, aR 23 0]) (w' := (76, true, (Nl 12), ZL, (Fl 12))) (P := []) rfl (trivial) (pc' := 12) rfl ?_
  refine Sem.cI (c' := 99) (s' := 2523) false "NettedPlans" d133_12 mk86 rfl co86 rfl rfl lk6_80 im86 (Or.inl (show 0 < 76 by decide)) rfl (by decide) rfl (show 1 ≤ 8 by decide) (by decide) (by decide) rfl rfl (by decide) (by decide) (n86 (Nl 12) ZL (Fl 12) (fun t j ht => by unfold Nl; rw [if_neg (by omega)]) (fun _ _ _ => rfl)) ?_
  refine Sem.seg [(.astore_n 2, 0, 0), (.iconst 1, 0, 0)] ⟨⟨d133_15, trivial⟩, ⟨d133_16, trivial⟩, trivial⟩ (lv' := [(2, aR 23 0), (1, aR 0 0), (0, aV (.ref sc.1))]) (st' := [aN 1]) (w' := (99, true, (Nq (Nl 12) 12), ZL, (FM (Fl 12)))) (P := []) rfl (trivial) (pc' := 17) rfl ?_
  refine Sem.newaL (t := 47) (i := 0) (n := 1) d133_17 ac_long rfl (by decide) rfl (show 99 < 100 by decide) rfl (Or.inl (show 0 < 99 by decide)) (by decide) (by decide) (by decide) (fun j => rfl) ?_
  refine Sem.weq (show (wS (99, true, (Nq (Nl 12) 12), ZL, (FM (Fl 12))) : NW) = (100, true, (Nq (Nl 12) 12), ZL, (FM (Fl 12))) from rfl) ?_
  refine Sem.cz (show 99 + 1 = 100 by rfl) (show 2523 + 1 = 2524 by rfl) ?_
  refine Sem.seg [(.astore_n 3, 0, 0), (.iconst 0, 0, 0), (.istore 4, 0, 0)] ⟨⟨d133_19, trivial⟩, ⟨d133_20, trivial⟩, ⟨d133_21, trivial⟩, trivial⟩ (lv' := [(4, aN 0), (3, aR 47 0), (2, aR 23 0), (1, aR 0 0), (0, aV (.ref sc.1))]) (st' := []) (w' := (100, true, (Nq (Nl 12) 12), ZL, (FM (Fl 12)))) (P := []) rfl (trivial) (pc' := 23) rfl ?_
  refine Sem.loose ?_
  refine Sem.fx fx_ok ?_
  refine Sem.pick [0, 4, 3, 2, 1] (lv' := [(4, aN 0), (0, aV (.ref sc.1)), (1, aR 0 0), (2, aR 23 0), (3, aR 47 0)]) rfl ?_
  exact law_lp h72 _ 0 (Nq (Nl 12) 12) ZL rfl (Nat.zero_le _) Inv0
