-- ===== the model: answers =====
theorem m121 {sc : XT} (N : TN) (L : TL) (x w : Int32) (h20 : N 23 0 20 ≤ 1) : Sem sc 121 0 [(0, aR 23 0), (1, aI x), (2, aI w)] [] (wd N L) 0 0 (QZ fun z N' L' => L = L' ∧ N' = upN N 23 0 0 (cPlan (N 23 0 20) x w) ∧ z = if cPlan (N 23 0 20) x w = 0 then 0 else 1) := by
  refine Sem.seg [(.aload_n 0, 0, 0), (.iload_n 1, 0, 0)] ⟨⟨d121_0, trivial⟩, ⟨d121_1, trivial⟩, trivial⟩ (lv' := [(0, aR 23 0), (1, aI x), (2, aI w)]) (st' := [aI x, aR 23 0]) (w' := wd N L) (P := []) rfl (trivial) (pc' := 2) rfl ?_
  by_cases h1 : 0 ≤ x.toInt ∧ x.toInt < 12
  case pos =>
    refine Sem.cSp1 (as := [aI x]) (rst := [aR 23 0]) (c' := 0) (s' := 0) d121_2 mk90 rfl co90 lk5_93 ss90 (show 1 ≤ mL 90 by decide) rfl (show 1 ≤ 8 by decide) (by decide) (by decide) rfl rfl (by decide) (by decide) (m90 (N) L x) ?_
    refine Sem.topNN (if_pos h1) ?_
    refine Sem.ifN (tgt := 15) d121_5 (by decide) (by decide) (fun b2 => ?_) (fun b2 => ?_)
    · exact absurd (show 1 = 0 from b2) (by decide)
    refine Sem.seg [(.iload_n 2, 0, 0)] ⟨⟨d121_8, trivial⟩, trivial⟩ (lv' := [(0, aR 23 0), (1, aI x), (2, aI w)]) (st' := [aI w, aR 23 0]) (w' := wd N L) (P := []) rfl (trivial) (pc' := 9) rfl ?_
    by_cases h3 : 0 ≤ w.toInt ∧ w.toInt < 12
    case pos =>
      refine Sem.cSp1 (as := [aI w]) (rst := [aR 23 0]) (c' := 0) (s' := 0) d121_9 mk90 rfl co90 lk5_93 ss90 (show 1 ≤ mL 90 by decide) rfl (show 1 ≤ 8 by decide) (by decide) (by decide) rfl rfl (by decide) (by decide) (m90 (N) L w) ?_
      refine Sem.topNN (if_pos h3) ?_
      refine Sem.ifN (tgt := 19) d121_12 (by decide) (by decide) (fun b4 => ?_) (fun b4 => ?_)
      rotate_left
      · exact absurd (show ¬ 1 = 0 from by decide) b4
      refine Sem.seg [(.aload_n 0, 0, 0), (.getfield 61, 5, 20)] ⟨⟨d121_19, trivial⟩, ⟨d121_20, gf5_61⟩, trivial⟩ (lv' := [(0, aR 23 0), (1, aI x), (2, aI w)]) (st' := [aN (N 23 0 20), aR 23 0]) (w' := wd N L) (P := [vld NN 23 0]) rfl (vN (t := 23) (i := 0) (by decide)) (pc' := 23) rfl ?_
      refine Sem.ifN (tgt := 30) d121_23 (by decide) (show N 23 0 20 < 2 ^ 31 by omega) (fun b5 => ?_) (fun b5 => ?_)
      · have b5_ : N 23 0 20 = 0 := b5
        refine Sem.seg [(.iconst 0, 0, 0)] ⟨⟨d121_30, trivial⟩, trivial⟩ (lv' := [(0, aR 23 0), (1, aI x), (2, aI w)]) (st' := [aN 0, aR 23 0]) (w' := wd N L) (P := []) rfl (trivial) (pc' := 31) rfl ?_
        refine Sem.cVp1 (t := 23) (i := 0) (as := [aN 0]) (rst := []) (c' := 0) (s' := 0) d121_31 mk91 rfl co91 lk5_97 im91 se91 rfl (vN (t := 23) (i := 0) (by decide)) (show 2 ≤ mL 91 by decide) rfl (show 0 ≤ 8 by decide) (by decide) (by decide) rfl rfl (by decide) (by decide) (m91 (N) L 0 (by decide)) ?_
        refine Sem.topNN (show (if 0 < 0 then 1 else 0) = 0 from rfl) ?_
        refine Sem.iret rfl d121_34 (Or.inr ⟨rfl, by decide⟩) (by decide) (by decide) hzW ⟨_, _, _, rfl, rfl, ?_⟩
        have hcode : cPlan (N 23 0 20) x w = 0 := by unfold cPlan; (repeat' split) <;> omega
        exact ⟨rfl, by rw [hcode], by rw [hcode]; rfl⟩
      · have b5_ : ¬ (N 23 0 20 = 0) := b5
        refine Sem.seg [(.iconst 2, 0, 0)] ⟨⟨d121_26, trivial⟩, trivial⟩ (lv' := [(0, aR 23 0), (1, aI x), (2, aI w)]) (st' := [aN 2, aR 23 0]) (w' := wd N L) (P := []) rfl (trivial) (pc' := 27) rfl ?_
        refine Sem.goto (tgt := 31) d121_27 (by decide) ?_
        refine Sem.cVp1 (t := 23) (i := 0) (as := [aN 2]) (rst := []) (c' := 0) (s' := 0) d121_31 mk91 rfl co91 lk5_97 im91 se91 rfl (vN (t := 23) (i := 0) (by decide)) (show 2 ≤ mL 91 by decide) rfl (show 0 ≤ 8 by decide) (by decide) (by decide) rfl rfl (by decide) (by decide) (m91 (N) L 2 (by decide)) ?_
        refine Sem.topNN (show (if 0 < 2 then 1 else 0) = 1 from rfl) ?_
        refine Sem.iret rfl d121_34 (Or.inr ⟨rfl, by decide⟩) (by decide) (by decide) hzW ⟨_, _, _, rfl, rfl, ?_⟩
        have hcode : cPlan (N 23 0 20) x w = 2 := by unfold cPlan; (repeat' split) <;> omega
        exact ⟨rfl, by rw [hcode], by rw [hcode]; rfl⟩
    case neg =>
      refine Sem.cSp1 (as := [aI w]) (rst := [aR 23 0]) (c' := 0) (s' := 0) d121_9 mk90 rfl co90 lk5_93 ss90 (show 1 ≤ mL 90 by decide) rfl (show 1 ≤ 8 by decide) (by decide) (by decide) rfl rfl (by decide) (by decide) (m90 (N) L w) ?_
      refine Sem.topNN (if_neg h3) ?_
      refine Sem.ifN (tgt := 19) d121_12 (by decide) (by decide) (fun b6 => ?_) (fun b6 => ?_)
      · exact absurd (show ¬ 0 = 0 from b6) (by decide)
      refine Sem.seg [(.iconst 1, 0, 0)] ⟨⟨d121_15, trivial⟩, trivial⟩ (lv' := [(0, aR 23 0), (1, aI x), (2, aI w)]) (st' := [aN 1, aR 23 0]) (w' := wd N L) (P := []) rfl (trivial) (pc' := 16) rfl ?_
      refine Sem.goto (tgt := 31) d121_16 (by decide) ?_
      refine Sem.cVp1 (t := 23) (i := 0) (as := [aN 1]) (rst := []) (c' := 0) (s' := 0) d121_31 mk91 rfl co91 lk5_97 im91 se91 rfl (vN (t := 23) (i := 0) (by decide)) (show 2 ≤ mL 91 by decide) rfl (show 0 ≤ 8 by decide) (by decide) (by decide) rfl rfl (by decide) (by decide) (m91 (N) L 1 (by decide)) ?_
      refine Sem.topNN (show (if 0 < 1 then 1 else 0) = 1 from rfl) ?_
      refine Sem.iret rfl d121_34 (Or.inr ⟨rfl, by decide⟩) (by decide) (by decide) hzW ⟨_, _, _, rfl, rfl, ?_⟩
      have hcode : cPlan (N 23 0 20) x w = 1 := by unfold cPlan; (repeat' split) <;> omega
      exact ⟨rfl, by rw [hcode], by rw [hcode]; rfl⟩
  case neg =>
    refine Sem.cSp1 (as := [aI x]) (rst := [aR 23 0]) (c' := 0) (s' := 0) d121_2 mk90 rfl co90 lk5_93 ss90 (show 1 ≤ mL 90 by decide) rfl (show 1 ≤ 8 by decide) (by decide) (by decide) rfl rfl (by decide) (by decide) (m90 (N) L x) ?_
    refine Sem.topNN (if_neg h1) ?_
    refine Sem.ifN (tgt := 15) d121_5 (by decide) (by decide) (fun b7 => ?_) (fun b7 => ?_)
    rotate_left
    · exact absurd (show 0 = 0 from by decide) b7
    refine Sem.seg [(.iconst 1, 0, 0)] ⟨⟨d121_15, trivial⟩, trivial⟩ (lv' := [(0, aR 23 0), (1, aI x), (2, aI w)]) (st' := [aN 1, aR 23 0]) (w' := wd N L) (P := []) rfl (trivial) (pc' := 16) rfl ?_
    refine Sem.goto (tgt := 31) d121_16 (by decide) ?_
    refine Sem.cVp1 (t := 23) (i := 0) (as := [aN 1]) (rst := []) (c' := 0) (s' := 0) d121_31 mk91 rfl co91 lk5_97 im91 se91 rfl (vN (t := 23) (i := 0) (by decide)) (show 2 ≤ mL 91 by decide) rfl (show 0 ≤ 8 by decide) (by decide) (by decide) rfl rfl (by decide) (by decide) (m91 (N) L 1 (by decide)) ?_
    refine Sem.topNN (show (if 0 < 1 then 1 else 0) = 1 from rfl) ?_
    refine Sem.iret rfl d121_34 (Or.inr ⟨rfl, by decide⟩) (by decide) (by decide) hzW ⟨_, _, _, rfl, rfl, ?_⟩
    have hcode : cPlan (N 23 0 20) x w = 1 := by unfold cPlan; (repeat' split) <;> omega
    exact ⟨rfl, by rw [hcode], by rw [hcode]; rfl⟩

theorem m120 {sc : XT} (N : TN) (L : TL) (x w : Int32) (h20 : N 23 0 20 ≤ 1) : Sem sc 120 0 [(0, aR 23 0), (1, aI x), (2, aI w)] [] (wd N L) 0 0 (QJ fun v N' L' => L = L' ∧ N' = upN N 23 0 0 (cPlan (N 23 0 20) x w) ∧ (cPlan (N 23 0 20) x w = 0 → v = mW L 20 x.toInt.toNat w.toInt.toNat)) := by
  refine Sem.seg [(.aload_n 0, 0, 0), (.iload_n 1, 0, 0), (.iload_n 2, 0, 0)] ⟨⟨d120_0, trivial⟩, ⟨d120_1, trivial⟩, ⟨d120_2, trivial⟩, trivial⟩ (lv' := [(0, aR 23 0), (1, aI x), (2, aI w)]) (st' := [aI w, aI x, aR 23 0]) (w' := wd N L) (P := []) rfl (trivial) (pc' := 3) rfl ?_
  refine Sem.cVmN (t := 23) (i := 0) (as := [aI x, aI w]) (rst := []) (c' := 0) (s' := 0) d120_3 mk121 rfl co121 lk5_179 im121 se121 rfl (vN (t := 23) (i := 0) (by decide)) (show 3 ≤ mL 121 by decide) rfl (show 0 ≤ 8 by decide) (by decide) (by decide) rfl rfl (by decide) (by decide) (m121 N L x w h20) ?_
  rintro z N1 L1 ⟨rfl, rfl, hz⟩
  have hz1 : z ≤ 1 := by rw [hz]; split <;> omega
  have hz0 : z = 0 → cPlan (N 23 0 20) x w = 0 := fun q => by rw [hz] at q; split at q <;> omega
  have hz2 : ¬ z = 0 → ¬ cPlan (N 23 0 20) x w = 0 := fun q e => q (by rw [hz, if_pos e])
  have hin : cPlan (N 23 0 20) x w = 0 → (0 ≤ x.toInt ∧ x.toInt < 12) ∧ (0 ≤ w.toInt ∧ w.toInt < 12) := fun q => by unfold cPlan at q; (repeat' split at q) <;> omega
  refine Sem.ifN (tgt := 13) d120_6 (by decide) (show z < 2 ^ 31 by omega) (fun b1 => ?_) (fun b1 => ?_)
  · have b1_ : z = 0 := b1
    have hx_ := hin (hz0 (by assumption))
    refine Sem.pick [1, 0, 2] (lv' := [(1, aI x), (0, aR 23 0), (2, aI w)]) rfl ?_
    refine Sem.loc0 (show x = nI x.toInt.toNat from i_nI2 (by omega)) ?_
    refine Sem.pick [2, 0, 1] (lv' := [(2, aI w), (1, aN x.toInt.toNat), (0, aR 23 0)]) rfl ?_
    refine Sem.loc0 (show w = nI w.toInt.toNat from i_nI2 (by omega)) ?_
    refine Sem.seg [(.aload_n 0, 0, 0), (.getfield 69, 5, 22), (.bipush 12, 0, 0), (.iload_n 1, 0, 0), (.imul, 0, 0), (.iload_n 2, 0, 0), (.iadd, 0, 0), (.laload, 0, 0)] ⟨⟨d120_13, trivial⟩, ⟨d120_14, gf5_69⟩, ⟨d120_17, trivial⟩, ⟨d120_19, trivial⟩, ⟨d120_20, trivial⟩, ⟨d120_21, trivial⟩, ⟨d120_22, trivial⟩, ⟨d120_23, trivial⟩, trivial⟩ (lv' := [(2, aN w.toInt.toNat), (1, aN x.toInt.toNat), (0, aR 23 0)]) (st' := [aL (L 42 0 ((12 * x.toInt.toNat) + w.toInt.toNat))]) (w' := wd (upN N 23 0 0 (cPlan (N 23 0 20) x w)) L) (P := [vld NN 23 0, vld NN 42 0, (12 * x.toInt.toNat) + w.toInt.toNat < 144]) rfl (⟨vN (t := 23) (i := 0) (by decide), vN (t := 42) (i := 0) (by decide), (show (12 * x.toInt.toNat) + w.toInt.toNat < 144 by omega)⟩) (pc' := 24) rfl ?_
    exact Sem.lret d120_24 rfl (by decide) (by decide) hzW ⟨_, _, _, rfl, rfl, by exact ⟨rfl, rfl, fun q => rfl⟩⟩
  · have b1_ : ¬ (z = 0) := b1
    refine Sem.seg [(.lconst 0, 0, 0)] ⟨⟨d120_9, trivial⟩, trivial⟩ (lv' := [(0, aR 23 0), (1, aI x), (2, aI w)]) (st' := [aL (Int64.ofNat 0)]) (w' := wd (upN N 23 0 0 (cPlan (N 23 0 20) x w)) L) (P := []) rfl (trivial) (pc' := 10) rfl ?_
    refine Sem.goto (tgt := 24) d120_10 (by decide) ?_
    exact Sem.lret d120_24 rfl (by decide) (by decide) hzW ⟨_, _, _, rfl, rfl, by exact ⟨rfl, rfl, fun q => absurd q (hz2 (by assumption))⟩⟩

theorem m122 {sc : XT} (N : TN) (L : TL) (x w : Int32) (h20 : N 23 0 20 ≤ 1) : Sem sc 122 0 [(0, aR 23 0), (1, aI x), (2, aI w)] [] (wd N L) 0 0 (QJ fun v N' L' => L = L' ∧ N' = upN N 23 0 0 (cPlan (N 23 0 20) x w) ∧ (cPlan (N 23 0 20) x w = 0 → v = mW L 21 x.toInt.toNat w.toInt.toNat)) := by
  refine Sem.seg [(.aload_n 0, 0, 0), (.iload_n 1, 0, 0), (.iload_n 2, 0, 0)] ⟨⟨d122_0, trivial⟩, ⟨d122_1, trivial⟩, ⟨d122_2, trivial⟩, trivial⟩ (lv' := [(0, aR 23 0), (1, aI x), (2, aI w)]) (st' := [aI w, aI x, aR 23 0]) (w' := wd N L) (P := []) rfl (trivial) (pc' := 3) rfl ?_
  refine Sem.cVmN (t := 23) (i := 0) (as := [aI x, aI w]) (rst := []) (c' := 0) (s' := 0) d122_3 mk121 rfl co121 lk5_179 im121 se121 rfl (vN (t := 23) (i := 0) (by decide)) (show 3 ≤ mL 121 by decide) rfl (show 0 ≤ 8 by decide) (by decide) (by decide) rfl rfl (by decide) (by decide) (m121 N L x w h20) ?_
  rintro z N1 L1 ⟨rfl, rfl, hz⟩
  have hz1 : z ≤ 1 := by rw [hz]; split <;> omega
  have hz0 : z = 0 → cPlan (N 23 0 20) x w = 0 := fun q => by rw [hz] at q; split at q <;> omega
  have hz2 : ¬ z = 0 → ¬ cPlan (N 23 0 20) x w = 0 := fun q e => q (by rw [hz, if_pos e])
  have hin : cPlan (N 23 0 20) x w = 0 → (0 ≤ x.toInt ∧ x.toInt < 12) ∧ (0 ≤ w.toInt ∧ w.toInt < 12) := fun q => by unfold cPlan at q; (repeat' split at q) <;> omega
  refine Sem.ifN (tgt := 13) d122_6 (by decide) (show z < 2 ^ 31 by omega) (fun b1 => ?_) (fun b1 => ?_)
  · have b1_ : z = 0 := b1
    have hx_ := hin (hz0 (by assumption))
    refine Sem.pick [1, 0, 2] (lv' := [(1, aI x), (0, aR 23 0), (2, aI w)]) rfl ?_
    refine Sem.loc0 (show x = nI x.toInt.toNat from i_nI2 (by omega)) ?_
    refine Sem.pick [2, 0, 1] (lv' := [(2, aI w), (1, aN x.toInt.toNat), (0, aR 23 0)]) rfl ?_
    refine Sem.loc0 (show w = nI w.toInt.toNat from i_nI2 (by omega)) ?_
    refine Sem.seg [(.aload_n 0, 0, 0), (.getfield 73, 5, 23), (.bipush 12, 0, 0), (.iload_n 1, 0, 0), (.imul, 0, 0), (.iload_n 2, 0, 0), (.iadd, 0, 0), (.laload, 0, 0)] ⟨⟨d122_13, trivial⟩, ⟨d122_14, gf5_73⟩, ⟨d122_17, trivial⟩, ⟨d122_19, trivial⟩, ⟨d122_20, trivial⟩, ⟨d122_21, trivial⟩, ⟨d122_22, trivial⟩, ⟨d122_23, trivial⟩, trivial⟩ (lv' := [(2, aN w.toInt.toNat), (1, aN x.toInt.toNat), (0, aR 23 0)]) (st' := [aL (L 43 0 ((12 * x.toInt.toNat) + w.toInt.toNat))]) (w' := wd (upN N 23 0 0 (cPlan (N 23 0 20) x w)) L) (P := [vld NN 23 0, vld NN 43 0, (12 * x.toInt.toNat) + w.toInt.toNat < 144]) rfl (⟨vN (t := 23) (i := 0) (by decide), vN (t := 43) (i := 0) (by decide), (show (12 * x.toInt.toNat) + w.toInt.toNat < 144 by omega)⟩) (pc' := 24) rfl ?_
    exact Sem.lret d122_24 rfl (by decide) (by decide) hzW ⟨_, _, _, rfl, rfl, by exact ⟨rfl, rfl, fun q => rfl⟩⟩
  · have b1_ : ¬ (z = 0) := b1
    refine Sem.seg [(.lconst 0, 0, 0)] ⟨⟨d122_9, trivial⟩, trivial⟩ (lv' := [(0, aR 23 0), (1, aI x), (2, aI w)]) (st' := [aL (Int64.ofNat 0)]) (w' := wd (upN N 23 0 0 (cPlan (N 23 0 20) x w)) L) (P := []) rfl (trivial) (pc' := 10) rfl ?_
    refine Sem.goto (tgt := 24) d122_10 (by decide) ?_
    exact Sem.lret d122_24 rfl (by decide) (by decide) hzW ⟨_, _, _, rfl, rfl, by exact ⟨rfl, rfl, fun q => absurd q (hz2 (by assumption))⟩⟩

theorem m123 {sc : XT} (N : TN) (L : TL) (x w : Int32) (h20 : N 23 0 20 ≤ 1) (hc : CD (mN N)) : Sem sc 123 0 [(0, aR 23 0), (1, aI x), (2, aI w)] [] (wd N L) 0 0 (QJ fun v N' L' => L = L' ∧ N' = upN N 23 0 0 (cPlan (N 23 0 20) x w) ∧ (cPlan (N 23 0 20) x w = 0 → v = bareF (mN N 19 x.toInt.toNat) (brF (mN N) x.toInt.toNat) (mW L 20 x.toInt.toNat) w.toInt.toNat + sm (mW L 21 x.toInt.toNat) (w.toInt.toNat + 1))) := by
  refine Sem.seg [(.aload_n 0, 0, 0), (.iload_n 1, 0, 0), (.iload_n 2, 0, 0)] ⟨⟨d123_0, trivial⟩, ⟨d123_1, trivial⟩, ⟨d123_2, trivial⟩, trivial⟩ (lv' := [(0, aR 23 0), (1, aI x), (2, aI w)]) (st' := [aI w, aI x, aR 23 0]) (w' := wd N L) (P := []) rfl (trivial) (pc' := 3) rfl ?_
  refine Sem.cVmN (t := 23) (i := 0) (as := [aI x, aI w]) (rst := []) (c' := 0) (s' := 0) d123_3 mk121 rfl co121 lk5_179 im121 se121 rfl (vN (t := 23) (i := 0) (by decide)) (show 3 ≤ mL 121 by decide) rfl (show 0 ≤ 8 by decide) (by decide) (by decide) rfl rfl (by decide) (by decide) (m121 N L x w h20) ?_
  rintro z N1 L1 ⟨rfl, rfl, hz⟩
  have hz1 : z ≤ 1 := by rw [hz]; split <;> omega
  have hz0 : z = 0 → cPlan (N 23 0 20) x w = 0 := fun q => by rw [hz] at q; split at q <;> omega
  have hz2 : ¬ z = 0 → ¬ cPlan (N 23 0 20) x w = 0 := fun q e => q (by rw [hz, if_pos e])
  have hin : cPlan (N 23 0 20) x w = 0 → (0 ≤ x.toInt ∧ x.toInt < 12) ∧ (0 ≤ w.toInt ∧ w.toInt < 12) := fun q => by unfold cPlan at q; (repeat' split at q) <;> omega
  refine Sem.ifN (tgt := 13) d123_6 (by decide) (show z < 2 ^ 31 by omega) (fun b1 => ?_) (fun b1 => ?_)
  · have b1_ : z = 0 := b1
    have hx_ := hin (hz0 (by assumption))
    refine Sem.pick [1, 0, 2] (lv' := [(1, aI x), (0, aR 23 0), (2, aI w)]) rfl ?_
    refine Sem.loc0 (show x = nI x.toInt.toNat from i_nI2 (by omega)) ?_
    refine Sem.pick [2, 0, 1] (lv' := [(2, aI w), (1, aN x.toInt.toNat), (0, aR 23 0)]) rfl ?_
    refine Sem.loc0 (show w = nI w.toInt.toNat from i_nI2 (by omega)) ?_
    refine Sem.seg [(.aload_n 0, 0, 0), (.iload_n 1, 0, 0), (.iload_n 2, 0, 0)] ⟨⟨d123_13, trivial⟩, ⟨d123_14, trivial⟩, ⟨d123_15, trivial⟩, trivial⟩ (lv' := [(2, aN w.toInt.toNat), (1, aN x.toInt.toNat), (0, aR 23 0)]) (st' := [aN w.toInt.toNat, aN x.toInt.toNat, aR 23 0]) (w' := wd (upN N 23 0 0 (cPlan (N 23 0 20) x w)) L) (P := []) rfl (trivial) (pc' := 16) rfl ?_
    refine Sem.cVp1 (t := 23) (i := 0) (as := [aN x.toInt.toNat, aN w.toInt.toNat]) (rst := []) (c' := 0) (s' := 0) d123_16 mk112 rfl co112 lk5_143 im112 se112 rfl (vN (t := 23) (i := 0) (by decide)) (show 3 ≤ mL 112 by decide) rfl (show 0 ≤ 8 by decide) (by decide) (by decide) rfl rfl (by decide) (by decide) (m112 (upN N 23 0 0 (cPlan (N 23 0 20) x w)) L x.toInt.toNat w.toInt.toNat (by omega) (by omega) hc) ?_
    refine Sem.seg [(.aload_n 0, 0, 0), (.getfield 73, 5, 23), (.iload_n 1, 0, 0), (.iload_n 2, 0, 0)] ⟨⟨d123_19, trivial⟩, ⟨d123_20, gf5_73⟩, ⟨d123_23, trivial⟩, ⟨d123_24, trivial⟩, trivial⟩ (lv' := [(2, aN w.toInt.toNat), (1, aN x.toInt.toNat), (0, aR 23 0)]) (st' := [aN w.toInt.toNat, aN x.toInt.toNat, aR 43 0, aL (bareF (mN N 19 x.toInt.toNat) (brF (mN N) x.toInt.toNat) (mW L 20 x.toInt.toNat) w.toInt.toNat)]) (w' := wd (upN N 23 0 0 (cPlan (N 23 0 20) x w)) L) (P := [vld NN 23 0]) rfl (vN (t := 23) (i := 0) (by decide)) (pc' := 25) rfl ?_
    refine Sem.cSp1 (as := [aR 43 0, aN x.toInt.toNat, aN w.toInt.toNat]) (rst := [aL (bareF (mN N 19 x.toInt.toNat) (brF (mN N) x.toInt.toNat) (mW L 20 x.toInt.toNat) w.toInt.toNat)]) (c' := 0) (s' := 0) d123_25 mk113 rfl co113 lk5_131 ss113 (show 3 ≤ mL 113 by decide) rfl (show 2 ≤ 8 by decide) (by decide) (by decide) rfl rfl (by decide) (by decide) (m113_43 (upN N 23 0 0 (cPlan (N 23 0 20) x w)) L x.toInt.toNat w.toInt.toNat (by omega) (by omega)) ?_
    refine Sem.seg [(.ladd, 0, 0)] ⟨⟨d123_28, trivial⟩, trivial⟩ (lv' := [(2, aN w.toInt.toNat), (1, aN x.toInt.toNat), (0, aR 23 0)]) (st' := [aL ((bareF (mN N 19 x.toInt.toNat) (brF (mN N) x.toInt.toNat) (mW L 20 x.toInt.toNat) w.toInt.toNat) + (sm (mW L 21 x.toInt.toNat) (w.toInt.toNat + 1)))]) (w' := wd (upN N 23 0 0 (cPlan (N 23 0 20) x w)) L) (P := []) rfl (trivial) (pc' := 29) rfl ?_
    exact Sem.lret d123_29 rfl (by decide) (by decide) hzW ⟨_, _, _, rfl, rfl, by exact ⟨rfl, rfl, fun q => rfl⟩⟩
  · have b1_ : ¬ (z = 0) := b1
    refine Sem.seg [(.lconst 0, 0, 0)] ⟨⟨d123_9, trivial⟩, trivial⟩ (lv' := [(0, aR 23 0), (1, aI x), (2, aI w)]) (st' := [aL (Int64.ofNat 0)]) (w' := wd (upN N 23 0 0 (cPlan (N 23 0 20) x w)) L) (P := []) rfl (trivial) (pc' := 10) rfl ?_
    refine Sem.goto (tgt := 29) d123_10 (by decide) ?_
    exact Sem.lret d123_29 rfl (by decide) (by decide) hzW ⟨_, _, _, rfl, rfl, by exact ⟨rfl, rfl, fun q => absurd q (hz2 (by assumption))⟩⟩

theorem m127 {sc : XT} (N : TN) (L : TL) (i n w : Nat) (hi : i < 12) (hw : w ≤ 12) (hn : n ≤ 1000) (hc : CD (mN N)) : Sem sc 127 0 [(0, aR 23 0), (1, aN i), (2, aN n), (3, aN w)] [] (wd N L) 0 0 (QP (some (aN (bo (∀ u, w ≤ u → u < 12 → okM N L i n u)))) N L) := by
  refine Sem.seg [(.iconst 1, 0, 0), (.istore 4, 0, 0), (.iload_n 3, 0, 0), (.istore 5, 0, 0)] ⟨⟨d127_0, trivial⟩, ⟨d127_1, trivial⟩, ⟨d127_3, trivial⟩, ⟨d127_4, trivial⟩, trivial⟩ (lv' := [(5, aN w), (4, aN 1), (0, aR 23 0), (1, aN i), (2, aN n), (3, aN w)]) (st' := []) (w' := wd N L) (P := []) rfl (trivial) (pc' := 6) rfl ?_
  have lp : ∀ (d : Nat) (v b : Nat), 12 - v = d → (w ≤ v) → (v ≤ 12) → (b = bo (∀ u, w ≤ u → u < v → okM N L i n u)) → Sem sc 127 6 [(0, aR 23 0), (1, aN i), (2, aN n), (4, aN b), (5, aN v)] [] (wd N L) 0 0 (QP (some (aN (bo (∀ u, w ≤ u → u < 12 → okM N L i n u)))) N L) := by
    intro d
    induction d using Nat.strongRecOn with
    | ind d ih =>
      intro v b hd hv hv2 hb
      refine Sem.seg [(.iload 5, 0, 0), (.bipush 12, 0, 0)] ⟨⟨d127_6, trivial⟩, ⟨d127_8, trivial⟩, trivial⟩ (lv' := [(0, aR 23 0), (1, aN i), (2, aN n), (4, aN b), (5, aN v)]) (st' := [aN 12, aN v]) (w' := wd N L) (P := []) rfl (trivial) (pc' := 10) rfl ?_
      refine Sem.icmpN (tgt := 64) d127_10 (by decide) (show v < 2 ^ 31 by omega) (by decide) (fun b1 => ?_) (fun b1 => ?_)
      · have b1_ : 12 ≤ v := b1
        obtain rfl : v = 12 := by omega
        refine Sem.seg [(.iload 4, 0, 0)] ⟨⟨d127_64, trivial⟩, trivial⟩ (lv' := [(0, aR 23 0), (1, aN i), (2, aN n), (4, aN b), (5, aN 12)]) (st' := [aN b]) (w' := wd N L) (P := []) rfl (trivial) (pc' := 66) rfl ?_
        exact Sem.iret rfl d127_66 (Or.inr ⟨rfl, by rw [hb]; exact bo_01 _⟩) (by decide) (by decide) hzW ⟨congrArg (fun z => Sum.inl (some (aN z))) (show b = bo (∀ u, w ≤ u → u < 12 → okM N L i n u) by exact hb), rfl⟩
      · have b1_ : ¬ (12 ≤ v) := b1
        have hb1 := bo_le (∀ u, w ≤ u → u < v → okM N L i n u)
        refine Sem.seg [(.iload 4, 0, 0)] ⟨⟨d127_13, trivial⟩, trivial⟩ (lv' := [(0, aR 23 0), (1, aN i), (2, aN n), (4, aN b), (5, aN v)]) (st' := [aN b]) (w' := wd N L) (P := []) rfl (trivial) (pc' := 15) rfl ?_
        refine Sem.ifN (tgt := 55) d127_15 (by decide) (show b < 2 ^ 31 by omega) (fun b2 => ?_) (fun b2 => ?_)
        · have b2_ : b = 0 := b2
          refine Sem.seg [(.iconst 0, 0, 0), (.istore 4, 0, 0), (.iinc 5 1, 0, 0)] ⟨⟨d127_55, trivial⟩, ⟨d127_56, trivial⟩, ⟨d127_58, trivial⟩, trivial⟩ (lv' := [(5, aN (v + 1)), (4, aN 0), (0, aR 23 0), (1, aN i), (2, aN n)]) (st' := []) (w' := wd N L) (P := []) rfl (trivial) (pc' := 61) rfl ?_
          refine Sem.goto (tgt := 6) d127_61 (by decide) ?_
          refine Sem.pick [2, 3, 4, 1, 0] (lv' := [(0, aR 23 0), (1, aN i), (2, aN n), (4, aN 0), (5, aN (v + 1))]) rfl ?_
          exact ih _ (by omega) (v + 1) 0 rfl (by omega) (by omega) ((bo_f (fun q => by first | (have := bo_t (P := ∀ u, w ≤ u → u < v → okM N L i n u) (fun u h1 h2 => q u h1 (by omega)); omega) | exact absurd (q v (by omega) (by omega)) (Int64.not_le.mpr (by assumption)))).symm)
        · have b2_ : ¬ (b = 0) := b2
          refine Sem.seg [(.aload_n 0, 0, 0), (.iload_n 1, 0, 0), (.iload 5, 0, 0)] ⟨⟨d127_18, trivial⟩, ⟨d127_19, trivial⟩, ⟨d127_20, trivial⟩, trivial⟩ (lv' := [(0, aR 23 0), (1, aN i), (2, aN n), (4, aN b), (5, aN v)]) (st' := [aN v, aN i, aR 23 0]) (w' := wd N L) (P := []) rfl (trivial) (pc' := 22) rfl ?_
          refine Sem.cVp1 (t := 23) (i := 0) (as := [aN i, aN v]) (rst := []) (c' := 0) (s' := 0) d127_22 mk112 rfl co112 lk5_143 im112 se112 rfl (vN (t := 23) (i := 0) (by decide)) (show 3 ≤ mL 112 by decide) rfl (show 0 ≤ 8 by decide) (by decide) (by decide) rfl rfl (by decide) (by decide) (m112 N L i v hi (by omega) hc) ?_
          refine Sem.seg [(.aload_n 0, 0, 0), (.getfield 73, 5, 23), (.iload_n 1, 0, 0), (.iload 5, 0, 0)] ⟨⟨d127_25, trivial⟩, ⟨d127_26, gf5_73⟩, ⟨d127_29, trivial⟩, ⟨d127_30, trivial⟩, trivial⟩ (lv' := [(0, aR 23 0), (1, aN i), (2, aN n), (4, aN b), (5, aN v)]) (st' := [aN v, aN i, aR 43 0, aL (bareF (mN N 19 i) (brF (mN N) i) (mW L 20 i) v)]) (w' := wd N L) (P := [vld NN 23 0]) rfl (vN (t := 23) (i := 0) (by decide)) (pc' := 32) rfl ?_
          refine Sem.cSp1 (as := [aR 43 0, aN i, aN v]) (rst := [aL (bareF (mN N 19 i) (brF (mN N) i) (mW L 20 i) v)]) (c' := 0) (s' := 0) d127_32 mk113 rfl co113 lk5_131 ss113 (show 3 ≤ mL 113 by decide) rfl (show 2 ≤ 8 by decide) (by decide) (by decide) rfl rfl (by decide) (by decide) (m113_43 N L i v hi (by omega)) ?_
          refine Sem.seg [(.ladd, 0, 0), (.aload_n 0, 0, 0), (.iconst 2, 0, 0), (.iload_n 1, 0, 0), (.iload 5, 0, 0)] ⟨⟨d127_35, trivial⟩, ⟨d127_36, trivial⟩, ⟨d127_37, trivial⟩, ⟨d127_38, trivial⟩, ⟨d127_39, trivial⟩, trivial⟩ (lv' := [(0, aR 23 0), (1, aN i), (2, aN n), (4, aN b), (5, aN v)]) (st' := [aN v, aN i, aN 2, aR 23 0, aL ((bareF (mN N 19 i) (brF (mN N) i) (mW L 20 i) v) + (sm (mW L 21 i) (v + 1)))]) (w' := wd N L) (P := []) rfl (trivial) (pc' := 41) rfl ?_
          refine Sem.cVp1 (t := 23) (i := 0) (as := [aN 2, aN i, aN v]) (rst := [aL ((bareF (mN N 19 i) (brF (mN N) i) (mW L 20 i) v) + (sm (mW L 21 i) (v + 1)))]) (c' := 0) (s' := 0) d127_41 mk108 rfl co108 lk5_127 im108 se108 rfl (vN (t := 23) (i := 0) (by decide)) (show 4 ≤ mL 108 by decide) rfl (show 2 ≤ 8 by decide) (by decide) (by decide) rfl rfl (by decide) (by decide) (m108_2 N L i v hi (by omega) hc) ?_
          refine Sem.seg [(.lsub, 0, 0), (.iload_n 2, 0, 0), (.i2l, 0, 0)] ⟨⟨d127_44, trivial⟩, ⟨d127_45, trivial⟩, ⟨d127_46, trivial⟩, trivial⟩ (lv' := [(0, aR 23 0), (1, aN i), (2, aN n), (4, aN b), (5, aN v)]) (st' := [aL ((nI n).toInt64), aL (((bareF (mN N 19 i) (brF (mN N) i) (mW L 20 i) v) + (sm (mW L 21 i) (v + 1))) - (bsm (mN N 9 2) (mN N 10 2) (mN N 11 2) i (v + 1) (N 37 0 2)))]) (w' := wd N L) (P := []) rfl (trivial) (pc' := 47) rfl ?_
          refine Sem.lcmp (tgt := 55) d127_47 d127_48 (by decide) (fun b3 => ?_) (fun b3 => ?_)
          · have b3_ : ((bareF (mN N 19 i) (brF (mN N) i) (mW L 20 i) v) + (sm (mW L 21 i) (v + 1))) - (bsm (mN N 9 2) (mN N 10 2) (mN N 11 2) i (v + 1) (N 37 0 2)) < (nI n).toInt64 := b3
            refine Sem.seg [(.iconst 0, 0, 0), (.istore 4, 0, 0), (.iinc 5 1, 0, 0)] ⟨⟨d127_55, trivial⟩, ⟨d127_56, trivial⟩, ⟨d127_58, trivial⟩, trivial⟩ (lv' := [(5, aN (v + 1)), (4, aN 0), (0, aR 23 0), (1, aN i), (2, aN n)]) (st' := []) (w' := wd N L) (P := []) rfl (trivial) (pc' := 61) rfl ?_
            refine Sem.goto (tgt := 6) d127_61 (by decide) ?_
            refine Sem.pick [2, 3, 4, 1, 0] (lv' := [(0, aR 23 0), (1, aN i), (2, aN n), (4, aN 0), (5, aN (v + 1))]) rfl ?_
            exact ih _ (by omega) (v + 1) 0 rfl (by omega) (by omega) ((bo_f (fun q => by first | (have := bo_t (P := ∀ u, w ≤ u → u < v → okM N L i n u) (fun u h1 h2 => q u h1 (by omega)); omega) | exact absurd (q v (by omega) (by omega)) (Int64.not_le.mpr (by assumption)))).symm)
          · have b3_ : ¬ (((bareF (mN N 19 i) (brF (mN N) i) (mW L 20 i) v) + (sm (mW L 21 i) (v + 1))) - (bsm (mN N 9 2) (mN N 10 2) (mN N 11 2) i (v + 1) (N 37 0 2)) < (nI n).toInt64) := b3
            refine Sem.seg [(.iconst 1, 0, 0)] ⟨⟨d127_51, trivial⟩, trivial⟩ (lv' := [(0, aR 23 0), (1, aN i), (2, aN n), (4, aN b), (5, aN v)]) (st' := [aN 1]) (w' := wd N L) (P := []) rfl (trivial) (pc' := 52) rfl ?_
            refine Sem.goto (tgt := 56) d127_52 (by decide) ?_
            refine Sem.seg [(.istore 4, 0, 0), (.iinc 5 1, 0, 0)] ⟨⟨d127_56, trivial⟩, ⟨d127_58, trivial⟩, trivial⟩ (lv' := [(5, aN (v + 1)), (4, aN 1), (0, aR 23 0), (1, aN i), (2, aN n)]) (st' := []) (w' := wd N L) (P := []) rfl (trivial) (pc' := 61) rfl ?_
            refine Sem.goto (tgt := 6) d127_61 (by decide) ?_
            refine Sem.pick [2, 3, 4, 1, 0] (lv' := [(0, aR 23 0), (1, aN i), (2, aN n), (4, aN 1), (5, aN (v + 1))]) rfl ?_
            exact ih _ (by omega) (v + 1) 1 rfl (by omega) (by omega) ((bo_t (fun u h1 h2 => by by_cases e : u = v; (subst e; exact Int64.not_lt.mp (by assumption)); exact (Classical.byContradiction fun q => (by assumption : ¬ b = 0) (hb.trans (bo_f q))) u h1 (by omega))).symm)
  refine Sem.pick [2, 3, 4, 1, 0] (lv' := [(0, aR 23 0), (1, aN i), (2, aN n), (4, aN 1), (5, aN w)]) rfl ?_
  exact lp _ w 1 rfl (by omega) (by omega) ((bo_t (fun u h1 h2 => absurd h2 (by omega))).symm)

theorem m126 {sc : XT} (N : TN) (L : TL) (x n w : Int32) (h20 : N 23 0 20 ≤ 1) (hc : CD (mN N)) : Sem sc 126 0 [(0, aR 23 0), (1, aI x), (2, aI n), (3, aI w)] [] (wd N L) 0 0 (QI fun y N' L' => L = L' ∧ N' = upN N 23 0 0 (cProm (N 23 0 20) x n w) ∧ (cProm (N 23 0 20) x n w = 0 → LT (okM N L x.toInt.toNat n.toInt.toNat) w.toInt.toNat y)) := by
  refine Sem.seg [(.aload_n 0, 0, 0), (.iload_n 1, 0, 0)] ⟨⟨d126_0, trivial⟩, ⟨d126_1, trivial⟩, trivial⟩ (lv' := [(0, aR 23 0), (1, aI x), (2, aI n), (3, aI w)]) (st' := [aI x, aR 23 0]) (w' := wd N L) (P := []) rfl (trivial) (pc' := 2) rfl ?_
  by_cases h1 : 0 ≤ x.toInt ∧ x.toInt < 12
  case pos =>
    refine Sem.cSp1 (as := [aI x]) (rst := [aR 23 0]) (c' := 0) (s' := 0) d126_2 mk90 rfl co90 lk5_93 ss90 (show 1 ≤ mL 90 by decide) rfl (show 1 ≤ 8 by decide) (by decide) (by decide) rfl rfl (by decide) (by decide) (m90 (N) L x) ?_
    refine Sem.topNN (if_pos h1) ?_
    refine Sem.ifN (tgt := 15) d126_5 (by decide) (by decide) (fun b2 => ?_) (fun b2 => ?_)
    · exact absurd (show 1 = 0 from b2) (by decide)
    refine Sem.seg [(.iload_n 3, 0, 0)] ⟨⟨d126_8, trivial⟩, trivial⟩ (lv' := [(0, aR 23 0), (1, aI x), (2, aI n), (3, aI w)]) (st' := [aI w, aR 23 0]) (w' := wd N L) (P := []) rfl (trivial) (pc' := 9) rfl ?_
    by_cases h3 : 0 ≤ w.toInt ∧ w.toInt < 12
    case pos =>
      refine Sem.cSp1 (as := [aI w]) (rst := [aR 23 0]) (c' := 0) (s' := 0) d126_9 mk90 rfl co90 lk5_93 ss90 (show 1 ≤ mL 90 by decide) rfl (show 1 ≤ 8 by decide) (by decide) (by decide) rfl rfl (by decide) (by decide) (m90 (N) L w) ?_
      refine Sem.topNN (if_pos h3) ?_
      refine Sem.ifN (tgt := 19) d126_12 (by decide) (by decide) (fun b4 => ?_) (fun b4 => ?_)
      rotate_left
      · exact absurd (show ¬ 1 = 0 from by decide) b4
      refine Sem.seg [(.iload_n 2, 0, 0), (.iconst 1, 0, 0), (.sipush 1000, 0, 0)] ⟨⟨d126_19, trivial⟩, ⟨d126_20, trivial⟩, ⟨d126_21, trivial⟩, trivial⟩ (lv' := [(0, aR 23 0), (1, aI x), (2, aI n), (3, aI w)]) (st' := [aN 1000, aN 1, aI n, aR 23 0]) (w' := wd N L) (P := []) rfl (trivial) (pc' := 24) rfl ?_
      by_cases h5 : ((1 : Nat) : Int) ≤ n.toInt ∧ n.toInt ≤ ((1000 : Nat) : Int)
      case pos =>
        refine Sem.cSp1 (as := [aI n, aN 1, aN 1000]) (rst := [aR 23 0]) (c' := 0) (s' := 0) d126_24 mk89 rfl co89 lk5_89 ss89 (show 3 ≤ mL 89 by decide) rfl (show 1 ≤ 8 by decide) (by decide) (by decide) rfl rfl (by decide) (by decide) (m89 (N) L n 1 1000 (by decide) (by decide)) ?_
        refine Sem.topNN (if_pos h5) ?_
        refine Sem.ifN (tgt := 34) d126_27 (by decide) (by decide) (fun b6 => ?_) (fun b6 => ?_)
        rotate_left
        · exact absurd (show ¬ 1 = 0 from by decide) b6
        refine Sem.seg [(.aload_n 0, 0, 0), (.getfield 61, 5, 20)] ⟨⟨d126_34, trivial⟩, ⟨d126_35, gf5_61⟩, trivial⟩ (lv' := [(0, aR 23 0), (1, aI x), (2, aI n), (3, aI w)]) (st' := [aN (N 23 0 20), aR 23 0]) (w' := wd N L) (P := [vld NN 23 0]) rfl (vN (t := 23) (i := 0) (by decide)) (pc' := 38) rfl ?_
        refine Sem.ifN (tgt := 45) d126_38 (by decide) (show N 23 0 20 < 2 ^ 31 by first | omega | exact Nat.lt_of_le_of_lt (bo_le _) (by decide)) (fun b7 => ?_) (fun b7 => ?_)
        · have b7_ : N 23 0 20 = 0 := b7
          refine Sem.seg [(.iconst 0, 0, 0)] ⟨⟨d126_45, trivial⟩, trivial⟩ (lv' := [(0, aR 23 0), (1, aI x), (2, aI n), (3, aI w)]) (st' := [aN 0, aR 23 0]) (w' := wd N L) (P := []) rfl (trivial) (pc' := 46) rfl ?_
          refine Sem.cVp1 (t := 23) (i := 0) (as := [aN 0]) (rst := []) (c' := 0) (s' := 0) d126_46 mk91 rfl co91 lk5_97 im91 se91 rfl (vN (t := 23) (i := 0) (by decide)) (show 2 ≤ mL 91 by decide) rfl (show 0 ≤ 8 by decide) (by decide) (by decide) rfl rfl (by decide) (by decide) (m91 (N) L 0 (by decide)) ?_
          refine Sem.topNN (show (if 0 < 0 then 1 else 0) = 0 from rfl) ?_
          refine Sem.ifN (tgt := 54) d126_49 (by decide) (by decide) (fun b8 => ?_) (fun b8 => ?_)
          rotate_left
          · exact absurd (show 0 = 0 from by decide) b8
          refine Sem.pick [1, 0, 2, 3] (lv' := [(1, aI x), (0, aR 23 0), (2, aI n), (3, aI w)]) rfl ?_
          refine Sem.loc0 (show x = nI x.toInt.toNat from i_nI2 (by omega)) ?_
          refine Sem.pick [2, 0, 1, 3] (lv' := [(2, aI n), (1, aN x.toInt.toNat), (0, aR 23 0), (3, aI w)]) rfl ?_
          refine Sem.loc0 (show n = nI n.toInt.toNat from i_nI2 (by omega)) ?_
          refine Sem.pick [3, 0, 1, 2] (lv' := [(3, aI w), (2, aN n.toInt.toNat), (1, aN x.toInt.toNat), (0, aR 23 0)]) rfl ?_
          refine Sem.loc0 (show w = nI w.toInt.toNat from i_nI2 (by omega)) ?_
          refine Sem.seg [(.iload_n 3, 0, 0), (.istore 4, 0, 0)] ⟨⟨d126_54, trivial⟩, ⟨d126_55, trivial⟩, trivial⟩ (lv' := [(4, aN w.toInt.toNat), (3, aN w.toInt.toNat), (2, aN n.toInt.toNat), (1, aN x.toInt.toNat), (0, aR 23 0)]) (st' := []) (w' := wd (upN N 23 0 0 0) L) (P := []) rfl (trivial) (pc' := 57) rfl ?_
          have lp : ∀ (d : Nat) (v : Nat), 12 - v = d → (w.toInt.toNat ≤ v) → (v ≤ 12) → (∀ u, w.toInt.toNat ≤ u → u < v → ¬ ∀ z, u ≤ z → z < 12 → okM N L x.toInt.toNat n.toInt.toNat z) → Sem sc 126 57 [(0, aR 23 0), (1, aN x.toInt.toNat), (2, aN n.toInt.toNat), (4, aN v)] [] (wd (upN N 23 0 0 0) L) 0 0 (QI fun y N' L' => L = L' ∧ N' = upN N 23 0 0 (cProm (N 23 0 20) x n w) ∧ (cProm (N 23 0 20) x n w = 0 → LT (okM N L x.toInt.toNat n.toInt.toNat) w.toInt.toNat y)) := by
            intro d
            induction d using Nat.strongRecOn with
            | ind d ih =>
              intro v hd hv hv2 hno
              refine Sem.seg [(.iload 4, 0, 0), (.bipush 12, 0, 0)] ⟨⟨d126_57, trivial⟩, ⟨d126_59, trivial⟩, trivial⟩ (lv' := [(0, aR 23 0), (1, aN x.toInt.toNat), (2, aN n.toInt.toNat), (4, aN v)]) (st' := [aN 12, aN v]) (w' := wd (upN N 23 0 0 0) L) (P := []) rfl (trivial) (pc' := 61) rfl ?_
              refine Sem.icmpN (tgt := 84) d126_61 (by decide) (show v < 2 ^ 31 by first | omega | exact Nat.lt_of_le_of_lt (bo_le _) (by decide)) (by decide) (fun b9 => ?_) (fun b9 => ?_)
              · have b9_ : 12 ≤ v := b9
                refine Sem.seg [(.iconst (-1), 0, 0)] ⟨⟨d126_84, trivial⟩, trivial⟩ (lv' := [(0, aR 23 0), (1, aN x.toInt.toNat), (2, aN n.toInt.toNat), (4, aN v)]) (st' := [aI (Int32.ofInt (-1))]) (w' := wd (upN N 23 0 0 0) L) (P := []) rfl (trivial) (pc' := 85) rfl ?_
                refine Sem.iret rfl d126_85 (Or.inl rfl) (by decide) (by decide) hzW ⟨_, _, _, rfl, rfl, ?_⟩
                have hcode : cProm (N 23 0 20) x n w = 0 := by unfold cProm; (repeat' split) <;> omega
                refine ⟨rfl, by rw [hcode], fun _ => ?_⟩
                refine Or.inl ⟨rfl, fun q => hno 11 (by omega) (by omega) (fun u h1 h2 => ?_)⟩
                obtain rfl : u = 11 := by omega
                exact q
              · have b9_ : ¬ (12 ≤ v) := b9
                refine Sem.seg [(.aload_n 0, 0, 0), (.iload_n 1, 0, 0), (.iload_n 2, 0, 0), (.iload 4, 0, 0)] ⟨⟨d126_64, trivial⟩, ⟨d126_65, trivial⟩, ⟨d126_66, trivial⟩, ⟨d126_67, trivial⟩, trivial⟩ (lv' := [(0, aR 23 0), (1, aN x.toInt.toNat), (2, aN n.toInt.toNat), (4, aN v)]) (st' := [aN v, aN n.toInt.toNat, aN x.toInt.toNat, aR 23 0]) (w' := wd (upN N 23 0 0 0) L) (P := []) rfl (trivial) (pc' := 69) rfl ?_
                refine Sem.cVp1 (t := 23) (i := 0) (as := [aN x.toInt.toNat, aN n.toInt.toNat, aN v]) (rst := []) (c' := 0) (s' := 0) d126_69 mk127 rfl co127 lk5_186 im127 se127 rfl (vN (t := 23) (i := 0) (by decide)) (show 4 ≤ mL 127 by decide) rfl (show 0 ≤ 8 by decide) (by decide) (by decide) rfl rfl (by decide) (by decide) (m127 (upN N 23 0 0 0) L x.toInt.toNat n.toInt.toNat v (by omega) (by omega) (by omega) hc) ?_
                refine Sem.ifN (tgt := 78) d126_72 (by decide) (show bo (∀ u, v ≤ u → u < 12 → okM N L x.toInt.toNat n.toInt.toNat u) < 2 ^ 31 by first | omega | exact Nat.lt_of_le_of_lt (bo_le _) (by decide)) (fun b10 => ?_) (fun b10 => ?_)
                · have b10_ : bo (∀ u, v ≤ u → u < 12 → okM N L x.toInt.toNat n.toInt.toNat u) = 0 := b10
                  refine Sem.seg [(.iinc 4 1, 0, 0)] ⟨⟨d126_78, trivial⟩, trivial⟩ (lv' := [(4, aN (v + 1)), (0, aR 23 0), (1, aN x.toInt.toNat), (2, aN n.toInt.toNat)]) (st' := []) (w' := wd (upN N 23 0 0 0) L) (P := []) rfl (trivial) (pc' := 81) rfl ?_
                  refine Sem.goto (tgt := 57) d126_81 (by decide) ?_
                  refine Sem.pick [1, 2, 3, 0] (lv' := [(0, aR 23 0), (1, aN x.toInt.toNat), (2, aN n.toInt.toNat), (4, aN (v + 1))]) rfl ?_
                  exact ih _ (by omega) (v + 1) rfl (by omega) (by omega) (fun u h1 h2 => by by_cases e : u = v; (subst e; exact fun q => absurd (bo_t q) (by omega)); exact hno u h1 (by omega))
                · have b10_ : ¬ (bo (∀ u, v ≤ u → u < 12 → okM N L x.toInt.toNat n.toInt.toNat u) = 0) := b10
                  have ht : ∀ u, v ≤ u → u < 12 → okM N L x.toInt.toNat n.toInt.toNat u := Classical.byContradiction fun q => (by assumption : ¬ bo (∀ u, v ≤ u → u < 12 → okM N L x.toInt.toNat n.toInt.toNat u) = 0) (bo_f q)
                  refine Sem.seg [(.iload 4, 0, 0)] ⟨⟨d126_75, trivial⟩, trivial⟩ (lv' := [(0, aR 23 0), (1, aN x.toInt.toNat), (2, aN n.toInt.toNat), (4, aN v)]) (st' := [aN v]) (w' := wd (upN N 23 0 0 0) L) (P := []) rfl (trivial) (pc' := 77) rfl ?_
                  refine Sem.topNI rfl ?_
                  refine Sem.iret rfl d126_77 (Or.inl rfl) (by decide) (by decide) hzW ⟨_, _, _, rfl, rfl, ?_⟩
                  have hcode : cProm (N 23 0 20) x n w = 0 := by unfold cProm; (repeat' split) <;> omega
                  refine ⟨rfl, by rw [hcode], fun _ => ?_⟩
                  refine Or.inr ⟨v, hv, by omega, rfl, ht, ?_⟩
                  by_cases e : v = w.toInt.toNat
                  · exact Or.inl e
                  · refine Or.inr (fun q => hno (v - 1) (by omega) (by omega) (fun u h1 h2 => ?_))
                    by_cases e2 : u = v - 1
                    · subst e2; exact q
                    · exact ht u (by omega) h2
          refine Sem.pick [4, 3, 2, 0] (lv' := [(0, aR 23 0), (1, aN x.toInt.toNat), (2, aN n.toInt.toNat), (4, aN w.toInt.toNat)]) rfl ?_
          exact lp _ w.toInt.toNat rfl (by omega) (by omega) (fun u h1 h2 => absurd h2 (by omega))
        · have b7_ : ¬ (N 23 0 20 = 0) := b7
          refine Sem.seg [(.iconst 3, 0, 0)] ⟨⟨d126_41, trivial⟩, trivial⟩ (lv' := [(0, aR 23 0), (1, aI x), (2, aI n), (3, aI w)]) (st' := [aN 3, aR 23 0]) (w' := wd N L) (P := []) rfl (trivial) (pc' := 42) rfl ?_
          refine Sem.goto (tgt := 46) d126_42 (by decide) ?_
          refine Sem.cVp1 (t := 23) (i := 0) (as := [aN 3]) (rst := []) (c' := 0) (s' := 0) d126_46 mk91 rfl co91 lk5_97 im91 se91 rfl (vN (t := 23) (i := 0) (by decide)) (show 2 ≤ mL 91 by decide) rfl (show 0 ≤ 8 by decide) (by decide) (by decide) rfl rfl (by decide) (by decide) (m91 (N) L 3 (by decide)) ?_
          refine Sem.topNN (show (if 0 < 3 then 1 else 0) = 1 from rfl) ?_
          refine Sem.ifN (tgt := 54) d126_49 (by decide) (by decide) (fun b11 => ?_) (fun b11 => ?_)
          · exact absurd (show 1 = 0 from b11) (by decide)
          refine Sem.seg [(.iconst 0, 0, 0)] ⟨⟨d126_52, trivial⟩, trivial⟩ (lv' := [(0, aR 23 0), (1, aI x), (2, aI n), (3, aI w)]) (st' := [aN 0]) (w' := wd (upN N 23 0 0 3) L) (P := []) rfl (trivial) (pc' := 53) rfl ?_
          refine Sem.topNI rfl ?_
          refine Sem.iret rfl d126_53 (Or.inl rfl) (by decide) (by decide) hzW ⟨_, _, _, rfl, rfl, ?_⟩
          have hcode : cProm (N 23 0 20) x n w = 3 := by unfold cProm; (repeat' split) <;> omega
          exact ⟨rfl, by rw [hcode], fun q => absurd (hcode.symm.trans q) (by decide)⟩
      case neg =>
        refine Sem.cSp1 (as := [aI n, aN 1, aN 1000]) (rst := [aR 23 0]) (c' := 0) (s' := 0) d126_24 mk89 rfl co89 lk5_89 ss89 (show 3 ≤ mL 89 by decide) rfl (show 1 ≤ 8 by decide) (by decide) (by decide) rfl rfl (by decide) (by decide) (m89 (N) L n 1 1000 (by decide) (by decide)) ?_
        refine Sem.topNN (if_neg h5) ?_
        refine Sem.ifN (tgt := 34) d126_27 (by decide) (by decide) (fun b12 => ?_) (fun b12 => ?_)
        · exact absurd (show ¬ 0 = 0 from b12) (by decide)
        refine Sem.seg [(.iconst 2, 0, 0)] ⟨⟨d126_30, trivial⟩, trivial⟩ (lv' := [(0, aR 23 0), (1, aI x), (2, aI n), (3, aI w)]) (st' := [aN 2, aR 23 0]) (w' := wd N L) (P := []) rfl (trivial) (pc' := 31) rfl ?_
        refine Sem.goto (tgt := 46) d126_31 (by decide) ?_
        refine Sem.cVp1 (t := 23) (i := 0) (as := [aN 2]) (rst := []) (c' := 0) (s' := 0) d126_46 mk91 rfl co91 lk5_97 im91 se91 rfl (vN (t := 23) (i := 0) (by decide)) (show 2 ≤ mL 91 by decide) rfl (show 0 ≤ 8 by decide) (by decide) (by decide) rfl rfl (by decide) (by decide) (m91 (N) L 2 (by decide)) ?_
        refine Sem.topNN (show (if 0 < 2 then 1 else 0) = 1 from rfl) ?_
        refine Sem.ifN (tgt := 54) d126_49 (by decide) (by decide) (fun b13 => ?_) (fun b13 => ?_)
        · exact absurd (show 1 = 0 from b13) (by decide)
        refine Sem.seg [(.iconst 0, 0, 0)] ⟨⟨d126_52, trivial⟩, trivial⟩ (lv' := [(0, aR 23 0), (1, aI x), (2, aI n), (3, aI w)]) (st' := [aN 0]) (w' := wd (upN N 23 0 0 2) L) (P := []) rfl (trivial) (pc' := 53) rfl ?_
        refine Sem.topNI rfl ?_
        refine Sem.iret rfl d126_53 (Or.inl rfl) (by decide) (by decide) hzW ⟨_, _, _, rfl, rfl, ?_⟩
        have hcode : cProm (N 23 0 20) x n w = 2 := by unfold cProm; (repeat' split) <;> omega
        exact ⟨rfl, by rw [hcode], fun q => absurd (hcode.symm.trans q) (by decide)⟩
    case neg =>
      refine Sem.cSp1 (as := [aI w]) (rst := [aR 23 0]) (c' := 0) (s' := 0) d126_9 mk90 rfl co90 lk5_93 ss90 (show 1 ≤ mL 90 by decide) rfl (show 1 ≤ 8 by decide) (by decide) (by decide) rfl rfl (by decide) (by decide) (m90 (N) L w) ?_
      refine Sem.topNN (if_neg h3) ?_
      refine Sem.ifN (tgt := 19) d126_12 (by decide) (by decide) (fun b14 => ?_) (fun b14 => ?_)
      · exact absurd (show ¬ 0 = 0 from b14) (by decide)
      refine Sem.seg [(.iconst 1, 0, 0)] ⟨⟨d126_15, trivial⟩, trivial⟩ (lv' := [(0, aR 23 0), (1, aI x), (2, aI n), (3, aI w)]) (st' := [aN 1, aR 23 0]) (w' := wd N L) (P := []) rfl (trivial) (pc' := 16) rfl ?_
      refine Sem.goto (tgt := 46) d126_16 (by decide) ?_
      refine Sem.cVp1 (t := 23) (i := 0) (as := [aN 1]) (rst := []) (c' := 0) (s' := 0) d126_46 mk91 rfl co91 lk5_97 im91 se91 rfl (vN (t := 23) (i := 0) (by decide)) (show 2 ≤ mL 91 by decide) rfl (show 0 ≤ 8 by decide) (by decide) (by decide) rfl rfl (by decide) (by decide) (m91 (N) L 1 (by decide)) ?_
      refine Sem.topNN (show (if 0 < 1 then 1 else 0) = 1 from rfl) ?_
      refine Sem.ifN (tgt := 54) d126_49 (by decide) (by decide) (fun b15 => ?_) (fun b15 => ?_)
      · exact absurd (show 1 = 0 from b15) (by decide)
      refine Sem.seg [(.iconst 0, 0, 0)] ⟨⟨d126_52, trivial⟩, trivial⟩ (lv' := [(0, aR 23 0), (1, aI x), (2, aI n), (3, aI w)]) (st' := [aN 0]) (w' := wd (upN N 23 0 0 1) L) (P := []) rfl (trivial) (pc' := 53) rfl ?_
      refine Sem.topNI rfl ?_
      refine Sem.iret rfl d126_53 (Or.inl rfl) (by decide) (by decide) hzW ⟨_, _, _, rfl, rfl, ?_⟩
      have hcode : cProm (N 23 0 20) x n w = 1 := by unfold cProm; (repeat' split) <;> omega
      exact ⟨rfl, by rw [hcode], fun q => absurd (hcode.symm.trans q) (by decide)⟩
  case neg =>
    refine Sem.cSp1 (as := [aI x]) (rst := [aR 23 0]) (c' := 0) (s' := 0) d126_2 mk90 rfl co90 lk5_93 ss90 (show 1 ≤ mL 90 by decide) rfl (show 1 ≤ 8 by decide) (by decide) (by decide) rfl rfl (by decide) (by decide) (m90 (N) L x) ?_
    refine Sem.topNN (if_neg h1) ?_
    refine Sem.ifN (tgt := 15) d126_5 (by decide) (by decide) (fun b16 => ?_) (fun b16 => ?_)
    rotate_left
    · exact absurd (show 0 = 0 from by decide) b16
    refine Sem.seg [(.iconst 1, 0, 0)] ⟨⟨d126_15, trivial⟩, trivial⟩ (lv' := [(0, aR 23 0), (1, aI x), (2, aI n), (3, aI w)]) (st' := [aN 1, aR 23 0]) (w' := wd N L) (P := []) rfl (trivial) (pc' := 16) rfl ?_
    refine Sem.goto (tgt := 46) d126_16 (by decide) ?_
    refine Sem.cVp1 (t := 23) (i := 0) (as := [aN 1]) (rst := []) (c' := 0) (s' := 0) d126_46 mk91 rfl co91 lk5_97 im91 se91 rfl (vN (t := 23) (i := 0) (by decide)) (show 2 ≤ mL 91 by decide) rfl (show 0 ≤ 8 by decide) (by decide) (by decide) rfl rfl (by decide) (by decide) (m91 (N) L 1 (by decide)) ?_
    refine Sem.topNN (show (if 0 < 1 then 1 else 0) = 1 from rfl) ?_
    refine Sem.ifN (tgt := 54) d126_49 (by decide) (by decide) (fun b17 => ?_) (fun b17 => ?_)
    · exact absurd (show 1 = 0 from b17) (by decide)
    refine Sem.seg [(.iconst 0, 0, 0)] ⟨⟨d126_52, trivial⟩, trivial⟩ (lv' := [(0, aR 23 0), (1, aI x), (2, aI n), (3, aI w)]) (st' := [aN 0]) (w' := wd (upN N 23 0 0 1) L) (P := []) rfl (trivial) (pc' := 53) rfl ?_
    refine Sem.topNI rfl ?_
    refine Sem.iret rfl d126_53 (Or.inl rfl) (by decide) (by decide) hzW ⟨_, _, _, rfl, rfl, ?_⟩
    have hcode : cProm (N 23 0 20) x n w = 1 := by unfold cProm; (repeat' split) <;> omega
    exact ⟨rfl, by rw [hcode], fun q => absurd (hcode.symm.trans q) (by decide)⟩

theorem m128 {sc : XT} (N : TN) (L : TL) (x n w : Int32) (h20 : N 23 0 20 ≤ 1) (hc : CD (mN N)) : Sem sc 128 0 [(0, aR 23 0), (1, aI x), (2, aI n), (3, aI w)] [] (wd N L) 0 0 (QI fun y N' L' => L = L' ∧ (cProm (if 24 ≤ N 37 0 2 then 1 else N 23 0 20) x n w = 0 → (y = Int32.ofInt (-1) ∧ (¬ ∀ u, w.toInt.toNat ≤ u → u < 12 → okM N L x.toInt.toNat n.toInt.toNat u) ∧ N' = upN N 23 0 0 0) ∨ (y = nI (N 37 0 2) ∧ (∀ u, w.toInt.toNat ≤ u → u < 12 → okM N L x.toInt.toNat n.toInt.toNat u) ∧ N' = upN (upN (upN (upN (upN N 23 0 0 0) 38 0 (24 * 2 + N 37 0 2) x.toInt.toNat) 39 0 (24 * 2 + N 37 0 2) w.toInt.toNat) 40 0 (24 * 2 + N 37 0 2) n.toInt.toNat) 37 0 2 (N 37 0 2 + 1))) ∧ (¬ cProm (if 24 ≤ N 37 0 2 then 1 else N 23 0 20) x n w = 0 → N' = upN N 23 0 0 (cProm (if 24 ≤ N 37 0 2 then 1 else N 23 0 20) x n w))) := by
  have h24 : N 37 0 2 ≤ 24 := (hc.2.1 2 (by decide)).1
  refine Sem.seg [(.iload_n 1, 0, 0)] ⟨⟨d128_0, trivial⟩, trivial⟩ (lv' := [(0, aR 23 0), (1, aI x), (2, aI n), (3, aI w)]) (st' := [aI x]) (w' := wd N L) (P := []) rfl (trivial) (pc' := 1) rfl ?_
  by_cases h1 : 0 ≤ x.toInt ∧ x.toInt < 12
  case pos =>
    refine Sem.cSp1 (as := [aI x]) (rst := []) (c' := 0) (s' := 0) d128_1 mk90 rfl co90 lk5_93 ss90 (show 1 ≤ mL 90 by decide) rfl (show 0 ≤ 8 by decide) (by decide) (by decide) rfl rfl (by decide) (by decide) (m90 (N) L x) ?_
    refine Sem.topNN (if_pos h1) ?_
    refine Sem.ifN (tgt := 18) d128_4 (by decide) (by decide) (fun b2 => ?_) (fun b2 => ?_)
    · exact absurd (show 1 = 0 from b2) (by decide)
    refine Sem.seg [(.iload_n 3, 0, 0)] ⟨⟨d128_7, trivial⟩, trivial⟩ (lv' := [(0, aR 23 0), (1, aI x), (2, aI n), (3, aI w)]) (st' := [aI w]) (w' := wd N L) (P := []) rfl (trivial) (pc' := 8) rfl ?_
    by_cases h3 : 0 ≤ w.toInt ∧ w.toInt < 12
    case pos =>
      refine Sem.cSp1 (as := [aI w]) (rst := []) (c' := 0) (s' := 0) d128_8 mk90 rfl co90 lk5_93 ss90 (show 1 ≤ mL 90 by decide) rfl (show 0 ≤ 8 by decide) (by decide) (by decide) rfl rfl (by decide) (by decide) (m90 (N) L w) ?_
      refine Sem.topNN (if_pos h3) ?_
      refine Sem.ifN (tgt := 18) d128_11 (by decide) (by decide) (fun b4 => ?_) (fun b4 => ?_)
      · exact absurd (show 1 = 0 from b4) (by decide)
      refine Sem.seg [(.iconst 1, 0, 0)] ⟨⟨d128_14, trivial⟩, trivial⟩ (lv' := [(0, aR 23 0), (1, aI x), (2, aI n), (3, aI w)]) (st' := [aN 1]) (w' := wd N L) (P := []) rfl (trivial) (pc' := 15) rfl ?_
      refine Sem.goto (tgt := 19) d128_15 (by decide) ?_
      refine Sem.seg [(.istore 4, 0, 0), (.aload_n 0, 0, 0), (.iload 4, 0, 0)] ⟨⟨d128_19, trivial⟩, ⟨d128_21, trivial⟩, ⟨d128_22, trivial⟩, trivial⟩ (lv' := [(4, aN 1), (0, aR 23 0), (1, aI x), (2, aI n), (3, aI w)]) (st' := [aN 1, aR 23 0]) (w' := wd N L) (P := []) rfl (trivial) (pc' := 24) rfl ?_
      refine Sem.ifN (tgt := 31) d128_24 (by decide) (by decide) (fun b5 => ?_) (fun b5 => ?_)
      rotate_left
      · exact absurd (show ¬ 1 = 0 from by decide) b5
      refine Sem.seg [(.iload_n 2, 0, 0), (.iconst 1, 0, 0), (.sipush 1000, 0, 0)] ⟨⟨d128_31, trivial⟩, ⟨d128_32, trivial⟩, ⟨d128_33, trivial⟩, trivial⟩ (lv' := [(4, aN 1), (0, aR 23 0), (1, aI x), (2, aI n), (3, aI w)]) (st' := [aN 1000, aN 1, aI n, aR 23 0]) (w' := wd N L) (P := []) rfl (trivial) (pc' := 36) rfl ?_
      by_cases h6 : ((1 : Nat) : Int) ≤ n.toInt ∧ n.toInt ≤ ((1000 : Nat) : Int)
      case pos =>
        refine Sem.cSp1 (as := [aI n, aN 1, aN 1000]) (rst := [aR 23 0]) (c' := 0) (s' := 0) d128_36 mk89 rfl co89 lk5_89 ss89 (show 3 ≤ mL 89 by decide) rfl (show 1 ≤ 8 by decide) (by decide) (by decide) rfl rfl (by decide) (by decide) (m89 (N) L n 1 1000 (by decide) (by decide)) ?_
        refine Sem.topNN (if_pos h6) ?_
        refine Sem.ifN (tgt := 46) d128_39 (by decide) (by decide) (fun b7 => ?_) (fun b7 => ?_)
        rotate_left
        · exact absurd (show ¬ 1 = 0 from by decide) b7
        refine Sem.seg [(.aload_n 0, 0, 0), (.getfield 61, 5, 20)] ⟨⟨d128_46, trivial⟩, ⟨d128_47, gf5_61⟩, trivial⟩ (lv' := [(4, aN 1), (0, aR 23 0), (1, aI x), (2, aI n), (3, aI w)]) (st' := [aN (N 23 0 20), aR 23 0]) (w' := wd N L) (P := [vld NN 23 0]) rfl (vN (t := 23) (i := 0) (by decide)) (pc' := 50) rfl ?_
        refine Sem.ifN (tgt := 64) d128_50 (by decide) (show N 23 0 20 < 2 ^ 31 by first | omega | exact Nat.lt_of_le_of_lt (bo_le _) (by decide)) (fun b8 => ?_) (fun b8 => ?_)
        · have b8_ : ¬ N 23 0 20 = 0 := b8
          refine Sem.seg [(.iconst 3, 0, 0)] ⟨⟨d128_64, trivial⟩, trivial⟩ (lv' := [(4, aN 1), (0, aR 23 0), (1, aI x), (2, aI n), (3, aI w)]) (st' := [aN 3, aR 23 0]) (w' := wd N L) (P := []) rfl (trivial) (pc' := 65) rfl ?_
          refine Sem.goto (tgt := 69) d128_65 (by decide) ?_
          refine Sem.cVp1 (t := 23) (i := 0) (as := [aN 3]) (rst := []) (c' := 0) (s' := 0) d128_69 mk91 rfl co91 lk5_97 im91 se91 rfl (vN (t := 23) (i := 0) (by decide)) (show 2 ≤ mL 91 by decide) rfl (show 0 ≤ 8 by decide) (by decide) (by decide) rfl rfl (by decide) (by decide) (m91 (N) L 3 (by decide)) ?_
          refine Sem.topNN (show (if 0 < 3 then 1 else 0) = 1 from rfl) ?_
          refine Sem.ifN (tgt := 77) d128_72 (by decide) (by decide) (fun b9 => ?_) (fun b9 => ?_)
          · exact absurd (show 1 = 0 from b9) (by decide)
          refine Sem.seg [(.iconst 0, 0, 0)] ⟨⟨d128_75, trivial⟩, trivial⟩ (lv' := [(4, aN 1), (0, aR 23 0), (1, aI x), (2, aI n), (3, aI w)]) (st' := [aN 0]) (w' := wd (upN N 23 0 0 3) L) (P := []) rfl (trivial) (pc' := 76) rfl ?_
          refine Sem.topNI rfl ?_
          refine Sem.iret rfl d128_76 (Or.inl rfl) (by decide) (by decide) hzW ⟨_, _, _, rfl, rfl, ?_⟩
          have hcode : cProm (if 24 ≤ N 37 0 2 then 1 else N 23 0 20) x n w = 3 := by unfold cProm; (repeat' split) <;> omega
          exact ⟨rfl, fun q => absurd (hcode.symm.trans q) (by decide), fun _ => by rw [hcode]⟩
        · have b8_ : ¬ (¬ N 23 0 20 = 0) := b8
          refine Sem.seg [(.aload_n 0, 0, 0), (.getfield 49, 5, 15), (.iconst 2, 0, 0), (.iaload, 0, 0), (.bipush 24, 0, 0)] ⟨⟨d128_53, trivial⟩, ⟨d128_54, gf5_49⟩, ⟨d128_57, trivial⟩, ⟨d128_58, trivial⟩, ⟨d128_59, trivial⟩, trivial⟩ (lv' := [(4, aN 1), (0, aR 23 0), (1, aI x), (2, aI n), (3, aI w)]) (st' := [aN 24, aN (N 37 0 2), aR 23 0]) (w' := wd N L) (P := [vld NN 23 0, vld NN 37 0, 2 < 3]) rfl (⟨vN (t := 23) (i := 0) (by decide), vN (t := 37) (i := 0) (by decide), (by decide : (2 : Nat) < 3)⟩) (pc' := 61) rfl ?_
          refine Sem.icmpN (tgt := 68) d128_61 (by decide) (show N 37 0 2 < 2 ^ 31 by first | omega | exact Nat.lt_of_le_of_lt (bo_le _) (by decide)) (by decide) (fun b10 => ?_) (fun b10 => ?_)
          · have b10_ : ¬ N 37 0 2 = 24 := b10
            refine Sem.seg [(.iconst 0, 0, 0)] ⟨⟨d128_68, trivial⟩, trivial⟩ (lv' := [(4, aN 1), (0, aR 23 0), (1, aI x), (2, aI n), (3, aI w)]) (st' := [aN 0, aR 23 0]) (w' := wd N L) (P := []) rfl (trivial) (pc' := 69) rfl ?_
            refine Sem.cVp1 (t := 23) (i := 0) (as := [aN 0]) (rst := []) (c' := 0) (s' := 0) d128_69 mk91 rfl co91 lk5_97 im91 se91 rfl (vN (t := 23) (i := 0) (by decide)) (show 2 ≤ mL 91 by decide) rfl (show 0 ≤ 8 by decide) (by decide) (by decide) rfl rfl (by decide) (by decide) (m91 (N) L 0 (by decide)) ?_
            refine Sem.topNN (show (if 0 < 0 then 1 else 0) = 0 from rfl) ?_
            refine Sem.ifN (tgt := 77) d128_72 (by decide) (by decide) (fun b11 => ?_) (fun b11 => ?_)
            rotate_left
            · exact absurd (show 0 = 0 from by decide) b11
            refine Sem.pick [2, 0, 1, 3, 4] (lv' := [(1, aI x), (4, aN 1), (0, aR 23 0), (2, aI n), (3, aI w)]) rfl ?_
            refine Sem.loc0 (show x = nI x.toInt.toNat from i_nI2 (by omega)) ?_
            refine Sem.pick [3, 0, 1, 2, 4] (lv' := [(2, aI n), (1, aN x.toInt.toNat), (4, aN 1), (0, aR 23 0), (3, aI w)]) rfl ?_
            refine Sem.loc0 (show n = nI n.toInt.toNat from i_nI2 (by omega)) ?_
            refine Sem.pick [4, 0, 1, 2, 3] (lv' := [(3, aI w), (2, aN n.toInt.toNat), (1, aN x.toInt.toNat), (4, aN 1), (0, aR 23 0)]) rfl ?_
            refine Sem.loc0 (show w = nI w.toInt.toNat from i_nI2 (by omega)) ?_
            refine Sem.seg [(.aload_n 0, 0, 0), (.iload_n 1, 0, 0), (.iload_n 2, 0, 0), (.iload_n 3, 0, 0)] ⟨⟨d128_77, trivial⟩, ⟨d128_78, trivial⟩, ⟨d128_79, trivial⟩, ⟨d128_80, trivial⟩, trivial⟩ (lv' := [(3, aN w.toInt.toNat), (2, aN n.toInt.toNat), (1, aN x.toInt.toNat), (4, aN 1), (0, aR 23 0)]) (st' := [aN w.toInt.toNat, aN n.toInt.toNat, aN x.toInt.toNat, aR 23 0]) (w' := wd (upN N 23 0 0 0) L) (P := []) rfl (trivial) (pc' := 81) rfl ?_
            refine Sem.cVp1 (t := 23) (i := 0) (as := [aN x.toInt.toNat, aN n.toInt.toNat, aN w.toInt.toNat]) (rst := []) (c' := 0) (s' := 0) d128_81 mk127 rfl co127 lk5_186 im127 se127 rfl (vN (t := 23) (i := 0) (by decide)) (show 4 ≤ mL 127 by decide) rfl (show 0 ≤ 8 by decide) (by decide) (by decide) rfl rfl (by decide) (by decide) (m127 (upN N 23 0 0 0) L x.toInt.toNat n.toInt.toNat w.toInt.toNat (by omega) (by omega) (by omega) hc) ?_
            refine Sem.ifN (tgt := 98) d128_84 (by decide) (show bo (∀ u, w.toInt.toNat ≤ u → u < 12 → okM N L x.toInt.toNat n.toInt.toNat u) < 2 ^ 31 by first | omega | exact Nat.lt_of_le_of_lt (bo_le _) (by decide)) (fun b12 => ?_) (fun b12 => ?_)
            · have b12_ : bo (∀ u, w.toInt.toNat ≤ u → u < 12 → okM N L x.toInt.toNat n.toInt.toNat u) = 0 := b12
              refine Sem.seg [(.iconst (-1), 0, 0)] ⟨⟨d128_98, trivial⟩, trivial⟩ (lv' := [(3, aN w.toInt.toNat), (2, aN n.toInt.toNat), (1, aN x.toInt.toNat), (4, aN 1), (0, aR 23 0)]) (st' := [aI (Int32.ofInt (-1))]) (w' := wd (upN N 23 0 0 0) L) (P := []) rfl (trivial) (pc' := 99) rfl ?_
              refine Sem.iret rfl d128_99 (Or.inl rfl) (by decide) (by decide) hzW ⟨_, _, _, rfl, rfl, ?_⟩
              have hcode : cProm (if 24 ≤ N 37 0 2 then 1 else N 23 0 20) x n w = 0 := by unfold cProm; (repeat' split) <;> omega
              refine ⟨rfl, fun _ => ?_, fun q => absurd hcode q⟩
              exact Or.inl ⟨rfl, fun q => absurd (bo_t q) (by omega), rfl⟩
            · have b12_ : ¬ (bo (∀ u, w.toInt.toNat ≤ u → u < 12 → okM N L x.toInt.toNat n.toInt.toNat u) = 0) := b12
              refine Sem.seg [(.aload_n 0, 0, 0), (.iconst 2, 0, 0), (.iload_n 1, 0, 0), (.iload_n 3, 0, 0), (.iload_n 2, 0, 0)] ⟨⟨d128_87, trivial⟩, ⟨d128_88, trivial⟩, ⟨d128_89, trivial⟩, ⟨d128_90, trivial⟩, ⟨d128_91, trivial⟩, trivial⟩ (lv' := [(3, aN w.toInt.toNat), (2, aN n.toInt.toNat), (1, aN x.toInt.toNat), (4, aN 1), (0, aR 23 0)]) (st' := [aN n.toInt.toNat, aN w.toInt.toNat, aN x.toInt.toNat, aN 2, aR 23 0]) (w' := wd (upN N 23 0 0 0) L) (P := []) rfl (trivial) (pc' := 92) rfl ?_
              refine Sem.cVp1 (t := 23) (i := 0) (as := [aN 2, aN x.toInt.toNat, aN w.toInt.toNat, aN n.toInt.toNat]) (rst := []) (c' := 0) (s' := 0) d128_92 mk102 rfl co102 lk5_120 im102 se102 rfl (vN (t := 23) (i := 0) (by decide)) (show 5 ≤ mL 102 by decide) rfl (show 0 ≤ 8 by decide) (by decide) (by decide) rfl rfl (by decide) (by decide) (m102_2 (upN N 23 0 0 0) L x.toInt.toNat w.toInt.toNat n.toInt.toNat (show N 37 0 2 < 24 by omega)) ?_
              refine Sem.goto (tgt := 99) d128_95 (by decide) ?_
              refine Sem.topNI rfl ?_
              refine Sem.iret rfl d128_99 (Or.inl rfl) (by decide) (by decide) hzW ⟨_, _, _, rfl, rfl, ?_⟩
              have hcode : cProm (if 24 ≤ N 37 0 2 then 1 else N 23 0 20) x n w = 0 := by unfold cProm; (repeat' split) <;> omega
              refine ⟨rfl, fun _ => ?_, fun q => absurd hcode q⟩
              exact Or.inr ⟨rfl, Classical.byContradiction fun q => (by assumption : ¬ bo (∀ u, w.toInt.toNat ≤ u → u < 12 → okM N L x.toInt.toNat n.toInt.toNat u) = 0) (bo_f q), rfl⟩
          · have b10_ : ¬ (¬ N 37 0 2 = 24) := b10
            refine Sem.seg [(.iconst 3, 0, 0)] ⟨⟨d128_64, trivial⟩, trivial⟩ (lv' := [(4, aN 1), (0, aR 23 0), (1, aI x), (2, aI n), (3, aI w)]) (st' := [aN 3, aR 23 0]) (w' := wd N L) (P := []) rfl (trivial) (pc' := 65) rfl ?_
            refine Sem.goto (tgt := 69) d128_65 (by decide) ?_
            refine Sem.cVp1 (t := 23) (i := 0) (as := [aN 3]) (rst := []) (c' := 0) (s' := 0) d128_69 mk91 rfl co91 lk5_97 im91 se91 rfl (vN (t := 23) (i := 0) (by decide)) (show 2 ≤ mL 91 by decide) rfl (show 0 ≤ 8 by decide) (by decide) (by decide) rfl rfl (by decide) (by decide) (m91 (N) L 3 (by decide)) ?_
            refine Sem.topNN (show (if 0 < 3 then 1 else 0) = 1 from rfl) ?_
            refine Sem.ifN (tgt := 77) d128_72 (by decide) (by decide) (fun b13 => ?_) (fun b13 => ?_)
            · exact absurd (show 1 = 0 from b13) (by decide)
            refine Sem.seg [(.iconst 0, 0, 0)] ⟨⟨d128_75, trivial⟩, trivial⟩ (lv' := [(4, aN 1), (0, aR 23 0), (1, aI x), (2, aI n), (3, aI w)]) (st' := [aN 0]) (w' := wd (upN N 23 0 0 3) L) (P := []) rfl (trivial) (pc' := 76) rfl ?_
            refine Sem.topNI rfl ?_
            refine Sem.iret rfl d128_76 (Or.inl rfl) (by decide) (by decide) hzW ⟨_, _, _, rfl, rfl, ?_⟩
            have hcode : cProm (if 24 ≤ N 37 0 2 then 1 else N 23 0 20) x n w = 3 := by unfold cProm; (repeat' split) <;> omega
            exact ⟨rfl, fun q => absurd (hcode.symm.trans q) (by decide), fun _ => by rw [hcode]⟩
      case neg =>
        refine Sem.cSp1 (as := [aI n, aN 1, aN 1000]) (rst := [aR 23 0]) (c' := 0) (s' := 0) d128_36 mk89 rfl co89 lk5_89 ss89 (show 3 ≤ mL 89 by decide) rfl (show 1 ≤ 8 by decide) (by decide) (by decide) rfl rfl (by decide) (by decide) (m89 (N) L n 1 1000 (by decide) (by decide)) ?_
        refine Sem.topNN (if_neg h6) ?_
        refine Sem.ifN (tgt := 46) d128_39 (by decide) (by decide) (fun b14 => ?_) (fun b14 => ?_)
        · exact absurd (show ¬ 0 = 0 from b14) (by decide)
        refine Sem.seg [(.iconst 2, 0, 0)] ⟨⟨d128_42, trivial⟩, trivial⟩ (lv' := [(4, aN 1), (0, aR 23 0), (1, aI x), (2, aI n), (3, aI w)]) (st' := [aN 2, aR 23 0]) (w' := wd N L) (P := []) rfl (trivial) (pc' := 43) rfl ?_
        refine Sem.goto (tgt := 69) d128_43 (by decide) ?_
        refine Sem.cVp1 (t := 23) (i := 0) (as := [aN 2]) (rst := []) (c' := 0) (s' := 0) d128_69 mk91 rfl co91 lk5_97 im91 se91 rfl (vN (t := 23) (i := 0) (by decide)) (show 2 ≤ mL 91 by decide) rfl (show 0 ≤ 8 by decide) (by decide) (by decide) rfl rfl (by decide) (by decide) (m91 (N) L 2 (by decide)) ?_
        refine Sem.topNN (show (if 0 < 2 then 1 else 0) = 1 from rfl) ?_
        refine Sem.ifN (tgt := 77) d128_72 (by decide) (by decide) (fun b15 => ?_) (fun b15 => ?_)
        · exact absurd (show 1 = 0 from b15) (by decide)
        refine Sem.seg [(.iconst 0, 0, 0)] ⟨⟨d128_75, trivial⟩, trivial⟩ (lv' := [(4, aN 1), (0, aR 23 0), (1, aI x), (2, aI n), (3, aI w)]) (st' := [aN 0]) (w' := wd (upN N 23 0 0 2) L) (P := []) rfl (trivial) (pc' := 76) rfl ?_
        refine Sem.topNI rfl ?_
        refine Sem.iret rfl d128_76 (Or.inl rfl) (by decide) (by decide) hzW ⟨_, _, _, rfl, rfl, ?_⟩
        have hcode : cProm (if 24 ≤ N 37 0 2 then 1 else N 23 0 20) x n w = 2 := by unfold cProm; (repeat' split) <;> omega
        exact ⟨rfl, fun q => absurd (hcode.symm.trans q) (by decide), fun _ => by rw [hcode]⟩
    case neg =>
      refine Sem.cSp1 (as := [aI w]) (rst := []) (c' := 0) (s' := 0) d128_8 mk90 rfl co90 lk5_93 ss90 (show 1 ≤ mL 90 by decide) rfl (show 0 ≤ 8 by decide) (by decide) (by decide) rfl rfl (by decide) (by decide) (m90 (N) L w) ?_
      refine Sem.topNN (if_neg h3) ?_
      refine Sem.ifN (tgt := 18) d128_11 (by decide) (by decide) (fun b16 => ?_) (fun b16 => ?_)
      rotate_left
      · exact absurd (show 0 = 0 from by decide) b16
      refine Sem.seg [(.iconst 0, 0, 0), (.istore 4, 0, 0), (.aload_n 0, 0, 0), (.iload 4, 0, 0)] ⟨⟨d128_18, trivial⟩, ⟨d128_19, trivial⟩, ⟨d128_21, trivial⟩, ⟨d128_22, trivial⟩, trivial⟩ (lv' := [(4, aN 0), (0, aR 23 0), (1, aI x), (2, aI n), (3, aI w)]) (st' := [aN 0, aR 23 0]) (w' := wd N L) (P := []) rfl (trivial) (pc' := 24) rfl ?_
      refine Sem.ifN (tgt := 31) d128_24 (by decide) (by decide) (fun b17 => ?_) (fun b17 => ?_)
      · exact absurd (show ¬ 0 = 0 from b17) (by decide)
      refine Sem.seg [(.iconst 1, 0, 0)] ⟨⟨d128_27, trivial⟩, trivial⟩ (lv' := [(4, aN 0), (0, aR 23 0), (1, aI x), (2, aI n), (3, aI w)]) (st' := [aN 1, aR 23 0]) (w' := wd N L) (P := []) rfl (trivial) (pc' := 28) rfl ?_
      refine Sem.goto (tgt := 69) d128_28 (by decide) ?_
      refine Sem.cVp1 (t := 23) (i := 0) (as := [aN 1]) (rst := []) (c' := 0) (s' := 0) d128_69 mk91 rfl co91 lk5_97 im91 se91 rfl (vN (t := 23) (i := 0) (by decide)) (show 2 ≤ mL 91 by decide) rfl (show 0 ≤ 8 by decide) (by decide) (by decide) rfl rfl (by decide) (by decide) (m91 (N) L 1 (by decide)) ?_
      refine Sem.topNN (show (if 0 < 1 then 1 else 0) = 1 from rfl) ?_
      refine Sem.ifN (tgt := 77) d128_72 (by decide) (by decide) (fun b18 => ?_) (fun b18 => ?_)
      · exact absurd (show 1 = 0 from b18) (by decide)
      refine Sem.seg [(.iconst 0, 0, 0)] ⟨⟨d128_75, trivial⟩, trivial⟩ (lv' := [(4, aN 0), (0, aR 23 0), (1, aI x), (2, aI n), (3, aI w)]) (st' := [aN 0]) (w' := wd (upN N 23 0 0 1) L) (P := []) rfl (trivial) (pc' := 76) rfl ?_
      refine Sem.topNI rfl ?_
      refine Sem.iret rfl d128_76 (Or.inl rfl) (by decide) (by decide) hzW ⟨_, _, _, rfl, rfl, ?_⟩
      have hcode : cProm (if 24 ≤ N 37 0 2 then 1 else N 23 0 20) x n w = 1 := by unfold cProm; (repeat' split) <;> omega
      exact ⟨rfl, fun q => absurd (hcode.symm.trans q) (by decide), fun _ => by rw [hcode]⟩
  case neg =>
    refine Sem.cSp1 (as := [aI x]) (rst := []) (c' := 0) (s' := 0) d128_1 mk90 rfl co90 lk5_93 ss90 (show 1 ≤ mL 90 by decide) rfl (show 0 ≤ 8 by decide) (by decide) (by decide) rfl rfl (by decide) (by decide) (m90 (N) L x) ?_
    refine Sem.topNN (if_neg h1) ?_
    refine Sem.ifN (tgt := 18) d128_4 (by decide) (by decide) (fun b19 => ?_) (fun b19 => ?_)
    rotate_left
    · exact absurd (show 0 = 0 from by decide) b19
    refine Sem.seg [(.iconst 0, 0, 0), (.istore 4, 0, 0), (.aload_n 0, 0, 0), (.iload 4, 0, 0)] ⟨⟨d128_18, trivial⟩, ⟨d128_19, trivial⟩, ⟨d128_21, trivial⟩, ⟨d128_22, trivial⟩, trivial⟩ (lv' := [(4, aN 0), (0, aR 23 0), (1, aI x), (2, aI n), (3, aI w)]) (st' := [aN 0, aR 23 0]) (w' := wd N L) (P := []) rfl (trivial) (pc' := 24) rfl ?_
    refine Sem.ifN (tgt := 31) d128_24 (by decide) (by decide) (fun b20 => ?_) (fun b20 => ?_)
    · exact absurd (show ¬ 0 = 0 from b20) (by decide)
    refine Sem.seg [(.iconst 1, 0, 0)] ⟨⟨d128_27, trivial⟩, trivial⟩ (lv' := [(4, aN 0), (0, aR 23 0), (1, aI x), (2, aI n), (3, aI w)]) (st' := [aN 1, aR 23 0]) (w' := wd N L) (P := []) rfl (trivial) (pc' := 28) rfl ?_
    refine Sem.goto (tgt := 69) d128_28 (by decide) ?_
    refine Sem.cVp1 (t := 23) (i := 0) (as := [aN 1]) (rst := []) (c' := 0) (s' := 0) d128_69 mk91 rfl co91 lk5_97 im91 se91 rfl (vN (t := 23) (i := 0) (by decide)) (show 2 ≤ mL 91 by decide) rfl (show 0 ≤ 8 by decide) (by decide) (by decide) rfl rfl (by decide) (by decide) (m91 (N) L 1 (by decide)) ?_
    refine Sem.topNN (show (if 0 < 1 then 1 else 0) = 1 from rfl) ?_
    refine Sem.ifN (tgt := 77) d128_72 (by decide) (by decide) (fun b21 => ?_) (fun b21 => ?_)
    · exact absurd (show 1 = 0 from b21) (by decide)
    refine Sem.seg [(.iconst 0, 0, 0)] ⟨⟨d128_75, trivial⟩, trivial⟩ (lv' := [(4, aN 0), (0, aR 23 0), (1, aI x), (2, aI n), (3, aI w)]) (st' := [aN 0]) (w' := wd (upN N 23 0 0 1) L) (P := []) rfl (trivial) (pc' := 76) rfl ?_
    refine Sem.topNI rfl ?_
    refine Sem.iret rfl d128_76 (Or.inl rfl) (by decide) (by decide) hzW ⟨_, _, _, rfl, rfl, ?_⟩
    have hcode : cProm (if 24 ≤ N 37 0 2 then 1 else N 23 0 20) x n w = 1 := by unfold cProm; (repeat' split) <;> omega
    exact ⟨rfl, fun q => absurd (hcode.symm.trans q) (by decide), fun _ => by rw [hcode]⟩

theorem m130 {sc : XT} (N : TN) (L : TL) (c w : Int32) (h20 : N 23 0 20 ≤ 1) (hc : CD (mN N)) : Sem sc 130 0 [(0, aR 23 0), (1, aI c), (2, aI w)] [] (wd N L) 0 0 (QJ fun v N' L' => L = L' ∧ N' = upN N 23 0 0 (cLoad (N 23 0 20) c w) ∧ (cLoad (N 23 0 20) c w = 0 → v = ldF (mN N) (mW L) c.toInt.toNat w.toInt.toNat)) := by
  refine Sem.seg [(.aload_n 0, 0, 0), (.iload_n 1, 0, 0), (.iconst 0, 0, 0), (.iconst 2, 0, 0)] ⟨⟨d130_0, trivial⟩, ⟨d130_1, trivial⟩, ⟨d130_2, trivial⟩, ⟨d130_3, trivial⟩, trivial⟩ (lv' := [(0, aR 23 0), (1, aI c), (2, aI w)]) (st' := [aN 2, aN 0, aI c, aR 23 0]) (w' := wd N L) (P := []) rfl (trivial) (pc' := 4) rfl ?_
  by_cases h1 : ((0 : Nat) : Int) ≤ c.toInt ∧ c.toInt ≤ ((2 : Nat) : Int)
  case pos =>
    refine Sem.cSp1 (as := [aI c, aN 0, aN 2]) (rst := [aR 23 0]) (c' := 0) (s' := 0) d130_4 mk89 rfl co89 lk5_89 ss89 (show 3 ≤ mL 89 by decide) rfl (show 1 ≤ 8 by decide) (by decide) (by decide) rfl rfl (by decide) (by decide) (m89 (N) L c 0 2 (by decide) (by decide)) ?_
    refine Sem.topNN (if_pos h1) ?_
    refine Sem.ifN (tgt := 17) d130_7 (by decide) (by decide) (fun b2 => ?_) (fun b2 => ?_)
    · exact absurd (show 1 = 0 from b2) (by decide)
    refine Sem.seg [(.iload_n 2, 0, 0)] ⟨⟨d130_10, trivial⟩, trivial⟩ (lv' := [(0, aR 23 0), (1, aI c), (2, aI w)]) (st' := [aI w, aR 23 0]) (w' := wd N L) (P := []) rfl (trivial) (pc' := 11) rfl ?_
    by_cases h3 : 0 ≤ w.toInt ∧ w.toInt < 12
    case pos =>
      refine Sem.cSp1 (as := [aI w]) (rst := [aR 23 0]) (c' := 0) (s' := 0) d130_11 mk90 rfl co90 lk5_93 ss90 (show 1 ≤ mL 90 by decide) rfl (show 1 ≤ 8 by decide) (by decide) (by decide) rfl rfl (by decide) (by decide) (m90 (N) L w) ?_
      refine Sem.topNN (if_pos h3) ?_
      refine Sem.ifN (tgt := 21) d130_14 (by decide) (by decide) (fun b4 => ?_) (fun b4 => ?_)
      rotate_left
      · exact absurd (show ¬ 1 = 0 from by decide) b4
      refine Sem.seg [(.aload_n 0, 0, 0), (.getfield 61, 5, 20)] ⟨⟨d130_21, trivial⟩, ⟨d130_22, gf5_61⟩, trivial⟩ (lv' := [(0, aR 23 0), (1, aI c), (2, aI w)]) (st' := [aN (N 23 0 20), aR 23 0]) (w' := wd N L) (P := [vld NN 23 0]) rfl (vN (t := 23) (i := 0) (by decide)) (pc' := 25) rfl ?_
      refine Sem.ifN (tgt := 32) d130_25 (by decide) (show N 23 0 20 < 2 ^ 31 by omega) (fun b5 => ?_) (fun b5 => ?_)
      · have b5_ : N 23 0 20 = 0 := b5
        refine Sem.seg [(.iconst 0, 0, 0)] ⟨⟨d130_32, trivial⟩, trivial⟩ (lv' := [(0, aR 23 0), (1, aI c), (2, aI w)]) (st' := [aN 0, aR 23 0]) (w' := wd N L) (P := []) rfl (trivial) (pc' := 33) rfl ?_
        refine Sem.cVp1 (t := 23) (i := 0) (as := [aN 0]) (rst := []) (c' := 0) (s' := 0) d130_33 mk91 rfl co91 lk5_97 im91 se91 rfl (vN (t := 23) (i := 0) (by decide)) (show 2 ≤ mL 91 by decide) rfl (show 0 ≤ 8 by decide) (by decide) (by decide) rfl rfl (by decide) (by decide) (m91 (N) L 0 (by decide)) ?_
        refine Sem.topNN (show (if 0 < 0 then 1 else 0) = 0 from rfl) ?_
        refine Sem.ifN (tgt := 41) d130_36 (by decide) (by decide) (fun b6 => ?_) (fun b6 => ?_)
        rotate_left
        · exact absurd (show 0 = 0 from by decide) b6
        refine Sem.pick [1, 0, 2] (lv' := [(1, aI c), (0, aR 23 0), (2, aI w)]) rfl ?_
        refine Sem.loc0 (show c = nI c.toInt.toNat from i_nI2 (by omega)) ?_
        refine Sem.pick [2, 0, 1] (lv' := [(2, aI w), (1, aN c.toInt.toNat), (0, aR 23 0)]) rfl ?_
        refine Sem.loc0 (show w = nI w.toInt.toNat from i_nI2 (by omega)) ?_
        refine Sem.seg [(.lconst 0, 0, 0), (.lstore_n 3, 0, 0), (.iconst 0, 0, 0), (.istore 5, 0, 0)] ⟨⟨d130_41, trivial⟩, ⟨d130_42, trivial⟩, ⟨d130_43, trivial⟩, ⟨d130_44, trivial⟩, trivial⟩ (lv' := [(5, aN 0), (3, aL (Int64.ofNat 0)), (2, aN w.toInt.toNat), (1, aN c.toInt.toNat), (0, aR 23 0)]) (st' := []) (w' := wd (upN N 23 0 0 0) L) (P := []) rfl (trivial) (pc' := 46) rfl ?_
        have lp : ∀ (d : Nat) (n : Nat) (s : Int64), 12 - n = d → (n ≤ 12) → (s = sm (fun i => if mN N 19 i 8 = c.toInt.toNat then q64 (mN N 19 i 9) * (if w.toInt.toNat + mN N 19 i 2 < 12 then mW L 21 i (w.toInt.toNat + mN N 19 i 2) else 0) else 0) n) → Sem sc 130 46 [(0, aR 23 0), (1, aN c.toInt.toNat), (2, aN w.toInt.toNat), (3, aL s), (5, aN n)] [] (wd (upN N 23 0 0 0) L) 0 0 (QJ fun v N' L' => L = L' ∧ N' = upN N 23 0 0 (cLoad (N 23 0 20) c w) ∧ (cLoad (N 23 0 20) c w = 0 → v = ldF (mN N) (mW L) c.toInt.toNat w.toInt.toNat)) := by
          intro d
          induction d using Nat.strongRecOn with
          | ind d ih =>
            intro n s hd hn hs
            refine Sem.seg [(.iload 5, 0, 0), (.bipush 12, 0, 0)] ⟨⟨d130_46, trivial⟩, ⟨d130_48, trivial⟩, trivial⟩ (lv' := [(0, aR 23 0), (1, aN c.toInt.toNat), (2, aN w.toInt.toNat), (3, aL s), (5, aN n)]) (st' := [aN 12, aN n]) (w' := wd (upN N 23 0 0 0) L) (P := []) rfl (trivial) (pc' := 50) rfl ?_
            refine Sem.icmpN (tgt := 117) d130_50 (by decide) (show n < 2 ^ 31 by omega) (by decide) (fun b7 => ?_) (fun b7 => ?_)
            · have b7_ : 12 ≤ n := b7
              obtain rfl : n = 12 := by omega
              refine Sem.seg [(.lload_n 3, 0, 0)] ⟨⟨d130_117, trivial⟩, trivial⟩ (lv' := [(0, aR 23 0), (1, aN c.toInt.toNat), (2, aN w.toInt.toNat), (3, aL s), (5, aN 12)]) (st' := [aL s]) (w' := wd (upN N 23 0 0 0) L) (P := []) rfl (trivial) (pc' := 118) rfl ?_
              refine Sem.lret d130_118 rfl (by decide) (by decide) hzW ⟨_, _, _, rfl, rfl, ?_⟩
              have hcode : cLoad (N 23 0 20) c w = 0 := by unfold cLoad; (repeat' split) <;> omega
              exact ⟨rfl, by rw [hcode], fun _ => hs⟩
            · have b7_ : ¬ (12 ≤ n) := b7
              have h26 : N 26 0 n ≤ 4 := (hc.1 n (by omega)).2.2.2.1
              have h32 : N 32 0 n ≤ 2 := (hc.1 n (by omega)).2.2.2.2.2.2.2.2.2.1
              refine Sem.seg [(.iload_n 2, 0, 0), (.aload_n 0, 0, 0), (.getfield 16, 5, 3), (.iload 5, 0, 0), (.iaload, 0, 0), (.iadd, 0, 0), (.istore 6, 0, 0), (.aload_n 0, 0, 0), (.getfield 34, 5, 9)] ⟨⟨d130_53, trivial⟩, ⟨d130_54, trivial⟩, ⟨d130_55, gf5_16⟩, ⟨d130_58, trivial⟩, ⟨d130_60, trivial⟩, ⟨d130_61, trivial⟩, ⟨d130_62, trivial⟩, ⟨d130_64, trivial⟩, ⟨d130_65, gf5_34⟩, trivial⟩ (lv' := [(6, aN (w.toInt.toNat + (N 26 0 n))), (0, aR 23 0), (1, aN c.toInt.toNat), (2, aN w.toInt.toNat), (3, aL s), (5, aN n)]) (st' := [aR 32 0]) (w' := wd (upN N 23 0 0 0) L) (P := [vld NN 23 0, vld NN 26 0, n < 12, vld NN 23 0]) rfl (⟨vN (t := 23) (i := 0) (by decide), vN (t := 26) (i := 0) (by decide), (show n < 12 by omega), vN (t := 23) (i := 0) (by decide)⟩) (pc' := 68) rfl ?_
              refine Sem.seg [(.iload 5, 0, 0), (.iaload, 0, 0), (.iload_n 1, 0, 0)] ⟨⟨d130_68, trivial⟩, ⟨d130_70, trivial⟩, ⟨d130_71, trivial⟩, trivial⟩ (lv' := [(6, aN (w.toInt.toNat + (N 26 0 n))), (0, aR 23 0), (1, aN c.toInt.toNat), (2, aN w.toInt.toNat), (3, aL s), (5, aN n)]) (st' := [aN c.toInt.toNat, aN (N 32 0 n)]) (w' := wd (upN N 23 0 0 0) L) (P := [vld NN 32 0, n < 12]) rfl (⟨vN (t := 32) (i := 0) (by decide), (show n < 12 by omega)⟩) (pc' := 72) rfl ?_
              refine Sem.icmpN (tgt := 109) d130_72 (by decide) (show N 32 0 n < 2 ^ 31 by omega) (show c.toInt.toNat < 2 ^ 31 by omega) (fun b8 => ?_) (fun b8 => ?_)
              · have b8_ : ¬ N 32 0 n = c.toInt.toNat := b8
                refine Sem.seg [(.lload_n 3, 0, 0), (.lstore_n 3, 0, 0), (.iinc 5 1, 0, 0)] ⟨⟨d130_109, trivial⟩, ⟨d130_110, trivial⟩, ⟨d130_111, trivial⟩, trivial⟩ (lv' := [(5, aN (n + 1)), (3, aL s), (6, aN (w.toInt.toNat + (N 26 0 n))), (0, aR 23 0), (1, aN c.toInt.toNat), (2, aN w.toInt.toNat)]) (st' := []) (w' := wd (upN N 23 0 0 0) L) (P := []) rfl (trivial) (pc' := 114) rfl ?_
                refine Sem.goto (tgt := 46) d130_114 (by decide) ?_
                refine Sem.pick [3, 4, 5, 1, 0] (lv' := [(0, aR 23 0), (1, aN c.toInt.toNat), (2, aN w.toInt.toNat), (3, aL s), (5, aN (n + 1))]) rfl ?_
                exact ih _ (by omega) (n + 1) s rfl (by omega) (by simp only [sm]; rw [← hs]; first | (rw [if_neg (show ¬ mN N 19 n 8 = c.toInt.toNat from (show ¬ N 32 0 n = c.toInt.toNat by omega))]; simp; done) | (rw [if_pos (show mN N 19 n 8 = c.toInt.toNat from (show N 32 0 n = c.toInt.toNat by omega)), if_neg (show ¬ w.toInt.toNat + mN N 19 n 2 < 12 from (show ¬ w.toInt.toNat + N 26 0 n < 12 by omega))]; simp))
              · have b8_ : ¬ (¬ N 32 0 n = c.toInt.toNat) := b8
                refine Sem.seg [(.iload 6, 0, 0), (.bipush 12, 0, 0)] ⟨⟨d130_75, trivial⟩, ⟨d130_77, trivial⟩, trivial⟩ (lv' := [(6, aN (w.toInt.toNat + (N 26 0 n))), (0, aR 23 0), (1, aN c.toInt.toNat), (2, aN w.toInt.toNat), (3, aL s), (5, aN n)]) (st' := [aN 12, aN (w.toInt.toNat + (N 26 0 n))]) (w' := wd (upN N 23 0 0 0) L) (P := []) rfl (trivial) (pc' := 79) rfl ?_
                refine Sem.icmpN (tgt := 109) d130_79 (by decide) (show w.toInt.toNat + (N 26 0 n) < 2 ^ 31 by omega) (by decide) (fun b9 => ?_) (fun b9 => ?_)
                · have b9_ : 12 ≤ w.toInt.toNat + (N 26 0 n) := b9
                  refine Sem.seg [(.lload_n 3, 0, 0), (.lstore_n 3, 0, 0), (.iinc 5 1, 0, 0)] ⟨⟨d130_109, trivial⟩, ⟨d130_110, trivial⟩, ⟨d130_111, trivial⟩, trivial⟩ (lv' := [(5, aN (n + 1)), (3, aL s), (6, aN (w.toInt.toNat + (N 26 0 n))), (0, aR 23 0), (1, aN c.toInt.toNat), (2, aN w.toInt.toNat)]) (st' := []) (w' := wd (upN N 23 0 0 0) L) (P := []) rfl (trivial) (pc' := 114) rfl ?_
                  refine Sem.goto (tgt := 46) d130_114 (by decide) ?_
                  refine Sem.pick [3, 4, 5, 1, 0] (lv' := [(0, aR 23 0), (1, aN c.toInt.toNat), (2, aN w.toInt.toNat), (3, aL s), (5, aN (n + 1))]) rfl ?_
                  exact ih _ (by omega) (n + 1) s rfl (by omega) (by simp only [sm]; rw [← hs]; first | (rw [if_neg (show ¬ mN N 19 n 8 = c.toInt.toNat from (show ¬ N 32 0 n = c.toInt.toNat by omega))]; simp; done) | (rw [if_pos (show mN N 19 n 8 = c.toInt.toNat from (show N 32 0 n = c.toInt.toNat by omega)), if_neg (show ¬ w.toInt.toNat + mN N 19 n 2 < 12 from (show ¬ w.toInt.toNat + N 26 0 n < 12 by omega))]; simp))
                · have b9_ : ¬ (12 ≤ w.toInt.toNat + (N 26 0 n)) := b9
                  refine Sem.seg [(.lload_n 3, 0, 0), (.aload_n 0, 0, 0), (.getfield 37, 5, 10), (.iload 5, 0, 0), (.iaload, 0, 0), (.i2l, 0, 0), (.aload_n 0, 0, 0), (.getfield 73, 5, 23), (.bipush 12, 0, 0)] ⟨⟨d130_82, trivial⟩, ⟨d130_83, trivial⟩, ⟨d130_84, gf5_37⟩, ⟨d130_87, trivial⟩, ⟨d130_89, trivial⟩, ⟨d130_90, trivial⟩, ⟨d130_91, trivial⟩, ⟨d130_92, gf5_73⟩, ⟨d130_95, trivial⟩, trivial⟩ (lv' := [(6, aN (w.toInt.toNat + (N 26 0 n))), (0, aR 23 0), (1, aN c.toInt.toNat), (2, aN w.toInt.toNat), (3, aL s), (5, aN n)]) (st' := [aN 12, aR 43 0, aL ((nI (N 33 0 n)).toInt64), aL s]) (w' := wd (upN N 23 0 0 0) L) (P := [vld NN 23 0, vld NN 33 0, n < 12, vld NN 23 0]) rfl (⟨vN (t := 23) (i := 0) (by decide), vN (t := 33) (i := 0) (by decide), (show n < 12 by omega), vN (t := 23) (i := 0) (by decide)⟩) (pc' := 97) rfl ?_
                  refine Sem.seg [(.iload 5, 0, 0), (.imul, 0, 0), (.iload 6, 0, 0), (.iadd, 0, 0), (.laload, 0, 0), (.lmul, 0, 0), (.ladd, 0, 0)] ⟨⟨d130_97, trivial⟩, ⟨d130_99, trivial⟩, ⟨d130_100, trivial⟩, ⟨d130_102, trivial⟩, ⟨d130_103, trivial⟩, ⟨d130_104, trivial⟩, ⟨d130_105, trivial⟩, trivial⟩ (lv' := [(6, aN (w.toInt.toNat + (N 26 0 n))), (0, aR 23 0), (1, aN c.toInt.toNat), (2, aN w.toInt.toNat), (3, aL s), (5, aN n)]) (st' := [aL (s + (((nI (N 33 0 n)).toInt64) * (L 43 0 ((12 * n) + (w.toInt.toNat + (N 26 0 n))))))]) (w' := wd (upN N 23 0 0 0) L) (P := [vld NN 43 0, (12 * n) + (w.toInt.toNat + (N 26 0 n)) < 144]) rfl (⟨vN (t := 43) (i := 0) (by decide), (show (12 * n) + (w.toInt.toNat + (N 26 0 n)) < 144 by omega)⟩) (pc' := 106) rfl ?_
                  refine Sem.goto (tgt := 110) d130_106 (by decide) ?_
                  refine Sem.seg [(.lstore_n 3, 0, 0), (.iinc 5 1, 0, 0)] ⟨⟨d130_110, trivial⟩, ⟨d130_111, trivial⟩, trivial⟩ (lv' := [(5, aN (n + 1)), (3, aL (s + (((nI (N 33 0 n)).toInt64) * (L 43 0 ((12 * n) + (w.toInt.toNat + (N 26 0 n))))))), (6, aN (w.toInt.toNat + (N 26 0 n))), (0, aR 23 0), (1, aN c.toInt.toNat), (2, aN w.toInt.toNat)]) (st' := []) (w' := wd (upN N 23 0 0 0) L) (P := []) rfl (trivial) (pc' := 114) rfl ?_
                  refine Sem.goto (tgt := 46) d130_114 (by decide) ?_
                  refine Sem.pick [3, 4, 5, 1, 0] (lv' := [(0, aR 23 0), (1, aN c.toInt.toNat), (2, aN w.toInt.toNat), (3, aL (s + (((nI (N 33 0 n)).toInt64) * (L 43 0 ((12 * n) + (w.toInt.toNat + (N 26 0 n))))))), (5, aN (n + 1))]) rfl ?_
                  exact ih _ (by omega) (n + 1) (s + (((nI (N 33 0 n)).toInt64) * (L 43 0 ((12 * n) + (w.toInt.toNat + (N 26 0 n)))))) rfl (by omega) (by simp only [sm]; rw [← hs]; rw [if_pos (show mN N 19 n 8 = c.toInt.toNat from (show N 32 0 n = c.toInt.toNat by omega)), if_pos (show w.toInt.toNat + mN N 19 n 2 < 12 from (show w.toInt.toNat + N 26 0 n < 12 by omega))]; rfl)
        refine Sem.pick [4, 3, 2, 1, 0] (lv' := [(0, aR 23 0), (1, aN c.toInt.toNat), (2, aN w.toInt.toNat), (3, aL (Int64.ofNat 0)), (5, aN 0)]) rfl ?_
        exact lp _ 0 (Int64.ofNat 0) rfl (by omega) (rfl)
      · have b5_ : ¬ (N 23 0 20 = 0) := b5
        refine Sem.seg [(.iconst 2, 0, 0)] ⟨⟨d130_28, trivial⟩, trivial⟩ (lv' := [(0, aR 23 0), (1, aI c), (2, aI w)]) (st' := [aN 2, aR 23 0]) (w' := wd N L) (P := []) rfl (trivial) (pc' := 29) rfl ?_
        refine Sem.goto (tgt := 33) d130_29 (by decide) ?_
        refine Sem.cVp1 (t := 23) (i := 0) (as := [aN 2]) (rst := []) (c' := 0) (s' := 0) d130_33 mk91 rfl co91 lk5_97 im91 se91 rfl (vN (t := 23) (i := 0) (by decide)) (show 2 ≤ mL 91 by decide) rfl (show 0 ≤ 8 by decide) (by decide) (by decide) rfl rfl (by decide) (by decide) (m91 (N) L 2 (by decide)) ?_
        refine Sem.topNN (show (if 0 < 2 then 1 else 0) = 1 from rfl) ?_
        refine Sem.ifN (tgt := 41) d130_36 (by decide) (by decide) (fun b10 => ?_) (fun b10 => ?_)
        · exact absurd (show 1 = 0 from b10) (by decide)
        refine Sem.seg [(.lconst 0, 0, 0)] ⟨⟨d130_39, trivial⟩, trivial⟩ (lv' := [(0, aR 23 0), (1, aI c), (2, aI w)]) (st' := [aL (Int64.ofNat 0)]) (w' := wd (upN N 23 0 0 2) L) (P := []) rfl (trivial) (pc' := 40) rfl ?_
        refine Sem.lret d130_40 rfl (by decide) (by decide) hzW ⟨_, _, _, rfl, rfl, ?_⟩
        have hcode : cLoad (N 23 0 20) c w = 2 := by unfold cLoad; (repeat' split) <;> omega
        exact ⟨rfl, by rw [hcode], fun q => absurd (hcode.symm.trans q) (by decide)⟩
    case neg =>
      refine Sem.cSp1 (as := [aI w]) (rst := [aR 23 0]) (c' := 0) (s' := 0) d130_11 mk90 rfl co90 lk5_93 ss90 (show 1 ≤ mL 90 by decide) rfl (show 1 ≤ 8 by decide) (by decide) (by decide) rfl rfl (by decide) (by decide) (m90 (N) L w) ?_
      refine Sem.topNN (if_neg h3) ?_
      refine Sem.ifN (tgt := 21) d130_14 (by decide) (by decide) (fun b11 => ?_) (fun b11 => ?_)
      · exact absurd (show ¬ 0 = 0 from b11) (by decide)
      refine Sem.seg [(.iconst 1, 0, 0)] ⟨⟨d130_17, trivial⟩, trivial⟩ (lv' := [(0, aR 23 0), (1, aI c), (2, aI w)]) (st' := [aN 1, aR 23 0]) (w' := wd N L) (P := []) rfl (trivial) (pc' := 18) rfl ?_
      refine Sem.goto (tgt := 33) d130_18 (by decide) ?_
      refine Sem.cVp1 (t := 23) (i := 0) (as := [aN 1]) (rst := []) (c' := 0) (s' := 0) d130_33 mk91 rfl co91 lk5_97 im91 se91 rfl (vN (t := 23) (i := 0) (by decide)) (show 2 ≤ mL 91 by decide) rfl (show 0 ≤ 8 by decide) (by decide) (by decide) rfl rfl (by decide) (by decide) (m91 (N) L 1 (by decide)) ?_
      refine Sem.topNN (show (if 0 < 1 then 1 else 0) = 1 from rfl) ?_
      refine Sem.ifN (tgt := 41) d130_36 (by decide) (by decide) (fun b12 => ?_) (fun b12 => ?_)
      · exact absurd (show 1 = 0 from b12) (by decide)
      refine Sem.seg [(.lconst 0, 0, 0)] ⟨⟨d130_39, trivial⟩, trivial⟩ (lv' := [(0, aR 23 0), (1, aI c), (2, aI w)]) (st' := [aL (Int64.ofNat 0)]) (w' := wd (upN N 23 0 0 1) L) (P := []) rfl (trivial) (pc' := 40) rfl ?_
      refine Sem.lret d130_40 rfl (by decide) (by decide) hzW ⟨_, _, _, rfl, rfl, ?_⟩
      have hcode : cLoad (N 23 0 20) c w = 1 := by unfold cLoad; (repeat' split) <;> omega
      exact ⟨rfl, by rw [hcode], fun q => absurd (hcode.symm.trans q) (by decide)⟩
  case neg =>
    refine Sem.cSp1 (as := [aI c, aN 0, aN 2]) (rst := [aR 23 0]) (c' := 0) (s' := 0) d130_4 mk89 rfl co89 lk5_89 ss89 (show 3 ≤ mL 89 by decide) rfl (show 1 ≤ 8 by decide) (by decide) (by decide) rfl rfl (by decide) (by decide) (m89 (N) L c 0 2 (by decide) (by decide)) ?_
    refine Sem.topNN (if_neg h1) ?_
    refine Sem.ifN (tgt := 17) d130_7 (by decide) (by decide) (fun b13 => ?_) (fun b13 => ?_)
    rotate_left
    · exact absurd (show 0 = 0 from by decide) b13
    refine Sem.seg [(.iconst 1, 0, 0)] ⟨⟨d130_17, trivial⟩, trivial⟩ (lv' := [(0, aR 23 0), (1, aI c), (2, aI w)]) (st' := [aN 1, aR 23 0]) (w' := wd N L) (P := []) rfl (trivial) (pc' := 18) rfl ?_
    refine Sem.goto (tgt := 33) d130_18 (by decide) ?_
    refine Sem.cVp1 (t := 23) (i := 0) (as := [aN 1]) (rst := []) (c' := 0) (s' := 0) d130_33 mk91 rfl co91 lk5_97 im91 se91 rfl (vN (t := 23) (i := 0) (by decide)) (show 2 ≤ mL 91 by decide) rfl (show 0 ≤ 8 by decide) (by decide) (by decide) rfl rfl (by decide) (by decide) (m91 (N) L 1 (by decide)) ?_
    refine Sem.topNN (show (if 0 < 1 then 1 else 0) = 1 from rfl) ?_
    refine Sem.ifN (tgt := 41) d130_36 (by decide) (by decide) (fun b14 => ?_) (fun b14 => ?_)
    · exact absurd (show 1 = 0 from b14) (by decide)
    refine Sem.seg [(.lconst 0, 0, 0)] ⟨⟨d130_39, trivial⟩, trivial⟩ (lv' := [(0, aR 23 0), (1, aI c), (2, aI w)]) (st' := [aL (Int64.ofNat 0)]) (w' := wd (upN N 23 0 0 1) L) (P := []) rfl (trivial) (pc' := 40) rfl ?_
    refine Sem.lret d130_40 rfl (by decide) (by decide) hzW ⟨_, _, _, rfl, rfl, ?_⟩
    have hcode : cLoad (N 23 0 20) c w = 1 := by unfold cLoad; (repeat' split) <;> omega
    exact ⟨rfl, by rw [hcode], fun q => absurd (hcode.symm.trans q) (by decide)⟩

