-- ===== the class: answers =====
theorem LT_eq {P : Nat → Prop} {w : Nat} {y : Int32} (h : LT P w y) (e : y.toInt = (w : Int)) : ∀ u, w ≤ u → u < 12 → P u := by
  rcases h with ⟨h1, _⟩ | ⟨v, h1, h2, h3, h4, _⟩
  · rw [h1] at e
    have : (Int32.ofInt (-1)).toInt = -1 := by decide
    omega
  · rw [h3, nI_toInt (by omega)] at e
    have e2 : v = w := by omega
    subst e2; exact h4
theorem LT_ne {P : Nat → Prop} {w : Nat} {y : Int32} (h : LT P w y) (hw : w < 12) (e : ¬ y.toInt = (w : Int)) : ¬ ∀ u, w ≤ u → u < 12 → P u := by
  intro q
  rcases h with ⟨h1, h2⟩ | ⟨v, h1, h2, h3, h4, h5⟩
  · exact h2 (q 11 (by omega) (by omega))
  · rcases h5 with r | r
    · subst r; rw [h3, nI_toInt (by omega)] at e; exact e rfl
    · by_cases e2 : v = w
      · subst e2; rw [h3, nI_toInt (by omega)] at e; exact e rfl
      · exact r (q (v - 1) (by omega) (by omega))

theorem m84 {sc : XT} (N : TN) (L : TL) : Sem sc 84 0 [(0, aR 0 0)] [] (wd N L) 0 0 (QP (some (aN (smN (shF L) 12))) N L) := by
  refine Sem.seg [(.iconst 0, 0, 0), (.istore_n 1, 0, 0), (.iconst 0, 0, 0), (.istore_n 2, 0, 0)] ⟨⟨d84_0, trivial⟩, ⟨d84_1, trivial⟩, ⟨d84_2, trivial⟩, ⟨d84_3, trivial⟩, trivial⟩ (lv' := [(2, aN 0), (1, aN 0), (0, aR 0 0)]) (st' := []) (w' := wd N L) (P := []) rfl (trivial) (pc' := 4) rfl ?_
  have lp : ∀ (d : Nat) (n c : Nat), 12 - n = d → (n ≤ 12) → (c = smN (shF L) n) → Sem sc 84 4 [(0, aR 0 0), (1, aN c), (2, aN n)] [] (wd N L) 0 0 (QP (some (aN (smN (shF L) 12))) N L) := by
    intro d
    induction d using Nat.strongRecOn with
    | ind d ih =>
      intro n c hd hn hc
      refine Sem.seg [(.iload_n 2, 0, 0), (.bipush 12, 0, 0)] ⟨⟨d84_4, trivial⟩, ⟨d84_5, trivial⟩, trivial⟩ (lv' := [(0, aR 0 0), (1, aN c), (2, aN n)]) (st' := [aN 12, aN n]) (w' := wd N L) (P := []) rfl (trivial) (pc' := 7) rfl ?_
      refine Sem.icmpN (tgt := 31) d84_7 (by decide) (show n < 2 ^ 31 by first | omega | exact Nat.lt_of_le_of_lt (bo_le _) (by decide)) (by decide) (fun b1 => ?_) (fun b1 => ?_)
      · have b1_ : 12 ≤ n := b1
        obtain rfl : n = 12 := by omega
        refine Sem.seg [(.iload_n 1, 0, 0)] ⟨⟨d84_31, trivial⟩, trivial⟩ (lv' := [(0, aR 0 0), (1, aN c), (2, aN 12)]) (st' := [aN c]) (w' := wd N L) (P := []) rfl (trivial) (pc' := 32) rfl ?_
        exact Sem.iret rfl d84_32 (Or.inl rfl) (by decide) (by decide) hzW ⟨congrArg (fun z => Sum.inl (some (aN z))) (show c = smN (shF L) 12 by exact hc), rfl⟩
      · have b1_ : ¬ (12 ≤ n) := b1
        refine Sem.seg [(.aload_n 0, 0, 0), (.getfield 11, 4, 0), (.iload_n 2, 0, 0), (.aaload, 0, 0)] ⟨⟨d84_10, trivial⟩, ⟨d84_11, gf4_11⟩, ⟨d84_14, trivial⟩, ⟨d84_15, trivial⟩, trivial⟩ (lv' := [(0, aR 0 0), (1, aN c), (2, aN n)]) (st' := [aR 19 n]) (w' := wd N L) (P := [vld NN 0 0, vld NN 1 0, n < 12]) rfl (⟨vN (t := 0) (i := 0) (by decide), vN (t := 1) (i := 0) (by decide), (show n < 12 by first | omega | exact Nat.lt_of_le_of_lt (bo_le _) (by decide))⟩) (pc' := 16) rfl ?_
        refine Sem.cVp1 (t := 19) (i := n) (as := []) (rst := []) (c' := 0) (s' := 0) d84_16 mk85 rfl co85 lk4_288 im85 se85 rfl (vN (t := 19) (i := n) (show n < 12 by first | omega | exact Nat.lt_of_le_of_lt (bo_le _) (by decide))) (show 1 ≤ mL 85 by decide) rfl (show 0 ≤ 8 by decide) (by decide) (by decide) rfl rfl (by decide) (by decide) (m85 N L n (by omega)) ?_
        refine Sem.ifN (tgt := 25) d84_19 (by decide) (show bo (¬ ∀ w, w < 12 → ¬ L 22 n w < 0) < 2 ^ 31 by first | omega | exact Nat.lt_of_le_of_lt (bo_le _) (by decide)) (fun b2 => ?_) (fun b2 => ?_)
        · have b2_ : bo (¬ ∀ w, w < 12 → ¬ L 22 n w < 0) = 0 := b2
          refine Sem.seg [(.iinc 2 1, 0, 0)] ⟨⟨d84_25, trivial⟩, trivial⟩ (lv' := [(2, aN (n + 1)), (0, aR 0 0), (1, aN c)]) (st' := []) (w' := wd N L) (P := []) rfl (trivial) (pc' := 28) rfl ?_
          refine Sem.goto (tgt := 4) d84_28 (by decide) ?_
          refine Sem.pick [1, 2, 0] (lv' := [(0, aR 0 0), (1, aN c), (2, aN (n + 1))]) rfl ?_
          exact ih _ (by omega) (n + 1) c rfl (by omega) (by simp only [smN]; rw [← hc]; show _ = c + bo (¬ ∀ w, w < 12 → ¬ L 22 n w < 0); have := bo_le (¬ ∀ w, w < 12 → ¬ L 22 n w < 0); omega)
        · have b2_ : ¬ (bo (¬ ∀ w, w < 12 → ¬ L 22 n w < 0) = 0) := b2
          refine Sem.seg [(.iinc 1 1, 0, 0), (.iinc 2 1, 0, 0)] ⟨⟨d84_22, trivial⟩, ⟨d84_25, trivial⟩, trivial⟩ (lv' := [(2, aN (n + 1)), (1, aN (c + 1)), (0, aR 0 0)]) (st' := []) (w' := wd N L) (P := []) rfl (trivial) (pc' := 28) rfl ?_
          refine Sem.goto (tgt := 4) d84_28 (by decide) ?_
          refine Sem.pick [2, 1, 0] (lv' := [(0, aR 0 0), (1, aN (c + 1)), (2, aN (n + 1))]) rfl ?_
          exact ih _ (by omega) (n + 1) (c + 1) rfl (by omega) (by simp only [smN]; rw [← hc]; show _ = c + bo (¬ ∀ w, w < 12 → ¬ L 22 n w < 0); have := bo_le (¬ ∀ w, w < 12 → ¬ L 22 n w < 0); omega)
  refine Sem.pick [2, 1, 0] (lv' := [(0, aR 0 0), (1, aN 0), (2, aN 0)]) rfl ?_
  exact lp _ 0 0 rfl (by omega) (rfl)

theorem m83 {sc : XT} (N : TN) (L : TL) (x : Int32) (ht : ∀ i, i < 12 → N 19 i 10 ≤ 1) : Sem sc 83 0 [(0, aR 0 0), (1, aI x)] [] (wd N L) 0 0 (QC (fun v N' L' => cCount (bo (TD N)) x = 0 ∧ v = some (aI (vCount N L x)) ∧ N' = N ∧ L' = L) (fun e N' L' => cCount (bo (TD N)) x = 1 ∧ e = 2 ∧ N' = N ∧ L' = L)) := by
  refine Sem.seg [(.iload_n 1, 0, 0)] ⟨⟨d83_0, trivial⟩, trivial⟩ (lv' := [(0, aR 0 0), (1, aI x)]) (st' := [aI x]) (w' := wd N L) (P := []) rfl (trivial) (pc' := 1) rfl ?_
  by_cases e0 : x.toInt = 0
  case pos =>
    refine Sem.tabIn rfl d83_1 (by omega) (by omega) (off := 39) (by rw [e0]; rfl) (tgt := 40) (by decide) ?_
    refine Sem.seg [(.aload_n 0, 0, 0), (.getfield 18, 4, 1), (.getfield 184, 0, 5)] ⟨⟨d83_40, trivial⟩, ⟨d83_41, gf4_18⟩, ⟨d83_44, gf4_184⟩, trivial⟩ (lv' := [(0, aR 0 0), (1, aI x)]) (st' := [aN (N 2 0 5)]) (w' := wd N L) (P := [vld NN 0 0, vld NN 2 0]) rfl (⟨vN (t := 0) (i := 0) (by decide), vN (t := 2) (i := 0) (by decide)⟩) (pc' := 47) rfl ?_
    refine Sem.topNI rfl ?_
    refine Sem.iret rfl d83_47 (Or.inl rfl) (by decide) (by decide) hzW ⟨_, _, rfl, ?_⟩
    refine ⟨?_, congrArg (fun z => some (aI z)) ?_, rfl, rfl⟩
    · unfold cCount; have := bo_le (TD N); (repeat' split) <;> omega
    · unfold vCount; simp only [*]; first | done | rfl | (have := bo_le (TD N); rw [show bo (TD N) = 1 by omega]; rfl)
  case neg =>
    by_cases e1 : x.toInt = 1
    case pos =>
      refine Sem.tabIn rfl d83_1 (by omega) (by omega) (off := 47) (by rw [e1]; rfl) (tgt := 48) (by decide) ?_
      refine Sem.seg [(.aload_n 0, 0, 0), (.getfield 25, 4, 2), (.getfield 187, 1, 3)] ⟨⟨d83_48, trivial⟩, ⟨d83_49, gf4_25⟩, ⟨d83_52, gf4_187⟩, trivial⟩ (lv' := [(0, aR 0 0), (1, aI x)]) (st' := [aN (N 8 0 3)]) (w' := wd N L) (P := [vld NN 0 0, vld NN 8 0]) rfl (⟨vN (t := 0) (i := 0) (by decide), vN (t := 8) (i := 0) (by decide)⟩) (pc' := 55) rfl ?_
      refine Sem.topNI rfl ?_
      refine Sem.iret rfl d83_55 (Or.inl rfl) (by decide) (by decide) hzW ⟨_, _, rfl, ?_⟩
      refine ⟨?_, congrArg (fun z => some (aI z)) ?_, rfl, rfl⟩
      · unfold cCount; have := bo_le (TD N); (repeat' split) <;> omega
      · unfold vCount; simp only [*]; first | done | rfl | (have := bo_le (TD N); rw [show bo (TD N) = 1 by omega]; rfl)
    case neg =>
      by_cases e2 : x.toInt = 2
      case pos =>
        refine Sem.tabIn rfl d83_1 (by omega) (by omega) (off := 55) (by rw [e2]; rfl) (tgt := 56) (by decide) ?_
        refine Sem.seg [(.aload_n 0, 0, 0), (.getfield 29, 4, 3), (.getfield 187, 1, 3)] ⟨⟨d83_56, trivial⟩, ⟨d83_57, gf4_29⟩, ⟨d83_60, gf4_187⟩, trivial⟩ (lv' := [(0, aR 0 0), (1, aI x)]) (st' := [aN (N 8 1 3)]) (w' := wd N L) (P := [vld NN 0 0, vld NN 8 1]) rfl (⟨vN (t := 0) (i := 0) (by decide), vN (t := 8) (i := 1) (by decide)⟩) (pc' := 63) rfl ?_
        refine Sem.topNI rfl ?_
        refine Sem.iret rfl d83_63 (Or.inl rfl) (by decide) (by decide) hzW ⟨_, _, rfl, ?_⟩
        refine ⟨?_, congrArg (fun z => some (aI z)) ?_, rfl, rfl⟩
        · unfold cCount; have := bo_le (TD N); (repeat' split) <;> omega
        · unfold vCount; simp only [*]; first | done | rfl | (have := bo_le (TD N); rw [show bo (TD N) = 1 by omega]; rfl)
      case neg =>
        by_cases e3 : x.toInt = 3
        case pos =>
          refine Sem.tabIn rfl d83_1 (by omega) (by omega) (off := 63) (by rw [e3]; rfl) (tgt := 64) (by decide) ?_
          refine Sem.seg [(.aload_n 0, 0, 0), (.getfield 32, 4, 4), (.getfield 187, 1, 3)] ⟨⟨d83_64, trivial⟩, ⟨d83_65, gf4_32⟩, ⟨d83_68, gf4_187⟩, trivial⟩ (lv' := [(0, aR 0 0), (1, aI x)]) (st' := [aN (N 8 2 3)]) (w' := wd N L) (P := [vld NN 0 0, vld NN 8 2]) rfl (⟨vN (t := 0) (i := 0) (by decide), vN (t := 8) (i := 2) (by decide)⟩) (pc' := 71) rfl ?_
          refine Sem.topNI rfl ?_
          refine Sem.iret rfl d83_71 (Or.inl rfl) (by decide) (by decide) hzW ⟨_, _, rfl, ?_⟩
          refine ⟨?_, congrArg (fun z => some (aI z)) ?_, rfl, rfl⟩
          · unfold cCount; have := bo_le (TD N); (repeat' split) <;> omega
          · unfold vCount; simp only [*]; first | done | rfl | (have := bo_le (TD N); rw [show bo (TD N) = 1 by omega]; rfl)
        case neg =>
          by_cases e4 : x.toInt = 4
          case pos =>
            refine Sem.tabIn rfl d83_1 (by omega) (by omega) (off := 71) (by rw [e4]; rfl) (tgt := 72) (by decide) ?_
            refine Sem.seg [(.aload_n 0, 0, 0)] ⟨⟨d83_72, trivial⟩, trivial⟩ (lv' := [(0, aR 0 0), (1, aI x)]) (st' := [aR 0 0]) (w' := wd N L) (P := []) rfl (trivial) (pc' := 73) rfl ?_
            by_cases h1 : bo (TD N) = 0
            case neg =>
              refine Sem.cVx (t := 0) (i := 0) (as := []) (rst := []) (c' := 1) (s' := 6) d83_73 mk59 rfl co59 lk4_146 im59 se59 rfl (vN (t := 0) (i := 0) (by decide)) (show 1 ≤ mL 59 by decide) rfl (show 0 ≤ 8 by decide) (by decide) (by decide) rfl rfl (by decide) (by decide) (m59x N L ht (by have := bo_le (TD N); omega)) ?_
              intro N_ L_ hq_
              rw [hq_.1, hq_.2]
              exact SemX.up rfl (by decide) (by decide) ⟨_, _, rfl, 2, by decide, rfl, by refine ⟨?_, by decide, rfl, rfl⟩; show cCount (bo (TD N)) x = _; unfold cCount; have := bo_le (TD N); (repeat' split) <;> omega⟩
            case pos =>
              refine Sem.cVp0 (t := 0) (i := 0) (as := []) (rst := []) (c' := 1) (s' := 6) d83_73 mk59 rfl co59 lk4_146 im59 se59 rfl (vN (t := 0) (i := 0) (by decide)) (show 1 ≤ mL 59 by decide) rfl (show 0 ≤ 8 by decide) (by decide) (by decide) rfl rfl (by decide) (by decide) (m59o N L ht h1) ?_
              refine Sem.seg [(.aload_n 0, 0, 0)] ⟨⟨d83_76, trivial⟩, trivial⟩ (lv' := [(0, aR 0 0), (1, aI x)]) (st' := [aR 0 0]) (w' := wd N L) (P := []) rfl (trivial) (pc' := 77) rfl ?_
              refine Sem.cVp1 (t := 0) (i := 0) (as := []) (rst := []) (c' := 1) (s' := 6) d83_77 mk84 rfl co84 lk4_188 im84 se84 rfl (vN (t := 0) (i := 0) (by decide)) (show 1 ≤ mL 84 by decide) rfl (show 0 ≤ 8 by decide) (by decide) (by decide) rfl rfl (by decide) (by decide) (m84 N L) ?_
              refine Sem.topNI rfl ?_
              refine Sem.iret rfl d83_80 (Or.inl rfl) (by decide) (by decide) hzW ⟨_, _, rfl, ?_⟩
              refine ⟨?_, congrArg (fun z => some (aI z)) ?_, rfl, rfl⟩
              · unfold cCount; have := bo_le (TD N); (repeat' split) <;> omega
              · unfold vCount; simp only [*]; first | done | rfl | (have := bo_le (TD N); rw [show bo (TD N) = 1 by omega]; rfl)
          case neg =>
            by_cases e5 : x.toInt = 5
            case pos =>
              refine Sem.tabIn rfl d83_1 (by omega) (by omega) (off := 80) (by rw [e5]; rfl) (tgt := 81) (by decide) ?_
              refine Sem.seg [(.aload_n 0, 0, 0)] ⟨⟨d83_81, trivial⟩, trivial⟩ (lv' := [(0, aR 0 0), (1, aI x)]) (st' := [aR 0 0]) (w' := wd N L) (P := []) rfl (trivial) (pc' := 82) rfl ?_
              refine Sem.cVp1 (t := 0) (i := 0) (as := []) (rst := []) (c' := 0) (s' := 0) d83_82 mk60 rfl co60 lk4_192 im60 se60 rfl (vN (t := 0) (i := 0) (by decide)) (show 1 ≤ mL 60 by decide) rfl (show 0 ≤ 8 by decide) (by decide) (by decide) rfl rfl (by decide) (by decide) (m60 N L ht) ?_
              refine Sem.ifN (tgt := 92) d83_85 (by decide) (show bo (TD N) < 2 ^ 31 by first | omega | exact Nat.lt_of_le_of_lt (bo_le _) (by decide)) (fun b2 => ?_) (fun b2 => ?_)
              · have b2_ : bo (TD N) = 0 := b2
                refine Sem.seg [(.iconst 0, 0, 0)] ⟨⟨d83_92, trivial⟩, trivial⟩ (lv' := [(0, aR 0 0), (1, aI x)]) (st' := [aN 0]) (w' := wd N L) (P := []) rfl (trivial) (pc' := 93) rfl ?_
                refine Sem.topNI rfl ?_
                refine Sem.iret rfl d83_93 (Or.inl rfl) (by decide) (by decide) hzW ⟨_, _, rfl, ?_⟩
                refine ⟨?_, congrArg (fun z => some (aI z)) ?_, rfl, rfl⟩
                · unfold cCount; have := bo_le (TD N); (repeat' split) <;> omega
                · unfold vCount; simp only [*]; first | done | rfl | (have := bo_le (TD N); rw [show bo (TD N) = 1 by omega]; rfl)
              · have b2_ : ¬ (bo (TD N) = 0) := b2
                refine Sem.seg [(.iconst 1, 0, 0)] ⟨⟨d83_88, trivial⟩, trivial⟩ (lv' := [(0, aR 0 0), (1, aI x)]) (st' := [aN 1]) (w' := wd N L) (P := []) rfl (trivial) (pc' := 89) rfl ?_
                refine Sem.goto (tgt := 93) d83_89 (by decide) ?_
                refine Sem.topNI rfl ?_
                refine Sem.iret rfl d83_93 (Or.inl rfl) (by decide) (by decide) hzW ⟨_, _, rfl, ?_⟩
                refine ⟨?_, congrArg (fun z => some (aI z)) ?_, rfl, rfl⟩
                · unfold cCount; have := bo_le (TD N); (repeat' split) <;> omega
                · unfold vCount; simp only [*]; first | done | rfl | (have := bo_le (TD N); rw [show bo (TD N) = 1 by omega]; rfl)
            case neg =>
              refine Sem.tabOut rfl d83_1 (by omega) (tgt := 94) (by decide) ?_
              refine Sem.seg [(.iconst (-1), 0, 0)] ⟨⟨d83_94, trivial⟩, trivial⟩ (lv' := [(0, aR 0 0), (1, aI x)]) (st' := [aI (Int32.ofInt (-1))]) (w' := wd N L) (P := []) rfl (trivial) (pc' := 95) rfl ?_
              refine Sem.iret rfl d83_95 (Or.inl rfl) (by decide) (by decide) hzW ⟨_, _, rfl, ?_⟩
              refine ⟨?_, congrArg (fun z => some (aI z)) ?_, rfl, rfl⟩
              · unfold cCount; have := bo_le (TD N); (repeat' split) <;> omega
              · unfold vCount; simp only [*]; first | done | rfl | (have := bo_le (TD N); rw [show bo (TD N) = 1 by omega]; rfl)

theorem m81 {sc : XT} (N : TN) (L : TL) (c w : Int32) (hc : CD N) : Sem sc 81 0 [(0, aR 0 0), (1, aI c), (2, aI w)] [] (wd N L) 0 0 (QC (fun v N' L' => cLoad (bo (TD N)) c w = 0 ∧ v = some (aL (ldF N L c.toInt.toNat w.toInt.toNat)) ∧ N' = N ∧ L' = L) (fun e N' L' => cLoad (bo (TD N)) c w = (if e = 0 then 1 else 2) ∧ (e = 0 ∨ e = 2) ∧ N' = N ∧ L' = L)) := by
  have ht : ∀ i, i < 12 → N 19 i 10 ≤ 1 := fun i hi => (hc.1 i hi).2.2.2.2.2.2.2.2.2.2.2
  refine Sem.seg [(.iload_n 1, 0, 0)] ⟨⟨d81_0, trivial⟩, trivial⟩ (lv' := [(0, aR 0 0), (1, aI c), (2, aI w)]) (st' := [aI c]) (w' := wd N L) (P := []) rfl (trivial) (pc' := 1) rfl ?_
  by_cases h1 : 0 ≤ c.toInt ∧ c.toInt < 3
  case neg =>
    refine Sem.cSx (as := [aI c]) (rst := []) (c' := 1) (s' := 6) d81_1 mk31 rfl co31 lk4_85 ss31 (show 1 ≤ mL 31 by decide) rfl (show 0 ≤ 8 by decide) (by decide) (by decide) rfl rfl (by decide) (by decide) (m31x N L c (by omega)) ?_
    intro N_ L_ hq_
    rw [hq_.1, hq_.2]
    exact SemX.up rfl (by decide) (by decide) ⟨_, _, rfl, 0, by decide, rfl, by refine ⟨?_, by decide, rfl, rfl⟩; show cLoad (bo (TD N)) c w = _; unfold cLoad; have := bo_le (TD N); (repeat' split) <;> omega⟩
  case pos =>
    refine Sem.cSp0 (as := [aI c]) (rst := []) (c' := 1) (s' := 6) d81_1 mk31 rfl co31 lk4_85 ss31 (show 1 ≤ mL 31 by decide) rfl (show 0 ≤ 8 by decide) (by decide) (by decide) rfl rfl (by decide) (by decide) (m31o N L c h1.1 h1.2) ?_
    refine Sem.seg [(.iload_n 2, 0, 0)] ⟨⟨d81_4, trivial⟩, trivial⟩ (lv' := [(0, aR 0 0), (1, aI c), (2, aI w)]) (st' := [aI w]) (w' := wd N L) (P := []) rfl (trivial) (pc' := 5) rfl ?_
    by_cases h2 : 0 ≤ w.toInt ∧ w.toInt < 12
    case neg =>
      refine Sem.cSx (as := [aI w]) (rst := []) (c' := 2) (s' := 12) d81_5 mk45 rfl co45 lk4_143 ss45 (show 1 ≤ mL 45 by decide) rfl (show 0 ≤ 8 by decide) (by decide) (by decide) rfl rfl (by decide) (by decide) (m45x N L w (by omega)) ?_
      intro N_ L_ hq_
      rw [hq_.1, hq_.2]
      exact SemX.up rfl (by decide) (by decide) ⟨_, _, rfl, 0, by decide, rfl, by refine ⟨?_, by decide, rfl, rfl⟩; show cLoad (bo (TD N)) c w = _; unfold cLoad; have := bo_le (TD N); (repeat' split) <;> omega⟩
    case pos =>
      refine Sem.cSp0 (as := [aI w]) (rst := []) (c' := 2) (s' := 12) d81_5 mk45 rfl co45 lk4_143 ss45 (show 1 ≤ mL 45 by decide) rfl (show 0 ≤ 8 by decide) (by decide) (by decide) rfl rfl (by decide) (by decide) (m45o N L w h2.1 h2.2) ?_
      refine Sem.seg [(.aload_n 0, 0, 0)] ⟨⟨d81_8, trivial⟩, trivial⟩ (lv' := [(0, aR 0 0), (1, aI c), (2, aI w)]) (st' := [aR 0 0]) (w' := wd N L) (P := []) rfl (trivial) (pc' := 9) rfl ?_
      by_cases h3 : bo (TD N) = 0
      case neg =>
        refine Sem.cVx (t := 0) (i := 0) (as := []) (rst := []) (c' := 3) (s' := 18) d81_9 mk59 rfl co59 lk4_146 im59 se59 rfl (vN (t := 0) (i := 0) (by decide)) (show 1 ≤ mL 59 by decide) rfl (show 0 ≤ 8 by decide) (by decide) (by decide) rfl rfl (by decide) (by decide) (m59x N L ht (by have := bo_le (TD N); omega)) ?_
        intro N_ L_ hq_
        rw [hq_.1, hq_.2]
        exact SemX.up rfl (by decide) (by decide) ⟨_, _, rfl, 2, by decide, rfl, by refine ⟨?_, by decide, rfl, rfl⟩; show cLoad (bo (TD N)) c w = _; unfold cLoad; have := bo_le (TD N); (repeat' split) <;> omega⟩
      case pos =>
        refine Sem.cVp0 (t := 0) (i := 0) (as := []) (rst := []) (c' := 3) (s' := 18) d81_9 mk59 rfl co59 lk4_146 im59 se59 rfl (vN (t := 0) (i := 0) (by decide)) (show 1 ≤ mL 59 by decide) rfl (show 0 ≤ 8 by decide) (by decide) (by decide) rfl rfl (by decide) (by decide) (m59o N L ht h3) ?_
        refine Sem.pick [1, 0, 2] (lv' := [(1, aI c), (0, aR 0 0), (2, aI w)]) rfl ?_
        refine Sem.loc0 (show c = nI c.toInt.toNat from i_nI2 (by omega)) ?_
        refine Sem.pick [2, 0, 1] (lv' := [(2, aI w), (1, aN c.toInt.toNat), (0, aR 0 0)]) rfl ?_
        refine Sem.loc0 (show w = nI w.toInt.toNat from i_nI2 (by omega)) ?_
        refine Sem.seg [(.lconst 0, 0, 0), (.lstore_n 3, 0, 0), (.iconst 0, 0, 0), (.istore 5, 0, 0)] ⟨⟨d81_12, trivial⟩, ⟨d81_13, trivial⟩, ⟨d81_14, trivial⟩, ⟨d81_15, trivial⟩, trivial⟩ (lv' := [(5, aN 0), (3, aL (Int64.ofNat 0)), (2, aN w.toInt.toNat), (1, aN c.toInt.toNat), (0, aR 0 0)]) (st' := []) (w' := wd N L) (P := []) rfl (trivial) (pc' := 17) rfl ?_
        have lp : ∀ (d : Nat) (n : Nat) (s : Int64), 12 - n = d → (n ≤ 12) → (s = sm (fun i => if N 19 i 8 = c.toInt.toNat then q64 (N 19 i 9) * (if w.toInt.toNat + N 19 i 2 < 12 then L 21 i (w.toInt.toNat + N 19 i 2) else 0) else 0) n) → Sem sc 81 17 [(0, aR 0 0), (1, aN c.toInt.toNat), (2, aN w.toInt.toNat), (3, aL s), (5, aN n)] [] (wd N L) 3 18 (QC (fun v N' L' => cLoad (bo (TD N)) c w = 0 ∧ v = some (aL (ldF N L c.toInt.toNat w.toInt.toNat)) ∧ N' = N ∧ L' = L) (fun e N' L' => cLoad (bo (TD N)) c w = (if e = 0 then 1 else 2) ∧ (e = 0 ∨ e = 2) ∧ N' = N ∧ L' = L)) := by
          intro d
          induction d using Nat.strongRecOn with
          | ind d ih =>
            intro n s hd hn hs
            refine Sem.seg [(.iload 5, 0, 0), (.bipush 12, 0, 0)] ⟨⟨d81_17, trivial⟩, ⟨d81_19, trivial⟩, trivial⟩ (lv' := [(0, aR 0 0), (1, aN c.toInt.toNat), (2, aN w.toInt.toNat), (3, aL s), (5, aN n)]) (st' := [aN 12, aN n]) (w' := wd N L) (P := []) rfl (trivial) (pc' := 21) rfl ?_
            refine Sem.icmpN (tgt := 70) d81_21 (by decide) (show n < 2 ^ 31 by omega) (by decide) (fun b4 => ?_) (fun b4 => ?_)
            · have b4_ : 12 ≤ n := b4
              obtain rfl : n = 12 := by omega
              refine Sem.seg [(.lload_n 3, 0, 0)] ⟨⟨d81_70, trivial⟩, trivial⟩ (lv' := [(0, aR 0 0), (1, aN c.toInt.toNat), (2, aN w.toInt.toNat), (3, aL s), (5, aN 12)]) (st' := [aL s]) (w' := wd N L) (P := []) rfl (trivial) (pc' := 71) rfl ?_
              exact Sem.lret d81_71 rfl (by decide) (by decide) hzW ⟨_, _, rfl, by refine ⟨?_, by rw [hs]; rfl, rfl, rfl⟩; unfold cLoad; have := bo_le (TD N); (repeat' split) <;> omega⟩
            · have b4_ : ¬ (12 ≤ n) := b4
              have hn8 := (hc.1 n (by omega)).2.2.2.2.2.2.2.2.2.1
              refine Sem.seg [(.aload_n 0, 0, 0), (.getfield 11, 4, 0), (.iload 5, 0, 0), (.aaload, 0, 0), (.getfield 89, 2, 8), (.iload_n 1, 0, 0)] ⟨⟨d81_24, trivial⟩, ⟨d81_25, gf4_11⟩, ⟨d81_28, trivial⟩, ⟨d81_30, trivial⟩, ⟨d81_31, gf4_89⟩, ⟨d81_34, trivial⟩, trivial⟩ (lv' := [(0, aR 0 0), (1, aN c.toInt.toNat), (2, aN w.toInt.toNat), (3, aL s), (5, aN n)]) (st' := [aN c.toInt.toNat, aN (N 19 n 8)]) (w' := wd N L) (P := [vld NN 0 0, vld NN 1 0, n < 12, vld NN 19 n]) rfl (⟨vN (t := 0) (i := 0) (by decide), vN (t := 1) (i := 0) (by decide), (show n < 12 by omega), vN (t := 19) (i := n) (show n < 12 by omega)⟩) (pc' := 35) rfl ?_
              refine Sem.icmpN (tgt := 64) d81_35 (by decide) (show N 19 n 8 < 2 ^ 31 by omega) (show c.toInt.toNat < 2 ^ 31 by omega) (fun b5 => ?_) (fun b5 => ?_)
              · have b5_ : ¬ N 19 n 8 = c.toInt.toNat := b5
                refine Sem.seg [(.iinc 5 1, 0, 0)] ⟨⟨d81_64, trivial⟩, trivial⟩ (lv' := [(5, aN (n + 1)), (0, aR 0 0), (1, aN c.toInt.toNat), (2, aN w.toInt.toNat), (3, aL s)]) (st' := []) (w' := wd N L) (P := []) rfl (trivial) (pc' := 67) rfl ?_
                refine Sem.goto (tgt := 17) d81_67 (by decide) ?_
                refine Sem.pick [1, 2, 3, 4, 0] (lv' := [(0, aR 0 0), (1, aN c.toInt.toNat), (2, aN w.toInt.toNat), (3, aL s), (5, aN (n + 1))]) rfl ?_
                exact ih _ (by omega) (n + 1) s rfl (by omega) (by simp only [sm]; rw [← hs]; rw [if_neg (show ¬ N 19 n 8 = c.toInt.toNat by omega)]; simp)
              · have b5_ : ¬ (¬ N 19 n 8 = c.toInt.toNat) := b5
                refine Sem.seg [(.lload_n 3, 0, 0), (.aload_n 0, 0, 0), (.getfield 11, 4, 0), (.iload 5, 0, 0), (.aaload, 0, 0), (.getfield 92, 2, 9), (.i2l, 0, 0), (.aload_n 0, 0, 0), (.getfield 11, 4, 0), (.iload 5, 0, 0), (.aaload, 0, 0), (.iload_n 2, 0, 0)] ⟨⟨d81_38, trivial⟩, ⟨d81_39, trivial⟩, ⟨d81_40, gf4_11⟩, ⟨d81_43, trivial⟩, ⟨d81_45, trivial⟩, ⟨d81_46, gf4_92⟩, ⟨d81_49, trivial⟩, ⟨d81_50, trivial⟩, ⟨d81_51, gf4_11⟩, ⟨d81_54, trivial⟩, ⟨d81_56, trivial⟩, ⟨d81_57, trivial⟩, trivial⟩ (lv' := [(0, aR 0 0), (1, aN c.toInt.toNat), (2, aN w.toInt.toNat), (3, aL s), (5, aN n)]) (st' := [aN w.toInt.toNat, aR 19 n, aL ((nI (N 19 n 9)).toInt64), aL s]) (w' := wd N L) (P := [vld NN 0 0, vld NN 1 0, n < 12, vld NN 19 n, vld NN 0 0, vld NN 1 0, n < 12]) rfl (⟨vN (t := 0) (i := 0) (by decide), vN (t := 1) (i := 0) (by decide), (show n < 12 by omega), vN (t := 19) (i := n) (show n < 12 by omega), vN (t := 0) (i := 0) (by decide), vN (t := 1) (i := 0) (by decide), (show n < 12 by omega)⟩) (pc' := 58) rfl ?_
                refine Sem.cVp1 (t := 19) (i := n) (as := [aN w.toInt.toNat]) (rst := [aL ((nI (N 19 n 9)).toInt64), aL s]) (c' := 3) (s' := 18) d81_58 mk12 rfl co12 lk4_180 im12 se12 rfl (vN (t := 19) (i := n) (show n < 12 by omega)) (show 2 ≤ mL 12 by decide) rfl (show 4 ≤ 8 by decide) (by decide) (by decide) rfl rfl (by decide) (by decide) (m12 N L n w.toInt.toNat (by omega) (by omega) (hc.1 n (by omega)).2.2.2.1) ?_
                refine Sem.seg [(.lmul, 0, 0), (.ladd, 0, 0), (.lstore_n 3, 0, 0), (.iinc 5 1, 0, 0)] ⟨⟨d81_61, trivial⟩, ⟨d81_62, trivial⟩, ⟨d81_63, trivial⟩, ⟨d81_64, trivial⟩, trivial⟩ (lv' := [(5, aN (n + 1)), (3, aL (s + (((nI (N 19 n 9)).toInt64) * (if w.toInt.toNat + N 19 n 2 < 12 then L 21 n (w.toInt.toNat + N 19 n 2) else 0)))), (0, aR 0 0), (1, aN c.toInt.toNat), (2, aN w.toInt.toNat)]) (st' := []) (w' := wd N L) (P := []) rfl (trivial) (pc' := 67) rfl ?_
                refine Sem.goto (tgt := 17) d81_67 (by decide) ?_
                refine Sem.pick [2, 3, 4, 1, 0] (lv' := [(0, aR 0 0), (1, aN c.toInt.toNat), (2, aN w.toInt.toNat), (3, aL (s + (((nI (N 19 n 9)).toInt64) * (if w.toInt.toNat + N 19 n 2 < 12 then L 21 n (w.toInt.toNat + N 19 n 2) else 0)))), (5, aN (n + 1))]) rfl ?_
                exact ih _ (by omega) (n + 1) (s + (((nI (N 19 n 9)).toInt64) * (if w.toInt.toNat + N 19 n 2 < 12 then L 21 n (w.toInt.toNat + N 19 n 2) else 0))) rfl (by omega) (by simp only [sm]; rw [← hs]; rw [if_pos (show N 19 n 8 = c.toInt.toNat by omega)])
        refine Sem.pick [4, 3, 2, 1, 0] (lv' := [(0, aR 0 0), (1, aN c.toInt.toNat), (2, aN w.toInt.toNat), (3, aL (Int64.ofNat 0)), (5, aN 0)]) rfl ?_
        exact lp _ 0 (Int64.ofNat 0) rfl (by omega) (rfl)

theorem m68n {sc : XT} (N : TN) (L : TL) (b i v : Nat) (hb : b < 3) (hi : i < 12) (hv : v < 12) (hs : N 8 b 3 ≤ 24) (hI : ∀ k, k < N 8 b 3 → N 9 b k < 12) (hW : ∀ k, k < N 8 b 3 → N 10 b k < 12) : Sem sc 68 0 [(0, aR 8 b), (1, aN i), (2, aN v)] [] (wd N L) 0 0 (QP (some (aL (bsm (N 9 b) (N 10 b) (N 11 b) i (v + 1) (N 8 b 3)))) N L) :=
  Sem.eqv (lv' := [(0, aR 8 b), (1, aN i), (2, aI (nI v))]) (st' := []) (fun _ _ h => h) (fun _ => rfl) (m68 N L b i (v + 1) (nI v) hb hi (by rw [nI_toInt (by omega)]; omega) hs hI hW)

theorem m75 {sc : XT} (N : TN) (L : TL) (i n w : Nat) (hi : i < 12) (hw : w < 12) (hn : n ≤ 1000) (hc : CD N) : Sem sc 75 0 [(0, aR 0 0), (1, aN i), (2, aN n), (3, aN w)] [] (wd N L) 0 0 (QI fun x N' L' => N = N' ∧ L = L' ∧ LT (okW N L i n) w x) := by
  refine Sem.seg [(.iconst (-1), 0, 0), (.istore 4, 0, 0), (.bipush 11, 0, 0), (.istore 5, 0, 0)] ⟨⟨d75_0, trivial⟩, ⟨d75_1, trivial⟩, ⟨d75_3, trivial⟩, ⟨d75_5, trivial⟩, trivial⟩ (lv' := [(5, aN 11), (4, aI (Int32.ofInt (-1))), (0, aR 0 0), (1, aN i), (2, aN n), (3, aN w)]) (st' := []) (w' := wd N L) (P := []) rfl (trivial) (pc' := 7) rfl ?_
  have lp : ∀ (d : Nat) (m : Nat) (x y : Int32), m = d → (m ≤ 12) → (w ≤ m) → (x.toInt = (m : Int) - 1) → (∀ u, m ≤ u → u < 12 → okW N L i n u) → ((m = 12 ∧ y = Int32.ofInt (-1)) ∨ (m < 12 ∧ y = nI m)) → Sem sc 75 7 [(0, aR 0 0), (1, aN i), (2, aN n), (3, aN w), (4, aI y), (5, aI x)] [] (wd N L) (12 - m) ((12 - m) * 6) (QI fun x N' L' => N = N' ∧ L = L' ∧ LT (okW N L i n) w x) := by
    intro d
    induction d using Nat.strongRecOn with
    | ind d ih =>
      intro m x y hd hm hm2 hx hP hy
      refine Sem.seg [(.iload 5, 0, 0), (.iload_n 3, 0, 0)] ⟨⟨d75_7, trivial⟩, ⟨d75_9, trivial⟩, trivial⟩ (lv' := [(0, aR 0 0), (1, aN i), (2, aN n), (3, aN w), (4, aI y), (5, aI x)]) (st' := [aN w, aI x]) (w' := wd N L) (P := []) rfl (trivial) (pc' := 10) rfl ?_
      refine Sem.icmp (tgt := 54) d75_10 (by decide) rfl rfl (fun b1 => ?_) (fun b1 => ?_)
      · have b1_ : x.toInt < ((w : Nat) : Int) := bT rfl (nI_toInt (show w < 2 ^ 31 by omega)) b1
        refine Sem.seg [(.iload 4, 0, 0)] ⟨⟨d75_54, trivial⟩, trivial⟩ (lv' := [(0, aR 0 0), (1, aN i), (2, aN n), (3, aN w), (4, aI y), (5, aI x)]) (st' := [aI y]) (w' := wd N L) (P := []) rfl (trivial) (pc' := 56) rfl ?_
        refine Sem.iret rfl d75_56 (Or.inl rfl) (by first | (show _ ≤ 12; omega) | (show _ ≤ 72; omega)) (by first | (show _ ≤ 12; omega) | (show _ ≤ 72; omega)) hzW ⟨_, _, _, rfl, rfl, ?_⟩
        refine ⟨rfl, rfl, ?_⟩
        first
        | (have e : m = w := by omega
           subst e
           rcases hy with ⟨q, _⟩ | ⟨_, q⟩
           · omega
           · exact Or.inr ⟨m, by omega, by omega, q, hP, Or.inl rfl⟩)
        | (have hno : ¬ okW N L i n (m - 1) := by assumption
           rcases hy with ⟨q, q2⟩ | ⟨q, q2⟩
           · refine Or.inl ⟨q2, ?_⟩
             rw [q] at hno; exact hno
           · exact Or.inr ⟨m, by omega, q, q2, hP, Or.inr hno⟩)
      · have b1_ : ¬ (x.toInt < ((w : Nat) : Int)) := bF rfl (nI_toInt (show w < 2 ^ 31 by omega)) b1
        have hm1 : m - 1 + 1 = m := by omega
        refine Sem.pick [5, 0, 1, 2, 3, 4] (lv' := [(5, aI x), (0, aR 0 0), (1, aN i), (2, aN n), (3, aN w), (4, aI y)]) rfl ?_
        refine Sem.loc0 (show x = nI (m - 1) from i_nI (by omega)) ?_
        refine Sem.seg [(.aload_n 0, 0, 0), (.iload_n 1, 0, 0)] ⟨⟨d75_13, trivial⟩, ⟨d75_14, trivial⟩, trivial⟩ (lv' := [(5, aN (m - 1)), (0, aR 0 0), (1, aN i), (2, aN n), (3, aN w), (4, aI y)]) (st' := [aN i, aR 0 0]) (w' := wd N L) (P := []) rfl (trivial) (pc' := 15) rfl ?_
        refine Sem.cVp1 (t := 0) (i := 0) (as := [aN i]) (rst := []) (c' := 12 - m + 1) (s' := (12 - m) * 6 + 6) d75_15 mk24 rfl co24 lk4_50 im24 se24 rfl (vN (t := 0) (i := 0) (by decide)) (show 2 ≤ mL 24 by decide) rfl (show 0 ≤ 8 by decide) (by decide) (by decide) rfl rfl (by first | (show _ ≤ 12; omega) | (show _ ≤ 72; omega)) (by first | (show _ ≤ 12; omega) | (show _ ≤ 72; omega)) (m24n N L i hi) ?_
        refine Sem.seg [(.getfield 155, 2, 13), (.iload 5, 0, 0), (.laload, 0, 0), (.aload_n 0, 0, 0), (.getfield 32, 4, 4), (.iload_n 1, 0, 0), (.iload 5, 0, 0)] ⟨⟨d75_18, gf4_155⟩, ⟨d75_21, trivial⟩, ⟨d75_23, trivial⟩, ⟨d75_24, trivial⟩, ⟨d75_25, gf4_32⟩, ⟨d75_28, trivial⟩, ⟨d75_29, trivial⟩, trivial⟩ (lv' := [(5, aN (m - 1)), (0, aR 0 0), (1, aN i), (2, aN n), (3, aN w), (4, aI y)]) (st' := [aN (m - 1), aN i, aR 8 2, aL (L 22 i (m - 1))]) (w' := wd N L) (P := [vld NN 19 i, vld NN 22 i, m - 1 < 12, vld NN 0 0]) rfl (⟨vN (t := 19) (i := i) (show i < 12 by omega), vN (t := 22) (i := i) (show i < 12 by omega), (show m - 1 < 12 by omega), vN (t := 0) (i := 0) (by decide)⟩) (pc' := 31) rfl ?_
        refine Sem.cVp1 (t := 8) (i := 2) (as := [aN i, aN (m - 1)]) (rst := [aL (L 22 i (m - 1))]) (c' := 12 - m + 1) (s' := (12 - m) * 6 + 6) d75_31 mk68 rfl co68 lk4_266 im68 se68 rfl (vN (t := 8) (i := 2) (by decide)) (show 3 ≤ mL 68 by decide) rfl (show 2 ≤ 8 by decide) (by decide) (by decide) rfl rfl (by first | (show _ ≤ 12; omega) | (show _ ≤ 72; omega)) (by first | (show _ ≤ 12; omega) | (show _ ≤ 72; omega)) (m68n N L 2 i (m - 1) (by decide) hi (by omega) (hc.2.1 2 (by decide)).1 (hc.2.1 2 (by decide)).2.1 (hc.2.1 2 (by decide)).2.2.1) ?_
        refine Sem.seg [(.lsub, 0, 0), (.iload_n 2, 0, 0), (.i2l, 0, 0)] ⟨⟨d75_34, trivial⟩, ⟨d75_35, trivial⟩, ⟨d75_36, trivial⟩, trivial⟩ (lv' := [(5, aN (m - 1)), (0, aR 0 0), (1, aN i), (2, aN n), (3, aN w), (4, aI y)]) (st' := [aL ((nI n).toInt64), aL ((L 22 i (m - 1)) - (bsm (N 9 2) (N 10 2) (N 11 2) i (m - 1 + 1) (N 8 2 3)))]) (w' := wd N L) (P := []) rfl (trivial) (pc' := 37) rfl ?_
        refine Sem.lcmp (tgt := 44) d75_37 d75_38 (by decide) (fun b2 => ?_) (fun b2 => ?_)
        · have b2_ : (nI n).toInt64 ≤ (L 22 i (m - 1)) - (bsm (N 9 2) (N 10 2) (N 11 2) i (m - 1 + 1) (N 8 2 3)) := b2
          refine Sem.seg [(.iload 5, 0, 0), (.istore 4, 0, 0), (.iinc 5 (-1), 0, 0)] ⟨⟨d75_44, trivial⟩, ⟨d75_46, trivial⟩, ⟨d75_48, trivial⟩, trivial⟩ (lv' := [(5, aI (nI (m - 1) + Int32.ofInt (-1))), (4, aN (m - 1)), (0, aR 0 0), (1, aN i), (2, aN n), (3, aN w)]) (st' := []) (w' := wd N L) (P := []) rfl (trivial) (pc' := 51) rfl ?_
          refine Sem.goto (tgt := 7) d75_51 (by decide) ?_
          refine Sem.pick [1, 0, 2, 3, 4, 5] (lv' := [(4, aN (m - 1)), (5, aI (nI (m - 1) + Int32.ofInt (-1))), (0, aR 0 0), (1, aN i), (2, aN n), (3, aN w)]) rfl ?_
          refine Sem.locNI (show nI (m - 1) = nI (m - 1) from rfl) ?_
          refine Sem.pick [2, 3, 4, 5, 0, 1] (lv' := [(0, aR 0 0), (1, aN i), (2, aN n), (3, aN w), (4, aI (nI (m - 1))), (5, aI (nI (m - 1) + Int32.ofInt (-1)))]) rfl ?_
          refine Sem.cz (show 12 - m + 1 = 12 - (m - 1) by omega) (show (12 - m) * 6 + 6 = (12 - (m - 1)) * 6 by omega) ?_
          exact ih _ (by omega) (m - 1) (nI (m - 1) + Int32.ofInt (-1)) (nI (m - 1)) rfl (by omega) (by omega) (by rw [dec_toInt (by omega)]) (fun u h1 h2 => by by_cases e : u = m - 1; (subst e; exact b2_); exact hP u (by omega) h2) (Or.inr ⟨by omega, rfl⟩)
        · have b2_ : ¬ ((nI n).toInt64 ≤ (L 22 i (m - 1)) - (bsm (N 9 2) (N 10 2) (N 11 2) i (m - 1 + 1) (N 8 2 3))) := b2
          refine Sem.goto (tgt := 54) d75_41 (by decide) ?_
          refine Sem.seg [(.iload 4, 0, 0)] ⟨⟨d75_54, trivial⟩, trivial⟩ (lv' := [(5, aN (m - 1)), (0, aR 0 0), (1, aN i), (2, aN n), (3, aN w), (4, aI y)]) (st' := [aI y]) (w' := wd N L) (P := []) rfl (trivial) (pc' := 56) rfl ?_
          refine Sem.iret rfl d75_56 (Or.inl rfl) (by first | (show _ ≤ 12; omega) | (show _ ≤ 72; omega)) (by first | (show _ ≤ 12; omega) | (show _ ≤ 72; omega)) hzW ⟨_, _, _, rfl, rfl, ?_⟩
          refine ⟨rfl, rfl, ?_⟩
          first
          | (have e : m = w := by omega
             subst e
             rcases hy with ⟨q, _⟩ | ⟨_, q⟩
             · omega
             · exact Or.inr ⟨m, by omega, by omega, q, hP, Or.inl rfl⟩)
          | (have hno : ¬ okW N L i n (m - 1) := by assumption
             rcases hy with ⟨q, q2⟩ | ⟨q, q2⟩
             · refine Or.inl ⟨q2, ?_⟩
               rw [q] at hno; exact hno
             · exact Or.inr ⟨m, by omega, q, q2, hP, Or.inr hno⟩)
  refine Sem.pick [0, 1, 2, 3, 4, 5] (lv' := [(5, aN 11), (4, aI (Int32.ofInt (-1))), (0, aR 0 0), (1, aN i), (2, aN n), (3, aN w)]) rfl ?_
  refine Sem.locNI (show nI 11 = nI 11 from rfl) ?_
  refine Sem.pick [2, 3, 4, 5, 1, 0] (lv' := [(0, aR 0 0), (1, aN i), (2, aN n), (3, aN w), (4, aI (Int32.ofInt (-1))), (5, aI (nI 11))]) rfl ?_
  refine Sem.cz (show 0 = 12 - 12 by omega) (show 0 = (12 - 12) * 6 by omega) ?_
  exact lp _ 12 (nI 11) (Int32.ofInt (-1)) rfl (by omega) (by omega) (by rw [nI_toInt (by decide)]; decide) (fun u h1 h2 => absurd h2 (by omega)) (Or.inl ⟨rfl, rfl⟩)

theorem m74 {sc : XT} (N : TN) (L : TL) (x n w : Int32) (hc : CD N) : Sem sc 74 0 [(0, aR 0 0), (1, aI x), (2, aI n), (3, aI w)] [] (wd N L) 0 0 (QC (fun v N' L' => cProm (bo (TD N)) x n w = 0 ∧ ∃ y, v = some (aI y) ∧ LT (okW N L x.toInt.toNat n.toInt.toNat) w.toInt.toNat y ∧ N' = N ∧ L' = L) (fun e N' L' => cProm (bo (TD N)) x n w = e + 1 ∧ e ≤ 2 ∧ N' = N ∧ L' = L)) := by
  have ht : ∀ i, i < 12 → N 19 i 10 ≤ 1 := fun i hi => (hc.1 i hi).2.2.2.2.2.2.2.2.2.2.2
  refine Sem.seg [(.iload_n 1, 0, 0)] ⟨⟨d74_0, trivial⟩, trivial⟩ (lv' := [(0, aR 0 0), (1, aI x), (2, aI n), (3, aI w)]) (st' := [aI x]) (w' := wd N L) (P := []) rfl (trivial) (pc' := 1) rfl ?_
  by_cases h1 : 0 ≤ x.toInt ∧ x.toInt < 12
  case neg =>
    refine Sem.cSx (as := [aI x]) (rst := []) (c' := 1) (s' := 6) d74_1 mk25 rfl co25 lk4_95 ss25 (show 1 ≤ mL 25 by decide) rfl (show 0 ≤ 8 by decide) (by decide) (by decide) rfl rfl (by decide) (by decide) (m25x N L x (by omega)) ?_
    intro N_ L_ hq_
    rw [hq_.1, hq_.2]
    exact SemX.up rfl (by decide) (by decide) ⟨_, _, rfl, 0, by decide, rfl, by refine ⟨?_, by decide, rfl, rfl⟩; show cProm (bo (TD N)) x n w = _; unfold cProm; have := bo_le (TD N); (repeat' split) <;> omega⟩
  case pos =>
    refine Sem.cSp0 (as := [aI x]) (rst := []) (c' := 1) (s' := 6) d74_1 mk25 rfl co25 lk4_95 ss25 (show 1 ≤ mL 25 by decide) rfl (show 0 ≤ 8 by decide) (by decide) (by decide) rfl rfl (by decide) (by decide) (m25o N L x h1.1 h1.2) ?_
    refine Sem.seg [(.iload_n 3, 0, 0)] ⟨⟨d74_4, trivial⟩, trivial⟩ (lv' := [(0, aR 0 0), (1, aI x), (2, aI n), (3, aI w)]) (st' := [aI w]) (w' := wd N L) (P := []) rfl (trivial) (pc' := 5) rfl ?_
    by_cases h2 : 0 ≤ w.toInt ∧ w.toInt < 12
    case neg =>
      refine Sem.cSx (as := [aI w]) (rst := []) (c' := 2) (s' := 12) d74_5 mk45 rfl co45 lk4_143 ss45 (show 1 ≤ mL 45 by decide) rfl (show 0 ≤ 8 by decide) (by decide) (by decide) rfl rfl (by decide) (by decide) (m45x N L w (by omega)) ?_
      intro N_ L_ hq_
      rw [hq_.1, hq_.2]
      exact SemX.up rfl (by decide) (by decide) ⟨_, _, rfl, 0, by decide, rfl, by refine ⟨?_, by decide, rfl, rfl⟩; show cProm (bo (TD N)) x n w = _; unfold cProm; have := bo_le (TD N); (repeat' split) <;> omega⟩
    case pos =>
      refine Sem.cSp0 (as := [aI w]) (rst := []) (c' := 2) (s' := 12) d74_5 mk45 rfl co45 lk4_143 ss45 (show 1 ≤ mL 45 by decide) rfl (show 0 ≤ 8 by decide) (by decide) (by decide) rfl rfl (by decide) (by decide) (m45o N L w h2.1 h2.2) ?_
      refine Sem.seg [(.iload_n 2, 0, 0), (.iconst 1, 0, 0), (.sipush 1000, 0, 0)] ⟨⟨d74_8, trivial⟩, ⟨d74_9, trivial⟩, ⟨d74_10, trivial⟩, trivial⟩ (lv' := [(0, aR 0 0), (1, aI x), (2, aI n), (3, aI w)]) (st' := [aN 1000, aN 1, aI n]) (w' := wd N L) (P := []) rfl (trivial) (pc' := 13) rfl ?_
      by_cases h3 : ((1 : Nat) : Int) ≤ n.toInt ∧ n.toInt ≤ ((1000 : Nat) : Int)
      case neg =>
        refine Sem.cSx (as := [aI n, aN 1, aN 1000]) (rst := []) (c' := 3) (s' := 18) d74_13 mk26 rfl co26 lk4_54 ss26 (show 3 ≤ mL 26 by decide) rfl (show 0 ≤ 8 by decide) (by decide) (by decide) rfl rfl (by decide) (by decide) (m26x N L n 1 1000 (by decide) (by decide) (by omega)) ?_
        intro N_ L_ hq_
        rw [hq_.1, hq_.2]
        exact SemX.up rfl (by decide) (by decide) ⟨_, _, rfl, 1, by decide, rfl, by refine ⟨?_, by decide, rfl, rfl⟩; show cProm (bo (TD N)) x n w = _; unfold cProm; have := bo_le (TD N); (repeat' split) <;> omega⟩
      case pos =>
        refine Sem.cSp0 (as := [aI n, aN 1, aN 1000]) (rst := []) (c' := 3) (s' := 18) d74_13 mk26 rfl co26 lk4_54 ss26 (show 3 ≤ mL 26 by decide) rfl (show 0 ≤ 8 by decide) (by decide) (by decide) rfl rfl (by decide) (by decide) (m26o N L n 1 1000 (by decide) (by decide) h3.1 h3.2) ?_
        refine Sem.seg [(.aload_n 0, 0, 0)] ⟨⟨d74_16, trivial⟩, trivial⟩ (lv' := [(0, aR 0 0), (1, aI x), (2, aI n), (3, aI w)]) (st' := [aR 0 0]) (w' := wd N L) (P := []) rfl (trivial) (pc' := 17) rfl ?_
        by_cases h4 : bo (TD N) = 0
        case neg =>
          refine Sem.cVx (t := 0) (i := 0) (as := []) (rst := []) (c' := 4) (s' := 24) d74_17 mk59 rfl co59 lk4_146 im59 se59 rfl (vN (t := 0) (i := 0) (by decide)) (show 1 ≤ mL 59 by decide) rfl (show 0 ≤ 8 by decide) (by decide) (by decide) rfl rfl (by decide) (by decide) (m59x N L ht (by have := bo_le (TD N); omega)) ?_
          intro N_ L_ hq_
          rw [hq_.1, hq_.2]
          exact SemX.up rfl (by decide) (by decide) ⟨_, _, rfl, 2, by decide, rfl, by refine ⟨?_, by decide, rfl, rfl⟩; show cProm (bo (TD N)) x n w = _; unfold cProm; have := bo_le (TD N); (repeat' split) <;> omega⟩
        case pos =>
          refine Sem.cVp0 (t := 0) (i := 0) (as := []) (rst := []) (c' := 4) (s' := 24) d74_17 mk59 rfl co59 lk4_146 im59 se59 rfl (vN (t := 0) (i := 0) (by decide)) (show 1 ≤ mL 59 by decide) rfl (show 0 ≤ 8 by decide) (by decide) (by decide) rfl rfl (by decide) (by decide) (m59o N L ht h4) ?_
          refine Sem.pick [1, 0, 2, 3] (lv' := [(1, aI x), (0, aR 0 0), (2, aI n), (3, aI w)]) rfl ?_
          refine Sem.loc0 (show x = nI x.toInt.toNat from i_nI2 (by omega)) ?_
          refine Sem.pick [2, 0, 1, 3] (lv' := [(2, aI n), (1, aN x.toInt.toNat), (0, aR 0 0), (3, aI w)]) rfl ?_
          refine Sem.loc0 (show n = nI n.toInt.toNat from i_nI2 (by omega)) ?_
          refine Sem.pick [3, 0, 1, 2] (lv' := [(3, aI w), (2, aN n.toInt.toNat), (1, aN x.toInt.toNat), (0, aR 0 0)]) rfl ?_
          refine Sem.loc0 (show w = nI w.toInt.toNat from i_nI2 (by omega)) ?_
          refine Sem.seg [(.aload_n 0, 0, 0), (.iload_n 1, 0, 0), (.iload_n 2, 0, 0), (.iload_n 3, 0, 0)] ⟨⟨d74_20, trivial⟩, ⟨d74_21, trivial⟩, ⟨d74_22, trivial⟩, ⟨d74_23, trivial⟩, trivial⟩ (lv' := [(3, aN w.toInt.toNat), (2, aN n.toInt.toNat), (1, aN x.toInt.toNat), (0, aR 0 0)]) (st' := [aN w.toInt.toNat, aN n.toInt.toNat, aN x.toInt.toNat, aR 0 0]) (w' := wd N L) (P := []) rfl (trivial) (pc' := 24) rfl ?_
          refine Sem.cVmI (t := 0) (i := 0) (as := [aN x.toInt.toNat, aN n.toInt.toNat, aN w.toInt.toNat]) (rst := []) (c' := 16) (s' := 96) d74_24 mk75 rfl co75 lk4_169 im75 se75 rfl (vN (t := 0) (i := 0) (by decide)) (show 4 ≤ mL 75 by decide) rfl (show 0 ≤ 8 by decide) (by decide) (by decide) rfl rfl (by decide) (by decide) (m75 N L x.toInt.toNat n.toInt.toNat w.toInt.toNat (by omega) (by omega) (by omega) hc) ?_
          rintro y N1 L1 ⟨rfl, rfl, hy⟩
          exact Sem.iret rfl d74_27 (Or.inl rfl) (by decide) (by decide) hzW ⟨_, _, rfl, by refine ⟨?_, y, rfl, hy, rfl, rfl⟩; unfold cProm; have := bo_le (TD N); (repeat' split) <;> omega⟩

theorem m77 {sc : XT} (N : TN) (L : TL) (x n w : Int32) (hc : CD N) : Sem sc 77 0 [(0, aR 0 0), (1, aI x), (2, aI n), (3, aI w)] [] (wd N L) 0 0 (QC (fun v N' L' => cProm (if 24 ≤ N 8 2 3 then 1 else bo (TD N)) x n w = 0 ∧ (∃ y, v = some (aI y) ∧ ((y = Int32.ofInt (-1) ∧ (¬ ∀ u, w.toInt.toNat ≤ u → u < 12 → okW N L x.toInt.toNat n.toInt.toNat u) ∧ N' = N) ∨ (y = nI (N 8 2 3) ∧ (∀ u, w.toInt.toNat ≤ u → u < 12 → okW N L x.toInt.toNat n.toInt.toNat u) ∧ N' = upN (upN (upN (upN N 9 2 (N 8 2 3) x.toInt.toNat) 10 2 (N 8 2 3) w.toInt.toNat) 11 2 (N 8 2 3) n.toInt.toNat) 8 2 3 (N 8 2 3 + 1)))) ∧ L' = L) (fun e N' L' => cProm (if 24 ≤ N 8 2 3 then 1 else bo (TD N)) x n w = e + 1 ∧ e ≤ 2 ∧ N' = N ∧ L' = L)) := by
  have ht : ∀ i, i < 12 → N 19 i 10 ≤ 1 := fun i hi => (hc.1 i hi).2.2.2.2.2.2.2.2.2.2.2
  have hs2 := (hc.2.1 2 (by decide)).1
  refine Sem.seg [(.iload_n 1, 0, 0)] ⟨⟨d77_0, trivial⟩, trivial⟩ (lv' := [(0, aR 0 0), (1, aI x), (2, aI n), (3, aI w)]) (st' := [aI x]) (w' := wd N L) (P := []) rfl (trivial) (pc' := 1) rfl ?_
  by_cases h1 : 0 ≤ x.toInt ∧ x.toInt < 12
  case neg =>
    refine Sem.cSx (as := [aI x]) (rst := []) (c' := 1) (s' := 6) d77_1 mk25 rfl co25 lk4_95 ss25 (show 1 ≤ mL 25 by decide) rfl (show 0 ≤ 8 by decide) (by decide) (by decide) rfl rfl (by decide) (by decide) (m25x N L x (by omega)) ?_
    intro N_ L_ hq_
    rw [hq_.1, hq_.2]
    exact SemX.up rfl (by decide) (by decide) ⟨_, _, rfl, 0, by decide, rfl, by refine ⟨?_, by decide, rfl, rfl⟩; show cProm (if 24 ≤ N 8 2 3 then 1 else bo (TD N)) x n w = _; unfold cProm; have := bo_le (TD N); (repeat' split) <;> omega⟩
  case pos =>
    refine Sem.cSp0 (as := [aI x]) (rst := []) (c' := 1) (s' := 6) d77_1 mk25 rfl co25 lk4_95 ss25 (show 1 ≤ mL 25 by decide) rfl (show 0 ≤ 8 by decide) (by decide) (by decide) rfl rfl (by decide) (by decide) (m25o N L x h1.1 h1.2) ?_
    refine Sem.seg [(.iload_n 3, 0, 0)] ⟨⟨d77_4, trivial⟩, trivial⟩ (lv' := [(0, aR 0 0), (1, aI x), (2, aI n), (3, aI w)]) (st' := [aI w]) (w' := wd N L) (P := []) rfl (trivial) (pc' := 5) rfl ?_
    by_cases h2 : 0 ≤ w.toInt ∧ w.toInt < 12
    case neg =>
      refine Sem.cSx (as := [aI w]) (rst := []) (c' := 2) (s' := 12) d77_5 mk45 rfl co45 lk4_143 ss45 (show 1 ≤ mL 45 by decide) rfl (show 0 ≤ 8 by decide) (by decide) (by decide) rfl rfl (by decide) (by decide) (m45x N L w (by omega)) ?_
      intro N_ L_ hq_
      rw [hq_.1, hq_.2]
      exact SemX.up rfl (by decide) (by decide) ⟨_, _, rfl, 0, by decide, rfl, by refine ⟨?_, by decide, rfl, rfl⟩; show cProm (if 24 ≤ N 8 2 3 then 1 else bo (TD N)) x n w = _; unfold cProm; have := bo_le (TD N); (repeat' split) <;> omega⟩
    case pos =>
      refine Sem.cSp0 (as := [aI w]) (rst := []) (c' := 2) (s' := 12) d77_5 mk45 rfl co45 lk4_143 ss45 (show 1 ≤ mL 45 by decide) rfl (show 0 ≤ 8 by decide) (by decide) (by decide) rfl rfl (by decide) (by decide) (m45o N L w h2.1 h2.2) ?_
      refine Sem.seg [(.iload_n 2, 0, 0), (.iconst 1, 0, 0), (.sipush 1000, 0, 0)] ⟨⟨d77_8, trivial⟩, ⟨d77_9, trivial⟩, ⟨d77_10, trivial⟩, trivial⟩ (lv' := [(0, aR 0 0), (1, aI x), (2, aI n), (3, aI w)]) (st' := [aN 1000, aN 1, aI n]) (w' := wd N L) (P := []) rfl (trivial) (pc' := 13) rfl ?_
      by_cases h3 : ((1 : Nat) : Int) ≤ n.toInt ∧ n.toInt ≤ ((1000 : Nat) : Int)
      case neg =>
        refine Sem.cSx (as := [aI n, aN 1, aN 1000]) (rst := []) (c' := 3) (s' := 18) d77_13 mk26 rfl co26 lk4_54 ss26 (show 3 ≤ mL 26 by decide) rfl (show 0 ≤ 8 by decide) (by decide) (by decide) rfl rfl (by decide) (by decide) (m26x N L n 1 1000 (by decide) (by decide) (by omega)) ?_
        intro N_ L_ hq_
        rw [hq_.1, hq_.2]
        exact SemX.up rfl (by decide) (by decide) ⟨_, _, rfl, 1, by decide, rfl, by refine ⟨?_, by decide, rfl, rfl⟩; show cProm (if 24 ≤ N 8 2 3 then 1 else bo (TD N)) x n w = _; unfold cProm; have := bo_le (TD N); (repeat' split) <;> omega⟩
      case pos =>
        refine Sem.cSp0 (as := [aI n, aN 1, aN 1000]) (rst := []) (c' := 3) (s' := 18) d77_13 mk26 rfl co26 lk4_54 ss26 (show 3 ≤ mL 26 by decide) rfl (show 0 ≤ 8 by decide) (by decide) (by decide) rfl rfl (by decide) (by decide) (m26o N L n 1 1000 (by decide) (by decide) h3.1 h3.2) ?_
        refine Sem.seg [(.aload_n 0, 0, 0)] ⟨⟨d77_16, trivial⟩, trivial⟩ (lv' := [(0, aR 0 0), (1, aI x), (2, aI n), (3, aI w)]) (st' := [aR 0 0]) (w' := wd N L) (P := []) rfl (trivial) (pc' := 17) rfl ?_
        by_cases h4 : bo (TD N) = 0
        case neg =>
          refine Sem.cVx (t := 0) (i := 0) (as := []) (rst := []) (c' := 4) (s' := 24) d77_17 mk59 rfl co59 lk4_146 im59 se59 rfl (vN (t := 0) (i := 0) (by decide)) (show 1 ≤ mL 59 by decide) rfl (show 0 ≤ 8 by decide) (by decide) (by decide) rfl rfl (by decide) (by decide) (m59x N L ht (by have := bo_le (TD N); omega)) ?_
          intro N_ L_ hq_
          rw [hq_.1, hq_.2]
          exact SemX.up rfl (by decide) (by decide) ⟨_, _, rfl, 2, by decide, rfl, by refine ⟨?_, by decide, rfl, rfl⟩; show cProm (if 24 ≤ N 8 2 3 then 1 else bo (TD N)) x n w = _; unfold cProm; have := bo_le (TD N); (repeat' split) <;> omega⟩
        case pos =>
          refine Sem.cVp0 (t := 0) (i := 0) (as := []) (rst := []) (c' := 4) (s' := 24) d77_17 mk59 rfl co59 lk4_146 im59 se59 rfl (vN (t := 0) (i := 0) (by decide)) (show 1 ≤ mL 59 by decide) rfl (show 0 ≤ 8 by decide) (by decide) (by decide) rfl rfl (by decide) (by decide) (m59o N L ht h4) ?_
          refine Sem.seg [(.aload_n 0, 0, 0), (.getfield 32, 4, 4)] ⟨⟨d77_20, trivial⟩, ⟨d77_21, gf4_32⟩, trivial⟩ (lv' := [(0, aR 0 0), (1, aI x), (2, aI n), (3, aI w)]) (st' := [aR 8 2]) (w' := wd N L) (P := [vld NN 0 0]) rfl (vN (t := 0) (i := 0) (by decide)) (pc' := 24) rfl ?_
          by_cases h5 : N 8 2 3 < 24
          case neg =>
            refine Sem.cSx (as := [aR 8 2]) (rst := []) (c' := 5) (s' := 30) d77_24 mk46 rfl co46 lk4_173 ss46 (show 1 ≤ mL 46 by decide) rfl (show 0 ≤ 8 by decide) (by decide) (by decide) rfl rfl (by decide) (by decide) (m46x N L 2 (by decide) (by omega) (by omega)) ?_
            intro N_ L_ hq_
            rw [hq_.1, hq_.2]
            exact SemX.up rfl (by decide) (by decide) ⟨_, _, rfl, 2, by decide, rfl, by refine ⟨?_, by decide, rfl, rfl⟩; show cProm (if 24 ≤ N 8 2 3 then 1 else bo (TD N)) x n w = _; unfold cProm; have := bo_le (TD N); (repeat' split) <;> omega⟩
          case pos =>
            refine Sem.cSp0 (as := [aR 8 2]) (rst := []) (c' := 5) (s' := 30) d77_24 mk46 rfl co46 lk4_173 ss46 (show 1 ≤ mL 46 by decide) rfl (show 0 ≤ 8 by decide) (by decide) (by decide) rfl rfl (by decide) (by decide) (m46o N L 2 (by decide) h5) ?_
            refine Sem.pick [1, 0, 2, 3] (lv' := [(1, aI x), (0, aR 0 0), (2, aI n), (3, aI w)]) rfl ?_
            refine Sem.loc0 (show x = nI x.toInt.toNat from i_nI2 (by omega)) ?_
            refine Sem.pick [2, 0, 1, 3] (lv' := [(2, aI n), (1, aN x.toInt.toNat), (0, aR 0 0), (3, aI w)]) rfl ?_
            refine Sem.loc0 (show n = nI n.toInt.toNat from i_nI2 (by omega)) ?_
            refine Sem.pick [3, 0, 1, 2] (lv' := [(3, aI w), (2, aN n.toInt.toNat), (1, aN x.toInt.toNat), (0, aR 0 0)]) rfl ?_
            refine Sem.loc0 (show w = nI w.toInt.toNat from i_nI2 (by omega)) ?_
            refine Sem.seg [(.aload_n 0, 0, 0), (.iload_n 1, 0, 0), (.iload_n 2, 0, 0), (.iload_n 3, 0, 0)] ⟨⟨d77_27, trivial⟩, ⟨d77_28, trivial⟩, ⟨d77_29, trivial⟩, ⟨d77_30, trivial⟩, trivial⟩ (lv' := [(3, aN w.toInt.toNat), (2, aN n.toInt.toNat), (1, aN x.toInt.toNat), (0, aR 0 0)]) (st' := [aN w.toInt.toNat, aN n.toInt.toNat, aN x.toInt.toNat, aR 0 0]) (w' := wd N L) (P := []) rfl (trivial) (pc' := 31) rfl ?_
            refine Sem.cVmI (t := 0) (i := 0) (as := [aN x.toInt.toNat, aN n.toInt.toNat, aN w.toInt.toNat]) (rst := []) (c' := 17) (s' := 102) d77_31 mk75 rfl co75 lk4_169 im75 se75 rfl (vN (t := 0) (i := 0) (by decide)) (show 4 ≤ mL 75 by decide) rfl (show 0 ≤ 8 by decide) (by decide) (by decide) rfl rfl (by decide) (by decide) (m75 N L x.toInt.toNat n.toInt.toNat w.toInt.toNat (by omega) (by omega) (by omega) hc) ?_
            rintro y N1 L1 ⟨rfl, rfl, hy⟩
            refine Sem.seg [(.iload_n 3, 0, 0)] ⟨⟨d77_34, trivial⟩, trivial⟩ (lv' := [(3, aN w.toInt.toNat), (2, aN n.toInt.toNat), (1, aN x.toInt.toNat), (0, aR 0 0)]) (st' := [aN w.toInt.toNat, aI y]) (w' := wd N L) (P := []) rfl (trivial) (pc' := 35) rfl ?_
            refine Sem.icmp (tgt := 40) d77_35 (by decide) rfl rfl (fun b6 => ?_) (fun b6 => ?_)
            · have b6_ : y.toInt = ((w.toInt.toNat : Nat) : Int) := bT rfl (nI_toInt (show w.toInt.toNat < 2 ^ 31 by omega)) b6
              refine Sem.seg [(.aload_n 0, 0, 0), (.getfield 32, 4, 4), (.iload_n 1, 0, 0), (.iload_n 3, 0, 0), (.iload_n 2, 0, 0)] ⟨⟨d77_40, trivial⟩, ⟨d77_41, gf4_32⟩, ⟨d77_44, trivial⟩, ⟨d77_45, trivial⟩, ⟨d77_46, trivial⟩, trivial⟩ (lv' := [(3, aN w.toInt.toNat), (2, aN n.toInt.toNat), (1, aN x.toInt.toNat), (0, aR 0 0)]) (st' := [aN n.toInt.toNat, aN w.toInt.toNat, aN x.toInt.toNat, aR 8 2]) (w' := wd N L) (P := [vld NN 0 0]) rfl (vN (t := 0) (i := 0) (by decide)) (pc' := 47) rfl ?_
              refine Sem.cVp1 (t := 8) (i := 2) (as := [aN x.toInt.toNat, aN w.toInt.toNat, aN n.toInt.toNat]) (rst := []) (c' := 17) (s' := 102) d77_47 mk48 rfl co48 lk4_177 im48 se48 rfl (vN (t := 8) (i := 2) (by decide)) (show 4 ≤ mL 48 by decide) rfl (show 0 ≤ 8 by decide) (by decide) (by decide) rfl rfl (by decide) (by decide) (m48 N L 2 x.toInt.toNat w.toInt.toNat n.toInt.toNat (by decide) (show N 8 2 3 < 24 by omega)) ?_
              refine Sem.topNI rfl ?_
              refine Sem.iret rfl d77_50 (Or.inl rfl) (by decide) (by decide) hzW ⟨_, _, rfl, ?_⟩
              refine ⟨?_, ?_, rfl⟩
              · unfold cProm; have := bo_le (TD N); (repeat' split) <;> omega
              · first
                | exact ⟨_, rfl, Or.inl ⟨rfl, LT_ne hy (by omega) (by assumption), rfl⟩⟩
                | exact ⟨_, rfl, Or.inr ⟨rfl, LT_eq hy (by assumption), rfl⟩⟩
            · have b6_ : ¬ (y.toInt = ((w.toInt.toNat : Nat) : Int)) := bF rfl (nI_toInt (show w.toInt.toNat < 2 ^ 31 by omega)) b6
              refine Sem.seg [(.iconst (-1), 0, 0)] ⟨⟨d77_38, trivial⟩, trivial⟩ (lv' := [(3, aN w.toInt.toNat), (2, aN n.toInt.toNat), (1, aN x.toInt.toNat), (0, aR 0 0)]) (st' := [aI (Int32.ofInt (-1))]) (w' := wd N L) (P := []) rfl (trivial) (pc' := 39) rfl ?_
              refine Sem.iret rfl d77_39 (Or.inl rfl) (by decide) (by decide) hzW ⟨_, _, rfl, ?_⟩
              refine ⟨?_, ?_, rfl⟩
              · unfold cProm; have := bo_le (TD N); (repeat' split) <;> omega
              · first
                | exact ⟨_, rfl, Or.inl ⟨rfl, LT_ne hy (by omega) (by assumption), rfl⟩⟩
                | exact ⟨_, rfl, Or.inr ⟨rfl, LT_eq hy (by assumption), rfl⟩⟩

