-- ===== the model: an item netted =====
theorem m118 {sc : XT} (N : TN) (L : TL) (i w : Nat) (g : Int64) (hi : i < 12) (hw : w < 12) (hwl : N 26 0 i ≤ w) (hc : CD (mN N)) (hb : ∀ q, N 26 0 i ≤ q → q ≤ 12 → L 46 0 q = bestF (mN N 19 i) (L 45 0) q) : Sem sc 118 0 [(0, aR 23 0), (1, aN i), (2, aN w), (3, aL g)] [] (wd N L) 0 0 (QP (some (aL (lotF (mN N 19 i) (L 45 0) w g))) N L) := by
  have h24 : N 24 0 i ≤ 3 := (hc.1 i hi).1
  have h25 : 1 ≤ N 25 0 i := (hc.1 i hi).2.1
  have h25b : N 25 0 i ≤ 1000 := (hc.1 i hi).2.2.1
  have hr : N 24 0 i = 0 ∨ N 24 0 i = 1 ∨ N 24 0 i = 2 ∨ N 24 0 i = 3 := by omega
  refine Sem.seg [(.aload_n 0, 0, 0), (.getfield 79, 5, 25), (.iload_n 2, 0, 0), (.laload, 0, 0), (.lload_n 3, 0, 0), (.lsub, 0, 0), (.lstore 5, 0, 0), (.aload_n 0, 0, 0), (.getfield 7, 5, 1)] ⟨⟨d118_0, trivial⟩, ⟨d118_1, gf5_79⟩, ⟨d118_4, trivial⟩, ⟨d118_5, trivial⟩, ⟨d118_6, trivial⟩, ⟨d118_7, trivial⟩, ⟨d118_8, trivial⟩, ⟨d118_10, trivial⟩, ⟨d118_11, gf5_7⟩, trivial⟩ (lv' := [(5, aL ((L 45 0 w) - g)), (0, aR 23 0), (1, aN i), (2, aN w), (3, aL g)]) (st' := [aR 24 0]) (w' := wd N L) (P := [vld NN 23 0, vld NN 45 0, w < 13, vld NN 23 0]) rfl (⟨vN (t := 23) (i := 0) (by decide), vN (t := 45) (i := 0) (by decide), (show w < 13 by first | omega | exact Nat.lt_succ_of_lt hla), vN (t := 23) (i := 0) (by decide)⟩) (pc' := 14) rfl ?_
  refine Sem.seg [(.iload_n 1, 0, 0), (.iaload, 0, 0)] ⟨⟨d118_14, trivial⟩, ⟨d118_15, trivial⟩, trivial⟩ (lv' := [(5, aL ((L 45 0 w) - g)), (0, aR 23 0), (1, aN i), (2, aN w), (3, aL g)]) (st' := [aN (N 24 0 i)]) (w' := wd N L) (P := [vld NN 24 0, i < 12]) rfl (⟨vN (t := 24) (i := 0) (by decide), (show i < 12 by first | omega | exact Nat.lt_succ_of_lt hla)⟩) (pc' := 16) rfl ?_
  rcases hr with hr | hr | hr | hr
  · refine Sem.topNN hr ?_
    refine Sem.tabIn rfl d118_16 (by decide) (by decide) (off := 28) rfl (tgt := 44) (by decide) ?_
    refine Sem.seg [(.lload 5, 0, 0)] ⟨⟨d118_44, trivial⟩, trivial⟩ (lv' := [(5, aL ((L 45 0 w) - g)), (0, aR 23 0), (1, aN i), (2, aN w), (3, aL g)]) (st' := [aL ((L 45 0 w) - g)]) (w' := wd N L) (P := []) rfl (trivial) (pc' := 46) rfl ?_
    exact Sem.lret d118_46 rfl (by decide) (by decide) hzW ⟨congrArg (fun z => Sum.inl (some (aL z))) (show (L 45 0 w) - g = lotF (mN N 19 i) (L 45 0) w g by show _ = lotF (mN N 19 i) (L 45 0) w g; unfold lotF; show _ = (if N 24 0 i = 1 then lmu (N 25 0 i) (L 45 0 w - g) else if N 24 0 i = 2 then L 45 0 (if 11 < w + N 25 0 i - 1 then 11 else w + N 25 0 i - 1) - g else if N 24 0 i = 3 then L 45 0 (lastF (mN N 19 i) (L 45 0) w) - g else L 45 0 w - g); rw [if_neg (show ¬ N 24 0 i = 1 by omega), if_neg (show ¬ N 24 0 i = 2 by omega), if_neg (show ¬ N 24 0 i = 3 by omega)]), rfl⟩
  · refine Sem.topNN hr ?_
    refine Sem.tabIn rfl d118_16 (by decide) (by decide) (off := 31) rfl (tgt := 47) (by decide) ?_
    refine Sem.seg [(.lload 5, 0, 0), (.aload_n 0, 0, 0), (.getfield 13, 5, 2), (.iload_n 1, 0, 0), (.iaload, 0, 0), (.i2l, 0, 0), (.ladd, 0, 0), (.lconst 1, 0, 0), (.lsub, 0, 0)] ⟨⟨d118_47, trivial⟩, ⟨d118_49, trivial⟩, ⟨d118_50, gf5_13⟩, ⟨d118_53, trivial⟩, ⟨d118_54, trivial⟩, ⟨d118_55, trivial⟩, ⟨d118_56, trivial⟩, ⟨d118_57, trivial⟩, ⟨d118_58, trivial⟩, trivial⟩ (lv' := [(5, aL ((L 45 0 w) - g)), (0, aR 23 0), (1, aN i), (2, aN w), (3, aL g)]) (st' := [aL ((((L 45 0 w) - g) + ((nI (N 25 0 i)).toInt64)) - (Int64.ofNat 1))]) (w' := wd N L) (P := [vld NN 23 0, vld NN 25 0, i < 12]) rfl (⟨vN (t := 23) (i := 0) (by decide), vN (t := 25) (i := 0) (by decide), (show i < 12 by first | omega | exact Nat.lt_succ_of_lt hla)⟩) (pc' := 59) rfl ?_
    refine Sem.seg [(.aload_n 0, 0, 0), (.getfield 13, 5, 2), (.iload_n 1, 0, 0), (.iaload, 0, 0), (.i2l, 0, 0), (.ldiv, 0, 0), (.aload_n 0, 0, 0), (.getfield 13, 5, 2), (.iload_n 1, 0, 0)] ⟨⟨d118_59, trivial⟩, ⟨d118_60, gf5_13⟩, ⟨d118_63, trivial⟩, ⟨d118_64, trivial⟩, ⟨d118_65, trivial⟩, ⟨d118_66, trivial⟩, ⟨d118_67, trivial⟩, ⟨d118_68, gf5_13⟩, ⟨d118_71, trivial⟩, trivial⟩ (lv' := [(5, aL ((L 45 0 w) - g)), (0, aR 23 0), (1, aN i), (2, aN w), (3, aL g)]) (st' := [aN i, aR 25 0, aL (((((L 45 0 w) - g) + ((nI (N 25 0 i)).toInt64)) - (Int64.ofNat 1)) / ((nI (N 25 0 i)).toInt64))]) (w' := wd N L) (P := [vld NN 23 0, vld NN 25 0, i < 12, ¬ ((nI (N 25 0 i)).toInt64) = 0, vld NN 23 0]) rfl (⟨vN (t := 23) (i := 0) (by decide), vN (t := 25) (i := 0) (by decide), (show i < 12 by first | omega | exact Nat.lt_succ_of_lt hla), (by exact q64_ne (by omega) (by omega)), vN (t := 23) (i := 0) (by decide)⟩) (pc' := 72) rfl ?_
    refine Sem.seg [(.iaload, 0, 0), (.i2l, 0, 0), (.lmul, 0, 0)] ⟨⟨d118_72, trivial⟩, ⟨d118_73, trivial⟩, ⟨d118_74, trivial⟩, trivial⟩ (lv' := [(5, aL ((L 45 0 w) - g)), (0, aR 23 0), (1, aN i), (2, aN w), (3, aL g)]) (st' := [aL ((((((L 45 0 w) - g) + ((nI (N 25 0 i)).toInt64)) - (Int64.ofNat 1)) / ((nI (N 25 0 i)).toInt64)) * ((nI (N 25 0 i)).toInt64))]) (w' := wd N L) (P := [vld NN 25 0, i < 12]) rfl (⟨vN (t := 25) (i := 0) (by decide), (show i < 12 by first | omega | exact Nat.lt_succ_of_lt hla)⟩) (pc' := 75) rfl ?_
    exact Sem.lret d118_75 rfl (by decide) (by decide) hzW ⟨congrArg (fun z => Sum.inl (some (aL z))) (show (((((L 45 0 w) - g) + ((nI (N 25 0 i)).toInt64)) - (Int64.ofNat 1)) / ((nI (N 25 0 i)).toInt64)) * ((nI (N 25 0 i)).toInt64) = lotF (mN N 19 i) (L 45 0) w g by show _ = lotF (mN N 19 i) (L 45 0) w g; unfold lotF; show _ = (if N 24 0 i = 1 then lmu (N 25 0 i) (L 45 0 w - g) else if N 24 0 i = 2 then L 45 0 (if 11 < w + N 25 0 i - 1 then 11 else w + N 25 0 i - 1) - g else if N 24 0 i = 3 then L 45 0 (lastF (mN N 19 i) (L 45 0) w) - g else L 45 0 w - g); rw [if_pos (show N 24 0 i = 1 by omega)]; unfold lmu; rw [if_neg (show ¬ N 25 0 i < 1 by omega)]), rfl⟩
  · refine Sem.topNN hr ?_
    refine Sem.tabIn rfl d118_16 (by decide) (by decide) (off := 60) rfl (tgt := 76) (by decide) ?_
    refine Sem.seg [(.aload_n 0, 0, 0), (.getfield 79, 5, 25), (.iload_n 2, 0, 0), (.aload_n 0, 0, 0), (.getfield 13, 5, 2), (.iload_n 1, 0, 0), (.iaload, 0, 0), (.iadd, 0, 0), (.iconst 1, 0, 0)] ⟨⟨d118_76, trivial⟩, ⟨d118_77, gf5_79⟩, ⟨d118_80, trivial⟩, ⟨d118_81, trivial⟩, ⟨d118_82, gf5_13⟩, ⟨d118_85, trivial⟩, ⟨d118_86, trivial⟩, ⟨d118_87, trivial⟩, ⟨d118_88, trivial⟩, trivial⟩ (lv' := [(5, aL ((L 45 0 w) - g)), (0, aR 23 0), (1, aN i), (2, aN w), (3, aL g)]) (st' := [aN 1, aN (w + (N 25 0 i)), aR 45 0]) (w' := wd N L) (P := [vld NN 23 0, vld NN 23 0, vld NN 25 0, i < 12]) rfl (⟨vN (t := 23) (i := 0) (by decide), vN (t := 23) (i := 0) (by decide), vN (t := 25) (i := 0) (by decide), (show i < 12 by first | omega | exact Nat.lt_succ_of_lt hla)⟩) (pc' := 89) rfl ?_
    refine Sem.seg [(.isub, 0, 0)] ⟨⟨d118_89, trivial⟩, trivial⟩ (lv' := [(5, aL ((L 45 0 w) - g)), (0, aR 23 0), (1, aN i), (2, aN w), (3, aL g)]) (st' := [aI ((nI (w + (N 25 0 i))) - (nI 1)), aR 45 0]) (w' := wd N L) (P := []) rfl (trivial) (pc' := 90) rfl ?_
    refine Sem.topN (show (nI (w + (N 25 0 i))) - (nI 1) = nI (w + N 25 0 i - 1) from nI_sub (by omega)) ?_
    refine Sem.seg [(.bipush 12, 0, 0)] ⟨⟨d118_90, trivial⟩, trivial⟩ (lv' := [(5, aL ((L 45 0 w) - g)), (0, aR 23 0), (1, aN i), (2, aN w), (3, aL g)]) (st' := [aN 12, aN (w + N 25 0 i - 1), aR 45 0]) (w' := wd N L) (P := []) rfl (trivial) (pc' := 92) rfl ?_
    refine Sem.icmpN (tgt := 108) d118_92 (by decide) (show w + N 25 0 i - 1 < 2 ^ 31 by first | omega | exact Nat.lt_succ_of_lt hla) (by decide) (fun b1 => ?_) (fun b1 => ?_)
    · have b1_ : 12 ≤ w + N 25 0 i - 1 := b1
      refine Sem.seg [(.bipush 11, 0, 0), (.laload, 0, 0), (.lload_n 3, 0, 0), (.lsub, 0, 0)] ⟨⟨d118_108, trivial⟩, ⟨d118_110, trivial⟩, ⟨d118_111, trivial⟩, ⟨d118_112, trivial⟩, trivial⟩ (lv' := [(5, aL ((L 45 0 w) - g)), (0, aR 23 0), (1, aN i), (2, aN w), (3, aL g)]) (st' := [aL ((L 45 0 11) - g)]) (w' := wd N L) (P := [vld NN 45 0, 11 < 13]) rfl (⟨vN (t := 45) (i := 0) (by decide), (by decide : (11 : Nat) < 13)⟩) (pc' := 113) rfl ?_
      exact Sem.lret d118_113 rfl (by decide) (by decide) hzW ⟨congrArg (fun z => Sum.inl (some (aL z))) (show (L 45 0 11) - g = lotF (mN N 19 i) (L 45 0) w g by show _ = lotF (mN N 19 i) (L 45 0) w g; unfold lotF; show _ = (if N 24 0 i = 1 then lmu (N 25 0 i) (L 45 0 w - g) else if N 24 0 i = 2 then L 45 0 (if 11 < w + N 25 0 i - 1 then 11 else w + N 25 0 i - 1) - g else if N 24 0 i = 3 then L 45 0 (lastF (mN N 19 i) (L 45 0) w) - g else L 45 0 w - g); rw [if_neg (show ¬ N 24 0 i = 1 by omega), if_pos (show N 24 0 i = 2 by omega)]; rw [if_pos (show 11 < w + N 25 0 i - 1 by omega)]), rfl⟩
    · have b1_ : ¬ (12 ≤ w + N 25 0 i - 1) := b1
      refine Sem.seg [(.iload_n 2, 0, 0), (.aload_n 0, 0, 0), (.getfield 13, 5, 2), (.iload_n 1, 0, 0), (.iaload, 0, 0), (.iadd, 0, 0), (.iconst 1, 0, 0), (.isub, 0, 0)] ⟨⟨d118_95, trivial⟩, ⟨d118_96, trivial⟩, ⟨d118_97, gf5_13⟩, ⟨d118_100, trivial⟩, ⟨d118_101, trivial⟩, ⟨d118_102, trivial⟩, ⟨d118_103, trivial⟩, ⟨d118_104, trivial⟩, trivial⟩ (lv' := [(5, aL ((L 45 0 w) - g)), (0, aR 23 0), (1, aN i), (2, aN w), (3, aL g)]) (st' := [aI ((nI (w + (N 25 0 i))) - (nI 1)), aR 45 0]) (w' := wd N L) (P := [vld NN 23 0, vld NN 25 0, i < 12]) rfl (⟨vN (t := 23) (i := 0) (by decide), vN (t := 25) (i := 0) (by decide), (show i < 12 by first | omega | exact Nat.lt_succ_of_lt hla)⟩) (pc' := 105) rfl ?_
      refine Sem.topN (show (nI (w + (N 25 0 i))) - (nI 1) = nI (w + N 25 0 i - 1) from nI_sub (by omega)) ?_
      refine Sem.goto (tgt := 110) d118_105 (by decide) ?_
      refine Sem.seg [(.laload, 0, 0), (.lload_n 3, 0, 0), (.lsub, 0, 0)] ⟨⟨d118_110, trivial⟩, ⟨d118_111, trivial⟩, ⟨d118_112, trivial⟩, trivial⟩ (lv' := [(5, aL ((L 45 0 w) - g)), (0, aR 23 0), (1, aN i), (2, aN w), (3, aL g)]) (st' := [aL ((L 45 0 (w + N 25 0 i - 1)) - g)]) (w' := wd N L) (P := [vld NN 45 0, w + N 25 0 i - 1 < 13]) rfl (⟨vN (t := 45) (i := 0) (by decide), (show w + N 25 0 i - 1 < 13 by first | omega | exact Nat.lt_succ_of_lt hla)⟩) (pc' := 113) rfl ?_
      exact Sem.lret d118_113 rfl (by decide) (by decide) hzW ⟨congrArg (fun z => Sum.inl (some (aL z))) (show (L 45 0 (w + N 25 0 i - 1)) - g = lotF (mN N 19 i) (L 45 0) w g by show _ = lotF (mN N 19 i) (L 45 0) w g; unfold lotF; show _ = (if N 24 0 i = 1 then lmu (N 25 0 i) (L 45 0 w - g) else if N 24 0 i = 2 then L 45 0 (if 11 < w + N 25 0 i - 1 then 11 else w + N 25 0 i - 1) - g else if N 24 0 i = 3 then L 45 0 (lastF (mN N 19 i) (L 45 0) w) - g else L 45 0 w - g); rw [if_neg (show ¬ N 24 0 i = 1 by omega), if_pos (show N 24 0 i = 2 by omega)]; rw [if_neg (show ¬ 11 < w + N 25 0 i - 1 by omega)]), rfl⟩
  · refine Sem.topNN hr ?_
    refine Sem.tabOut rfl d118_16 (Or.inr (by decide)) (tgt := 114) (by decide) ?_
    refine Sem.seg [(.aload_n 0, 0, 0), (.getfield 79, 5, 25), (.aload_n 0, 0, 0), (.iload_n 1, 0, 0), (.iload_n 2, 0, 0)] ⟨⟨d118_114, trivial⟩, ⟨d118_115, gf5_79⟩, ⟨d118_118, trivial⟩, ⟨d118_119, trivial⟩, ⟨d118_120, trivial⟩, trivial⟩ (lv' := [(5, aL ((L 45 0 w) - g)), (0, aR 23 0), (1, aN i), (2, aN w), (3, aL g)]) (st' := [aN w, aN i, aR 23 0, aR 45 0]) (w' := wd N L) (P := [vld NN 23 0]) rfl (vN (t := 23) (i := 0) (by decide)) (pc' := 121) rfl ?_
    refine Sem.cVp1 (t := 23) (i := 0) (as := [aN i, aN w]) (rst := [aR 45 0]) (c' := 0) (s' := 0) d118_121 mk115 rfl co115 lk5_153 im115 se115 rfl (vN (t := 23) (i := 0) (by decide)) (show 3 ≤ mL 115 by decide) rfl (show 1 ≤ 8 by decide) (by decide) (by decide) rfl rfl (by decide) (by decide) (m115 N L i w hi hw) ?_
    refine Sem.topNN (show (pk (mN N 19 i) (L 45 0) (L 46 0) w (12 - w)).2 = lastF (mN N 19 i) (L 45 0) w from by unfold lastF; rw [pk_cg (fun q h1 h2 => hb q (by omega) (by omega))]) ?_
    have hla := (lastF_at (D := (mN N 19 i)) (nd := L 45 0) hw).2
    refine Sem.seg [(.laload, 0, 0), (.lload_n 3, 0, 0), (.lsub, 0, 0)] ⟨⟨d118_124, trivial⟩, ⟨d118_125, trivial⟩, ⟨d118_126, trivial⟩, trivial⟩ (lv' := [(5, aL ((L 45 0 w) - g)), (0, aR 23 0), (1, aN i), (2, aN w), (3, aL g)]) (st' := [aL ((L 45 0 (lastF (mN N 19 i) (L 45 0) w)) - g)]) (w' := wd N L) (P := [vld NN 45 0, lastF (mN N 19 i) (L 45 0) w < 13]) rfl (⟨vN (t := 45) (i := 0) (by decide), (show lastF (mN N 19 i) (L 45 0) w < 13 by first | omega | exact Nat.lt_succ_of_lt hla)⟩) (pc' := 127) rfl ?_
    exact Sem.lret d118_127 rfl (by decide) (by decide) hzW ⟨congrArg (fun z => Sum.inl (some (aL z))) (show (L 45 0 (lastF (mN N 19 i) (L 45 0) w)) - g = lotF (mN N 19 i) (L 45 0) w g by show _ = lotF (mN N 19 i) (L 45 0) w g; unfold lotF; show _ = (if N 24 0 i = 1 then lmu (N 25 0 i) (L 45 0 w - g) else if N 24 0 i = 2 then L 45 0 (if 11 < w + N 25 0 i - 1 then 11 else w + N 25 0 i - 1) - g else if N 24 0 i = 3 then L 45 0 (lastF (mN N 19 i) (L 45 0) w) - g else L 45 0 w - g); rw [if_neg (show ¬ N 24 0 i = 1 by omega), if_neg (show ¬ N 24 0 i = 2 by omega), if_pos (show N 24 0 i = 3 by omega)]), rfl⟩

theorem m110 {sc : XT} (N : TN) (L : TL) (i : Nat) (hi : i < 12) (hc : CD (mN N)) : Sem sc 110 0 [(0, aR 23 0), (1, aN i)] [] (wd N L) 0 0 (Q0 fun N' L' => N = N' ∧ (∀ t a b, t ≠ 45 → t ≠ 46 → ¬ (t = 43 ∧ a = 0 ∧ 12 * i ≤ b ∧ b < 12 * i + 12) → L' t a b = L t a b) ∧ ∀ w, w < 12 → L' 43 0 (12 * i + w) = planF (mN N 19 i) (brF (mN N) i) (mW L 20 i) w) := by
  have h26 : N 26 0 i ≤ 4 := (hc.1 i hi).2.2.2.1
  refine Sem.seg [(.aload_n 0, 0, 0), (.iload_n 1, 0, 0)] ⟨⟨d110_0, trivial⟩, ⟨d110_1, trivial⟩, trivial⟩ (lv' := [(0, aR 23 0), (1, aN i)]) (st' := [aN i, aR 23 0]) (w' := wd N L) (P := []) rfl (trivial) (pc' := 2) rfl ?_
  refine Sem.cVp0 (t := 23) (i := 0) (as := [aN i]) (rst := []) (c' := 0) (s' := 0) d110_2 mk111 rfl co111 lk5_157 im111 se111 rfl (vN (t := 23) (i := 0) (by decide)) (show 2 ≤ mL 111 by decide) rfl (show 0 ≤ 8 by decide) (by decide) (by decide) rfl rfl (by decide) (by decide) (m111 N L i hi hc) ?_
  refine Sem.seg [(.aload_n 0, 0, 0), (.iload_n 1, 0, 0)] ⟨⟨d110_5, trivial⟩, ⟨d110_6, trivial⟩, trivial⟩ (lv' := [(0, aR 23 0), (1, aN i)]) (st' := [aN i, aR 23 0]) (w' := wd N (upW L 45 0 12 (needF (mN N 19 i) (brF (mN N) i) (mW L 20 i)))) (P := []) rfl (trivial) (pc' := 7) rfl ?_
  refine Sem.cVm0 (t := 23) (i := 0) (as := [aN i]) (rst := []) (c' := 0) (s' := 0) d110_7 mk114 rfl co114 lk5_160 im114 se114 rfl (vN (t := 23) (i := 0) (by decide)) (show 2 ≤ mL 114 by decide) rfl (show 0 ≤ 8 by decide) (by decide) (by decide) rfl rfl (by decide) (by decide) (m114 N (upW L 45 0 12 (needF (mN N 19 i) (brF (mN N) i) (mW L 20 i))) i hi hc) ?_
  rintro N1 L1 ⟨rfl, f1, hb⟩
  refine Sem.seg [(.lconst 0, 0, 0), (.lstore_n 2, 0, 0), (.iconst 0, 0, 0), (.istore 4, 0, 0)] ⟨⟨d110_10, trivial⟩, ⟨d110_11, trivial⟩, ⟨d110_12, trivial⟩, ⟨d110_13, trivial⟩, trivial⟩ (lv' := [(4, aN 0), (2, aL (Int64.ofNat 0)), (0, aR 23 0), (1, aN i)]) (st' := []) (w' := wd N L1) (P := []) rfl (trivial) (pc' := 15) rfl ?_
  have lp : ∀ (d : Nat) (w : Nat) (g : Int64) (L2 : TL), 12 - w = d → (w ≤ 12) → (g = gotA (mN N 19 i) (needF (mN N 19 i) (brF (mN N) i) (mW L 20 i)) w) → (∀ t a b, ¬ (t = 43 ∧ a = 0 ∧ 12 * i ≤ b ∧ b < 12 * i + w) → L2 t a b = L1 t a b) → (∀ q, q < w → L2 43 0 (12 * i + q) = planF (mN N 19 i) (brF (mN N) i) (mW L 20 i) q) → Sem sc 110 15 [(0, aR 23 0), (1, aN i), (2, aL g), (4, aN w)] [] (wd N L2) 0 0 (Q0 fun N' L' => N = N' ∧ (∀ t a b, t ≠ 45 → t ≠ 46 → ¬ (t = 43 ∧ a = 0 ∧ 12 * i ≤ b ∧ b < 12 * i + 12) → L' t a b = L t a b) ∧ ∀ w, w < 12 → L' 43 0 (12 * i + w) = planF (mN N 19 i) (brF (mN N) i) (mW L 20 i) w) := by
    intro d
    induction d using Nat.strongRecOn with
    | ind d ih =>
      intro w g L2 hd hw hg f2 hq
      refine Sem.seg [(.iload 4, 0, 0), (.bipush 12, 0, 0)] ⟨⟨d110_15, trivial⟩, ⟨d110_17, trivial⟩, trivial⟩ (lv' := [(0, aR 23 0), (1, aN i), (2, aL g), (4, aN w)]) (st' := [aN 12, aN w]) (w' := wd N L2) (P := []) rfl (trivial) (pc' := 19) rfl ?_
      refine Sem.icmpN (tgt := 84) d110_19 (by decide) (show w < 2 ^ 31 by omega) (by decide) (fun b1 => ?_) (fun b1 => ?_)
      · have b1_ : 12 ≤ w := b1
        exact Sem.vret d110_84 rfl (by decide) (by decide) hzW ⟨rfl, _, _, rfl, by exact ⟨rfl, fun t a b h1 h2 h3 => (f2 t a b (by omega)).trans ((f1 t a b h2).trans (upW_ne (by omega))), fun q h => hq q (by omega)⟩⟩
      · have b1_ : ¬ (12 ≤ w) := b1
        have e45 : L2 45 0 = (upW L 45 0 12 (needF (mN N 19 i) (brF (mN N) i) (mW L 20 i))) 45 0 := funext fun q => (f2 45 0 q (by omega)).trans (f1 45 0 q (by decide))
        have e46 : ∀ q, L2 46 0 q = L1 46 0 q := fun q => f2 46 0 q (by omega)
        have hnd : ∀ q, q < 12 → L2 45 0 q = (needF (mN N 19 i) (brF (mN N) i) (mW L 20 i)) q := fun q h => by rw [e45]; exact upW_at h
        refine Sem.seg [(.iload 4, 0, 0), (.aload_n 0, 0, 0), (.getfield 16, 5, 3), (.iload_n 1, 0, 0), (.iaload, 0, 0)] ⟨⟨d110_22, trivial⟩, ⟨d110_24, trivial⟩, ⟨d110_25, gf5_16⟩, ⟨d110_28, trivial⟩, ⟨d110_29, trivial⟩, trivial⟩ (lv' := [(0, aR 23 0), (1, aN i), (2, aL g), (4, aN w)]) (st' := [aN (N 26 0 i), aN w]) (w' := wd N L2) (P := [vld NN 23 0, vld NN 26 0, i < 12]) rfl (⟨vN (t := 23) (i := 0) (by decide), vN (t := 26) (i := 0) (by decide), (show i < 12 by omega)⟩) (pc' := 30) rfl ?_
        refine Sem.icmpN (tgt := 56) d110_30 (by decide) (show w < 2 ^ 31 by omega) (show N 26 0 i < 2 ^ 31 by omega) (fun b2 => ?_) (fun b2 => ?_)
        · have b2_ : w < N 26 0 i := b2
          refine Sem.seg [(.lconst 0, 0, 0)] ⟨⟨d110_56, trivial⟩, trivial⟩ (lv' := [(0, aR 23 0), (1, aN i), (2, aL g), (4, aN w)]) (st' := [aL (Int64.ofNat 0)]) (w' := wd N L2) (P := []) rfl (trivial) (pc' := 57) rfl ?_
          have hq1 : Int64.ofNat 0 = planF (mN N 19 i) (brF (mN N) i) (mW L 20 i) w := by
            show _ = plO _ _ _ _
            unfold plO
            rw [← hg]
            first
            | (rw [if_pos (by rw [← hnd w (by omega)]; assumption)]; rfl)
            | (rw [if_neg (by rw [← hnd w (by omega)]; assumption)]; exact lotF_cg (fun _ _ => rfl) hnd (by omega) g)
            | (rw [if_pos (by rw [needF_lt (D := (mN N 19 i)) (show w < N 26 0 i by omega), hg, gotA_lead (D := (mN N 19 i)) (show w ≤ N 26 0 i by omega)]; exact Int64.le_refl _)]; rfl)
          refine Sem.seg [(.lstore 5, 0, 0), (.aload_n 0, 0, 0), (.getfield 73, 5, 23), (.bipush 12, 0, 0), (.iload_n 1, 0, 0), (.imul, 0, 0), (.iload 4, 0, 0), (.iadd, 0, 0), (.lload 5, 0, 0)] ⟨⟨d110_57, trivial⟩, ⟨d110_59, trivial⟩, ⟨d110_60, gf5_73⟩, ⟨d110_63, trivial⟩, ⟨d110_65, trivial⟩, ⟨d110_66, trivial⟩, ⟨d110_67, trivial⟩, ⟨d110_69, trivial⟩, ⟨d110_70, trivial⟩, trivial⟩ (lv' := [(5, aL (Int64.ofNat 0)), (0, aR 23 0), (1, aN i), (2, aL g), (4, aN w)]) (st' := [aL (Int64.ofNat 0), aN ((12 * i) + w), aR 43 0]) (w' := wd N L2) (P := [vld NN 23 0]) rfl (vN (t := 23) (i := 0) (by decide)) (pc' := 72) rfl ?_
          refine Sem.seg [(.lastore, 0, 0), (.lload_n 2, 0, 0), (.lload 5, 0, 0), (.ladd, 0, 0), (.lstore_n 2, 0, 0), (.iinc 4 1, 0, 0)] ⟨⟨d110_72, trivial⟩, ⟨d110_73, trivial⟩, ⟨d110_74, trivial⟩, ⟨d110_76, trivial⟩, ⟨d110_77, trivial⟩, ⟨d110_78, trivial⟩, trivial⟩ (lv' := [(4, aN (w + 1)), (2, aL (g + (Int64.ofNat 0))), (5, aL (Int64.ofNat 0)), (0, aR 23 0), (1, aN i)]) (st' := []) (w' := wd N (upL L2 43 0 ((12 * i) + w) (Int64.ofNat 0))) (P := [vld NN 43 0, (12 * i) + w < 144]) rfl (⟨vN (t := 43) (i := 0) (by decide), (show (12 * i) + w < 144 by omega)⟩) (pc' := 81) rfl ?_
          refine Sem.goto (tgt := 15) d110_81 (by decide) ?_
          refine Sem.pick [3, 4, 1, 0] (lv' := [(0, aR 23 0), (1, aN i), (2, aL (g + (Int64.ofNat 0))), (4, aN (w + 1))]) rfl ?_
          exact ih _ (by omega) (w + 1) (g + (Int64.ofNat 0)) (upL L2 43 0 ((12 * i) + w) (Int64.ofNat 0)) rfl (by omega) (by rw [hq1, hg]; rfl) (fun t a b h => (upL_ne (by omega)).trans (f2 t a b (by omega))) (all_s (fun q h => (upL_ne (by omega)).trans (hq q h)) (upL_at.trans hq1))
        · have b2_ : ¬ (w < N 26 0 i) := b2
          refine Sem.seg [(.aload_n 0, 0, 0), (.getfield 79, 5, 25), (.iload 4, 0, 0), (.laload, 0, 0), (.lload_n 2, 0, 0)] ⟨⟨d110_33, trivial⟩, ⟨d110_34, gf5_79⟩, ⟨d110_37, trivial⟩, ⟨d110_39, trivial⟩, ⟨d110_40, trivial⟩, trivial⟩ (lv' := [(0, aR 23 0), (1, aN i), (2, aL g), (4, aN w)]) (st' := [aL g, aL (L2 45 0 w)]) (w' := wd N L2) (P := [vld NN 23 0, vld NN 45 0, w < 13]) rfl (⟨vN (t := 23) (i := 0) (by decide), vN (t := 45) (i := 0) (by decide), (show w < 13 by omega)⟩) (pc' := 41) rfl ?_
          refine Sem.lcmp (tgt := 56) d110_41 d110_42 (by decide) (fun b3 => ?_) (fun b3 => ?_)
          · have b3_ : L2 45 0 w ≤ g := b3
            refine Sem.seg [(.lconst 0, 0, 0)] ⟨⟨d110_56, trivial⟩, trivial⟩ (lv' := [(0, aR 23 0), (1, aN i), (2, aL g), (4, aN w)]) (st' := [aL (Int64.ofNat 0)]) (w' := wd N L2) (P := []) rfl (trivial) (pc' := 57) rfl ?_
            have hq1 : Int64.ofNat 0 = planF (mN N 19 i) (brF (mN N) i) (mW L 20 i) w := by
              show _ = plO _ _ _ _
              unfold plO
              rw [← hg]
              first
              | (rw [if_pos (by rw [← hnd w (by omega)]; assumption)]; rfl)
              | (rw [if_neg (by rw [← hnd w (by omega)]; assumption)]; exact lotF_cg (fun _ _ => rfl) hnd (by omega) g)
              | (rw [if_pos (by rw [needF_lt (D := (mN N 19 i)) (show w < N 26 0 i by omega), hg, gotA_lead (D := (mN N 19 i)) (show w ≤ N 26 0 i by omega)]; exact Int64.le_refl _)]; rfl)
            refine Sem.seg [(.lstore 5, 0, 0), (.aload_n 0, 0, 0), (.getfield 73, 5, 23), (.bipush 12, 0, 0), (.iload_n 1, 0, 0), (.imul, 0, 0), (.iload 4, 0, 0), (.iadd, 0, 0), (.lload 5, 0, 0)] ⟨⟨d110_57, trivial⟩, ⟨d110_59, trivial⟩, ⟨d110_60, gf5_73⟩, ⟨d110_63, trivial⟩, ⟨d110_65, trivial⟩, ⟨d110_66, trivial⟩, ⟨d110_67, trivial⟩, ⟨d110_69, trivial⟩, ⟨d110_70, trivial⟩, trivial⟩ (lv' := [(5, aL (Int64.ofNat 0)), (0, aR 23 0), (1, aN i), (2, aL g), (4, aN w)]) (st' := [aL (Int64.ofNat 0), aN ((12 * i) + w), aR 43 0]) (w' := wd N L2) (P := [vld NN 23 0]) rfl (vN (t := 23) (i := 0) (by decide)) (pc' := 72) rfl ?_
            refine Sem.seg [(.lastore, 0, 0), (.lload_n 2, 0, 0), (.lload 5, 0, 0), (.ladd, 0, 0), (.lstore_n 2, 0, 0), (.iinc 4 1, 0, 0)] ⟨⟨d110_72, trivial⟩, ⟨d110_73, trivial⟩, ⟨d110_74, trivial⟩, ⟨d110_76, trivial⟩, ⟨d110_77, trivial⟩, ⟨d110_78, trivial⟩, trivial⟩ (lv' := [(4, aN (w + 1)), (2, aL (g + (Int64.ofNat 0))), (5, aL (Int64.ofNat 0)), (0, aR 23 0), (1, aN i)]) (st' := []) (w' := wd N (upL L2 43 0 ((12 * i) + w) (Int64.ofNat 0))) (P := [vld NN 43 0, (12 * i) + w < 144]) rfl (⟨vN (t := 43) (i := 0) (by decide), (show (12 * i) + w < 144 by omega)⟩) (pc' := 81) rfl ?_
            refine Sem.goto (tgt := 15) d110_81 (by decide) ?_
            refine Sem.pick [3, 4, 1, 0] (lv' := [(0, aR 23 0), (1, aN i), (2, aL (g + (Int64.ofNat 0))), (4, aN (w + 1))]) rfl ?_
            exact ih _ (by omega) (w + 1) (g + (Int64.ofNat 0)) (upL L2 43 0 ((12 * i) + w) (Int64.ofNat 0)) rfl (by omega) (by rw [hq1, hg]; rfl) (fun t a b h => (upL_ne (by omega)).trans (f2 t a b (by omega))) (all_s (fun q h => (upL_ne (by omega)).trans (hq q h)) (upL_at.trans hq1))
          · have b3_ : ¬ (L2 45 0 w ≤ g) := b3
            refine Sem.seg [(.aload_n 0, 0, 0), (.iload_n 1, 0, 0), (.iload 4, 0, 0), (.lload_n 2, 0, 0)] ⟨⟨d110_45, trivial⟩, ⟨d110_46, trivial⟩, ⟨d110_47, trivial⟩, ⟨d110_49, trivial⟩, trivial⟩ (lv' := [(0, aR 23 0), (1, aN i), (2, aL g), (4, aN w)]) (st' := [aL g, aN w, aN i, aR 23 0]) (w' := wd N L2) (P := []) rfl (trivial) (pc' := 50) rfl ?_
            refine Sem.cVp1 (t := 23) (i := 0) (as := [aN i, aN w, aL g]) (rst := []) (c' := 0) (s' := 0) d110_50 mk118 rfl co118 lk5_163 im118 se118 rfl (vN (t := 23) (i := 0) (by decide)) (show 5 ≤ mL 118 by decide) rfl (show 0 ≤ 8 by decide) (by decide) (by decide) rfl rfl (by decide) (by decide) (m118 N L2 i w g hi (by omega) (by omega) hc (fun q h1 h2 => by rw [e46, e45]; exact hb q h1 h2)) ?_
            refine Sem.goto (tgt := 57) d110_53 (by decide) ?_
            have hq1 : lotF (mN N 19 i) (L2 45 0) w g = planF (mN N 19 i) (brF (mN N) i) (mW L 20 i) w := by
              show _ = plO _ _ _ _
              unfold plO
              rw [← hg]
              first
              | (rw [if_pos (by rw [← hnd w (by omega)]; assumption)]; rfl)
              | (rw [if_neg (by rw [← hnd w (by omega)]; assumption)]; exact lotF_cg (fun _ _ => rfl) hnd (by omega) g)
              | (rw [if_pos (by rw [needF_lt (D := (mN N 19 i)) (show w < N 26 0 i by omega), hg, gotA_lead (D := (mN N 19 i)) (show w ≤ N 26 0 i by omega)]; exact Int64.le_refl _)]; rfl)
            refine Sem.seg [(.lstore 5, 0, 0), (.aload_n 0, 0, 0), (.getfield 73, 5, 23), (.bipush 12, 0, 0), (.iload_n 1, 0, 0), (.imul, 0, 0), (.iload 4, 0, 0), (.iadd, 0, 0), (.lload 5, 0, 0)] ⟨⟨d110_57, trivial⟩, ⟨d110_59, trivial⟩, ⟨d110_60, gf5_73⟩, ⟨d110_63, trivial⟩, ⟨d110_65, trivial⟩, ⟨d110_66, trivial⟩, ⟨d110_67, trivial⟩, ⟨d110_69, trivial⟩, ⟨d110_70, trivial⟩, trivial⟩ (lv' := [(5, aL (lotF (mN N 19 i) (L2 45 0) w g)), (0, aR 23 0), (1, aN i), (2, aL g), (4, aN w)]) (st' := [aL (lotF (mN N 19 i) (L2 45 0) w g), aN ((12 * i) + w), aR 43 0]) (w' := wd N L2) (P := [vld NN 23 0]) rfl (vN (t := 23) (i := 0) (by decide)) (pc' := 72) rfl ?_
            refine Sem.seg [(.lastore, 0, 0), (.lload_n 2, 0, 0), (.lload 5, 0, 0), (.ladd, 0, 0), (.lstore_n 2, 0, 0), (.iinc 4 1, 0, 0)] ⟨⟨d110_72, trivial⟩, ⟨d110_73, trivial⟩, ⟨d110_74, trivial⟩, ⟨d110_76, trivial⟩, ⟨d110_77, trivial⟩, ⟨d110_78, trivial⟩, trivial⟩ (lv' := [(4, aN (w + 1)), (2, aL (g + (lotF (mN N 19 i) (L2 45 0) w g))), (5, aL (lotF (mN N 19 i) (L2 45 0) w g)), (0, aR 23 0), (1, aN i)]) (st' := []) (w' := wd N (upL L2 43 0 ((12 * i) + w) (lotF (mN N 19 i) (L2 45 0) w g))) (P := [vld NN 43 0, (12 * i) + w < 144]) rfl (⟨vN (t := 43) (i := 0) (by decide), (show (12 * i) + w < 144 by omega)⟩) (pc' := 81) rfl ?_
            refine Sem.goto (tgt := 15) d110_81 (by decide) ?_
            refine Sem.pick [3, 4, 1, 0] (lv' := [(0, aR 23 0), (1, aN i), (2, aL (g + (lotF (mN N 19 i) (L2 45 0) w g))), (4, aN (w + 1))]) rfl ?_
            exact ih _ (by omega) (w + 1) (g + (lotF (mN N 19 i) (L2 45 0) w g)) (upL L2 43 0 ((12 * i) + w) (lotF (mN N 19 i) (L2 45 0) w g)) rfl (by omega) (by rw [hq1, hg]; rfl) (fun t a b h => (upL_ne (by omega)).trans (f2 t a b (by omega))) (all_s (fun q h => (upL_ne (by omega)).trans (hq q h)) (upL_at.trans hq1))
  refine Sem.pick [2, 3, 1, 0] (lv' := [(0, aR 23 0), (1, aN i), (2, aL (Int64.ofNat 0)), (4, aN 0)]) rfl ?_
  exact lp _ 0 (Int64.ofNat 0) L1 rfl (by omega) (rfl) (fun t a b _ => rfl) (fun q h => absurd h (by omega))

/-- what the model's net leaves -/
def PM (N : TN) (L : TL) (i z : Nat) (N' : TN) (L' : TL) : Prop :=
  N' = upN N 41 0 i 0 ∧ (∀ t a b, t ≠ 44 → t ≠ 45 → t ≠ 46 → ¬ (t = 42 ∧ a = 0 ∧ 12 * i ≤ b ∧ b < 12 * i + 12) → ¬ (t = 43 ∧ a = 0 ∧ 12 * i ≤ b ∧ b < 12 * i + 12) → L' t a b = L t a b) ∧
  (∀ w, w < 12 → L' 42 0 (12 * i + w) = grF (mN N) (mW L) i w ∧ L' 43 0 (12 * i + w) = planF (mN N 19 i) (brF (mN N) i) (grF (mN N) (mW L) i) w) ∧
  z = bo (¬ mN N 19 i 10 = 0 ∨ ¬ ∀ w, w < 12 → grF (mN N) (mW L) i w = L 42 0 (12 * i + w))

theorem m106 {sc : XT} (N : TN) (L : TL) (i : Nat) (hi : i < 12) (hc : CD (mN N)) (h19 : N 23 0 19 ≤ 1) (h41 : N 41 0 i ≤ 1) : Sem sc 106 0 [(0, aR 23 0), (1, aN i)] [] (wd N L) 0 0 (QZ (PM N L i)) := by
  refine Sem.seg [(.aload_n 0, 0, 0), (.getfield 167, 5, 19)] ⟨⟨d106_0, trivial⟩, ⟨d106_1, gf5_167⟩, trivial⟩ (lv' := [(0, aR 23 0), (1, aN i)]) (st' := [aN (N 23 0 19)]) (w' := wd N L) (P := [vld NN 23 0]) rfl (vN (t := 23) (i := 0) (by decide)) (pc' := 4) rfl ?_
  refine Sem.ifN (tgt := 16) d106_4 (by decide) (show N 23 0 19 < 2 ^ 31 by omega) (fun b1 => ?_) (fun b1 => ?_)
  · have b1_ : N 23 0 19 = 0 := b1
    refine Sem.seg [(.iconst 1, 0, 0)] ⟨⟨d106_16, trivial⟩, trivial⟩ (lv' := [(0, aR 23 0), (1, aN i)]) (st' := [aN 1]) (w' := wd N L) (P := []) rfl (trivial) (pc' := 17) rfl ?_
    refine Sem.goto (tgt := 21) d106_17 (by decide) ?_
    refine Sem.seg [(.istore_n 2, 0, 0), (.iconst 0, 0, 0), (.istore_n 3, 0, 0)] ⟨⟨d106_21, trivial⟩, ⟨d106_22, trivial⟩, ⟨d106_23, trivial⟩, trivial⟩ (lv' := [(3, aN 0), (2, aN 1), (0, aR 23 0), (1, aN i)]) (st' := []) (w' := wd N L) (P := []) rfl (trivial) (pc' := 24) rfl ?_
    have lpa : ∀ (d : Nat) (w c : Nat), 12 - w = d → (w ≤ 12) → (c = bo (¬ mN N 19 i 10 = 0)) → Sem sc 106 24 [(0, aR 23 0), (1, aN i), (2, aN c), (3, aN w)] [] (wd N (upW L 44 0 w (grF (mN N) (mW L) i))) 0 0 (QZ (PM N L i)) := by
      intro da
      induction da using Nat.strongRecOn with
      | ind da iha =>
        intro w c hda hw hc0
        refine Sem.seg [(.iload_n 3, 0, 0), (.bipush 12, 0, 0)] ⟨⟨d106_24, trivial⟩, ⟨d106_25, trivial⟩, trivial⟩ (lv' := [(0, aR 23 0), (1, aN i), (2, aN c), (3, aN w)]) (st' := [aN 12, aN w]) (w' := wd N (upW L 44 0 w (grF (mN N) (mW L) i))) (P := []) rfl (trivial) (pc' := 27) rfl ?_
        refine Sem.icmpN (tgt := 48) d106_27 (by decide) (show w < 2 ^ 31 by omega) (by decide) (fun b2 => ?_) (fun b2 => ?_)
        · have b2_ : 12 ≤ w := b2
          obtain rfl : w = 12 := by omega
          refine Sem.seg [(.iconst 0, 0, 0), (.istore_n 3, 0, 0)] ⟨⟨d106_48, trivial⟩, ⟨d106_49, trivial⟩, trivial⟩ (lv' := [(3, aN 0), (0, aR 23 0), (1, aN i), (2, aN c)]) (st' := []) (w' := wd N (upW L 44 0 12 (grF (mN N) (mW L) i))) (P := []) rfl (trivial) (pc' := 50) rfl ?_
          have lpb : ∀ (d : Nat) (w c : Nat) (L1 : TL), 12 - w = d → (w ≤ 12) → (∀ t a b, ¬ (t = 42 ∧ a = 0 ∧ 12 * i ≤ b ∧ b < 12 * i + w) → L1 t a b = (upW L 44 0 12 (grF (mN N) (mW L) i)) t a b) → (∀ q, q < w → L1 42 0 (12 * i + q) = (grF (mN N) (mW L) i) q) → (c = bo (¬ mN N 19 i 10 = 0 ∨ ¬ ∀ q, q < w → (grF (mN N) (mW L) i) q = L 42 0 (12 * i + q))) → Sem sc 106 50 [(0, aR 23 0), (1, aN i), (2, aN c), (3, aN w)] [] (wd N L1) 0 0 (QZ (PM N L i)) := by
            intro db
            induction db using Nat.strongRecOn with
            | ind db ihb =>
              intro w c L1 hdb hw f1 hq hc1
              refine Sem.seg [(.iload_n 3, 0, 0), (.bipush 12, 0, 0)] ⟨⟨d106_50, trivial⟩, ⟨d106_51, trivial⟩, trivial⟩ (lv' := [(0, aR 23 0), (1, aN i), (2, aN c), (3, aN w)]) (st' := [aN 12, aN w]) (w' := wd N L1) (P := []) rfl (trivial) (pc' := 53) rfl ?_
              refine Sem.icmpN (tgt := 110) d106_53 (by decide) (show w < 2 ^ 31 by omega) (by decide) (fun b3 => ?_) (fun b3 => ?_)
              · have b3_ : 12 ≤ w := b3
                obtain rfl : w = 12 := by omega
                refine Sem.seg [(.aload_n 0, 0, 0), (.iload_n 1, 0, 0)] ⟨⟨d106_110, trivial⟩, ⟨d106_111, trivial⟩, trivial⟩ (lv' := [(0, aR 23 0), (1, aN i), (2, aN c), (3, aN 12)]) (st' := [aN i, aR 23 0]) (w' := wd N L1) (P := []) rfl (trivial) (pc' := 112) rfl ?_
                refine Sem.cVm0 (t := 23) (i := 0) (as := [aN i]) (rst := []) (c' := 0) (s' := 0) d106_112 mk110 rfl co110 lk5_173 im110 se110 rfl (vN (t := 23) (i := 0) (by decide)) (show 2 ≤ mL 110 by decide) rfl (show 0 ≤ 8 by decide) (by decide) (by decide) rfl rfl (by decide) (by decide) (m110 N L1 i hi hc) ?_
                rintro N1 L2 ⟨rfl, f2, hp⟩
                refine Sem.seg [(.aload_n 0, 0, 0), (.getfield 65, 5, 21), (.iload_n 1, 0, 0), (.iconst 0, 0, 0), (.bastore, 0, 0)] ⟨⟨d106_115, trivial⟩, ⟨d106_116, gf5_65⟩, ⟨d106_119, trivial⟩, ⟨d106_120, trivial⟩, ⟨d106_121, trivial⟩, trivial⟩ (lv' := [(0, aR 23 0), (1, aN i), (2, aN c), (3, aN 12)]) (st' := []) (w' := wd (upN N 41 0 i 0) L2) (P := [vld NN 23 0, vld NN 41 0, i < 12, 0 = 0 ∨ 0 = 1]) rfl (⟨vN (t := 23) (i := 0) (by decide), vN (t := 41) (i := 0) (by decide), (show i < 12 by omega), (show (0 : Nat) = 0 ∨ (0 : Nat) = 1 by decide)⟩) (pc' := 122) rfl ?_
                have hgr : ∀ q, q < 12 → mW L1 20 i q = (grF (mN N) (mW L) i) q := fun q h => hq q h
                have hz1 := bo_le (¬ mN N 19 i 10 = 0 ∨ ¬ ∀ q, q < 12 → (grF (mN N) (mW L) i) q = L 42 0 (12 * i + q))
                refine Sem.seg [(.iload_n 2, 0, 0)] ⟨⟨d106_122, trivial⟩, trivial⟩ (lv' := [(0, aR 23 0), (1, aN i), (2, aN c), (3, aN 12)]) (st' := [aN c]) (w' := wd (upN N 41 0 i 0) L2) (P := []) rfl (trivial) (pc' := 123) rfl ?_
                refine Sem.iret rfl d106_123 (Or.inr ⟨rfl, by rw [hc1]; exact bo_01 _⟩) (by decide) (by decide) hzW ⟨_, _, _, rfl, rfl, ?_⟩
                refine ⟨rfl, fun t a b h1 h2 h3 h4 h5 => (f2 t a b h2 h3 h5).trans ((f1 t a b h4).trans (upW_ne (by omega))), fun w hw => ⟨(f2 42 0 _ (by omega) (by omega) (by omega)).trans (hq w hw), (hp w hw).trans (planF_cg (fun _ _ => rfl) (fun _ _ => rfl) hgr hw)⟩, hc1⟩
                skip
              · have b3_ : ¬ (12 ≤ w) := b3
                have e44 : L1 44 0 w = (grF (mN N) (mW L) i) w := (f1 44 0 w (by omega)).trans (upW_at (by omega))
                have e42 : L1 42 0 (12 * i + w) = L 42 0 (12 * i + w) := (f1 42 0 _ (by omega)).trans (upW_ne (by omega))
                have hc2 := bo_le (¬ mN N 19 i 10 = 0 ∨ ¬ ∀ q, q < w → (grF (mN N) (mW L) i) q = L 42 0 (12 * i + q))
                refine Sem.seg [(.iload_n 2, 0, 0)] ⟨⟨d106_56, trivial⟩, trivial⟩ (lv' := [(0, aR 23 0), (1, aN i), (2, aN c), (3, aN w)]) (st' := [aN c]) (w' := wd N L1) (P := []) rfl (trivial) (pc' := 57) rfl ?_
                refine Sem.ifN (tgt := 81) d106_57 (by decide) (show c < 2 ^ 31 by omega) (fun b4 => ?_) (fun b4 => ?_)
                · have b4_ : ¬ c = 0 := b4
                  refine Sem.seg [(.iconst 1, 0, 0)] ⟨⟨d106_81, trivial⟩, trivial⟩ (lv' := [(0, aR 23 0), (1, aN i), (2, aN c), (3, aN w)]) (st' := [aN 1]) (w' := wd N L1) (P := []) rfl (trivial) (pc' := 82) rfl ?_
                  refine Sem.goto (tgt := 86) d106_82 (by decide) ?_
                  refine Sem.seg [(.istore_n 2, 0, 0)] ⟨⟨d106_86, trivial⟩, trivial⟩ (lv' := [(2, aN 1), (0, aR 23 0), (1, aN i), (3, aN w)]) (st' := []) (w' := wd N L1) (P := []) rfl (trivial) (pc' := 87) rfl ?_
                  have hcn : 1 = bo (¬ mN N 19 i 10 = 0 ∨ ¬ ∀ q, q < w + 1 → (grF (mN N) (mW L) i) q = L 42 0 (12 * i + q)) := by
                    first
                    | (refine (bo_t ?_).symm
                       have hP : ¬ mN N 19 i 10 = 0 ∨ ¬ ∀ q, q < w → (grF (mN N) (mW L) i) q = L 42 0 (12 * i + q) := Classical.byContradiction fun z => (by assumption : ¬ c = 0) (hc1.trans (bo_f z))
                       exact hP.elim Or.inl (fun z => Or.inr (fun y => z (fun q hq => y q (by omega)))))
                    | (refine (bo_t ?_).symm
                       exact Or.inr (fun y => absurd ((e44.trans (y w (by omega))).trans e42.symm) (by assumption)))
                    | (refine (bo_f ?_).symm
                       have hP : ¬ (¬ mN N 19 i 10 = 0 ∨ ¬ ∀ q, q < w → (grF (mN N) (mW L) i) q = L 42 0 (12 * i + q)) := fun z => absurd (hc1.trans (bo_t z)) (by omega)
                       intro z
                       refine hP (z.elim Or.inl (fun y => Or.inr (fun x => y (all_s x ?_))))
                       rw [← e44, ← e42]; assumption)
                  refine Sem.seg [(.aload_n 0, 0, 0), (.getfield 69, 5, 22), (.bipush 12, 0, 0), (.iload_n 1, 0, 0), (.imul, 0, 0), (.iload_n 3, 0, 0), (.iadd, 0, 0), (.aload_n 0, 0, 0), (.getfield 76, 5, 24)] ⟨⟨d106_87, trivial⟩, ⟨d106_88, gf5_69⟩, ⟨d106_91, trivial⟩, ⟨d106_93, trivial⟩, ⟨d106_94, trivial⟩, ⟨d106_95, trivial⟩, ⟨d106_96, trivial⟩, ⟨d106_97, trivial⟩, ⟨d106_98, gf5_76⟩, trivial⟩ (lv' := [(2, aN 1), (0, aR 23 0), (1, aN i), (3, aN w)]) (st' := [aR 44 0, aN ((12 * i) + w), aR 42 0]) (w' := wd N L1) (P := [vld NN 23 0, vld NN 23 0]) rfl (⟨vN (t := 23) (i := 0) (by decide), vN (t := 23) (i := 0) (by decide)⟩) (pc' := 101) rfl ?_
                  refine Sem.seg [(.iload_n 3, 0, 0), (.laload, 0, 0), (.lastore, 0, 0), (.iinc 3 1, 0, 0)] ⟨⟨d106_101, trivial⟩, ⟨d106_102, trivial⟩, ⟨d106_103, trivial⟩, ⟨d106_104, trivial⟩, trivial⟩ (lv' := [(3, aN (w + 1)), (2, aN 1), (0, aR 23 0), (1, aN i)]) (st' := []) (w' := wd N (upL L1 42 0 ((12 * i) + w) (L1 44 0 w))) (P := [vld NN 44 0, w < 12, vld NN 42 0, (12 * i) + w < 144]) rfl (⟨vN (t := 44) (i := 0) (by decide), (show w < 12 by omega), vN (t := 42) (i := 0) (by decide), (show (12 * i) + w < 144 by omega)⟩) (pc' := 107) rfl ?_
                  refine Sem.goto (tgt := 50) d106_107 (by decide) ?_
                  refine Sem.pick [2, 3, 1, 0] (lv' := [(0, aR 23 0), (1, aN i), (2, aN 1), (3, aN (w + 1))]) rfl ?_
                  exact ihb _ (by omega) (w + 1) 1 (upL L1 42 0 ((12 * i) + w) (L1 44 0 w)) rfl (by omega) (fun t a b h => (upL_ne (by omega)).trans (f1 t a b (by omega))) (all_s (fun q h => (upL_ne (by omega)).trans (hq q h)) (upL_at.trans e44)) (hcn)
                · have b4_ : ¬ (¬ c = 0) := b4
                  refine Sem.seg [(.aload_n 0, 0, 0), (.getfield 76, 5, 24), (.iload_n 3, 0, 0), (.laload, 0, 0), (.aload_n 0, 0, 0), (.getfield 69, 5, 22), (.bipush 12, 0, 0), (.iload_n 1, 0, 0), (.imul, 0, 0)] ⟨⟨d106_60, trivial⟩, ⟨d106_61, gf5_76⟩, ⟨d106_64, trivial⟩, ⟨d106_65, trivial⟩, ⟨d106_66, trivial⟩, ⟨d106_67, gf5_69⟩, ⟨d106_70, trivial⟩, ⟨d106_72, trivial⟩, ⟨d106_73, trivial⟩, trivial⟩ (lv' := [(0, aR 23 0), (1, aN i), (2, aN c), (3, aN w)]) (st' := [aN (12 * i), aR 42 0, aL (L1 44 0 w)]) (w' := wd N L1) (P := [vld NN 23 0, vld NN 44 0, w < 12, vld NN 23 0]) rfl (⟨vN (t := 23) (i := 0) (by decide), vN (t := 44) (i := 0) (by decide), (show w < 12 by omega), vN (t := 23) (i := 0) (by decide)⟩) (pc' := 74) rfl ?_
                  refine Sem.seg [(.iload_n 3, 0, 0), (.iadd, 0, 0), (.laload, 0, 0)] ⟨⟨d106_74, trivial⟩, ⟨d106_75, trivial⟩, ⟨d106_76, trivial⟩, trivial⟩ (lv' := [(0, aR 23 0), (1, aN i), (2, aN c), (3, aN w)]) (st' := [aL (L1 42 0 ((12 * i) + w)), aL (L1 44 0 w)]) (w' := wd N L1) (P := [vld NN 42 0, (12 * i) + w < 144]) rfl (⟨vN (t := 42) (i := 0) (by decide), (show (12 * i) + w < 144 by omega)⟩) (pc' := 77) rfl ?_
                  refine Sem.lcmp (tgt := 85) d106_77 d106_78 (by decide) (fun b5 => ?_) (fun b5 => ?_)
                  · have b5_ : L1 44 0 w = L1 42 0 ((12 * i) + w) := b5
                    refine Sem.seg [(.iconst 0, 0, 0), (.istore_n 2, 0, 0)] ⟨⟨d106_85, trivial⟩, ⟨d106_86, trivial⟩, trivial⟩ (lv' := [(2, aN 0), (0, aR 23 0), (1, aN i), (3, aN w)]) (st' := []) (w' := wd N L1) (P := []) rfl (trivial) (pc' := 87) rfl ?_
                    have hcn : 0 = bo (¬ mN N 19 i 10 = 0 ∨ ¬ ∀ q, q < w + 1 → (grF (mN N) (mW L) i) q = L 42 0 (12 * i + q)) := by
                      first
                      | (refine (bo_t ?_).symm
                         have hP : ¬ mN N 19 i 10 = 0 ∨ ¬ ∀ q, q < w → (grF (mN N) (mW L) i) q = L 42 0 (12 * i + q) := Classical.byContradiction fun z => (by assumption : ¬ c = 0) (hc1.trans (bo_f z))
                         exact hP.elim Or.inl (fun z => Or.inr (fun y => z (fun q hq => y q (by omega)))))
                      | (refine (bo_t ?_).symm
                         exact Or.inr (fun y => absurd ((e44.trans (y w (by omega))).trans e42.symm) (by assumption)))
                      | (refine (bo_f ?_).symm
                         have hP : ¬ (¬ mN N 19 i 10 = 0 ∨ ¬ ∀ q, q < w → (grF (mN N) (mW L) i) q = L 42 0 (12 * i + q)) := fun z => absurd (hc1.trans (bo_t z)) (by omega)
                         intro z
                         refine hP (z.elim Or.inl (fun y => Or.inr (fun x => y (all_s x ?_))))
                         rw [← e44, ← e42]; assumption)
                    refine Sem.seg [(.aload_n 0, 0, 0), (.getfield 69, 5, 22), (.bipush 12, 0, 0), (.iload_n 1, 0, 0), (.imul, 0, 0), (.iload_n 3, 0, 0), (.iadd, 0, 0), (.aload_n 0, 0, 0), (.getfield 76, 5, 24)] ⟨⟨d106_87, trivial⟩, ⟨d106_88, gf5_69⟩, ⟨d106_91, trivial⟩, ⟨d106_93, trivial⟩, ⟨d106_94, trivial⟩, ⟨d106_95, trivial⟩, ⟨d106_96, trivial⟩, ⟨d106_97, trivial⟩, ⟨d106_98, gf5_76⟩, trivial⟩ (lv' := [(2, aN 0), (0, aR 23 0), (1, aN i), (3, aN w)]) (st' := [aR 44 0, aN ((12 * i) + w), aR 42 0]) (w' := wd N L1) (P := [vld NN 23 0, vld NN 23 0]) rfl (⟨vN (t := 23) (i := 0) (by decide), vN (t := 23) (i := 0) (by decide)⟩) (pc' := 101) rfl ?_
                    refine Sem.seg [(.iload_n 3, 0, 0), (.laload, 0, 0), (.lastore, 0, 0), (.iinc 3 1, 0, 0)] ⟨⟨d106_101, trivial⟩, ⟨d106_102, trivial⟩, ⟨d106_103, trivial⟩, ⟨d106_104, trivial⟩, trivial⟩ (lv' := [(3, aN (w + 1)), (2, aN 0), (0, aR 23 0), (1, aN i)]) (st' := []) (w' := wd N (upL L1 42 0 ((12 * i) + w) (L1 44 0 w))) (P := [vld NN 44 0, w < 12, vld NN 42 0, (12 * i) + w < 144]) rfl (⟨vN (t := 44) (i := 0) (by decide), (show w < 12 by omega), vN (t := 42) (i := 0) (by decide), (show (12 * i) + w < 144 by omega)⟩) (pc' := 107) rfl ?_
                    refine Sem.goto (tgt := 50) d106_107 (by decide) ?_
                    refine Sem.pick [2, 3, 1, 0] (lv' := [(0, aR 23 0), (1, aN i), (2, aN 0), (3, aN (w + 1))]) rfl ?_
                    exact ihb _ (by omega) (w + 1) 0 (upL L1 42 0 ((12 * i) + w) (L1 44 0 w)) rfl (by omega) (fun t a b h => (upL_ne (by omega)).trans (f1 t a b (by omega))) (all_s (fun q h => (upL_ne (by omega)).trans (hq q h)) (upL_at.trans e44)) (hcn)
                  · have b5_ : ¬ (L1 44 0 w = L1 42 0 ((12 * i) + w)) := b5
                    refine Sem.seg [(.iconst 1, 0, 0)] ⟨⟨d106_81, trivial⟩, trivial⟩ (lv' := [(0, aR 23 0), (1, aN i), (2, aN c), (3, aN w)]) (st' := [aN 1]) (w' := wd N L1) (P := []) rfl (trivial) (pc' := 82) rfl ?_
                    refine Sem.goto (tgt := 86) d106_82 (by decide) ?_
                    refine Sem.seg [(.istore_n 2, 0, 0)] ⟨⟨d106_86, trivial⟩, trivial⟩ (lv' := [(2, aN 1), (0, aR 23 0), (1, aN i), (3, aN w)]) (st' := []) (w' := wd N L1) (P := []) rfl (trivial) (pc' := 87) rfl ?_
                    have hcn : 1 = bo (¬ mN N 19 i 10 = 0 ∨ ¬ ∀ q, q < w + 1 → (grF (mN N) (mW L) i) q = L 42 0 (12 * i + q)) := by
                      first
                      | (refine (bo_t ?_).symm
                         have hP : ¬ mN N 19 i 10 = 0 ∨ ¬ ∀ q, q < w → (grF (mN N) (mW L) i) q = L 42 0 (12 * i + q) := Classical.byContradiction fun z => (by assumption : ¬ c = 0) (hc1.trans (bo_f z))
                         exact hP.elim Or.inl (fun z => Or.inr (fun y => z (fun q hq => y q (by omega)))))
                      | (refine (bo_t ?_).symm
                         exact Or.inr (fun y => absurd ((e44.trans (y w (by omega))).trans e42.symm) (by assumption)))
                      | (refine (bo_f ?_).symm
                         have hP : ¬ (¬ mN N 19 i 10 = 0 ∨ ¬ ∀ q, q < w → (grF (mN N) (mW L) i) q = L 42 0 (12 * i + q)) := fun z => absurd (hc1.trans (bo_t z)) (by omega)
                         intro z
                         refine hP (z.elim Or.inl (fun y => Or.inr (fun x => y (all_s x ?_))))
                         rw [← e44, ← e42]; assumption)
                    refine Sem.seg [(.aload_n 0, 0, 0), (.getfield 69, 5, 22), (.bipush 12, 0, 0), (.iload_n 1, 0, 0), (.imul, 0, 0), (.iload_n 3, 0, 0), (.iadd, 0, 0), (.aload_n 0, 0, 0), (.getfield 76, 5, 24)] ⟨⟨d106_87, trivial⟩, ⟨d106_88, gf5_69⟩, ⟨d106_91, trivial⟩, ⟨d106_93, trivial⟩, ⟨d106_94, trivial⟩, ⟨d106_95, trivial⟩, ⟨d106_96, trivial⟩, ⟨d106_97, trivial⟩, ⟨d106_98, gf5_76⟩, trivial⟩ (lv' := [(2, aN 1), (0, aR 23 0), (1, aN i), (3, aN w)]) (st' := [aR 44 0, aN ((12 * i) + w), aR 42 0]) (w' := wd N L1) (P := [vld NN 23 0, vld NN 23 0]) rfl (⟨vN (t := 23) (i := 0) (by decide), vN (t := 23) (i := 0) (by decide)⟩) (pc' := 101) rfl ?_
                    refine Sem.seg [(.iload_n 3, 0, 0), (.laload, 0, 0), (.lastore, 0, 0), (.iinc 3 1, 0, 0)] ⟨⟨d106_101, trivial⟩, ⟨d106_102, trivial⟩, ⟨d106_103, trivial⟩, ⟨d106_104, trivial⟩, trivial⟩ (lv' := [(3, aN (w + 1)), (2, aN 1), (0, aR 23 0), (1, aN i)]) (st' := []) (w' := wd N (upL L1 42 0 ((12 * i) + w) (L1 44 0 w))) (P := [vld NN 44 0, w < 12, vld NN 42 0, (12 * i) + w < 144]) rfl (⟨vN (t := 44) (i := 0) (by decide), (show w < 12 by omega), vN (t := 42) (i := 0) (by decide), (show (12 * i) + w < 144 by omega)⟩) (pc' := 107) rfl ?_
                    refine Sem.goto (tgt := 50) d106_107 (by decide) ?_
                    refine Sem.pick [2, 3, 1, 0] (lv' := [(0, aR 23 0), (1, aN i), (2, aN 1), (3, aN (w + 1))]) rfl ?_
                    exact ihb _ (by omega) (w + 1) 1 (upL L1 42 0 ((12 * i) + w) (L1 44 0 w)) rfl (by omega) (fun t a b h => (upL_ne (by omega)).trans (f1 t a b (by omega))) (all_s (fun q h => (upL_ne (by omega)).trans (hq q h)) (upL_at.trans e44)) (hcn)
          refine Sem.pick [1, 2, 3, 0] (lv' := [(0, aR 23 0), (1, aN i), (2, aN c), (3, aN 0)]) rfl ?_
          exact lpb _ 0 c (upW L 44 0 12 (grF (mN N) (mW L) i)) rfl (by omega) (fun _ _ _ _ => rfl) (fun q h => absurd h (by omega)) (by rw [hc0]; exact bo_cg ⟨Or.inl, fun h => h.elim id (fun z => absurd (fun q hq => absurd hq (by omega)) z)⟩)
        · have b2_ : ¬ (12 ≤ w) := b2
          refine Sem.seg [(.aload_n 0, 0, 0), (.getfield 76, 5, 24), (.iload_n 3, 0, 0), (.aload_n 0, 0, 0), (.iload_n 1, 0, 0), (.iload_n 3, 0, 0)] ⟨⟨d106_30, trivial⟩, ⟨d106_31, gf5_76⟩, ⟨d106_34, trivial⟩, ⟨d106_35, trivial⟩, ⟨d106_36, trivial⟩, ⟨d106_37, trivial⟩, trivial⟩ (lv' := [(0, aR 23 0), (1, aN i), (2, aN c), (3, aN w)]) (st' := [aN w, aN i, aR 23 0, aN w, aR 44 0]) (w' := wd N (upW L 44 0 w (grF (mN N) (mW L) i))) (P := [vld NN 23 0]) rfl (vN (t := 23) (i := 0) (by decide)) (pc' := 38) rfl ?_
          refine Sem.cVp1 (t := 23) (i := 0) (as := [aN i, aN w]) (rst := [aN w, aR 44 0]) (c' := 0) (s' := 0) d106_38 mk107 rfl co107 lk5_170 im107 se107 rfl (vN (t := 23) (i := 0) (by decide)) (show 3 ≤ mL 107 by decide) rfl (show 2 ≤ 8 by decide) (by decide) (by decide) rfl rfl (by decide) (by decide) (m107 N (upW L 44 0 w (grF (mN N) (mW L) i)) i w hi (by omega) hc) ?_
          refine Sem.seg [(.lastore, 0, 0), (.iinc 3 1, 0, 0)] ⟨⟨d106_41, trivial⟩, ⟨d106_42, trivial⟩, trivial⟩ (lv' := [(3, aN (w + 1)), (0, aR 23 0), (1, aN i), (2, aN c)]) (st' := []) (w' := wd N (upL (upW L 44 0 w (grF (mN N) (mW L) i)) 44 0 w (grF (mN N) (mW L) i w))) (P := [vld NN 44 0, w < 12]) rfl (⟨vN (t := 44) (i := 0) (by decide), (show w < 12 by omega)⟩) (pc' := 45) rfl ?_
          refine Sem.goto (tgt := 24) d106_45 (by decide) ?_
          refine Sem.pick [1, 2, 3, 0] (lv' := [(0, aR 23 0), (1, aN i), (2, aN c), (3, aN (w + 1))]) rfl ?_
          refine Sem.weq (congrArg (fun z => wd N z) (show upL (upW L 44 0 w (grF (mN N) (mW L) i)) 44 0 w (grF (mN N) (mW L) i w) = upW L 44 0 (w + 1) (grF (mN N) (mW L) i) from upW_s rfl)) ?_
          exact iha _ (by omega) (w + 1) c rfl (by omega) (hc0)
    refine Sem.pick [2, 3, 1, 0] (lv' := [(0, aR 23 0), (1, aN i), (2, aN 1), (3, aN 0)]) rfl ?_
    refine Sem.weq (congrArg (fun z => wd N z) (show L = upW L 44 0 0 (grF (mN N) (mW L) i) from upW_0.symm)) ?_
    exact lpa _ 0 1 rfl (by omega) ((bo_t (by show ¬ (if N 23 0 19 = 0 then 1 else N 41 0 i) = 0; split <;> omega)).symm)
  · have b1_ : ¬ (N 23 0 19 = 0) := b1
    refine Sem.seg [(.aload_n 0, 0, 0), (.getfield 65, 5, 21), (.iload_n 1, 0, 0), (.baload, 0, 0)] ⟨⟨d106_7, trivial⟩, ⟨d106_8, gf5_65⟩, ⟨d106_11, trivial⟩, ⟨d106_12, trivial⟩, trivial⟩ (lv' := [(0, aR 23 0), (1, aN i)]) (st' := [aN (N 41 0 i)]) (w' := wd N L) (P := [vld NN 23 0, vld NN 41 0, i < 12]) rfl (⟨vN (t := 23) (i := 0) (by decide), vN (t := 41) (i := 0) (by decide), (show i < 12 by omega)⟩) (pc' := 13) rfl ?_
    refine Sem.ifN (tgt := 20) d106_13 (by decide) (show N 41 0 i < 2 ^ 31 by omega) (fun b6 => ?_) (fun b6 => ?_)
    · have b6_ : N 41 0 i = 0 := b6
      refine Sem.seg [(.iconst 0, 0, 0), (.istore_n 2, 0, 0), (.iconst 0, 0, 0), (.istore_n 3, 0, 0)] ⟨⟨d106_20, trivial⟩, ⟨d106_21, trivial⟩, ⟨d106_22, trivial⟩, ⟨d106_23, trivial⟩, trivial⟩ (lv' := [(3, aN 0), (2, aN 0), (0, aR 23 0), (1, aN i)]) (st' := []) (w' := wd N L) (P := []) rfl (trivial) (pc' := 24) rfl ?_
      have lpa : ∀ (d : Nat) (w c : Nat), 12 - w = d → (w ≤ 12) → (c = bo (¬ mN N 19 i 10 = 0)) → Sem sc 106 24 [(0, aR 23 0), (1, aN i), (2, aN c), (3, aN w)] [] (wd N (upW L 44 0 w (grF (mN N) (mW L) i))) 0 0 (QZ (PM N L i)) := by
        intro da
        induction da using Nat.strongRecOn with
        | ind da iha =>
          intro w c hda hw hc0
          refine Sem.seg [(.iload_n 3, 0, 0), (.bipush 12, 0, 0)] ⟨⟨d106_24, trivial⟩, ⟨d106_25, trivial⟩, trivial⟩ (lv' := [(0, aR 23 0), (1, aN i), (2, aN c), (3, aN w)]) (st' := [aN 12, aN w]) (w' := wd N (upW L 44 0 w (grF (mN N) (mW L) i))) (P := []) rfl (trivial) (pc' := 27) rfl ?_
          refine Sem.icmpN (tgt := 48) d106_27 (by decide) (show w < 2 ^ 31 by omega) (by decide) (fun b7 => ?_) (fun b7 => ?_)
          · have b7_ : 12 ≤ w := b7
            obtain rfl : w = 12 := by omega
            refine Sem.seg [(.iconst 0, 0, 0), (.istore_n 3, 0, 0)] ⟨⟨d106_48, trivial⟩, ⟨d106_49, trivial⟩, trivial⟩ (lv' := [(3, aN 0), (0, aR 23 0), (1, aN i), (2, aN c)]) (st' := []) (w' := wd N (upW L 44 0 12 (grF (mN N) (mW L) i))) (P := []) rfl (trivial) (pc' := 50) rfl ?_
            have lpb : ∀ (d : Nat) (w c : Nat) (L1 : TL), 12 - w = d → (w ≤ 12) → (∀ t a b, ¬ (t = 42 ∧ a = 0 ∧ 12 * i ≤ b ∧ b < 12 * i + w) → L1 t a b = (upW L 44 0 12 (grF (mN N) (mW L) i)) t a b) → (∀ q, q < w → L1 42 0 (12 * i + q) = (grF (mN N) (mW L) i) q) → (c = bo (¬ mN N 19 i 10 = 0 ∨ ¬ ∀ q, q < w → (grF (mN N) (mW L) i) q = L 42 0 (12 * i + q))) → Sem sc 106 50 [(0, aR 23 0), (1, aN i), (2, aN c), (3, aN w)] [] (wd N L1) 0 0 (QZ (PM N L i)) := by
              intro db
              induction db using Nat.strongRecOn with
              | ind db ihb =>
                intro w c L1 hdb hw f1 hq hc1
                refine Sem.seg [(.iload_n 3, 0, 0), (.bipush 12, 0, 0)] ⟨⟨d106_50, trivial⟩, ⟨d106_51, trivial⟩, trivial⟩ (lv' := [(0, aR 23 0), (1, aN i), (2, aN c), (3, aN w)]) (st' := [aN 12, aN w]) (w' := wd N L1) (P := []) rfl (trivial) (pc' := 53) rfl ?_
                refine Sem.icmpN (tgt := 110) d106_53 (by decide) (show w < 2 ^ 31 by omega) (by decide) (fun b8 => ?_) (fun b8 => ?_)
                · have b8_ : 12 ≤ w := b8
                  obtain rfl : w = 12 := by omega
                  refine Sem.seg [(.aload_n 0, 0, 0), (.iload_n 1, 0, 0)] ⟨⟨d106_110, trivial⟩, ⟨d106_111, trivial⟩, trivial⟩ (lv' := [(0, aR 23 0), (1, aN i), (2, aN c), (3, aN 12)]) (st' := [aN i, aR 23 0]) (w' := wd N L1) (P := []) rfl (trivial) (pc' := 112) rfl ?_
                  refine Sem.cVm0 (t := 23) (i := 0) (as := [aN i]) (rst := []) (c' := 0) (s' := 0) d106_112 mk110 rfl co110 lk5_173 im110 se110 rfl (vN (t := 23) (i := 0) (by decide)) (show 2 ≤ mL 110 by decide) rfl (show 0 ≤ 8 by decide) (by decide) (by decide) rfl rfl (by decide) (by decide) (m110 N L1 i hi hc) ?_
                  rintro N1 L2 ⟨rfl, f2, hp⟩
                  refine Sem.seg [(.aload_n 0, 0, 0), (.getfield 65, 5, 21), (.iload_n 1, 0, 0), (.iconst 0, 0, 0), (.bastore, 0, 0)] ⟨⟨d106_115, trivial⟩, ⟨d106_116, gf5_65⟩, ⟨d106_119, trivial⟩, ⟨d106_120, trivial⟩, ⟨d106_121, trivial⟩, trivial⟩ (lv' := [(0, aR 23 0), (1, aN i), (2, aN c), (3, aN 12)]) (st' := []) (w' := wd (upN N 41 0 i 0) L2) (P := [vld NN 23 0, vld NN 41 0, i < 12, 0 = 0 ∨ 0 = 1]) rfl (⟨vN (t := 23) (i := 0) (by decide), vN (t := 41) (i := 0) (by decide), (show i < 12 by omega), (show (0 : Nat) = 0 ∨ (0 : Nat) = 1 by decide)⟩) (pc' := 122) rfl ?_
                  have hgr : ∀ q, q < 12 → mW L1 20 i q = (grF (mN N) (mW L) i) q := fun q h => hq q h
                  have hz1 := bo_le (¬ mN N 19 i 10 = 0 ∨ ¬ ∀ q, q < 12 → (grF (mN N) (mW L) i) q = L 42 0 (12 * i + q))
                  refine Sem.seg [(.iload_n 2, 0, 0)] ⟨⟨d106_122, trivial⟩, trivial⟩ (lv' := [(0, aR 23 0), (1, aN i), (2, aN c), (3, aN 12)]) (st' := [aN c]) (w' := wd (upN N 41 0 i 0) L2) (P := []) rfl (trivial) (pc' := 123) rfl ?_
                  refine Sem.iret rfl d106_123 (Or.inr ⟨rfl, by rw [hc1]; exact bo_01 _⟩) (by decide) (by decide) hzW ⟨_, _, _, rfl, rfl, ?_⟩
                  refine ⟨rfl, fun t a b h1 h2 h3 h4 h5 => (f2 t a b h2 h3 h5).trans ((f1 t a b h4).trans (upW_ne (by omega))), fun w hw => ⟨(f2 42 0 _ (by omega) (by omega) (by omega)).trans (hq w hw), (hp w hw).trans (planF_cg (fun _ _ => rfl) (fun _ _ => rfl) hgr hw)⟩, hc1⟩
                  skip
                · have b8_ : ¬ (12 ≤ w) := b8
                  have e44 : L1 44 0 w = (grF (mN N) (mW L) i) w := (f1 44 0 w (by omega)).trans (upW_at (by omega))
                  have e42 : L1 42 0 (12 * i + w) = L 42 0 (12 * i + w) := (f1 42 0 _ (by omega)).trans (upW_ne (by omega))
                  have hc2 := bo_le (¬ mN N 19 i 10 = 0 ∨ ¬ ∀ q, q < w → (grF (mN N) (mW L) i) q = L 42 0 (12 * i + q))
                  refine Sem.seg [(.iload_n 2, 0, 0)] ⟨⟨d106_56, trivial⟩, trivial⟩ (lv' := [(0, aR 23 0), (1, aN i), (2, aN c), (3, aN w)]) (st' := [aN c]) (w' := wd N L1) (P := []) rfl (trivial) (pc' := 57) rfl ?_
                  refine Sem.ifN (tgt := 81) d106_57 (by decide) (show c < 2 ^ 31 by omega) (fun b9 => ?_) (fun b9 => ?_)
                  · have b9_ : ¬ c = 0 := b9
                    refine Sem.seg [(.iconst 1, 0, 0)] ⟨⟨d106_81, trivial⟩, trivial⟩ (lv' := [(0, aR 23 0), (1, aN i), (2, aN c), (3, aN w)]) (st' := [aN 1]) (w' := wd N L1) (P := []) rfl (trivial) (pc' := 82) rfl ?_
                    refine Sem.goto (tgt := 86) d106_82 (by decide) ?_
                    refine Sem.seg [(.istore_n 2, 0, 0)] ⟨⟨d106_86, trivial⟩, trivial⟩ (lv' := [(2, aN 1), (0, aR 23 0), (1, aN i), (3, aN w)]) (st' := []) (w' := wd N L1) (P := []) rfl (trivial) (pc' := 87) rfl ?_
                    have hcn : 1 = bo (¬ mN N 19 i 10 = 0 ∨ ¬ ∀ q, q < w + 1 → (grF (mN N) (mW L) i) q = L 42 0 (12 * i + q)) := by
                      first
                      | (refine (bo_t ?_).symm
                         have hP : ¬ mN N 19 i 10 = 0 ∨ ¬ ∀ q, q < w → (grF (mN N) (mW L) i) q = L 42 0 (12 * i + q) := Classical.byContradiction fun z => (by assumption : ¬ c = 0) (hc1.trans (bo_f z))
                         exact hP.elim Or.inl (fun z => Or.inr (fun y => z (fun q hq => y q (by omega)))))
                      | (refine (bo_t ?_).symm
                         exact Or.inr (fun y => absurd ((e44.trans (y w (by omega))).trans e42.symm) (by assumption)))
                      | (refine (bo_f ?_).symm
                         have hP : ¬ (¬ mN N 19 i 10 = 0 ∨ ¬ ∀ q, q < w → (grF (mN N) (mW L) i) q = L 42 0 (12 * i + q)) := fun z => absurd (hc1.trans (bo_t z)) (by omega)
                         intro z
                         refine hP (z.elim Or.inl (fun y => Or.inr (fun x => y (all_s x ?_))))
                         rw [← e44, ← e42]; assumption)
                    refine Sem.seg [(.aload_n 0, 0, 0), (.getfield 69, 5, 22), (.bipush 12, 0, 0), (.iload_n 1, 0, 0), (.imul, 0, 0), (.iload_n 3, 0, 0), (.iadd, 0, 0), (.aload_n 0, 0, 0), (.getfield 76, 5, 24)] ⟨⟨d106_87, trivial⟩, ⟨d106_88, gf5_69⟩, ⟨d106_91, trivial⟩, ⟨d106_93, trivial⟩, ⟨d106_94, trivial⟩, ⟨d106_95, trivial⟩, ⟨d106_96, trivial⟩, ⟨d106_97, trivial⟩, ⟨d106_98, gf5_76⟩, trivial⟩ (lv' := [(2, aN 1), (0, aR 23 0), (1, aN i), (3, aN w)]) (st' := [aR 44 0, aN ((12 * i) + w), aR 42 0]) (w' := wd N L1) (P := [vld NN 23 0, vld NN 23 0]) rfl (⟨vN (t := 23) (i := 0) (by decide), vN (t := 23) (i := 0) (by decide)⟩) (pc' := 101) rfl ?_
                    refine Sem.seg [(.iload_n 3, 0, 0), (.laload, 0, 0), (.lastore, 0, 0), (.iinc 3 1, 0, 0)] ⟨⟨d106_101, trivial⟩, ⟨d106_102, trivial⟩, ⟨d106_103, trivial⟩, ⟨d106_104, trivial⟩, trivial⟩ (lv' := [(3, aN (w + 1)), (2, aN 1), (0, aR 23 0), (1, aN i)]) (st' := []) (w' := wd N (upL L1 42 0 ((12 * i) + w) (L1 44 0 w))) (P := [vld NN 44 0, w < 12, vld NN 42 0, (12 * i) + w < 144]) rfl (⟨vN (t := 44) (i := 0) (by decide), (show w < 12 by omega), vN (t := 42) (i := 0) (by decide), (show (12 * i) + w < 144 by omega)⟩) (pc' := 107) rfl ?_
                    refine Sem.goto (tgt := 50) d106_107 (by decide) ?_
                    refine Sem.pick [2, 3, 1, 0] (lv' := [(0, aR 23 0), (1, aN i), (2, aN 1), (3, aN (w + 1))]) rfl ?_
                    exact ihb _ (by omega) (w + 1) 1 (upL L1 42 0 ((12 * i) + w) (L1 44 0 w)) rfl (by omega) (fun t a b h => (upL_ne (by omega)).trans (f1 t a b (by omega))) (all_s (fun q h => (upL_ne (by omega)).trans (hq q h)) (upL_at.trans e44)) (hcn)
                  · have b9_ : ¬ (¬ c = 0) := b9
                    refine Sem.seg [(.aload_n 0, 0, 0), (.getfield 76, 5, 24), (.iload_n 3, 0, 0), (.laload, 0, 0), (.aload_n 0, 0, 0), (.getfield 69, 5, 22), (.bipush 12, 0, 0), (.iload_n 1, 0, 0), (.imul, 0, 0)] ⟨⟨d106_60, trivial⟩, ⟨d106_61, gf5_76⟩, ⟨d106_64, trivial⟩, ⟨d106_65, trivial⟩, ⟨d106_66, trivial⟩, ⟨d106_67, gf5_69⟩, ⟨d106_70, trivial⟩, ⟨d106_72, trivial⟩, ⟨d106_73, trivial⟩, trivial⟩ (lv' := [(0, aR 23 0), (1, aN i), (2, aN c), (3, aN w)]) (st' := [aN (12 * i), aR 42 0, aL (L1 44 0 w)]) (w' := wd N L1) (P := [vld NN 23 0, vld NN 44 0, w < 12, vld NN 23 0]) rfl (⟨vN (t := 23) (i := 0) (by decide), vN (t := 44) (i := 0) (by decide), (show w < 12 by omega), vN (t := 23) (i := 0) (by decide)⟩) (pc' := 74) rfl ?_
                    refine Sem.seg [(.iload_n 3, 0, 0), (.iadd, 0, 0), (.laload, 0, 0)] ⟨⟨d106_74, trivial⟩, ⟨d106_75, trivial⟩, ⟨d106_76, trivial⟩, trivial⟩ (lv' := [(0, aR 23 0), (1, aN i), (2, aN c), (3, aN w)]) (st' := [aL (L1 42 0 ((12 * i) + w)), aL (L1 44 0 w)]) (w' := wd N L1) (P := [vld NN 42 0, (12 * i) + w < 144]) rfl (⟨vN (t := 42) (i := 0) (by decide), (show (12 * i) + w < 144 by omega)⟩) (pc' := 77) rfl ?_
                    refine Sem.lcmp (tgt := 85) d106_77 d106_78 (by decide) (fun b10 => ?_) (fun b10 => ?_)
                    · have b10_ : L1 44 0 w = L1 42 0 ((12 * i) + w) := b10
                      refine Sem.seg [(.iconst 0, 0, 0), (.istore_n 2, 0, 0)] ⟨⟨d106_85, trivial⟩, ⟨d106_86, trivial⟩, trivial⟩ (lv' := [(2, aN 0), (0, aR 23 0), (1, aN i), (3, aN w)]) (st' := []) (w' := wd N L1) (P := []) rfl (trivial) (pc' := 87) rfl ?_
                      have hcn : 0 = bo (¬ mN N 19 i 10 = 0 ∨ ¬ ∀ q, q < w + 1 → (grF (mN N) (mW L) i) q = L 42 0 (12 * i + q)) := by
                        first
                        | (refine (bo_t ?_).symm
                           have hP : ¬ mN N 19 i 10 = 0 ∨ ¬ ∀ q, q < w → (grF (mN N) (mW L) i) q = L 42 0 (12 * i + q) := Classical.byContradiction fun z => (by assumption : ¬ c = 0) (hc1.trans (bo_f z))
                           exact hP.elim Or.inl (fun z => Or.inr (fun y => z (fun q hq => y q (by omega)))))
                        | (refine (bo_t ?_).symm
                           exact Or.inr (fun y => absurd ((e44.trans (y w (by omega))).trans e42.symm) (by assumption)))
                        | (refine (bo_f ?_).symm
                           have hP : ¬ (¬ mN N 19 i 10 = 0 ∨ ¬ ∀ q, q < w → (grF (mN N) (mW L) i) q = L 42 0 (12 * i + q)) := fun z => absurd (hc1.trans (bo_t z)) (by omega)
                           intro z
                           refine hP (z.elim Or.inl (fun y => Or.inr (fun x => y (all_s x ?_))))
                           rw [← e44, ← e42]; assumption)
                      refine Sem.seg [(.aload_n 0, 0, 0), (.getfield 69, 5, 22), (.bipush 12, 0, 0), (.iload_n 1, 0, 0), (.imul, 0, 0), (.iload_n 3, 0, 0), (.iadd, 0, 0), (.aload_n 0, 0, 0), (.getfield 76, 5, 24)] ⟨⟨d106_87, trivial⟩, ⟨d106_88, gf5_69⟩, ⟨d106_91, trivial⟩, ⟨d106_93, trivial⟩, ⟨d106_94, trivial⟩, ⟨d106_95, trivial⟩, ⟨d106_96, trivial⟩, ⟨d106_97, trivial⟩, ⟨d106_98, gf5_76⟩, trivial⟩ (lv' := [(2, aN 0), (0, aR 23 0), (1, aN i), (3, aN w)]) (st' := [aR 44 0, aN ((12 * i) + w), aR 42 0]) (w' := wd N L1) (P := [vld NN 23 0, vld NN 23 0]) rfl (⟨vN (t := 23) (i := 0) (by decide), vN (t := 23) (i := 0) (by decide)⟩) (pc' := 101) rfl ?_
                      refine Sem.seg [(.iload_n 3, 0, 0), (.laload, 0, 0), (.lastore, 0, 0), (.iinc 3 1, 0, 0)] ⟨⟨d106_101, trivial⟩, ⟨d106_102, trivial⟩, ⟨d106_103, trivial⟩, ⟨d106_104, trivial⟩, trivial⟩ (lv' := [(3, aN (w + 1)), (2, aN 0), (0, aR 23 0), (1, aN i)]) (st' := []) (w' := wd N (upL L1 42 0 ((12 * i) + w) (L1 44 0 w))) (P := [vld NN 44 0, w < 12, vld NN 42 0, (12 * i) + w < 144]) rfl (⟨vN (t := 44) (i := 0) (by decide), (show w < 12 by omega), vN (t := 42) (i := 0) (by decide), (show (12 * i) + w < 144 by omega)⟩) (pc' := 107) rfl ?_
                      refine Sem.goto (tgt := 50) d106_107 (by decide) ?_
                      refine Sem.pick [2, 3, 1, 0] (lv' := [(0, aR 23 0), (1, aN i), (2, aN 0), (3, aN (w + 1))]) rfl ?_
                      exact ihb _ (by omega) (w + 1) 0 (upL L1 42 0 ((12 * i) + w) (L1 44 0 w)) rfl (by omega) (fun t a b h => (upL_ne (by omega)).trans (f1 t a b (by omega))) (all_s (fun q h => (upL_ne (by omega)).trans (hq q h)) (upL_at.trans e44)) (hcn)
                    · have b10_ : ¬ (L1 44 0 w = L1 42 0 ((12 * i) + w)) := b10
                      refine Sem.seg [(.iconst 1, 0, 0)] ⟨⟨d106_81, trivial⟩, trivial⟩ (lv' := [(0, aR 23 0), (1, aN i), (2, aN c), (3, aN w)]) (st' := [aN 1]) (w' := wd N L1) (P := []) rfl (trivial) (pc' := 82) rfl ?_
                      refine Sem.goto (tgt := 86) d106_82 (by decide) ?_
                      refine Sem.seg [(.istore_n 2, 0, 0)] ⟨⟨d106_86, trivial⟩, trivial⟩ (lv' := [(2, aN 1), (0, aR 23 0), (1, aN i), (3, aN w)]) (st' := []) (w' := wd N L1) (P := []) rfl (trivial) (pc' := 87) rfl ?_
                      have hcn : 1 = bo (¬ mN N 19 i 10 = 0 ∨ ¬ ∀ q, q < w + 1 → (grF (mN N) (mW L) i) q = L 42 0 (12 * i + q)) := by
                        first
                        | (refine (bo_t ?_).symm
                           have hP : ¬ mN N 19 i 10 = 0 ∨ ¬ ∀ q, q < w → (grF (mN N) (mW L) i) q = L 42 0 (12 * i + q) := Classical.byContradiction fun z => (by assumption : ¬ c = 0) (hc1.trans (bo_f z))
                           exact hP.elim Or.inl (fun z => Or.inr (fun y => z (fun q hq => y q (by omega)))))
                        | (refine (bo_t ?_).symm
                           exact Or.inr (fun y => absurd ((e44.trans (y w (by omega))).trans e42.symm) (by assumption)))
                        | (refine (bo_f ?_).symm
                           have hP : ¬ (¬ mN N 19 i 10 = 0 ∨ ¬ ∀ q, q < w → (grF (mN N) (mW L) i) q = L 42 0 (12 * i + q)) := fun z => absurd (hc1.trans (bo_t z)) (by omega)
                           intro z
                           refine hP (z.elim Or.inl (fun y => Or.inr (fun x => y (all_s x ?_))))
                           rw [← e44, ← e42]; assumption)
                      refine Sem.seg [(.aload_n 0, 0, 0), (.getfield 69, 5, 22), (.bipush 12, 0, 0), (.iload_n 1, 0, 0), (.imul, 0, 0), (.iload_n 3, 0, 0), (.iadd, 0, 0), (.aload_n 0, 0, 0), (.getfield 76, 5, 24)] ⟨⟨d106_87, trivial⟩, ⟨d106_88, gf5_69⟩, ⟨d106_91, trivial⟩, ⟨d106_93, trivial⟩, ⟨d106_94, trivial⟩, ⟨d106_95, trivial⟩, ⟨d106_96, trivial⟩, ⟨d106_97, trivial⟩, ⟨d106_98, gf5_76⟩, trivial⟩ (lv' := [(2, aN 1), (0, aR 23 0), (1, aN i), (3, aN w)]) (st' := [aR 44 0, aN ((12 * i) + w), aR 42 0]) (w' := wd N L1) (P := [vld NN 23 0, vld NN 23 0]) rfl (⟨vN (t := 23) (i := 0) (by decide), vN (t := 23) (i := 0) (by decide)⟩) (pc' := 101) rfl ?_
                      refine Sem.seg [(.iload_n 3, 0, 0), (.laload, 0, 0), (.lastore, 0, 0), (.iinc 3 1, 0, 0)] ⟨⟨d106_101, trivial⟩, ⟨d106_102, trivial⟩, ⟨d106_103, trivial⟩, ⟨d106_104, trivial⟩, trivial⟩ (lv' := [(3, aN (w + 1)), (2, aN 1), (0, aR 23 0), (1, aN i)]) (st' := []) (w' := wd N (upL L1 42 0 ((12 * i) + w) (L1 44 0 w))) (P := [vld NN 44 0, w < 12, vld NN 42 0, (12 * i) + w < 144]) rfl (⟨vN (t := 44) (i := 0) (by decide), (show w < 12 by omega), vN (t := 42) (i := 0) (by decide), (show (12 * i) + w < 144 by omega)⟩) (pc' := 107) rfl ?_
                      refine Sem.goto (tgt := 50) d106_107 (by decide) ?_
                      refine Sem.pick [2, 3, 1, 0] (lv' := [(0, aR 23 0), (1, aN i), (2, aN 1), (3, aN (w + 1))]) rfl ?_
                      exact ihb _ (by omega) (w + 1) 1 (upL L1 42 0 ((12 * i) + w) (L1 44 0 w)) rfl (by omega) (fun t a b h => (upL_ne (by omega)).trans (f1 t a b (by omega))) (all_s (fun q h => (upL_ne (by omega)).trans (hq q h)) (upL_at.trans e44)) (hcn)
            refine Sem.pick [1, 2, 3, 0] (lv' := [(0, aR 23 0), (1, aN i), (2, aN c), (3, aN 0)]) rfl ?_
            exact lpb _ 0 c (upW L 44 0 12 (grF (mN N) (mW L) i)) rfl (by omega) (fun _ _ _ _ => rfl) (fun q h => absurd h (by omega)) (by rw [hc0]; exact bo_cg ⟨Or.inl, fun h => h.elim id (fun z => absurd (fun q hq => absurd hq (by omega)) z)⟩)
          · have b7_ : ¬ (12 ≤ w) := b7
            refine Sem.seg [(.aload_n 0, 0, 0), (.getfield 76, 5, 24), (.iload_n 3, 0, 0), (.aload_n 0, 0, 0), (.iload_n 1, 0, 0), (.iload_n 3, 0, 0)] ⟨⟨d106_30, trivial⟩, ⟨d106_31, gf5_76⟩, ⟨d106_34, trivial⟩, ⟨d106_35, trivial⟩, ⟨d106_36, trivial⟩, ⟨d106_37, trivial⟩, trivial⟩ (lv' := [(0, aR 23 0), (1, aN i), (2, aN c), (3, aN w)]) (st' := [aN w, aN i, aR 23 0, aN w, aR 44 0]) (w' := wd N (upW L 44 0 w (grF (mN N) (mW L) i))) (P := [vld NN 23 0]) rfl (vN (t := 23) (i := 0) (by decide)) (pc' := 38) rfl ?_
            refine Sem.cVp1 (t := 23) (i := 0) (as := [aN i, aN w]) (rst := [aN w, aR 44 0]) (c' := 0) (s' := 0) d106_38 mk107 rfl co107 lk5_170 im107 se107 rfl (vN (t := 23) (i := 0) (by decide)) (show 3 ≤ mL 107 by decide) rfl (show 2 ≤ 8 by decide) (by decide) (by decide) rfl rfl (by decide) (by decide) (m107 N (upW L 44 0 w (grF (mN N) (mW L) i)) i w hi (by omega) hc) ?_
            refine Sem.seg [(.lastore, 0, 0), (.iinc 3 1, 0, 0)] ⟨⟨d106_41, trivial⟩, ⟨d106_42, trivial⟩, trivial⟩ (lv' := [(3, aN (w + 1)), (0, aR 23 0), (1, aN i), (2, aN c)]) (st' := []) (w' := wd N (upL (upW L 44 0 w (grF (mN N) (mW L) i)) 44 0 w (grF (mN N) (mW L) i w))) (P := [vld NN 44 0, w < 12]) rfl (⟨vN (t := 44) (i := 0) (by decide), (show w < 12 by omega)⟩) (pc' := 45) rfl ?_
            refine Sem.goto (tgt := 24) d106_45 (by decide) ?_
            refine Sem.pick [1, 2, 3, 0] (lv' := [(0, aR 23 0), (1, aN i), (2, aN c), (3, aN (w + 1))]) rfl ?_
            refine Sem.weq (congrArg (fun z => wd N z) (show upL (upW L 44 0 w (grF (mN N) (mW L) i)) 44 0 w (grF (mN N) (mW L) i w) = upW L 44 0 (w + 1) (grF (mN N) (mW L) i) from upW_s rfl)) ?_
            exact iha _ (by omega) (w + 1) c rfl (by omega) (hc0)
      refine Sem.pick [2, 3, 1, 0] (lv' := [(0, aR 23 0), (1, aN i), (2, aN 0), (3, aN 0)]) rfl ?_
      refine Sem.weq (congrArg (fun z => wd N z) (show L = upW L 44 0 0 (grF (mN N) (mW L) i) from upW_0.symm)) ?_
      exact lpa _ 0 0 rfl (by omega) ((bo_f (by show ¬ ¬ (if N 23 0 19 = 0 then 1 else N 41 0 i) = 0; split <;> omega)).symm)
    · have b6_ : ¬ (N 41 0 i = 0) := b6
      refine Sem.seg [(.iconst 1, 0, 0)] ⟨⟨d106_16, trivial⟩, trivial⟩ (lv' := [(0, aR 23 0), (1, aN i)]) (st' := [aN 1]) (w' := wd N L) (P := []) rfl (trivial) (pc' := 17) rfl ?_
      refine Sem.goto (tgt := 21) d106_17 (by decide) ?_
      refine Sem.seg [(.istore_n 2, 0, 0), (.iconst 0, 0, 0), (.istore_n 3, 0, 0)] ⟨⟨d106_21, trivial⟩, ⟨d106_22, trivial⟩, ⟨d106_23, trivial⟩, trivial⟩ (lv' := [(3, aN 0), (2, aN 1), (0, aR 23 0), (1, aN i)]) (st' := []) (w' := wd N L) (P := []) rfl (trivial) (pc' := 24) rfl ?_
      have lpa : ∀ (d : Nat) (w c : Nat), 12 - w = d → (w ≤ 12) → (c = bo (¬ mN N 19 i 10 = 0)) → Sem sc 106 24 [(0, aR 23 0), (1, aN i), (2, aN c), (3, aN w)] [] (wd N (upW L 44 0 w (grF (mN N) (mW L) i))) 0 0 (QZ (PM N L i)) := by
        intro da
        induction da using Nat.strongRecOn with
        | ind da iha =>
          intro w c hda hw hc0
          refine Sem.seg [(.iload_n 3, 0, 0), (.bipush 12, 0, 0)] ⟨⟨d106_24, trivial⟩, ⟨d106_25, trivial⟩, trivial⟩ (lv' := [(0, aR 23 0), (1, aN i), (2, aN c), (3, aN w)]) (st' := [aN 12, aN w]) (w' := wd N (upW L 44 0 w (grF (mN N) (mW L) i))) (P := []) rfl (trivial) (pc' := 27) rfl ?_
          refine Sem.icmpN (tgt := 48) d106_27 (by decide) (show w < 2 ^ 31 by omega) (by decide) (fun b11 => ?_) (fun b11 => ?_)
          · have b11_ : 12 ≤ w := b11
            obtain rfl : w = 12 := by omega
            refine Sem.seg [(.iconst 0, 0, 0), (.istore_n 3, 0, 0)] ⟨⟨d106_48, trivial⟩, ⟨d106_49, trivial⟩, trivial⟩ (lv' := [(3, aN 0), (0, aR 23 0), (1, aN i), (2, aN c)]) (st' := []) (w' := wd N (upW L 44 0 12 (grF (mN N) (mW L) i))) (P := []) rfl (trivial) (pc' := 50) rfl ?_
            have lpb : ∀ (d : Nat) (w c : Nat) (L1 : TL), 12 - w = d → (w ≤ 12) → (∀ t a b, ¬ (t = 42 ∧ a = 0 ∧ 12 * i ≤ b ∧ b < 12 * i + w) → L1 t a b = (upW L 44 0 12 (grF (mN N) (mW L) i)) t a b) → (∀ q, q < w → L1 42 0 (12 * i + q) = (grF (mN N) (mW L) i) q) → (c = bo (¬ mN N 19 i 10 = 0 ∨ ¬ ∀ q, q < w → (grF (mN N) (mW L) i) q = L 42 0 (12 * i + q))) → Sem sc 106 50 [(0, aR 23 0), (1, aN i), (2, aN c), (3, aN w)] [] (wd N L1) 0 0 (QZ (PM N L i)) := by
              intro db
              induction db using Nat.strongRecOn with
              | ind db ihb =>
                intro w c L1 hdb hw f1 hq hc1
                refine Sem.seg [(.iload_n 3, 0, 0), (.bipush 12, 0, 0)] ⟨⟨d106_50, trivial⟩, ⟨d106_51, trivial⟩, trivial⟩ (lv' := [(0, aR 23 0), (1, aN i), (2, aN c), (3, aN w)]) (st' := [aN 12, aN w]) (w' := wd N L1) (P := []) rfl (trivial) (pc' := 53) rfl ?_
                refine Sem.icmpN (tgt := 110) d106_53 (by decide) (show w < 2 ^ 31 by omega) (by decide) (fun b12 => ?_) (fun b12 => ?_)
                · have b12_ : 12 ≤ w := b12
                  obtain rfl : w = 12 := by omega
                  refine Sem.seg [(.aload_n 0, 0, 0), (.iload_n 1, 0, 0)] ⟨⟨d106_110, trivial⟩, ⟨d106_111, trivial⟩, trivial⟩ (lv' := [(0, aR 23 0), (1, aN i), (2, aN c), (3, aN 12)]) (st' := [aN i, aR 23 0]) (w' := wd N L1) (P := []) rfl (trivial) (pc' := 112) rfl ?_
                  refine Sem.cVm0 (t := 23) (i := 0) (as := [aN i]) (rst := []) (c' := 0) (s' := 0) d106_112 mk110 rfl co110 lk5_173 im110 se110 rfl (vN (t := 23) (i := 0) (by decide)) (show 2 ≤ mL 110 by decide) rfl (show 0 ≤ 8 by decide) (by decide) (by decide) rfl rfl (by decide) (by decide) (m110 N L1 i hi hc) ?_
                  rintro N1 L2 ⟨rfl, f2, hp⟩
                  refine Sem.seg [(.aload_n 0, 0, 0), (.getfield 65, 5, 21), (.iload_n 1, 0, 0), (.iconst 0, 0, 0), (.bastore, 0, 0)] ⟨⟨d106_115, trivial⟩, ⟨d106_116, gf5_65⟩, ⟨d106_119, trivial⟩, ⟨d106_120, trivial⟩, ⟨d106_121, trivial⟩, trivial⟩ (lv' := [(0, aR 23 0), (1, aN i), (2, aN c), (3, aN 12)]) (st' := []) (w' := wd (upN N 41 0 i 0) L2) (P := [vld NN 23 0, vld NN 41 0, i < 12, 0 = 0 ∨ 0 = 1]) rfl (⟨vN (t := 23) (i := 0) (by decide), vN (t := 41) (i := 0) (by decide), (show i < 12 by omega), (show (0 : Nat) = 0 ∨ (0 : Nat) = 1 by decide)⟩) (pc' := 122) rfl ?_
                  have hgr : ∀ q, q < 12 → mW L1 20 i q = (grF (mN N) (mW L) i) q := fun q h => hq q h
                  have hz1 := bo_le (¬ mN N 19 i 10 = 0 ∨ ¬ ∀ q, q < 12 → (grF (mN N) (mW L) i) q = L 42 0 (12 * i + q))
                  refine Sem.seg [(.iload_n 2, 0, 0)] ⟨⟨d106_122, trivial⟩, trivial⟩ (lv' := [(0, aR 23 0), (1, aN i), (2, aN c), (3, aN 12)]) (st' := [aN c]) (w' := wd (upN N 41 0 i 0) L2) (P := []) rfl (trivial) (pc' := 123) rfl ?_
                  refine Sem.iret rfl d106_123 (Or.inr ⟨rfl, by rw [hc1]; exact bo_01 _⟩) (by decide) (by decide) hzW ⟨_, _, _, rfl, rfl, ?_⟩
                  refine ⟨rfl, fun t a b h1 h2 h3 h4 h5 => (f2 t a b h2 h3 h5).trans ((f1 t a b h4).trans (upW_ne (by omega))), fun w hw => ⟨(f2 42 0 _ (by omega) (by omega) (by omega)).trans (hq w hw), (hp w hw).trans (planF_cg (fun _ _ => rfl) (fun _ _ => rfl) hgr hw)⟩, hc1⟩
                  skip
                · have b12_ : ¬ (12 ≤ w) := b12
                  have e44 : L1 44 0 w = (grF (mN N) (mW L) i) w := (f1 44 0 w (by omega)).trans (upW_at (by omega))
                  have e42 : L1 42 0 (12 * i + w) = L 42 0 (12 * i + w) := (f1 42 0 _ (by omega)).trans (upW_ne (by omega))
                  have hc2 := bo_le (¬ mN N 19 i 10 = 0 ∨ ¬ ∀ q, q < w → (grF (mN N) (mW L) i) q = L 42 0 (12 * i + q))
                  refine Sem.seg [(.iload_n 2, 0, 0)] ⟨⟨d106_56, trivial⟩, trivial⟩ (lv' := [(0, aR 23 0), (1, aN i), (2, aN c), (3, aN w)]) (st' := [aN c]) (w' := wd N L1) (P := []) rfl (trivial) (pc' := 57) rfl ?_
                  refine Sem.ifN (tgt := 81) d106_57 (by decide) (show c < 2 ^ 31 by omega) (fun b13 => ?_) (fun b13 => ?_)
                  · have b13_ : ¬ c = 0 := b13
                    refine Sem.seg [(.iconst 1, 0, 0)] ⟨⟨d106_81, trivial⟩, trivial⟩ (lv' := [(0, aR 23 0), (1, aN i), (2, aN c), (3, aN w)]) (st' := [aN 1]) (w' := wd N L1) (P := []) rfl (trivial) (pc' := 82) rfl ?_
                    refine Sem.goto (tgt := 86) d106_82 (by decide) ?_
                    refine Sem.seg [(.istore_n 2, 0, 0)] ⟨⟨d106_86, trivial⟩, trivial⟩ (lv' := [(2, aN 1), (0, aR 23 0), (1, aN i), (3, aN w)]) (st' := []) (w' := wd N L1) (P := []) rfl (trivial) (pc' := 87) rfl ?_
                    have hcn : 1 = bo (¬ mN N 19 i 10 = 0 ∨ ¬ ∀ q, q < w + 1 → (grF (mN N) (mW L) i) q = L 42 0 (12 * i + q)) := by
                      first
                      | (refine (bo_t ?_).symm
                         have hP : ¬ mN N 19 i 10 = 0 ∨ ¬ ∀ q, q < w → (grF (mN N) (mW L) i) q = L 42 0 (12 * i + q) := Classical.byContradiction fun z => (by assumption : ¬ c = 0) (hc1.trans (bo_f z))
                         exact hP.elim Or.inl (fun z => Or.inr (fun y => z (fun q hq => y q (by omega)))))
                      | (refine (bo_t ?_).symm
                         exact Or.inr (fun y => absurd ((e44.trans (y w (by omega))).trans e42.symm) (by assumption)))
                      | (refine (bo_f ?_).symm
                         have hP : ¬ (¬ mN N 19 i 10 = 0 ∨ ¬ ∀ q, q < w → (grF (mN N) (mW L) i) q = L 42 0 (12 * i + q)) := fun z => absurd (hc1.trans (bo_t z)) (by omega)
                         intro z
                         refine hP (z.elim Or.inl (fun y => Or.inr (fun x => y (all_s x ?_))))
                         rw [← e44, ← e42]; assumption)
                    refine Sem.seg [(.aload_n 0, 0, 0), (.getfield 69, 5, 22), (.bipush 12, 0, 0), (.iload_n 1, 0, 0), (.imul, 0, 0), (.iload_n 3, 0, 0), (.iadd, 0, 0), (.aload_n 0, 0, 0), (.getfield 76, 5, 24)] ⟨⟨d106_87, trivial⟩, ⟨d106_88, gf5_69⟩, ⟨d106_91, trivial⟩, ⟨d106_93, trivial⟩, ⟨d106_94, trivial⟩, ⟨d106_95, trivial⟩, ⟨d106_96, trivial⟩, ⟨d106_97, trivial⟩, ⟨d106_98, gf5_76⟩, trivial⟩ (lv' := [(2, aN 1), (0, aR 23 0), (1, aN i), (3, aN w)]) (st' := [aR 44 0, aN ((12 * i) + w), aR 42 0]) (w' := wd N L1) (P := [vld NN 23 0, vld NN 23 0]) rfl (⟨vN (t := 23) (i := 0) (by decide), vN (t := 23) (i := 0) (by decide)⟩) (pc' := 101) rfl ?_
                    refine Sem.seg [(.iload_n 3, 0, 0), (.laload, 0, 0), (.lastore, 0, 0), (.iinc 3 1, 0, 0)] ⟨⟨d106_101, trivial⟩, ⟨d106_102, trivial⟩, ⟨d106_103, trivial⟩, ⟨d106_104, trivial⟩, trivial⟩ (lv' := [(3, aN (w + 1)), (2, aN 1), (0, aR 23 0), (1, aN i)]) (st' := []) (w' := wd N (upL L1 42 0 ((12 * i) + w) (L1 44 0 w))) (P := [vld NN 44 0, w < 12, vld NN 42 0, (12 * i) + w < 144]) rfl (⟨vN (t := 44) (i := 0) (by decide), (show w < 12 by omega), vN (t := 42) (i := 0) (by decide), (show (12 * i) + w < 144 by omega)⟩) (pc' := 107) rfl ?_
                    refine Sem.goto (tgt := 50) d106_107 (by decide) ?_
                    refine Sem.pick [2, 3, 1, 0] (lv' := [(0, aR 23 0), (1, aN i), (2, aN 1), (3, aN (w + 1))]) rfl ?_
                    exact ihb _ (by omega) (w + 1) 1 (upL L1 42 0 ((12 * i) + w) (L1 44 0 w)) rfl (by omega) (fun t a b h => (upL_ne (by omega)).trans (f1 t a b (by omega))) (all_s (fun q h => (upL_ne (by omega)).trans (hq q h)) (upL_at.trans e44)) (hcn)
                  · have b13_ : ¬ (¬ c = 0) := b13
                    refine Sem.seg [(.aload_n 0, 0, 0), (.getfield 76, 5, 24), (.iload_n 3, 0, 0), (.laload, 0, 0), (.aload_n 0, 0, 0), (.getfield 69, 5, 22), (.bipush 12, 0, 0), (.iload_n 1, 0, 0), (.imul, 0, 0)] ⟨⟨d106_60, trivial⟩, ⟨d106_61, gf5_76⟩, ⟨d106_64, trivial⟩, ⟨d106_65, trivial⟩, ⟨d106_66, trivial⟩, ⟨d106_67, gf5_69⟩, ⟨d106_70, trivial⟩, ⟨d106_72, trivial⟩, ⟨d106_73, trivial⟩, trivial⟩ (lv' := [(0, aR 23 0), (1, aN i), (2, aN c), (3, aN w)]) (st' := [aN (12 * i), aR 42 0, aL (L1 44 0 w)]) (w' := wd N L1) (P := [vld NN 23 0, vld NN 44 0, w < 12, vld NN 23 0]) rfl (⟨vN (t := 23) (i := 0) (by decide), vN (t := 44) (i := 0) (by decide), (show w < 12 by omega), vN (t := 23) (i := 0) (by decide)⟩) (pc' := 74) rfl ?_
                    refine Sem.seg [(.iload_n 3, 0, 0), (.iadd, 0, 0), (.laload, 0, 0)] ⟨⟨d106_74, trivial⟩, ⟨d106_75, trivial⟩, ⟨d106_76, trivial⟩, trivial⟩ (lv' := [(0, aR 23 0), (1, aN i), (2, aN c), (3, aN w)]) (st' := [aL (L1 42 0 ((12 * i) + w)), aL (L1 44 0 w)]) (w' := wd N L1) (P := [vld NN 42 0, (12 * i) + w < 144]) rfl (⟨vN (t := 42) (i := 0) (by decide), (show (12 * i) + w < 144 by omega)⟩) (pc' := 77) rfl ?_
                    refine Sem.lcmp (tgt := 85) d106_77 d106_78 (by decide) (fun b14 => ?_) (fun b14 => ?_)
                    · have b14_ : L1 44 0 w = L1 42 0 ((12 * i) + w) := b14
                      refine Sem.seg [(.iconst 0, 0, 0), (.istore_n 2, 0, 0)] ⟨⟨d106_85, trivial⟩, ⟨d106_86, trivial⟩, trivial⟩ (lv' := [(2, aN 0), (0, aR 23 0), (1, aN i), (3, aN w)]) (st' := []) (w' := wd N L1) (P := []) rfl (trivial) (pc' := 87) rfl ?_
                      have hcn : 0 = bo (¬ mN N 19 i 10 = 0 ∨ ¬ ∀ q, q < w + 1 → (grF (mN N) (mW L) i) q = L 42 0 (12 * i + q)) := by
                        first
                        | (refine (bo_t ?_).symm
                           have hP : ¬ mN N 19 i 10 = 0 ∨ ¬ ∀ q, q < w → (grF (mN N) (mW L) i) q = L 42 0 (12 * i + q) := Classical.byContradiction fun z => (by assumption : ¬ c = 0) (hc1.trans (bo_f z))
                           exact hP.elim Or.inl (fun z => Or.inr (fun y => z (fun q hq => y q (by omega)))))
                        | (refine (bo_t ?_).symm
                           exact Or.inr (fun y => absurd ((e44.trans (y w (by omega))).trans e42.symm) (by assumption)))
                        | (refine (bo_f ?_).symm
                           have hP : ¬ (¬ mN N 19 i 10 = 0 ∨ ¬ ∀ q, q < w → (grF (mN N) (mW L) i) q = L 42 0 (12 * i + q)) := fun z => absurd (hc1.trans (bo_t z)) (by omega)
                           intro z
                           refine hP (z.elim Or.inl (fun y => Or.inr (fun x => y (all_s x ?_))))
                           rw [← e44, ← e42]; assumption)
                      refine Sem.seg [(.aload_n 0, 0, 0), (.getfield 69, 5, 22), (.bipush 12, 0, 0), (.iload_n 1, 0, 0), (.imul, 0, 0), (.iload_n 3, 0, 0), (.iadd, 0, 0), (.aload_n 0, 0, 0), (.getfield 76, 5, 24)] ⟨⟨d106_87, trivial⟩, ⟨d106_88, gf5_69⟩, ⟨d106_91, trivial⟩, ⟨d106_93, trivial⟩, ⟨d106_94, trivial⟩, ⟨d106_95, trivial⟩, ⟨d106_96, trivial⟩, ⟨d106_97, trivial⟩, ⟨d106_98, gf5_76⟩, trivial⟩ (lv' := [(2, aN 0), (0, aR 23 0), (1, aN i), (3, aN w)]) (st' := [aR 44 0, aN ((12 * i) + w), aR 42 0]) (w' := wd N L1) (P := [vld NN 23 0, vld NN 23 0]) rfl (⟨vN (t := 23) (i := 0) (by decide), vN (t := 23) (i := 0) (by decide)⟩) (pc' := 101) rfl ?_
                      refine Sem.seg [(.iload_n 3, 0, 0), (.laload, 0, 0), (.lastore, 0, 0), (.iinc 3 1, 0, 0)] ⟨⟨d106_101, trivial⟩, ⟨d106_102, trivial⟩, ⟨d106_103, trivial⟩, ⟨d106_104, trivial⟩, trivial⟩ (lv' := [(3, aN (w + 1)), (2, aN 0), (0, aR 23 0), (1, aN i)]) (st' := []) (w' := wd N (upL L1 42 0 ((12 * i) + w) (L1 44 0 w))) (P := [vld NN 44 0, w < 12, vld NN 42 0, (12 * i) + w < 144]) rfl (⟨vN (t := 44) (i := 0) (by decide), (show w < 12 by omega), vN (t := 42) (i := 0) (by decide), (show (12 * i) + w < 144 by omega)⟩) (pc' := 107) rfl ?_
                      refine Sem.goto (tgt := 50) d106_107 (by decide) ?_
                      refine Sem.pick [2, 3, 1, 0] (lv' := [(0, aR 23 0), (1, aN i), (2, aN 0), (3, aN (w + 1))]) rfl ?_
                      exact ihb _ (by omega) (w + 1) 0 (upL L1 42 0 ((12 * i) + w) (L1 44 0 w)) rfl (by omega) (fun t a b h => (upL_ne (by omega)).trans (f1 t a b (by omega))) (all_s (fun q h => (upL_ne (by omega)).trans (hq q h)) (upL_at.trans e44)) (hcn)
                    · have b14_ : ¬ (L1 44 0 w = L1 42 0 ((12 * i) + w)) := b14
                      refine Sem.seg [(.iconst 1, 0, 0)] ⟨⟨d106_81, trivial⟩, trivial⟩ (lv' := [(0, aR 23 0), (1, aN i), (2, aN c), (3, aN w)]) (st' := [aN 1]) (w' := wd N L1) (P := []) rfl (trivial) (pc' := 82) rfl ?_
                      refine Sem.goto (tgt := 86) d106_82 (by decide) ?_
                      refine Sem.seg [(.istore_n 2, 0, 0)] ⟨⟨d106_86, trivial⟩, trivial⟩ (lv' := [(2, aN 1), (0, aR 23 0), (1, aN i), (3, aN w)]) (st' := []) (w' := wd N L1) (P := []) rfl (trivial) (pc' := 87) rfl ?_
                      have hcn : 1 = bo (¬ mN N 19 i 10 = 0 ∨ ¬ ∀ q, q < w + 1 → (grF (mN N) (mW L) i) q = L 42 0 (12 * i + q)) := by
                        first
                        | (refine (bo_t ?_).symm
                           have hP : ¬ mN N 19 i 10 = 0 ∨ ¬ ∀ q, q < w → (grF (mN N) (mW L) i) q = L 42 0 (12 * i + q) := Classical.byContradiction fun z => (by assumption : ¬ c = 0) (hc1.trans (bo_f z))
                           exact hP.elim Or.inl (fun z => Or.inr (fun y => z (fun q hq => y q (by omega)))))
                        | (refine (bo_t ?_).symm
                           exact Or.inr (fun y => absurd ((e44.trans (y w (by omega))).trans e42.symm) (by assumption)))
                        | (refine (bo_f ?_).symm
                           have hP : ¬ (¬ mN N 19 i 10 = 0 ∨ ¬ ∀ q, q < w → (grF (mN N) (mW L) i) q = L 42 0 (12 * i + q)) := fun z => absurd (hc1.trans (bo_t z)) (by omega)
                           intro z
                           refine hP (z.elim Or.inl (fun y => Or.inr (fun x => y (all_s x ?_))))
                           rw [← e44, ← e42]; assumption)
                      refine Sem.seg [(.aload_n 0, 0, 0), (.getfield 69, 5, 22), (.bipush 12, 0, 0), (.iload_n 1, 0, 0), (.imul, 0, 0), (.iload_n 3, 0, 0), (.iadd, 0, 0), (.aload_n 0, 0, 0), (.getfield 76, 5, 24)] ⟨⟨d106_87, trivial⟩, ⟨d106_88, gf5_69⟩, ⟨d106_91, trivial⟩, ⟨d106_93, trivial⟩, ⟨d106_94, trivial⟩, ⟨d106_95, trivial⟩, ⟨d106_96, trivial⟩, ⟨d106_97, trivial⟩, ⟨d106_98, gf5_76⟩, trivial⟩ (lv' := [(2, aN 1), (0, aR 23 0), (1, aN i), (3, aN w)]) (st' := [aR 44 0, aN ((12 * i) + w), aR 42 0]) (w' := wd N L1) (P := [vld NN 23 0, vld NN 23 0]) rfl (⟨vN (t := 23) (i := 0) (by decide), vN (t := 23) (i := 0) (by decide)⟩) (pc' := 101) rfl ?_
                      refine Sem.seg [(.iload_n 3, 0, 0), (.laload, 0, 0), (.lastore, 0, 0), (.iinc 3 1, 0, 0)] ⟨⟨d106_101, trivial⟩, ⟨d106_102, trivial⟩, ⟨d106_103, trivial⟩, ⟨d106_104, trivial⟩, trivial⟩ (lv' := [(3, aN (w + 1)), (2, aN 1), (0, aR 23 0), (1, aN i)]) (st' := []) (w' := wd N (upL L1 42 0 ((12 * i) + w) (L1 44 0 w))) (P := [vld NN 44 0, w < 12, vld NN 42 0, (12 * i) + w < 144]) rfl (⟨vN (t := 44) (i := 0) (by decide), (show w < 12 by omega), vN (t := 42) (i := 0) (by decide), (show (12 * i) + w < 144 by omega)⟩) (pc' := 107) rfl ?_
                      refine Sem.goto (tgt := 50) d106_107 (by decide) ?_
                      refine Sem.pick [2, 3, 1, 0] (lv' := [(0, aR 23 0), (1, aN i), (2, aN 1), (3, aN (w + 1))]) rfl ?_
                      exact ihb _ (by omega) (w + 1) 1 (upL L1 42 0 ((12 * i) + w) (L1 44 0 w)) rfl (by omega) (fun t a b h => (upL_ne (by omega)).trans (f1 t a b (by omega))) (all_s (fun q h => (upL_ne (by omega)).trans (hq q h)) (upL_at.trans e44)) (hcn)
            refine Sem.pick [1, 2, 3, 0] (lv' := [(0, aR 23 0), (1, aN i), (2, aN c), (3, aN 0)]) rfl ?_
            exact lpb _ 0 c (upW L 44 0 12 (grF (mN N) (mW L) i)) rfl (by omega) (fun _ _ _ _ => rfl) (fun q h => absurd h (by omega)) (by rw [hc0]; exact bo_cg ⟨Or.inl, fun h => h.elim id (fun z => absurd (fun q hq => absurd hq (by omega)) z)⟩)
          · have b11_ : ¬ (12 ≤ w) := b11
            refine Sem.seg [(.aload_n 0, 0, 0), (.getfield 76, 5, 24), (.iload_n 3, 0, 0), (.aload_n 0, 0, 0), (.iload_n 1, 0, 0), (.iload_n 3, 0, 0)] ⟨⟨d106_30, trivial⟩, ⟨d106_31, gf5_76⟩, ⟨d106_34, trivial⟩, ⟨d106_35, trivial⟩, ⟨d106_36, trivial⟩, ⟨d106_37, trivial⟩, trivial⟩ (lv' := [(0, aR 23 0), (1, aN i), (2, aN c), (3, aN w)]) (st' := [aN w, aN i, aR 23 0, aN w, aR 44 0]) (w' := wd N (upW L 44 0 w (grF (mN N) (mW L) i))) (P := [vld NN 23 0]) rfl (vN (t := 23) (i := 0) (by decide)) (pc' := 38) rfl ?_
            refine Sem.cVp1 (t := 23) (i := 0) (as := [aN i, aN w]) (rst := [aN w, aR 44 0]) (c' := 0) (s' := 0) d106_38 mk107 rfl co107 lk5_170 im107 se107 rfl (vN (t := 23) (i := 0) (by decide)) (show 3 ≤ mL 107 by decide) rfl (show 2 ≤ 8 by decide) (by decide) (by decide) rfl rfl (by decide) (by decide) (m107 N (upW L 44 0 w (grF (mN N) (mW L) i)) i w hi (by omega) hc) ?_
            refine Sem.seg [(.lastore, 0, 0), (.iinc 3 1, 0, 0)] ⟨⟨d106_41, trivial⟩, ⟨d106_42, trivial⟩, trivial⟩ (lv' := [(3, aN (w + 1)), (0, aR 23 0), (1, aN i), (2, aN c)]) (st' := []) (w' := wd N (upL (upW L 44 0 w (grF (mN N) (mW L) i)) 44 0 w (grF (mN N) (mW L) i w))) (P := [vld NN 44 0, w < 12]) rfl (⟨vN (t := 44) (i := 0) (by decide), (show w < 12 by omega)⟩) (pc' := 45) rfl ?_
            refine Sem.goto (tgt := 24) d106_45 (by decide) ?_
            refine Sem.pick [1, 2, 3, 0] (lv' := [(0, aR 23 0), (1, aN i), (2, aN c), (3, aN (w + 1))]) rfl ?_
            refine Sem.weq (congrArg (fun z => wd N z) (show upL (upW L 44 0 w (grF (mN N) (mW L) i)) 44 0 w (grF (mN N) (mW L) i w) = upW L 44 0 (w + 1) (grF (mN N) (mW L) i) from upW_s rfl)) ?_
            exact iha _ (by omega) (w + 1) c rfl (by omega) (hc0)
      refine Sem.pick [2, 3, 1, 0] (lv' := [(0, aR 23 0), (1, aN i), (2, aN 1), (3, aN 0)]) rfl ?_
      refine Sem.weq (congrArg (fun z => wd N z) (show L = upW L 44 0 0 (grF (mN N) (mW L) i) from upW_0.symm)) ?_
      exact lpa _ 0 1 rfl (by omega) ((bo_t (by show ¬ (if N 23 0 19 = 0 then 1 else N 41 0 i) = 0; split <;> omega)).symm)

