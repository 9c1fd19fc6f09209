-- ===== the model: pegs =====
theorem m125_1 {sc : XT} (N : TN) (L : TL) (i m : Nat) (hi : i < 12) (hm : m < N 37 0 1) (hc : CD (mN N)) : Sem sc 125 0 [(0, aR 23 0), (1, aN i), (2, aN 1), (3, aN m)] [] (wd N L) 0 0 (QP (some (aL (suO N L i m))) N L) := by
  have h24 : N 37 0 1 ≤ 24 := (hc.2.1 1 (by decide)).1
  have hwk : N 39 0 (24 + m) < 12 := (hc.2.1 1 (by decide)).2.2.1 m hm
  refine Sem.seg [(.iload_n 2, 0, 0), (.iconst 1, 0, 0)] ⟨⟨d125_0, trivial⟩, ⟨d125_1, trivial⟩, trivial⟩ (lv' := [(0, aR 23 0), (1, aN i), (2, aN 1), (3, aN m)]) (st' := [aN 1, aN 1]) (w' := wd N L) (P := []) rfl (trivial) (pc' := 2) rfl ?_
  refine Sem.icmpN (tgt := 17) d125_2 (by decide) (by decide) (by decide) (fun b1 => ?_) (fun b1 => ?_)
  · exact absurd (show ¬ 1 = 1 from b1) (by decide)
  refine Sem.seg [(.aload_n 0, 0, 0), (.getfield 55, 5, 17), (.bipush 24, 0, 0), (.iload_n 3, 0, 0), (.iadd, 0, 0), (.iaload, 0, 0)] ⟨⟨d125_5, trivial⟩, ⟨d125_6, gf5_55⟩, ⟨d125_9, trivial⟩, ⟨d125_11, trivial⟩, ⟨d125_12, trivial⟩, ⟨d125_13, trivial⟩, trivial⟩ (lv' := [(0, aR 23 0), (1, aN i), (2, aN 1), (3, aN m)]) (st' := [aN (N 39 0 (24 + m))]) (w' := wd N L) (P := [vld NN 23 0, vld NN 39 0, 24 + m < 72]) rfl (⟨vN (t := 23) (i := 0) (by decide), vN (t := 39) (i := 0) (by decide), (show 24 + m < 72 by omega)⟩) (pc' := 14) rfl ?_
  refine Sem.goto (tgt := 18) d125_14 (by decide) ?_
  refine Sem.seg [(.istore 4, 0, 0), (.aload_n 0, 0, 0), (.getfield 31, 5, 8), (.iload_n 1, 0, 0), (.iaload, 0, 0), (.i2l, 0, 0), (.lstore 5, 0, 0), (.bipush 24, 0, 0), (.istore 7, 0, 0)] ⟨⟨d125_18, trivial⟩, ⟨d125_20, trivial⟩, ⟨d125_21, gf5_31⟩, ⟨d125_24, trivial⟩, ⟨d125_25, trivial⟩, ⟨d125_26, trivial⟩, ⟨d125_27, trivial⟩, ⟨d125_29, trivial⟩, ⟨d125_31, trivial⟩, trivial⟩ (lv' := [(7, aN 24), (5, aL ((nI (N 31 0 i)).toInt64)), (4, aN (N 39 0 (24 + m))), (0, aR 23 0), (1, aN i), (2, aN 1), (3, aN m)]) (st' := []) (w' := wd N L) (P := [vld NN 23 0, vld NN 31 0, i < 12]) rfl (⟨vN (t := 23) (i := 0) (by decide), vN (t := 31) (i := 0) (by decide), (show i < 12 by omega)⟩) (pc' := 33) rfl ?_
  have lp : ∀ (d_ : Nat) (K j : Nat) (s : Int64), 24 + N 37 0 1 - K = d_ → (K = 24 * 1 + j) → (j ≤ N 37 0 1) → (s = q64 (N 31 0 i) + spl (mN N 9 1) (mN N 10 1) (mN N 11 1) i (N 39 0 (24 + m)) m j) → Sem sc 125 33 [(0, aR 23 0), (1, aN i), (2, aN 1), (3, aN m), (4, aN (N 39 0 (24 + m))), (5, aL s), (7, aN K)] [] (wd N L) 0 0 (QP (some (aL (suO N L i m))) N L) := by
    intro d
    induction d using Nat.strongRecOn with
    | ind d ih =>
      intro K j s hd hK hj hS
      refine Sem.seg [(.iload 7, 0, 0), (.bipush 24, 0, 0), (.aload_n 0, 0, 0), (.getfield 49, 5, 15), (.iconst 1, 0, 0), (.iaload, 0, 0), (.iadd, 0, 0)] ⟨⟨d125_33, trivial⟩, ⟨d125_35, trivial⟩, ⟨d125_37, trivial⟩, ⟨d125_38, gf5_49⟩, ⟨d125_41, trivial⟩, ⟨d125_42, trivial⟩, ⟨d125_43, trivial⟩, trivial⟩ (lv' := [(0, aR 23 0), (1, aN i), (2, aN 1), (3, aN m), (4, aN (N 39 0 (24 + m))), (5, aL s), (7, aN K)]) (st' := [aN (24 + (N 37 0 1)), aN K]) (w' := wd N L) (P := [vld NN 23 0, vld NN 37 0, 1 < 3]) rfl (⟨vN (t := 23) (i := 0) (by decide), vN (t := 37) (i := 0) (by decide), (by decide : (1 : Nat) < 3)⟩) (pc' := 44) rfl ?_
      refine Sem.icmpN (tgt := 132) d125_44 (by decide) (show K < 2 ^ 31 by omega) (show 24 + (N 37 0 1) < 2 ^ 31 by omega) (fun b2 => ?_) (fun b2 => ?_)
      · have b2_ : 24 + (N 37 0 1) ≤ K := b2
        have hjn : j = N 37 0 1 := by omega
        refine Sem.seg [(.lload 5, 0, 0), (.iload 4, 0, 0)] ⟨⟨d125_132, trivial⟩, ⟨d125_134, trivial⟩, trivial⟩ (lv' := [(0, aR 23 0), (1, aN i), (2, aN 1), (3, aN m), (4, aN (N 39 0 (24 + m))), (5, aL s), (7, aN K)]) (st' := [aN (N 39 0 (24 + m)), aL s]) (w' := wd N L) (P := []) rfl (trivial) (pc' := 136) rfl ?_
        refine Sem.ifN (tgt := 154) d125_136 (by decide) (show N 39 0 (24 + m) < 2 ^ 31 by omega) (fun b3 => ?_) (fun b3 => ?_)
        · have b3_ : N 39 0 (24 + m) ≤ 0 := b3
          refine Sem.seg [(.lconst 0, 0, 0), (.ladd, 0, 0)] ⟨⟨d125_154, trivial⟩, ⟨d125_155, trivial⟩, trivial⟩ (lv' := [(0, aR 23 0), (1, aN i), (2, aN 1), (3, aN m), (4, aN (N 39 0 (24 + m))), (5, aL s), (7, aN K)]) (st' := [aL (s + (Int64.ofNat 0))]) (w' := wd N L) (P := []) rfl (trivial) (pc' := 156) rfl ?_
          exact Sem.lret d125_156 rfl (by decide) (by decide) hzW ⟨congrArg (fun z => Sum.inl (some (aL z))) (show s + (Int64.ofNat 0) = suO N L i m by rw [hS, hjn, spl_eq (by omega), ← Int64.add_assoc]; first | (rw [show N 39 0 (24 + m) - 1 + 1 = N 39 0 (24 + m) by omega]; rfl) | (show _ + Int64.ofNat 0 = _ + sm (mW L 21 i) (N 39 0 (24 + m)); rw [show N 39 0 (24 + m) = 0 by omega]; rfl)), rfl⟩
        · have b3_ : ¬ (N 39 0 (24 + m) ≤ 0) := b3
          refine Sem.seg [(.aload_n 0, 0, 0), (.getfield 73, 5, 23), (.iload_n 1, 0, 0), (.iload 4, 0, 0), (.iconst 1, 0, 0), (.isub, 0, 0)] ⟨⟨d125_139, trivial⟩, ⟨d125_140, gf5_73⟩, ⟨d125_143, trivial⟩, ⟨d125_144, trivial⟩, ⟨d125_146, trivial⟩, ⟨d125_147, trivial⟩, trivial⟩ (lv' := [(0, aR 23 0), (1, aN i), (2, aN 1), (3, aN m), (4, aN (N 39 0 (24 + m))), (5, aL s), (7, aN K)]) (st' := [aI ((nI (N 39 0 (24 + m))) - (nI 1)), aN i, aR 43 0, aL s]) (w' := wd N L) (P := [vld NN 23 0]) rfl (vN (t := 23) (i := 0) (by decide)) (pc' := 148) rfl ?_
          refine Sem.topN (show (nI (N 39 0 (24 + m))) - (nI 1) = nI (N 39 0 (24 + m) - 1) from nI_sub (by omega)) ?_
          refine Sem.cSp1 (as := [aR 43 0, aN i, aN (N 39 0 (24 + m) - 1)]) (rst := [aL s]) (c' := 0) (s' := 0) d125_148 mk113 rfl co113 lk5_131 ss113 (show 3 ≤ mL 113 by decide) rfl (show 2 ≤ 8 by decide) (by decide) (by decide) rfl rfl (by decide) (by decide) (m113_43 N L i (N 39 0 (24 + m) - 1) hi (by omega)) ?_
          refine Sem.goto (tgt := 155) d125_151 (by decide) ?_
          refine Sem.seg [(.ladd, 0, 0)] ⟨⟨d125_155, trivial⟩, trivial⟩ (lv' := [(0, aR 23 0), (1, aN i), (2, aN 1), (3, aN m), (4, aN (N 39 0 (24 + m))), (5, aL s), (7, aN K)]) (st' := [aL (s + (sm (mW L 21 i) (N 39 0 (24 + m) - 1 + 1)))]) (w' := wd N L) (P := []) rfl (trivial) (pc' := 156) rfl ?_
          exact Sem.lret d125_156 rfl (by decide) (by decide) hzW ⟨congrArg (fun z => Sum.inl (some (aL z))) (show s + (sm (mW L 21 i) (N 39 0 (24 + m) - 1 + 1)) = suO N L i m by rw [hS, hjn, spl_eq (by omega), ← Int64.add_assoc]; first | (rw [show N 39 0 (24 + m) - 1 + 1 = N 39 0 (24 + m) by omega]; rfl) | (show _ + Int64.ofNat 0 = _ + sm (mW L 21 i) (N 39 0 (24 + m)); rw [show N 39 0 (24 + m) = 0 by omega]; rfl)), rfl⟩
      · have b2_ : ¬ (24 + (N 37 0 1) ≤ K) := b2
        have e9 : mN N 9 1 j = N 38 0 K := by rw [hK]; rfl
        have e10 : mN N 10 1 j = N 39 0 K := by rw [hK]; rfl
        have e11 : mN N 11 1 j = N 40 0 K := by rw [hK]; rfl
        have hI_ : N 38 0 K < 12 := by rw [← e9]; exact (hc.2.1 1 (by decide)).2.1 j (show j < N 37 0 1 by omega)
        have hW_ : N 39 0 K < 12 := by rw [← e10]; exact (hc.2.1 1 (by decide)).2.2.1 j (show j < N 37 0 1 by omega)
        refine Sem.seg [(.aload_n 0, 0, 0), (.getfield 55, 5, 17), (.iload 7, 0, 0), (.iaload, 0, 0), (.iload 4, 0, 0)] ⟨⟨d125_47, trivial⟩, ⟨d125_48, gf5_55⟩, ⟨d125_51, trivial⟩, ⟨d125_53, trivial⟩, ⟨d125_54, trivial⟩, trivial⟩ (lv' := [(0, aR 23 0), (1, aN i), (2, aN 1), (3, aN m), (4, aN (N 39 0 (24 + m))), (5, aL s), (7, aN K)]) (st' := [aN (N 39 0 (24 + m)), aN (N 39 0 K)]) (w' := wd N L) (P := [vld NN 23 0, vld NN 39 0, K < 72]) rfl (⟨vN (t := 23) (i := 0) (by decide), vN (t := 39) (i := 0) (by decide), (show K < 72 by omega)⟩) (pc' := 56) rfl ?_
        refine Sem.icmpN (tgt := 77) d125_56 (by decide) (show N 39 0 K < 2 ^ 31 by omega) (show N 39 0 (24 + m) < 2 ^ 31 by omega) (fun b4 => ?_) (fun b4 => ?_)
        · have b4_ : ¬ N 39 0 K = N 39 0 (24 + m) := b4
          refine Sem.seg [(.iconst 0, 0, 0), (.istore 8, 0, 0), (.aload_n 0, 0, 0), (.getfield 52, 5, 16), (.iload 7, 0, 0), (.iaload, 0, 0), (.iload_n 1, 0, 0)] ⟨⟨d125_77, trivial⟩, ⟨d125_78, trivial⟩, ⟨d125_80, trivial⟩, ⟨d125_81, gf5_52⟩, ⟨d125_84, trivial⟩, ⟨d125_86, trivial⟩, ⟨d125_87, trivial⟩, trivial⟩ (lv' := [(8, aN 0), (0, aR 23 0), (1, aN i), (2, aN 1), (3, aN m), (4, aN (N 39 0 (24 + m))), (5, aL s), (7, aN K)]) (st' := [aN i, aN (N 38 0 K)]) (w' := wd N L) (P := [vld NN 23 0, vld NN 38 0, K < 72]) rfl (⟨vN (t := 23) (i := 0) (by decide), vN (t := 38) (i := 0) (by decide), (show K < 72 by omega)⟩) (pc' := 88) rfl ?_
          refine Sem.icmpN (tgt := 122) d125_88 (by decide) (show N 38 0 K < 2 ^ 31 by omega) (show i < 2 ^ 31 by omega) (fun b5 => ?_) (fun b5 => ?_)
          · have b5_ : ¬ N 38 0 K = i := b5
            refine Sem.seg [(.lload 5, 0, 0), (.lstore 5, 0, 0), (.iinc 7 1, 0, 0)] ⟨⟨d125_122, trivial⟩, ⟨d125_124, trivial⟩, ⟨d125_126, trivial⟩, trivial⟩ (lv' := [(7, aN (K + 1)), (5, aL s), (8, aN 0), (0, aR 23 0), (1, aN i), (2, aN 1), (3, aN m), (4, aN (N 39 0 (24 + m)))]) (st' := []) (w' := wd N L) (P := []) rfl (trivial) (pc' := 129) rfl ?_
            refine Sem.goto (tgt := 33) d125_129 (by decide) ?_
            refine Sem.pick [3, 4, 5, 6, 7, 1, 0] (lv' := [(0, aR 23 0), (1, aN i), (2, aN 1), (3, aN m), (4, aN (N 39 0 (24 + m))), (5, aL s), (7, aN (K + 1))]) rfl ?_
            exact ih _ (by omega) (K + 1) (j + 1) s rfl (by omega) (by omega) (by simp only [spl, sm] at hS ⊢; rw [hS, e9, e10, e11]; first | (rw [if_pos (by omega), Int64.add_assoc]; done) | (rw [if_neg (by omega), Int64.add_zero]; done))
          · have b5_ : ¬ (¬ N 38 0 K = i) := b5
            refine Sem.seg [(.aload_n 0, 0, 0), (.getfield 55, 5, 17), (.iload 7, 0, 0), (.iaload, 0, 0), (.iload 4, 0, 0)] ⟨⟨d125_91, trivial⟩, ⟨d125_92, gf5_55⟩, ⟨d125_95, trivial⟩, ⟨d125_97, trivial⟩, ⟨d125_98, trivial⟩, trivial⟩ (lv' := [(8, aN 0), (0, aR 23 0), (1, aN i), (2, aN 1), (3, aN m), (4, aN (N 39 0 (24 + m))), (5, aL s), (7, aN K)]) (st' := [aN (N 39 0 (24 + m)), aN (N 39 0 K)]) (w' := wd N L) (P := [vld NN 23 0, vld NN 39 0, K < 72]) rfl (⟨vN (t := 23) (i := 0) (by decide), vN (t := 39) (i := 0) (by decide), (show K < 72 by omega)⟩) (pc' := 100) rfl ?_
            refine Sem.icmpN (tgt := 108) d125_100 (by decide) (show N 39 0 K < 2 ^ 31 by omega) (show N 39 0 (24 + m) < 2 ^ 31 by omega) (fun b6 => ?_) (fun b6 => ?_)
            · have b6_ : N 39 0 K < N 39 0 (24 + m) := b6
              refine Sem.seg [(.lload 5, 0, 0), (.aload_n 0, 0, 0), (.getfield 58, 5, 18), (.iload 7, 0, 0), (.iaload, 0, 0), (.i2l, 0, 0), (.ladd, 0, 0)] ⟨⟨d125_108, trivial⟩, ⟨d125_110, trivial⟩, ⟨d125_111, gf5_58⟩, ⟨d125_114, trivial⟩, ⟨d125_116, trivial⟩, ⟨d125_117, trivial⟩, ⟨d125_118, trivial⟩, trivial⟩ (lv' := [(8, aN 0), (0, aR 23 0), (1, aN i), (2, aN 1), (3, aN m), (4, aN (N 39 0 (24 + m))), (5, aL s), (7, aN K)]) (st' := [aL (s + ((nI (N 40 0 K)).toInt64))]) (w' := wd N L) (P := [vld NN 23 0, vld NN 40 0, K < 72]) rfl (⟨vN (t := 23) (i := 0) (by decide), vN (t := 40) (i := 0) (by decide), (show K < 72 by omega)⟩) (pc' := 119) rfl ?_
              refine Sem.goto (tgt := 124) d125_119 (by decide) ?_
              refine Sem.seg [(.lstore 5, 0, 0), (.iinc 7 1, 0, 0)] ⟨⟨d125_124, trivial⟩, ⟨d125_126, trivial⟩, trivial⟩ (lv' := [(7, aN (K + 1)), (5, aL (s + ((nI (N 40 0 K)).toInt64))), (8, aN 0), (0, aR 23 0), (1, aN i), (2, aN 1), (3, aN m), (4, aN (N 39 0 (24 + m)))]) (st' := []) (w' := wd N L) (P := []) rfl (trivial) (pc' := 129) rfl ?_
              refine Sem.goto (tgt := 33) d125_129 (by decide) ?_
              refine Sem.pick [3, 4, 5, 6, 7, 1, 0] (lv' := [(0, aR 23 0), (1, aN i), (2, aN 1), (3, aN m), (4, aN (N 39 0 (24 + m))), (5, aL (s + ((nI (N 40 0 K)).toInt64))), (7, aN (K + 1))]) rfl ?_
              exact ih _ (by omega) (K + 1) (j + 1) (s + ((nI (N 40 0 K)).toInt64)) rfl (by omega) (by omega) (by simp only [spl, sm] at hS ⊢; rw [hS, e9, e10, e11]; first | (rw [if_pos (by omega), Int64.add_assoc]; done) | (rw [if_neg (by omega), Int64.add_zero]; done))
            · have b6_ : ¬ (N 39 0 K < N 39 0 (24 + m)) := b6
              refine Sem.seg [(.iload 8, 0, 0)] ⟨⟨d125_103, trivial⟩, trivial⟩ (lv' := [(8, aN 0), (0, aR 23 0), (1, aN i), (2, aN 1), (3, aN m), (4, aN (N 39 0 (24 + m))), (5, aL s), (7, aN K)]) (st' := [aN 0]) (w' := wd N L) (P := []) rfl (trivial) (pc' := 105) rfl ?_
              refine Sem.ifN (tgt := 122) d125_105 (by decide) (by decide) (fun b7 => ?_) (fun b7 => ?_)
              rotate_left
              · exact absurd (show 0 = 0 from by decide) b7
              refine Sem.seg [(.lload 5, 0, 0), (.lstore 5, 0, 0), (.iinc 7 1, 0, 0)] ⟨⟨d125_122, trivial⟩, ⟨d125_124, trivial⟩, ⟨d125_126, trivial⟩, trivial⟩ (lv' := [(7, aN (K + 1)), (5, aL s), (8, aN 0), (0, aR 23 0), (1, aN i), (2, aN 1), (3, aN m), (4, aN (N 39 0 (24 + m)))]) (st' := []) (w' := wd N L) (P := []) rfl (trivial) (pc' := 129) rfl ?_
              refine Sem.goto (tgt := 33) d125_129 (by decide) ?_
              refine Sem.pick [3, 4, 5, 6, 7, 1, 0] (lv' := [(0, aR 23 0), (1, aN i), (2, aN 1), (3, aN m), (4, aN (N 39 0 (24 + m))), (5, aL s), (7, aN (K + 1))]) rfl ?_
              exact ih _ (by omega) (K + 1) (j + 1) s rfl (by omega) (by omega) (by simp only [spl, sm] at hS ⊢; rw [hS, e9, e10, e11]; first | (rw [if_pos (by omega), Int64.add_assoc]; done) | (rw [if_neg (by omega), Int64.add_zero]; done))
        · have b4_ : ¬ (¬ N 39 0 K = N 39 0 (24 + m)) := b4
          refine Sem.seg [(.iload_n 2, 0, 0), (.iconst 2, 0, 0)] ⟨⟨d125_59, trivial⟩, ⟨d125_60, trivial⟩, trivial⟩ (lv' := [(0, aR 23 0), (1, aN i), (2, aN 1), (3, aN m), (4, aN (N 39 0 (24 + m))), (5, aL s), (7, aN K)]) (st' := [aN 2, aN 1]) (w' := wd N L) (P := []) rfl (trivial) (pc' := 61) rfl ?_
          refine Sem.icmpN (tgt := 73) d125_61 (by decide) (by decide) (by decide) (fun b8 => ?_) (fun b8 => ?_)
          · exact absurd (show 1 = 2 from b8) (by decide)
          refine Sem.seg [(.iload 7, 0, 0), (.bipush 24, 0, 0), (.iload_n 3, 0, 0), (.iadd, 0, 0)] ⟨⟨d125_64, trivial⟩, ⟨d125_66, trivial⟩, ⟨d125_68, trivial⟩, ⟨d125_69, trivial⟩, trivial⟩ (lv' := [(0, aR 23 0), (1, aN i), (2, aN 1), (3, aN m), (4, aN (N 39 0 (24 + m))), (5, aL s), (7, aN K)]) (st' := [aN (24 + m), aN K]) (w' := wd N L) (P := []) rfl (trivial) (pc' := 70) rfl ?_
          refine Sem.icmpN (tgt := 77) d125_70 (by decide) (show K < 2 ^ 31 by omega) (show 24 + m < 2 ^ 31 by omega) (fun b9 => ?_) (fun b9 => ?_)
          · have b9_ : 24 + m ≤ K := b9
            refine Sem.seg [(.iconst 0, 0, 0), (.istore 8, 0, 0), (.aload_n 0, 0, 0), (.getfield 52, 5, 16), (.iload 7, 0, 0), (.iaload, 0, 0), (.iload_n 1, 0, 0)] ⟨⟨d125_77, trivial⟩, ⟨d125_78, trivial⟩, ⟨d125_80, trivial⟩, ⟨d125_81, gf5_52⟩, ⟨d125_84, trivial⟩, ⟨d125_86, trivial⟩, ⟨d125_87, trivial⟩, trivial⟩ (lv' := [(8, aN 0), (0, aR 23 0), (1, aN i), (2, aN 1), (3, aN m), (4, aN (N 39 0 (24 + m))), (5, aL s), (7, aN K)]) (st' := [aN i, aN (N 38 0 K)]) (w' := wd N L) (P := [vld NN 23 0, vld NN 38 0, K < 72]) rfl (⟨vN (t := 23) (i := 0) (by decide), vN (t := 38) (i := 0) (by decide), (show K < 72 by omega)⟩) (pc' := 88) rfl ?_
            refine Sem.icmpN (tgt := 122) d125_88 (by decide) (show N 38 0 K < 2 ^ 31 by omega) (show i < 2 ^ 31 by omega) (fun b10 => ?_) (fun b10 => ?_)
            · have b10_ : ¬ N 38 0 K = i := b10
              refine Sem.seg [(.lload 5, 0, 0), (.lstore 5, 0, 0), (.iinc 7 1, 0, 0)] ⟨⟨d125_122, trivial⟩, ⟨d125_124, trivial⟩, ⟨d125_126, trivial⟩, trivial⟩ (lv' := [(7, aN (K + 1)), (5, aL s), (8, aN 0), (0, aR 23 0), (1, aN i), (2, aN 1), (3, aN m), (4, aN (N 39 0 (24 + m)))]) (st' := []) (w' := wd N L) (P := []) rfl (trivial) (pc' := 129) rfl ?_
              refine Sem.goto (tgt := 33) d125_129 (by decide) ?_
              refine Sem.pick [3, 4, 5, 6, 7, 1, 0] (lv' := [(0, aR 23 0), (1, aN i), (2, aN 1), (3, aN m), (4, aN (N 39 0 (24 + m))), (5, aL s), (7, aN (K + 1))]) rfl ?_
              exact ih _ (by omega) (K + 1) (j + 1) s rfl (by omega) (by omega) (by simp only [spl, sm] at hS ⊢; rw [hS, e9, e10, e11]; first | (rw [if_pos (by omega), Int64.add_assoc]; done) | (rw [if_neg (by omega), Int64.add_zero]; done))
            · have b10_ : ¬ (¬ N 38 0 K = i) := b10
              refine Sem.seg [(.aload_n 0, 0, 0), (.getfield 55, 5, 17), (.iload 7, 0, 0), (.iaload, 0, 0), (.iload 4, 0, 0)] ⟨⟨d125_91, trivial⟩, ⟨d125_92, gf5_55⟩, ⟨d125_95, trivial⟩, ⟨d125_97, trivial⟩, ⟨d125_98, trivial⟩, trivial⟩ (lv' := [(8, aN 0), (0, aR 23 0), (1, aN i), (2, aN 1), (3, aN m), (4, aN (N 39 0 (24 + m))), (5, aL s), (7, aN K)]) (st' := [aN (N 39 0 (24 + m)), aN (N 39 0 K)]) (w' := wd N L) (P := [vld NN 23 0, vld NN 39 0, K < 72]) rfl (⟨vN (t := 23) (i := 0) (by decide), vN (t := 39) (i := 0) (by decide), (show K < 72 by omega)⟩) (pc' := 100) rfl ?_
              refine Sem.icmpN (tgt := 108) d125_100 (by decide) (show N 39 0 K < 2 ^ 31 by omega) (show N 39 0 (24 + m) < 2 ^ 31 by omega) (fun b11 => ?_) (fun b11 => ?_)
              · have b11_ : N 39 0 K < N 39 0 (24 + m) := b11
                refine Sem.seg [(.lload 5, 0, 0), (.aload_n 0, 0, 0), (.getfield 58, 5, 18), (.iload 7, 0, 0), (.iaload, 0, 0), (.i2l, 0, 0), (.ladd, 0, 0)] ⟨⟨d125_108, trivial⟩, ⟨d125_110, trivial⟩, ⟨d125_111, gf5_58⟩, ⟨d125_114, trivial⟩, ⟨d125_116, trivial⟩, ⟨d125_117, trivial⟩, ⟨d125_118, trivial⟩, trivial⟩ (lv' := [(8, aN 0), (0, aR 23 0), (1, aN i), (2, aN 1), (3, aN m), (4, aN (N 39 0 (24 + m))), (5, aL s), (7, aN K)]) (st' := [aL (s + ((nI (N 40 0 K)).toInt64))]) (w' := wd N L) (P := [vld NN 23 0, vld NN 40 0, K < 72]) rfl (⟨vN (t := 23) (i := 0) (by decide), vN (t := 40) (i := 0) (by decide), (show K < 72 by omega)⟩) (pc' := 119) rfl ?_
                refine Sem.goto (tgt := 124) d125_119 (by decide) ?_
                refine Sem.seg [(.lstore 5, 0, 0), (.iinc 7 1, 0, 0)] ⟨⟨d125_124, trivial⟩, ⟨d125_126, trivial⟩, trivial⟩ (lv' := [(7, aN (K + 1)), (5, aL (s + ((nI (N 40 0 K)).toInt64))), (8, aN 0), (0, aR 23 0), (1, aN i), (2, aN 1), (3, aN m), (4, aN (N 39 0 (24 + m)))]) (st' := []) (w' := wd N L) (P := []) rfl (trivial) (pc' := 129) rfl ?_
                refine Sem.goto (tgt := 33) d125_129 (by decide) ?_
                refine Sem.pick [3, 4, 5, 6, 7, 1, 0] (lv' := [(0, aR 23 0), (1, aN i), (2, aN 1), (3, aN m), (4, aN (N 39 0 (24 + m))), (5, aL (s + ((nI (N 40 0 K)).toInt64))), (7, aN (K + 1))]) rfl ?_
                exact ih _ (by omega) (K + 1) (j + 1) (s + ((nI (N 40 0 K)).toInt64)) rfl (by omega) (by omega) (by simp only [spl, sm] at hS ⊢; rw [hS, e9, e10, e11]; first | (rw [if_pos (by omega), Int64.add_assoc]; done) | (rw [if_neg (by omega), Int64.add_zero]; done))
              · have b11_ : ¬ (N 39 0 K < N 39 0 (24 + m)) := b11
                refine Sem.seg [(.iload 8, 0, 0)] ⟨⟨d125_103, trivial⟩, trivial⟩ (lv' := [(8, aN 0), (0, aR 23 0), (1, aN i), (2, aN 1), (3, aN m), (4, aN (N 39 0 (24 + m))), (5, aL s), (7, aN K)]) (st' := [aN 0]) (w' := wd N L) (P := []) rfl (trivial) (pc' := 105) rfl ?_
                refine Sem.ifN (tgt := 122) d125_105 (by decide) (by decide) (fun b12 => ?_) (fun b12 => ?_)
                rotate_left
                · exact absurd (show 0 = 0 from by decide) b12
                refine Sem.seg [(.lload 5, 0, 0), (.lstore 5, 0, 0), (.iinc 7 1, 0, 0)] ⟨⟨d125_122, trivial⟩, ⟨d125_124, trivial⟩, ⟨d125_126, trivial⟩, trivial⟩ (lv' := [(7, aN (K + 1)), (5, aL s), (8, aN 0), (0, aR 23 0), (1, aN i), (2, aN 1), (3, aN m), (4, aN (N 39 0 (24 + m)))]) (st' := []) (w' := wd N L) (P := []) rfl (trivial) (pc' := 129) rfl ?_
                refine Sem.goto (tgt := 33) d125_129 (by decide) ?_
                refine Sem.pick [3, 4, 5, 6, 7, 1, 0] (lv' := [(0, aR 23 0), (1, aN i), (2, aN 1), (3, aN m), (4, aN (N 39 0 (24 + m))), (5, aL s), (7, aN (K + 1))]) rfl ?_
                exact ih _ (by omega) (K + 1) (j + 1) s rfl (by omega) (by omega) (by simp only [spl, sm] at hS ⊢; rw [hS, e9, e10, e11]; first | (rw [if_pos (by omega), Int64.add_assoc]; done) | (rw [if_neg (by omega), Int64.add_zero]; done))
          · have b9_ : ¬ (24 + m ≤ K) := b9
            refine Sem.seg [(.iconst 1, 0, 0)] ⟨⟨d125_73, trivial⟩, trivial⟩ (lv' := [(0, aR 23 0), (1, aN i), (2, aN 1), (3, aN m), (4, aN (N 39 0 (24 + m))), (5, aL s), (7, aN K)]) (st' := [aN 1]) (w' := wd N L) (P := []) rfl (trivial) (pc' := 74) rfl ?_
            refine Sem.goto (tgt := 78) d125_74 (by decide) ?_
            refine Sem.seg [(.istore 8, 0, 0), (.aload_n 0, 0, 0), (.getfield 52, 5, 16), (.iload 7, 0, 0), (.iaload, 0, 0), (.iload_n 1, 0, 0)] ⟨⟨d125_78, trivial⟩, ⟨d125_80, trivial⟩, ⟨d125_81, gf5_52⟩, ⟨d125_84, trivial⟩, ⟨d125_86, trivial⟩, ⟨d125_87, trivial⟩, trivial⟩ (lv' := [(8, aN 1), (0, aR 23 0), (1, aN i), (2, aN 1), (3, aN m), (4, aN (N 39 0 (24 + m))), (5, aL s), (7, aN K)]) (st' := [aN i, aN (N 38 0 K)]) (w' := wd N L) (P := [vld NN 23 0, vld NN 38 0, K < 72]) rfl (⟨vN (t := 23) (i := 0) (by decide), vN (t := 38) (i := 0) (by decide), (show K < 72 by omega)⟩) (pc' := 88) rfl ?_
            refine Sem.icmpN (tgt := 122) d125_88 (by decide) (show N 38 0 K < 2 ^ 31 by omega) (show i < 2 ^ 31 by omega) (fun b13 => ?_) (fun b13 => ?_)
            · have b13_ : ¬ N 38 0 K = i := b13
              refine Sem.seg [(.lload 5, 0, 0), (.lstore 5, 0, 0), (.iinc 7 1, 0, 0)] ⟨⟨d125_122, trivial⟩, ⟨d125_124, trivial⟩, ⟨d125_126, trivial⟩, trivial⟩ (lv' := [(7, aN (K + 1)), (5, aL s), (8, aN 1), (0, aR 23 0), (1, aN i), (2, aN 1), (3, aN m), (4, aN (N 39 0 (24 + m)))]) (st' := []) (w' := wd N L) (P := []) rfl (trivial) (pc' := 129) rfl ?_
              refine Sem.goto (tgt := 33) d125_129 (by decide) ?_
              refine Sem.pick [3, 4, 5, 6, 7, 1, 0] (lv' := [(0, aR 23 0), (1, aN i), (2, aN 1), (3, aN m), (4, aN (N 39 0 (24 + m))), (5, aL s), (7, aN (K + 1))]) rfl ?_
              exact ih _ (by omega) (K + 1) (j + 1) s rfl (by omega) (by omega) (by simp only [spl, sm] at hS ⊢; rw [hS, e9, e10, e11]; first | (rw [if_pos (by omega), Int64.add_assoc]; done) | (rw [if_neg (by omega), Int64.add_zero]; done))
            · have b13_ : ¬ (¬ N 38 0 K = i) := b13
              refine Sem.seg [(.aload_n 0, 0, 0), (.getfield 55, 5, 17), (.iload 7, 0, 0), (.iaload, 0, 0), (.iload 4, 0, 0)] ⟨⟨d125_91, trivial⟩, ⟨d125_92, gf5_55⟩, ⟨d125_95, trivial⟩, ⟨d125_97, trivial⟩, ⟨d125_98, trivial⟩, trivial⟩ (lv' := [(8, aN 1), (0, aR 23 0), (1, aN i), (2, aN 1), (3, aN m), (4, aN (N 39 0 (24 + m))), (5, aL s), (7, aN K)]) (st' := [aN (N 39 0 (24 + m)), aN (N 39 0 K)]) (w' := wd N L) (P := [vld NN 23 0, vld NN 39 0, K < 72]) rfl (⟨vN (t := 23) (i := 0) (by decide), vN (t := 39) (i := 0) (by decide), (show K < 72 by omega)⟩) (pc' := 100) rfl ?_
              refine Sem.icmpN (tgt := 108) d125_100 (by decide) (show N 39 0 K < 2 ^ 31 by omega) (show N 39 0 (24 + m) < 2 ^ 31 by omega) (fun b14 => ?_) (fun b14 => ?_)
              · have b14_ : N 39 0 K < N 39 0 (24 + m) := b14
                refine Sem.seg [(.lload 5, 0, 0), (.aload_n 0, 0, 0), (.getfield 58, 5, 18), (.iload 7, 0, 0), (.iaload, 0, 0), (.i2l, 0, 0), (.ladd, 0, 0)] ⟨⟨d125_108, trivial⟩, ⟨d125_110, trivial⟩, ⟨d125_111, gf5_58⟩, ⟨d125_114, trivial⟩, ⟨d125_116, trivial⟩, ⟨d125_117, trivial⟩, ⟨d125_118, trivial⟩, trivial⟩ (lv' := [(8, aN 1), (0, aR 23 0), (1, aN i), (2, aN 1), (3, aN m), (4, aN (N 39 0 (24 + m))), (5, aL s), (7, aN K)]) (st' := [aL (s + ((nI (N 40 0 K)).toInt64))]) (w' := wd N L) (P := [vld NN 23 0, vld NN 40 0, K < 72]) rfl (⟨vN (t := 23) (i := 0) (by decide), vN (t := 40) (i := 0) (by decide), (show K < 72 by omega)⟩) (pc' := 119) rfl ?_
                refine Sem.goto (tgt := 124) d125_119 (by decide) ?_
                refine Sem.seg [(.lstore 5, 0, 0), (.iinc 7 1, 0, 0)] ⟨⟨d125_124, trivial⟩, ⟨d125_126, trivial⟩, trivial⟩ (lv' := [(7, aN (K + 1)), (5, aL (s + ((nI (N 40 0 K)).toInt64))), (8, aN 1), (0, aR 23 0), (1, aN i), (2, aN 1), (3, aN m), (4, aN (N 39 0 (24 + m)))]) (st' := []) (w' := wd N L) (P := []) rfl (trivial) (pc' := 129) rfl ?_
                refine Sem.goto (tgt := 33) d125_129 (by decide) ?_
                refine Sem.pick [3, 4, 5, 6, 7, 1, 0] (lv' := [(0, aR 23 0), (1, aN i), (2, aN 1), (3, aN m), (4, aN (N 39 0 (24 + m))), (5, aL (s + ((nI (N 40 0 K)).toInt64))), (7, aN (K + 1))]) rfl ?_
                exact ih _ (by omega) (K + 1) (j + 1) (s + ((nI (N 40 0 K)).toInt64)) rfl (by omega) (by omega) (by simp only [spl, sm] at hS ⊢; rw [hS, e9, e10, e11]; first | (rw [if_pos (by omega), Int64.add_assoc]; done) | (rw [if_neg (by omega), Int64.add_zero]; done))
              · have b14_ : ¬ (N 39 0 K < N 39 0 (24 + m)) := b14
                refine Sem.seg [(.iload 8, 0, 0)] ⟨⟨d125_103, trivial⟩, trivial⟩ (lv' := [(8, aN 1), (0, aR 23 0), (1, aN i), (2, aN 1), (3, aN m), (4, aN (N 39 0 (24 + m))), (5, aL s), (7, aN K)]) (st' := [aN 1]) (w' := wd N L) (P := []) rfl (trivial) (pc' := 105) rfl ?_
                refine Sem.ifN (tgt := 122) d125_105 (by decide) (by decide) (fun b15 => ?_) (fun b15 => ?_)
                · exact absurd (show 1 = 0 from b15) (by decide)
                refine Sem.seg [(.lload 5, 0, 0), (.aload_n 0, 0, 0), (.getfield 58, 5, 18), (.iload 7, 0, 0), (.iaload, 0, 0), (.i2l, 0, 0), (.ladd, 0, 0)] ⟨⟨d125_108, trivial⟩, ⟨d125_110, trivial⟩, ⟨d125_111, gf5_58⟩, ⟨d125_114, trivial⟩, ⟨d125_116, trivial⟩, ⟨d125_117, trivial⟩, ⟨d125_118, trivial⟩, trivial⟩ (lv' := [(8, aN 1), (0, aR 23 0), (1, aN i), (2, aN 1), (3, aN m), (4, aN (N 39 0 (24 + m))), (5, aL s), (7, aN K)]) (st' := [aL (s + ((nI (N 40 0 K)).toInt64))]) (w' := wd N L) (P := [vld NN 23 0, vld NN 40 0, K < 72]) rfl (⟨vN (t := 23) (i := 0) (by decide), vN (t := 40) (i := 0) (by decide), (show K < 72 by omega)⟩) (pc' := 119) rfl ?_
                refine Sem.goto (tgt := 124) d125_119 (by decide) ?_
                refine Sem.seg [(.lstore 5, 0, 0), (.iinc 7 1, 0, 0)] ⟨⟨d125_124, trivial⟩, ⟨d125_126, trivial⟩, trivial⟩ (lv' := [(7, aN (K + 1)), (5, aL (s + ((nI (N 40 0 K)).toInt64))), (8, aN 1), (0, aR 23 0), (1, aN i), (2, aN 1), (3, aN m), (4, aN (N 39 0 (24 + m)))]) (st' := []) (w' := wd N L) (P := []) rfl (trivial) (pc' := 129) rfl ?_
                refine Sem.goto (tgt := 33) d125_129 (by decide) ?_
                refine Sem.pick [3, 4, 5, 6, 7, 1, 0] (lv' := [(0, aR 23 0), (1, aN i), (2, aN 1), (3, aN m), (4, aN (N 39 0 (24 + m))), (5, aL (s + ((nI (N 40 0 K)).toInt64))), (7, aN (K + 1))]) rfl ?_
                exact ih _ (by omega) (K + 1) (j + 1) (s + ((nI (N 40 0 K)).toInt64)) rfl (by omega) (by omega) (by simp only [spl, sm] at hS ⊢; rw [hS, e9, e10, e11]; first | (rw [if_pos (by omega), Int64.add_assoc]; done) | (rw [if_neg (by omega), Int64.add_zero]; done))
  refine Sem.pick [3, 4, 5, 6, 2, 1, 0] (lv' := [(0, aR 23 0), (1, aN i), (2, aN 1), (3, aN m), (4, aN (N 39 0 (24 + m))), (5, aL ((nI (N 31 0 i)).toInt64)), (7, aN 24)]) rfl ?_
  exact lp _ 24 0 ((nI (N 31 0 i)).toInt64) rfl (rfl) (by omega) ((Int64.add_zero _).symm)

theorem m125_2 {sc : XT} (N : TN) (L : TL) (i m : Nat) (hi : i < 12) (hm : m < 12) (hc : CD (mN N)) : Sem sc 125 0 [(0, aR 23 0), (1, aN i), (2, aN 2), (3, aN m)] [] (wd N L) 0 0 (QP (some (aL (suR N L i m))) N L) := by
  have h24 : N 37 0 1 ≤ 24 := (hc.2.1 1 (by decide)).1
  refine Sem.seg [(.iload_n 2, 0, 0), (.iconst 1, 0, 0)] ⟨⟨d125_0, trivial⟩, ⟨d125_1, trivial⟩, trivial⟩ (lv' := [(0, aR 23 0), (1, aN i), (2, aN 2), (3, aN m)]) (st' := [aN 1, aN 2]) (w' := wd N L) (P := []) rfl (trivial) (pc' := 2) rfl ?_
  refine Sem.icmpN (tgt := 17) d125_2 (by decide) (by decide) (by decide) (fun b1 => ?_) (fun b1 => ?_)
  rotate_left
  · exact absurd (show ¬ 2 = 1 from by decide) b1
  refine Sem.seg [(.iload_n 3, 0, 0), (.istore 4, 0, 0), (.aload_n 0, 0, 0), (.getfield 31, 5, 8), (.iload_n 1, 0, 0), (.iaload, 0, 0), (.i2l, 0, 0), (.lstore 5, 0, 0), (.bipush 24, 0, 0)] ⟨⟨d125_17, trivial⟩, ⟨d125_18, trivial⟩, ⟨d125_20, trivial⟩, ⟨d125_21, gf5_31⟩, ⟨d125_24, trivial⟩, ⟨d125_25, trivial⟩, ⟨d125_26, trivial⟩, ⟨d125_27, trivial⟩, ⟨d125_29, trivial⟩, trivial⟩ (lv' := [(5, aL ((nI (N 31 0 i)).toInt64)), (4, aN m), (0, aR 23 0), (1, aN i), (2, aN 2), (3, aN m)]) (st' := [aN 24]) (w' := wd N L) (P := [vld NN 23 0, vld NN 31 0, i < 12]) rfl (⟨vN (t := 23) (i := 0) (by decide), vN (t := 31) (i := 0) (by decide), (show i < 12 by omega)⟩) (pc' := 31) rfl ?_
  refine Sem.seg [(.istore 7, 0, 0)] ⟨⟨d125_31, trivial⟩, trivial⟩ (lv' := [(7, aN 24), (5, aL ((nI (N 31 0 i)).toInt64)), (4, aN m), (0, aR 23 0), (1, aN i), (2, aN 2), (3, aN m)]) (st' := []) (w' := wd N L) (P := []) rfl (trivial) (pc' := 33) rfl ?_
  have lp : ∀ (d_ : Nat) (K j : Nat) (s : Int64), 24 + N 37 0 1 - K = d_ → (K = 24 * 1 + j) → (j ≤ N 37 0 1) → (s = q64 (N 31 0 i) + bsm (mN N 9 1) (mN N 10 1) (mN N 11 1) i (m + 1) j) → Sem sc 125 33 [(0, aR 23 0), (1, aN i), (2, aN 2), (3, aN m), (4, aN m), (5, aL s), (7, aN K)] [] (wd N L) 0 0 (QP (some (aL (suR N L i m))) N L) := by
    intro d
    induction d using Nat.strongRecOn with
    | ind d ih =>
      intro K j s hd hK hj hS
      refine Sem.seg [(.iload 7, 0, 0), (.bipush 24, 0, 0), (.aload_n 0, 0, 0), (.getfield 49, 5, 15), (.iconst 1, 0, 0), (.iaload, 0, 0), (.iadd, 0, 0)] ⟨⟨d125_33, trivial⟩, ⟨d125_35, trivial⟩, ⟨d125_37, trivial⟩, ⟨d125_38, gf5_49⟩, ⟨d125_41, trivial⟩, ⟨d125_42, trivial⟩, ⟨d125_43, trivial⟩, trivial⟩ (lv' := [(0, aR 23 0), (1, aN i), (2, aN 2), (3, aN m), (4, aN m), (5, aL s), (7, aN K)]) (st' := [aN (24 + (N 37 0 1)), aN K]) (w' := wd N L) (P := [vld NN 23 0, vld NN 37 0, 1 < 3]) rfl (⟨vN (t := 23) (i := 0) (by decide), vN (t := 37) (i := 0) (by decide), (by decide : (1 : Nat) < 3)⟩) (pc' := 44) rfl ?_
      refine Sem.icmpN (tgt := 132) d125_44 (by decide) (show K < 2 ^ 31 by omega) (show 24 + (N 37 0 1) < 2 ^ 31 by omega) (fun b2 => ?_) (fun b2 => ?_)
      · have b2_ : 24 + (N 37 0 1) ≤ K := b2
        have hjn : j = N 37 0 1 := by omega
        refine Sem.seg [(.lload 5, 0, 0), (.iload 4, 0, 0)] ⟨⟨d125_132, trivial⟩, ⟨d125_134, trivial⟩, trivial⟩ (lv' := [(0, aR 23 0), (1, aN i), (2, aN 2), (3, aN m), (4, aN m), (5, aL s), (7, aN K)]) (st' := [aN m, aL s]) (w' := wd N L) (P := []) rfl (trivial) (pc' := 136) rfl ?_
        refine Sem.ifN (tgt := 154) d125_136 (by decide) (show m < 2 ^ 31 by omega) (fun b3 => ?_) (fun b3 => ?_)
        · have b3_ : m ≤ 0 := b3
          refine Sem.seg [(.lconst 0, 0, 0), (.ladd, 0, 0)] ⟨⟨d125_154, trivial⟩, ⟨d125_155, trivial⟩, trivial⟩ (lv' := [(0, aR 23 0), (1, aN i), (2, aN 2), (3, aN m), (4, aN m), (5, aL s), (7, aN K)]) (st' := [aL (s + (Int64.ofNat 0))]) (w' := wd N L) (P := []) rfl (trivial) (pc' := 156) rfl ?_
          exact Sem.lret d125_156 rfl (by decide) (by decide) hzW ⟨congrArg (fun z => Sum.inl (some (aL z))) (show s + (Int64.ofNat 0) = suR N L i m by rw [hS, hjn]; first | (rw [show m - 1 + 1 = m by omega]; rfl) | (show _ + Int64.ofNat 0 = _ + sm (mW L 21 i) (m); rw [show m = 0 by omega]; rfl)), rfl⟩
        · have b3_ : ¬ (m ≤ 0) := b3
          refine Sem.seg [(.aload_n 0, 0, 0), (.getfield 73, 5, 23), (.iload_n 1, 0, 0), (.iload 4, 0, 0), (.iconst 1, 0, 0), (.isub, 0, 0)] ⟨⟨d125_139, trivial⟩, ⟨d125_140, gf5_73⟩, ⟨d125_143, trivial⟩, ⟨d125_144, trivial⟩, ⟨d125_146, trivial⟩, ⟨d125_147, trivial⟩, trivial⟩ (lv' := [(0, aR 23 0), (1, aN i), (2, aN 2), (3, aN m), (4, aN m), (5, aL s), (7, aN K)]) (st' := [aI ((nI m) - (nI 1)), aN i, aR 43 0, aL s]) (w' := wd N L) (P := [vld NN 23 0]) rfl (vN (t := 23) (i := 0) (by decide)) (pc' := 148) rfl ?_
          refine Sem.topN (show (nI m) - (nI 1) = nI (m - 1) from nI_sub (by omega)) ?_
          refine Sem.cSp1 (as := [aR 43 0, aN i, aN (m - 1)]) (rst := [aL s]) (c' := 0) (s' := 0) d125_148 mk113 rfl co113 lk5_131 ss113 (show 3 ≤ mL 113 by decide) rfl (show 2 ≤ 8 by decide) (by decide) (by decide) rfl rfl (by decide) (by decide) (m113_43 N L i (m - 1) hi (by omega)) ?_
          refine Sem.goto (tgt := 155) d125_151 (by decide) ?_
          refine Sem.seg [(.ladd, 0, 0)] ⟨⟨d125_155, trivial⟩, trivial⟩ (lv' := [(0, aR 23 0), (1, aN i), (2, aN 2), (3, aN m), (4, aN m), (5, aL s), (7, aN K)]) (st' := [aL (s + (sm (mW L 21 i) (m - 1 + 1)))]) (w' := wd N L) (P := []) rfl (trivial) (pc' := 156) rfl ?_
          exact Sem.lret d125_156 rfl (by decide) (by decide) hzW ⟨congrArg (fun z => Sum.inl (some (aL z))) (show s + (sm (mW L 21 i) (m - 1 + 1)) = suR N L i m by rw [hS, hjn]; first | (rw [show m - 1 + 1 = m by omega]; rfl) | (show _ + Int64.ofNat 0 = _ + sm (mW L 21 i) (m); rw [show m = 0 by omega]; rfl)), rfl⟩
      · have b2_ : ¬ (24 + (N 37 0 1) ≤ K) := b2
        have e9 : mN N 9 1 j = N 38 0 K := by rw [hK]; rfl
        have e10 : mN N 10 1 j = N 39 0 K := by rw [hK]; rfl
        have e11 : mN N 11 1 j = N 40 0 K := by rw [hK]; rfl
        have hI_ : N 38 0 K < 12 := by rw [← e9]; exact (hc.2.1 1 (by decide)).2.1 j (show j < N 37 0 1 by omega)
        have hW_ : N 39 0 K < 12 := by rw [← e10]; exact (hc.2.1 1 (by decide)).2.2.1 j (show j < N 37 0 1 by omega)
        refine Sem.seg [(.aload_n 0, 0, 0), (.getfield 55, 5, 17), (.iload 7, 0, 0), (.iaload, 0, 0), (.iload 4, 0, 0)] ⟨⟨d125_47, trivial⟩, ⟨d125_48, gf5_55⟩, ⟨d125_51, trivial⟩, ⟨d125_53, trivial⟩, ⟨d125_54, trivial⟩, trivial⟩ (lv' := [(0, aR 23 0), (1, aN i), (2, aN 2), (3, aN m), (4, aN m), (5, aL s), (7, aN K)]) (st' := [aN m, aN (N 39 0 K)]) (w' := wd N L) (P := [vld NN 23 0, vld NN 39 0, K < 72]) rfl (⟨vN (t := 23) (i := 0) (by decide), vN (t := 39) (i := 0) (by decide), (show K < 72 by omega)⟩) (pc' := 56) rfl ?_
        refine Sem.icmpN (tgt := 77) d125_56 (by decide) (show N 39 0 K < 2 ^ 31 by omega) (show m < 2 ^ 31 by omega) (fun b4 => ?_) (fun b4 => ?_)
        · have b4_ : ¬ N 39 0 K = m := b4
          refine Sem.seg [(.iconst 0, 0, 0), (.istore 8, 0, 0), (.aload_n 0, 0, 0), (.getfield 52, 5, 16), (.iload 7, 0, 0), (.iaload, 0, 0), (.iload_n 1, 0, 0)] ⟨⟨d125_77, trivial⟩, ⟨d125_78, trivial⟩, ⟨d125_80, trivial⟩, ⟨d125_81, gf5_52⟩, ⟨d125_84, trivial⟩, ⟨d125_86, trivial⟩, ⟨d125_87, trivial⟩, trivial⟩ (lv' := [(8, aN 0), (0, aR 23 0), (1, aN i), (2, aN 2), (3, aN m), (4, aN m), (5, aL s), (7, aN K)]) (st' := [aN i, aN (N 38 0 K)]) (w' := wd N L) (P := [vld NN 23 0, vld NN 38 0, K < 72]) rfl (⟨vN (t := 23) (i := 0) (by decide), vN (t := 38) (i := 0) (by decide), (show K < 72 by omega)⟩) (pc' := 88) rfl ?_
          refine Sem.icmpN (tgt := 122) d125_88 (by decide) (show N 38 0 K < 2 ^ 31 by omega) (show i < 2 ^ 31 by omega) (fun b5 => ?_) (fun b5 => ?_)
          · have b5_ : ¬ N 38 0 K = i := b5
            refine Sem.seg [(.lload 5, 0, 0), (.lstore 5, 0, 0), (.iinc 7 1, 0, 0)] ⟨⟨d125_122, trivial⟩, ⟨d125_124, trivial⟩, ⟨d125_126, trivial⟩, trivial⟩ (lv' := [(7, aN (K + 1)), (5, aL s), (8, aN 0), (0, aR 23 0), (1, aN i), (2, aN 2), (3, aN m), (4, aN m)]) (st' := []) (w' := wd N L) (P := []) rfl (trivial) (pc' := 129) rfl ?_
            refine Sem.goto (tgt := 33) d125_129 (by decide) ?_
            refine Sem.pick [3, 4, 5, 6, 7, 1, 0] (lv' := [(0, aR 23 0), (1, aN i), (2, aN 2), (3, aN m), (4, aN m), (5, aL s), (7, aN (K + 1))]) rfl ?_
            exact ih _ (by omega) (K + 1) (j + 1) s rfl (by omega) (by omega) (by simp only [bsm, sm] at hS ⊢; rw [hS, e9, e10, e11]; first | (rw [if_pos (by omega), Int64.add_assoc]; done) | (rw [if_neg (by omega), Int64.add_zero]; done))
          · have b5_ : ¬ (¬ N 38 0 K = i) := b5
            refine Sem.seg [(.aload_n 0, 0, 0), (.getfield 55, 5, 17), (.iload 7, 0, 0), (.iaload, 0, 0), (.iload 4, 0, 0)] ⟨⟨d125_91, trivial⟩, ⟨d125_92, gf5_55⟩, ⟨d125_95, trivial⟩, ⟨d125_97, trivial⟩, ⟨d125_98, trivial⟩, trivial⟩ (lv' := [(8, aN 0), (0, aR 23 0), (1, aN i), (2, aN 2), (3, aN m), (4, aN m), (5, aL s), (7, aN K)]) (st' := [aN m, aN (N 39 0 K)]) (w' := wd N L) (P := [vld NN 23 0, vld NN 39 0, K < 72]) rfl (⟨vN (t := 23) (i := 0) (by decide), vN (t := 39) (i := 0) (by decide), (show K < 72 by omega)⟩) (pc' := 100) rfl ?_
            refine Sem.icmpN (tgt := 108) d125_100 (by decide) (show N 39 0 K < 2 ^ 31 by omega) (show m < 2 ^ 31 by omega) (fun b6 => ?_) (fun b6 => ?_)
            · have b6_ : N 39 0 K < m := b6
              refine Sem.seg [(.lload 5, 0, 0), (.aload_n 0, 0, 0), (.getfield 58, 5, 18), (.iload 7, 0, 0), (.iaload, 0, 0), (.i2l, 0, 0), (.ladd, 0, 0)] ⟨⟨d125_108, trivial⟩, ⟨d125_110, trivial⟩, ⟨d125_111, gf5_58⟩, ⟨d125_114, trivial⟩, ⟨d125_116, trivial⟩, ⟨d125_117, trivial⟩, ⟨d125_118, trivial⟩, trivial⟩ (lv' := [(8, aN 0), (0, aR 23 0), (1, aN i), (2, aN 2), (3, aN m), (4, aN m), (5, aL s), (7, aN K)]) (st' := [aL (s + ((nI (N 40 0 K)).toInt64))]) (w' := wd N L) (P := [vld NN 23 0, vld NN 40 0, K < 72]) rfl (⟨vN (t := 23) (i := 0) (by decide), vN (t := 40) (i := 0) (by decide), (show K < 72 by omega)⟩) (pc' := 119) rfl ?_
              refine Sem.goto (tgt := 124) d125_119 (by decide) ?_
              refine Sem.seg [(.lstore 5, 0, 0), (.iinc 7 1, 0, 0)] ⟨⟨d125_124, trivial⟩, ⟨d125_126, trivial⟩, trivial⟩ (lv' := [(7, aN (K + 1)), (5, aL (s + ((nI (N 40 0 K)).toInt64))), (8, aN 0), (0, aR 23 0), (1, aN i), (2, aN 2), (3, aN m), (4, aN m)]) (st' := []) (w' := wd N L) (P := []) rfl (trivial) (pc' := 129) rfl ?_
              refine Sem.goto (tgt := 33) d125_129 (by decide) ?_
              refine Sem.pick [3, 4, 5, 6, 7, 1, 0] (lv' := [(0, aR 23 0), (1, aN i), (2, aN 2), (3, aN m), (4, aN m), (5, aL (s + ((nI (N 40 0 K)).toInt64))), (7, aN (K + 1))]) rfl ?_
              exact ih _ (by omega) (K + 1) (j + 1) (s + ((nI (N 40 0 K)).toInt64)) rfl (by omega) (by omega) (by simp only [bsm, sm] at hS ⊢; rw [hS, e9, e10, e11]; first | (rw [if_pos (by omega), Int64.add_assoc]; done) | (rw [if_neg (by omega), Int64.add_zero]; done))
            · have b6_ : ¬ (N 39 0 K < m) := b6
              refine Sem.seg [(.iload 8, 0, 0)] ⟨⟨d125_103, trivial⟩, trivial⟩ (lv' := [(8, aN 0), (0, aR 23 0), (1, aN i), (2, aN 2), (3, aN m), (4, aN m), (5, aL s), (7, aN K)]) (st' := [aN 0]) (w' := wd N L) (P := []) rfl (trivial) (pc' := 105) rfl ?_
              refine Sem.ifN (tgt := 122) d125_105 (by decide) (by decide) (fun b7 => ?_) (fun b7 => ?_)
              rotate_left
              · exact absurd (show 0 = 0 from by decide) b7
              refine Sem.seg [(.lload 5, 0, 0), (.lstore 5, 0, 0), (.iinc 7 1, 0, 0)] ⟨⟨d125_122, trivial⟩, ⟨d125_124, trivial⟩, ⟨d125_126, trivial⟩, trivial⟩ (lv' := [(7, aN (K + 1)), (5, aL s), (8, aN 0), (0, aR 23 0), (1, aN i), (2, aN 2), (3, aN m), (4, aN m)]) (st' := []) (w' := wd N L) (P := []) rfl (trivial) (pc' := 129) rfl ?_
              refine Sem.goto (tgt := 33) d125_129 (by decide) ?_
              refine Sem.pick [3, 4, 5, 6, 7, 1, 0] (lv' := [(0, aR 23 0), (1, aN i), (2, aN 2), (3, aN m), (4, aN m), (5, aL s), (7, aN (K + 1))]) rfl ?_
              exact ih _ (by omega) (K + 1) (j + 1) s rfl (by omega) (by omega) (by simp only [bsm, sm] at hS ⊢; rw [hS, e9, e10, e11]; first | (rw [if_pos (by omega), Int64.add_assoc]; done) | (rw [if_neg (by omega), Int64.add_zero]; done))
        · have b4_ : ¬ (¬ N 39 0 K = m) := b4
          refine Sem.seg [(.iload_n 2, 0, 0), (.iconst 2, 0, 0)] ⟨⟨d125_59, trivial⟩, ⟨d125_60, trivial⟩, trivial⟩ (lv' := [(0, aR 23 0), (1, aN i), (2, aN 2), (3, aN m), (4, aN m), (5, aL s), (7, aN K)]) (st' := [aN 2, aN 2]) (w' := wd N L) (P := []) rfl (trivial) (pc' := 61) rfl ?_
          refine Sem.icmpN (tgt := 73) d125_61 (by decide) (by decide) (by decide) (fun b8 => ?_) (fun b8 => ?_)
          rotate_left
          · exact absurd (show 2 = 2 from by decide) b8
          refine Sem.seg [(.iconst 1, 0, 0)] ⟨⟨d125_73, trivial⟩, trivial⟩ (lv' := [(0, aR 23 0), (1, aN i), (2, aN 2), (3, aN m), (4, aN m), (5, aL s), (7, aN K)]) (st' := [aN 1]) (w' := wd N L) (P := []) rfl (trivial) (pc' := 74) rfl ?_
          refine Sem.goto (tgt := 78) d125_74 (by decide) ?_
          refine Sem.seg [(.istore 8, 0, 0), (.aload_n 0, 0, 0), (.getfield 52, 5, 16), (.iload 7, 0, 0), (.iaload, 0, 0), (.iload_n 1, 0, 0)] ⟨⟨d125_78, trivial⟩, ⟨d125_80, trivial⟩, ⟨d125_81, gf5_52⟩, ⟨d125_84, trivial⟩, ⟨d125_86, trivial⟩, ⟨d125_87, trivial⟩, trivial⟩ (lv' := [(8, aN 1), (0, aR 23 0), (1, aN i), (2, aN 2), (3, aN m), (4, aN m), (5, aL s), (7, aN K)]) (st' := [aN i, aN (N 38 0 K)]) (w' := wd N L) (P := [vld NN 23 0, vld NN 38 0, K < 72]) rfl (⟨vN (t := 23) (i := 0) (by decide), vN (t := 38) (i := 0) (by decide), (show K < 72 by omega)⟩) (pc' := 88) rfl ?_
          refine Sem.icmpN (tgt := 122) d125_88 (by decide) (show N 38 0 K < 2 ^ 31 by omega) (show i < 2 ^ 31 by omega) (fun b9 => ?_) (fun b9 => ?_)
          · have b9_ : ¬ N 38 0 K = i := b9
            refine Sem.seg [(.lload 5, 0, 0), (.lstore 5, 0, 0), (.iinc 7 1, 0, 0)] ⟨⟨d125_122, trivial⟩, ⟨d125_124, trivial⟩, ⟨d125_126, trivial⟩, trivial⟩ (lv' := [(7, aN (K + 1)), (5, aL s), (8, aN 1), (0, aR 23 0), (1, aN i), (2, aN 2), (3, aN m), (4, aN m)]) (st' := []) (w' := wd N L) (P := []) rfl (trivial) (pc' := 129) rfl ?_
            refine Sem.goto (tgt := 33) d125_129 (by decide) ?_
            refine Sem.pick [3, 4, 5, 6, 7, 1, 0] (lv' := [(0, aR 23 0), (1, aN i), (2, aN 2), (3, aN m), (4, aN m), (5, aL s), (7, aN (K + 1))]) rfl ?_
            exact ih _ (by omega) (K + 1) (j + 1) s rfl (by omega) (by omega) (by simp only [bsm, sm] at hS ⊢; rw [hS, e9, e10, e11]; first | (rw [if_pos (by omega), Int64.add_assoc]; done) | (rw [if_neg (by omega), Int64.add_zero]; done))
          · have b9_ : ¬ (¬ N 38 0 K = i) := b9
            refine Sem.seg [(.aload_n 0, 0, 0), (.getfield 55, 5, 17), (.iload 7, 0, 0), (.iaload, 0, 0), (.iload 4, 0, 0)] ⟨⟨d125_91, trivial⟩, ⟨d125_92, gf5_55⟩, ⟨d125_95, trivial⟩, ⟨d125_97, trivial⟩, ⟨d125_98, trivial⟩, trivial⟩ (lv' := [(8, aN 1), (0, aR 23 0), (1, aN i), (2, aN 2), (3, aN m), (4, aN m), (5, aL s), (7, aN K)]) (st' := [aN m, aN (N 39 0 K)]) (w' := wd N L) (P := [vld NN 23 0, vld NN 39 0, K < 72]) rfl (⟨vN (t := 23) (i := 0) (by decide), vN (t := 39) (i := 0) (by decide), (show K < 72 by omega)⟩) (pc' := 100) rfl ?_
            refine Sem.icmpN (tgt := 108) d125_100 (by decide) (show N 39 0 K < 2 ^ 31 by omega) (show m < 2 ^ 31 by omega) (fun b10 => ?_) (fun b10 => ?_)
            · have b10_ : N 39 0 K < m := b10
              refine Sem.seg [(.lload 5, 0, 0), (.aload_n 0, 0, 0), (.getfield 58, 5, 18), (.iload 7, 0, 0), (.iaload, 0, 0), (.i2l, 0, 0), (.ladd, 0, 0)] ⟨⟨d125_108, trivial⟩, ⟨d125_110, trivial⟩, ⟨d125_111, gf5_58⟩, ⟨d125_114, trivial⟩, ⟨d125_116, trivial⟩, ⟨d125_117, trivial⟩, ⟨d125_118, trivial⟩, trivial⟩ (lv' := [(8, aN 1), (0, aR 23 0), (1, aN i), (2, aN 2), (3, aN m), (4, aN m), (5, aL s), (7, aN K)]) (st' := [aL (s + ((nI (N 40 0 K)).toInt64))]) (w' := wd N L) (P := [vld NN 23 0, vld NN 40 0, K < 72]) rfl (⟨vN (t := 23) (i := 0) (by decide), vN (t := 40) (i := 0) (by decide), (show K < 72 by omega)⟩) (pc' := 119) rfl ?_
              refine Sem.goto (tgt := 124) d125_119 (by decide) ?_
              refine Sem.seg [(.lstore 5, 0, 0), (.iinc 7 1, 0, 0)] ⟨⟨d125_124, trivial⟩, ⟨d125_126, trivial⟩, trivial⟩ (lv' := [(7, aN (K + 1)), (5, aL (s + ((nI (N 40 0 K)).toInt64))), (8, aN 1), (0, aR 23 0), (1, aN i), (2, aN 2), (3, aN m), (4, aN m)]) (st' := []) (w' := wd N L) (P := []) rfl (trivial) (pc' := 129) rfl ?_
              refine Sem.goto (tgt := 33) d125_129 (by decide) ?_
              refine Sem.pick [3, 4, 5, 6, 7, 1, 0] (lv' := [(0, aR 23 0), (1, aN i), (2, aN 2), (3, aN m), (4, aN m), (5, aL (s + ((nI (N 40 0 K)).toInt64))), (7, aN (K + 1))]) rfl ?_
              exact ih _ (by omega) (K + 1) (j + 1) (s + ((nI (N 40 0 K)).toInt64)) rfl (by omega) (by omega) (by simp only [bsm, sm] at hS ⊢; rw [hS, e9, e10, e11]; first | (rw [if_pos (by omega), Int64.add_assoc]; done) | (rw [if_neg (by omega), Int64.add_zero]; done))
            · have b10_ : ¬ (N 39 0 K < m) := b10
              refine Sem.seg [(.iload 8, 0, 0)] ⟨⟨d125_103, trivial⟩, trivial⟩ (lv' := [(8, aN 1), (0, aR 23 0), (1, aN i), (2, aN 2), (3, aN m), (4, aN m), (5, aL s), (7, aN K)]) (st' := [aN 1]) (w' := wd N L) (P := []) rfl (trivial) (pc' := 105) rfl ?_
              refine Sem.ifN (tgt := 122) d125_105 (by decide) (by decide) (fun b11 => ?_) (fun b11 => ?_)
              · exact absurd (show 1 = 0 from b11) (by decide)
              refine Sem.seg [(.lload 5, 0, 0), (.aload_n 0, 0, 0), (.getfield 58, 5, 18), (.iload 7, 0, 0), (.iaload, 0, 0), (.i2l, 0, 0), (.ladd, 0, 0)] ⟨⟨d125_108, trivial⟩, ⟨d125_110, trivial⟩, ⟨d125_111, gf5_58⟩, ⟨d125_114, trivial⟩, ⟨d125_116, trivial⟩, ⟨d125_117, trivial⟩, ⟨d125_118, trivial⟩, trivial⟩ (lv' := [(8, aN 1), (0, aR 23 0), (1, aN i), (2, aN 2), (3, aN m), (4, aN m), (5, aL s), (7, aN K)]) (st' := [aL (s + ((nI (N 40 0 K)).toInt64))]) (w' := wd N L) (P := [vld NN 23 0, vld NN 40 0, K < 72]) rfl (⟨vN (t := 23) (i := 0) (by decide), vN (t := 40) (i := 0) (by decide), (show K < 72 by omega)⟩) (pc' := 119) rfl ?_
              refine Sem.goto (tgt := 124) d125_119 (by decide) ?_
              refine Sem.seg [(.lstore 5, 0, 0), (.iinc 7 1, 0, 0)] ⟨⟨d125_124, trivial⟩, ⟨d125_126, trivial⟩, trivial⟩ (lv' := [(7, aN (K + 1)), (5, aL (s + ((nI (N 40 0 K)).toInt64))), (8, aN 1), (0, aR 23 0), (1, aN i), (2, aN 2), (3, aN m), (4, aN m)]) (st' := []) (w' := wd N L) (P := []) rfl (trivial) (pc' := 129) rfl ?_
              refine Sem.goto (tgt := 33) d125_129 (by decide) ?_
              refine Sem.pick [3, 4, 5, 6, 7, 1, 0] (lv' := [(0, aR 23 0), (1, aN i), (2, aN 2), (3, aN m), (4, aN m), (5, aL (s + ((nI (N 40 0 K)).toInt64))), (7, aN (K + 1))]) rfl ?_
              exact ih _ (by omega) (K + 1) (j + 1) (s + ((nI (N 40 0 K)).toInt64)) rfl (by omega) (by omega) (by simp only [bsm, sm] at hS ⊢; rw [hS, e9, e10, e11]; first | (rw [if_pos (by omega), Int64.add_assoc]; done) | (rw [if_neg (by omega), Int64.add_zero]; done))
  refine Sem.pick [3, 4, 5, 6, 2, 1, 0] (lv' := [(0, aR 23 0), (1, aN i), (2, aN 2), (3, aN m), (4, aN m), (5, aL ((nI (N 31 0 i)).toInt64)), (7, aN 24)]) rfl ?_
  exact lp _ 24 0 ((nI (N 31 0 i)).toInt64) rfl (rfl) (by omega) ((Int64.add_zero _).symm)

theorem m124t_0 {sc : XT} (N : TN) (L : TL) (d m0 : Nat) (x : Int32) (hd : d < N 37 0 0) (hc : CD (mN N)) : Sem sc 124 109 [(0, aR 23 0), (1, aN d), (2, aN 0), (3, aI x)] [] (wd (upN N 23 0 0 0) L) 0 0 (QJ fun v N' L' => L = L' ∧ N' = upN N 23 0 0 0 ∧ v = pgV (clM N L d) (q64 (N 40 0 d)) (Int64.ofNat 0) (q64 (N 31 0 (N 38 0 d)))) := by
  have h24 : N 37 0 0 ≤ 24 := (hc.2.1 0 (by decide)).1
  have h241 : N 37 0 1 ≤ 24 := (hc.2.1 1 (by decide)).1
  have z9 : ∀ q, mN N 9 0 q = N 38 0 q := fun q => by show N 38 0 (24 * 0 + q) = _; rw [show 24 * 0 + q = q by omega]
  have z10 : ∀ q, mN N 10 0 q = N 39 0 q := fun q => by show N 39 0 (24 * 0 + q) = _; rw [show 24 * 0 + q = q by omega]
  have z11 : ∀ q, mN N 11 0 q = N 40 0 q := fun q => by show N 40 0 (24 * 0 + q) = _; rw [show 24 * 0 + q = q by omega]
  have dI : N 38 0 d < 12 := by rw [← z9]; exact (hc.2.1 0 (by decide)).2.1 d hd
  have dW : N 39 0 d < 12 := by rw [← z10]; exact (hc.2.1 0 (by decide)).2.2.1 d hd
  refine Sem.seg [(.aload_n 0, 0, 0), (.getfield 52, 5, 16), (.iload_n 1, 0, 0), (.iaload, 0, 0), (.istore 6, 0, 0), (.iload_n 2, 0, 0), (.iconst 1, 0, 0)] ⟨⟨d124_109, trivial⟩, ⟨d124_110, gf5_52⟩, ⟨d124_113, trivial⟩, ⟨d124_114, trivial⟩, ⟨d124_115, trivial⟩, ⟨d124_117, trivial⟩, ⟨d124_118, trivial⟩, trivial⟩ (lv' := [(6, aN (N 38 0 d)), (0, aR 23 0), (1, aN d), (2, aN 0), (3, aI x)]) (st' := [aN 1, aN 0]) (w' := wd (upN N 23 0 0 0) L) (P := [vld NN 23 0, vld NN 38 0, d < 72]) rfl (⟨vN (t := 23) (i := 0) (by decide), vN (t := 38) (i := 0) (by decide), (show d < 72 by first | omega | assumption)⟩) (pc' := 119) rfl ?_
  refine Sem.icmpN (tgt := 138) d124_119 (by decide) (by decide) (by decide) (fun b1 => ?_) (fun b1 => ?_)
  rotate_left
  · exact absurd (show ¬ 0 = 1 from by decide) b1
  refine Sem.seg [(.aload_n 0, 0, 0), (.getfield 55, 5, 17), (.iload_n 1, 0, 0), (.iaload, 0, 0)] ⟨⟨d124_138, trivial⟩, ⟨d124_139, gf5_55⟩, ⟨d124_142, trivial⟩, ⟨d124_143, trivial⟩, trivial⟩ (lv' := [(6, aN (N 38 0 d)), (0, aR 23 0), (1, aN d), (2, aN 0), (3, aI x)]) (st' := [aN (N 39 0 d)]) (w' := wd (upN N 23 0 0 0) L) (P := [vld NN 23 0, vld NN 39 0, d < 72]) rfl (⟨vN (t := 23) (i := 0) (by decide), vN (t := 39) (i := 0) (by decide), (show d < 72 by first | omega | assumption)⟩) (pc' := 144) rfl ?_
  refine Sem.ifN (tgt := 167) d124_144 (by decide) (show N 39 0 d < 2 ^ 31 by first | omega | assumption) (fun b2 => ?_) (fun b2 => ?_)
  · have b2_ : N 39 0 d ≤ 0 := b2
    refine Sem.seg [(.lconst 0, 0, 0), (.lstore 7, 0, 0), (.iconst 0, 0, 0), (.istore 9, 0, 0)] ⟨⟨d124_167, trivial⟩, ⟨d124_168, trivial⟩, ⟨d124_170, trivial⟩, ⟨d124_171, trivial⟩, trivial⟩ (lv' := [(9, aN 0), (7, aL (Int64.ofNat 0)), (6, aN (N 38 0 d)), (0, aR 23 0), (1, aN d), (2, aN 0), (3, aI x)]) (st' := []) (w' := wd (upN N 23 0 0 0) L) (P := []) rfl (trivial) (pc' := 173) rfl ?_
    have lpz : ∀ (d_ : Nat) (q : Nat) (s : Int64), d - q = d_ → (q ≤ d) → (s = sm (mW L 20 (N 38 0 d)) (N 39 0 d) + bat (mN N 9 0) (mN N 10 0) (mN N 11 0) (N 38 0 d) (N 39 0 d) q) → Sem sc 124 173 [(0, aR 23 0), (1, aN d), (2, aN 0), (3, aI x), (6, aN (N 38 0 d)), (7, aL s), (9, aN q)] [] (wd (upN N 23 0 0 0) L) 0 0 (QJ fun v N' L' => L = L' ∧ N' = upN N 23 0 0 0 ∧ v = pgV (clM N L d) (q64 (N 40 0 d)) (Int64.ofNat 0) (q64 (N 31 0 (N 38 0 d)))) := by
      intro dz
      induction dz using Nat.strongRecOn with
      | ind dz ihz =>
        intro q s hdz hq hs
        refine Sem.seg [(.iload 9, 0, 0), (.iload_n 1, 0, 0)] ⟨⟨d124_173, trivial⟩, ⟨d124_175, trivial⟩, trivial⟩ (lv' := [(0, aR 23 0), (1, aN d), (2, aN 0), (3, aI x), (6, aN (N 38 0 d)), (7, aL s), (9, aN q)]) (st' := [aN d, aN q]) (w' := wd (upN N 23 0 0 0) L) (P := []) rfl (trivial) (pc' := 176) rfl ?_
        refine Sem.icmpN (tgt := 231) d124_176 (by decide) (show q < 2 ^ 31 by first | omega | assumption) (show d < 2 ^ 31 by first | omega | assumption) (fun b3 => ?_) (fun b3 => ?_)
        · have b3_ : d ≤ q := b3
          have hcl : s = clM N L d := by rw [hs, show q = d by omega]; rfl
          refine Sem.seg [(.lload 7, 0, 0), (.aload_n 0, 0, 0), (.getfield 58, 5, 18), (.iload_n 1, 0, 0), (.iaload, 0, 0), (.i2l, 0, 0), (.ladd, 0, 0), (.lstore 9, 0, 0), (.iload_n 2, 0, 0)] ⟨⟨d124_231, trivial⟩, ⟨d124_233, trivial⟩, ⟨d124_234, gf5_58⟩, ⟨d124_237, trivial⟩, ⟨d124_238, trivial⟩, ⟨d124_239, trivial⟩, ⟨d124_240, trivial⟩, ⟨d124_241, trivial⟩, ⟨d124_243, trivial⟩, trivial⟩ (lv' := [(9, aL (s + ((nI (N 40 0 d)).toInt64))), (0, aR 23 0), (1, aN d), (2, aN 0), (3, aI x), (6, aN (N 38 0 d)), (7, aL s)]) (st' := [aN 0]) (w' := wd (upN N 23 0 0 0) L) (P := [vld NN 23 0, vld NN 40 0, d < 72]) rfl (⟨vN (t := 23) (i := 0) (by decide), vN (t := 40) (i := 0) (by decide), (show d < 72 by first | omega | assumption)⟩) (pc' := 244) rfl ?_
          refine Sem.ifN (tgt := 251) d124_244 (by decide) (by decide) (fun b4 => ?_) (fun b4 => ?_)
          · exact absurd (show ¬ 0 = 0 from b4) (by decide)
          refine Sem.seg [(.lconst 0, 0, 0)] ⟨⟨d124_247, trivial⟩, trivial⟩ (lv' := [(9, aL (s + ((nI (N 40 0 d)).toInt64))), (0, aR 23 0), (1, aN d), (2, aN 0), (3, aI x), (6, aN (N 38 0 d)), (7, aL s)]) (st' := [aL (Int64.ofNat 0)]) (w' := wd (upN N 23 0 0 0) L) (P := []) rfl (trivial) (pc' := 248) rfl ?_
          refine Sem.goto (tgt := 259) d124_248 (by decide) ?_
          refine Sem.seg [(.lstore 11, 0, 0), (.iload_n 2, 0, 0)] ⟨⟨d124_259, trivial⟩, ⟨d124_261, trivial⟩, trivial⟩ (lv' := [(11, aL (Int64.ofNat 0)), (9, aL (s + ((nI (N 40 0 d)).toInt64))), (0, aR 23 0), (1, aN d), (2, aN 0), (3, aI x), (6, aN (N 38 0 d)), (7, aL s)]) (st' := [aN 0]) (w' := wd (upN N 23 0 0 0) L) (P := []) rfl (trivial) (pc' := 262) rfl ?_
          refine Sem.ifN (tgt := 276) d124_262 (by decide) (by decide) (fun b5 => ?_) (fun b5 => ?_)
          · exact absurd (show ¬ 0 = 0 from b5) (by decide)
          refine Sem.seg [(.aload_n 0, 0, 0), (.getfield 31, 5, 8), (.iload 6, 0, 0), (.iaload, 0, 0), (.i2l, 0, 0)] ⟨⟨d124_265, trivial⟩, ⟨d124_266, gf5_31⟩, ⟨d124_269, trivial⟩, ⟨d124_271, trivial⟩, ⟨d124_272, trivial⟩, trivial⟩ (lv' := [(11, aL (Int64.ofNat 0)), (9, aL (s + ((nI (N 40 0 d)).toInt64))), (0, aR 23 0), (1, aN d), (2, aN 0), (3, aI x), (6, aN (N 38 0 d)), (7, aL s)]) (st' := [aL ((nI (N 31 0 (N 38 0 d))).toInt64)]) (w' := wd (upN N 23 0 0 0) L) (P := [vld NN 23 0, vld NN 31 0, N 38 0 d < 12]) rfl (⟨vN (t := 23) (i := 0) (by decide), vN (t := 31) (i := 0) (by decide), (show N 38 0 d < 12 by first | omega | assumption)⟩) (pc' := 273) rfl ?_
          refine Sem.goto (tgt := 309) d124_273 (by decide) ?_
          refine Sem.seg [(.lstore 13, 0, 0), (.lload 7, 0, 0), (.lload 11, 0, 0)] ⟨⟨d124_309, trivial⟩, ⟨d124_311, trivial⟩, ⟨d124_313, trivial⟩, trivial⟩ (lv' := [(13, aL ((nI (N 31 0 (N 38 0 d))).toInt64)), (11, aL (Int64.ofNat 0)), (9, aL (s + ((nI (N 40 0 d)).toInt64))), (0, aR 23 0), (1, aN d), (2, aN 0), (3, aI x), (6, aN (N 38 0 d)), (7, aL s)]) (st' := [aL (Int64.ofNat 0), aL s]) (w' := wd (upN N 23 0 0 0) L) (P := []) rfl (trivial) (pc' := 315) rfl ?_
          refine Sem.lcmp (tgt := 324) d124_315 d124_316 (by decide) (fun b6 => ?_) (fun b6 => ?_)
          · have b6_ : s ≤ Int64.ofNat 0 := b6
            refine Sem.seg [(.lload 11, 0, 0)] ⟨⟨d124_324, trivial⟩, trivial⟩ (lv' := [(13, aL ((nI (N 31 0 (N 38 0 d))).toInt64)), (11, aL (Int64.ofNat 0)), (9, aL (s + ((nI (N 40 0 d)).toInt64))), (0, aR 23 0), (1, aN d), (2, aN 0), (3, aI x), (6, aN (N 38 0 d)), (7, aL s)]) (st' := [aL (Int64.ofNat 0)]) (w' := wd (upN N 23 0 0 0) L) (P := []) rfl (trivial) (pc' := 326) rfl ?_
            have hlo : (if s ≤ (Int64.ofNat 0) then (Int64.ofNat 0) else s) = (Int64.ofNat 0) := by first | exact if_pos (by assumption) | exact if_neg (by assumption)
            refine Sem.seg [(.lstore 15, 0, 0), (.lload 9, 0, 0), (.lload 13, 0, 0)] ⟨⟨d124_326, trivial⟩, ⟨d124_328, trivial⟩, ⟨d124_330, trivial⟩, trivial⟩ (lv' := [(15, aL (Int64.ofNat 0)), (13, aL ((nI (N 31 0 (N 38 0 d))).toInt64)), (11, aL (Int64.ofNat 0)), (9, aL (s + ((nI (N 40 0 d)).toInt64))), (0, aR 23 0), (1, aN d), (2, aN 0), (3, aI x), (6, aN (N 38 0 d)), (7, aL s)]) (st' := [aL ((nI (N 31 0 (N 38 0 d))).toInt64), aL (s + ((nI (N 40 0 d)).toInt64))]) (w' := wd (upN N 23 0 0 0) L) (P := []) rfl (trivial) (pc' := 332) rfl ?_
            refine Sem.lcmp (tgt := 341) d124_332 d124_333 (by decide) (fun b7 => ?_) (fun b7 => ?_)
            · have b7_ : (nI (N 31 0 (N 38 0 d))).toInt64 ≤ s + ((nI (N 40 0 d)).toInt64) := b7
              refine Sem.seg [(.lload 13, 0, 0)] ⟨⟨d124_341, trivial⟩, trivial⟩ (lv' := [(15, aL (Int64.ofNat 0)), (13, aL ((nI (N 31 0 (N 38 0 d))).toInt64)), (11, aL (Int64.ofNat 0)), (9, aL (s + ((nI (N 40 0 d)).toInt64))), (0, aR 23 0), (1, aN d), (2, aN 0), (3, aI x), (6, aN (N 38 0 d)), (7, aL s)]) (st' := [aL ((nI (N 31 0 (N 38 0 d))).toInt64)]) (w' := wd (upN N 23 0 0 0) L) (P := []) rfl (trivial) (pc' := 343) rfl ?_
              have hhi : (if ((nI (N 31 0 (N 38 0 d))).toInt64) ≤ (s + ((nI (N 40 0 d)).toInt64)) then ((nI (N 31 0 (N 38 0 d))).toInt64) else (s + ((nI (N 40 0 d)).toInt64))) = ((nI (N 31 0 (N 38 0 d))).toInt64) := by first | exact if_pos (by assumption) | exact if_neg (by assumption)
              refine Sem.seg [(.lstore 17, 0, 0), (.lload 17, 0, 0), (.lload 15, 0, 0)] ⟨⟨d124_343, trivial⟩, ⟨d124_345, trivial⟩, ⟨d124_347, trivial⟩, trivial⟩ (lv' := [(17, aL ((nI (N 31 0 (N 38 0 d))).toInt64)), (15, aL (Int64.ofNat 0)), (13, aL ((nI (N 31 0 (N 38 0 d))).toInt64)), (11, aL (Int64.ofNat 0)), (9, aL (s + ((nI (N 40 0 d)).toInt64))), (0, aR 23 0), (1, aN d), (2, aN 0), (3, aI x), (6, aN (N 38 0 d)), (7, aL s)]) (st' := [aL (Int64.ofNat 0), aL ((nI (N 31 0 (N 38 0 d))).toInt64)]) (w' := wd (upN N 23 0 0 0) L) (P := []) rfl (trivial) (pc' := 349) rfl ?_
              refine Sem.lcmp (tgt := 361) d124_349 d124_350 (by decide) (fun b8 => ?_) (fun b8 => ?_)
              · have b8_ : (nI (N 31 0 (N 38 0 d))).toInt64 ≤ Int64.ofNat 0 := b8
                refine Sem.seg [(.lconst 0, 0, 0)] ⟨⟨d124_361, trivial⟩, trivial⟩ (lv' := [(17, aL ((nI (N 31 0 (N 38 0 d))).toInt64)), (15, aL (Int64.ofNat 0)), (13, aL ((nI (N 31 0 (N 38 0 d))).toInt64)), (11, aL (Int64.ofNat 0)), (9, aL (s + ((nI (N 40 0 d)).toInt64))), (0, aR 23 0), (1, aN d), (2, aN 0), (3, aI x), (6, aN (N 38 0 d)), (7, aL s)]) (st' := [aL (Int64.ofNat 0)]) (w' := wd (upN N 23 0 0 0) L) (P := []) rfl (trivial) (pc' := 362) rfl ?_
                refine Sem.lret d124_362 rfl (by decide) (by decide) hzW ⟨_, _, _, rfl, rfl, ?_⟩
                refine ⟨rfl, rfl, ?_⟩
                rw [← hcl]
                unfold pgV
                rw [show Int64.ofNat 0 + q64 (N 31 0 (N 38 0 d)) = q64 (N 31 0 (N 38 0 d)) from Int64.zero_add _]
                rw [hhi, hlo]
                first
                | (rw [if_pos (by assumption)]; rfl)
                | rw [if_neg (by assumption)]
              · have b8_ : ¬ ((nI (N 31 0 (N 38 0 d))).toInt64 ≤ Int64.ofNat 0) := b8
                refine Sem.seg [(.lload 17, 0, 0), (.lload 15, 0, 0), (.lsub, 0, 0)] ⟨⟨d124_353, trivial⟩, ⟨d124_355, trivial⟩, ⟨d124_357, trivial⟩, trivial⟩ (lv' := [(17, aL ((nI (N 31 0 (N 38 0 d))).toInt64)), (15, aL (Int64.ofNat 0)), (13, aL ((nI (N 31 0 (N 38 0 d))).toInt64)), (11, aL (Int64.ofNat 0)), (9, aL (s + ((nI (N 40 0 d)).toInt64))), (0, aR 23 0), (1, aN d), (2, aN 0), (3, aI x), (6, aN (N 38 0 d)), (7, aL s)]) (st' := [aL (((nI (N 31 0 (N 38 0 d))).toInt64) - (Int64.ofNat 0))]) (w' := wd (upN N 23 0 0 0) L) (P := []) rfl (trivial) (pc' := 358) rfl ?_
                refine Sem.goto (tgt := 362) d124_358 (by decide) ?_
                refine Sem.lret d124_362 rfl (by decide) (by decide) hzW ⟨_, _, _, rfl, rfl, ?_⟩
                refine ⟨rfl, rfl, ?_⟩
                rw [← hcl]
                unfold pgV
                rw [show Int64.ofNat 0 + q64 (N 31 0 (N 38 0 d)) = q64 (N 31 0 (N 38 0 d)) from Int64.zero_add _]
                rw [hhi, hlo]
                first
                | (rw [if_pos (by assumption)]; rfl)
                | rw [if_neg (by assumption)]
            · have b7_ : ¬ ((nI (N 31 0 (N 38 0 d))).toInt64 ≤ s + ((nI (N 40 0 d)).toInt64)) := b7
              refine Sem.seg [(.lload 9, 0, 0)] ⟨⟨d124_336, trivial⟩, trivial⟩ (lv' := [(15, aL (Int64.ofNat 0)), (13, aL ((nI (N 31 0 (N 38 0 d))).toInt64)), (11, aL (Int64.ofNat 0)), (9, aL (s + ((nI (N 40 0 d)).toInt64))), (0, aR 23 0), (1, aN d), (2, aN 0), (3, aI x), (6, aN (N 38 0 d)), (7, aL s)]) (st' := [aL (s + ((nI (N 40 0 d)).toInt64))]) (w' := wd (upN N 23 0 0 0) L) (P := []) rfl (trivial) (pc' := 338) rfl ?_
              refine Sem.goto (tgt := 343) d124_338 (by decide) ?_
              have hhi : (if ((nI (N 31 0 (N 38 0 d))).toInt64) ≤ (s + ((nI (N 40 0 d)).toInt64)) then ((nI (N 31 0 (N 38 0 d))).toInt64) else (s + ((nI (N 40 0 d)).toInt64))) = (s + ((nI (N 40 0 d)).toInt64)) := by first | exact if_pos (by assumption) | exact if_neg (by assumption)
              refine Sem.seg [(.lstore 17, 0, 0), (.lload 17, 0, 0), (.lload 15, 0, 0)] ⟨⟨d124_343, trivial⟩, ⟨d124_345, trivial⟩, ⟨d124_347, trivial⟩, trivial⟩ (lv' := [(17, aL (s + ((nI (N 40 0 d)).toInt64))), (15, aL (Int64.ofNat 0)), (13, aL ((nI (N 31 0 (N 38 0 d))).toInt64)), (11, aL (Int64.ofNat 0)), (9, aL (s + ((nI (N 40 0 d)).toInt64))), (0, aR 23 0), (1, aN d), (2, aN 0), (3, aI x), (6, aN (N 38 0 d)), (7, aL s)]) (st' := [aL (Int64.ofNat 0), aL (s + ((nI (N 40 0 d)).toInt64))]) (w' := wd (upN N 23 0 0 0) L) (P := []) rfl (trivial) (pc' := 349) rfl ?_
              refine Sem.lcmp (tgt := 361) d124_349 d124_350 (by decide) (fun b9 => ?_) (fun b9 => ?_)
              · have b9_ : s + ((nI (N 40 0 d)).toInt64) ≤ Int64.ofNat 0 := b9
                refine Sem.seg [(.lconst 0, 0, 0)] ⟨⟨d124_361, trivial⟩, trivial⟩ (lv' := [(17, aL (s + ((nI (N 40 0 d)).toInt64))), (15, aL (Int64.ofNat 0)), (13, aL ((nI (N 31 0 (N 38 0 d))).toInt64)), (11, aL (Int64.ofNat 0)), (9, aL (s + ((nI (N 40 0 d)).toInt64))), (0, aR 23 0), (1, aN d), (2, aN 0), (3, aI x), (6, aN (N 38 0 d)), (7, aL s)]) (st' := [aL (Int64.ofNat 0)]) (w' := wd (upN N 23 0 0 0) L) (P := []) rfl (trivial) (pc' := 362) rfl ?_
                refine Sem.lret d124_362 rfl (by decide) (by decide) hzW ⟨_, _, _, rfl, rfl, ?_⟩
                refine ⟨rfl, rfl, ?_⟩
                rw [← hcl]
                unfold pgV
                rw [show Int64.ofNat 0 + q64 (N 31 0 (N 38 0 d)) = q64 (N 31 0 (N 38 0 d)) from Int64.zero_add _]
                rw [hhi, hlo]
                first
                | (rw [if_pos (by assumption)]; rfl)
                | rw [if_neg (by assumption)]
              · have b9_ : ¬ (s + ((nI (N 40 0 d)).toInt64) ≤ Int64.ofNat 0) := b9
                refine Sem.seg [(.lload 17, 0, 0), (.lload 15, 0, 0), (.lsub, 0, 0)] ⟨⟨d124_353, trivial⟩, ⟨d124_355, trivial⟩, ⟨d124_357, trivial⟩, trivial⟩ (lv' := [(17, aL (s + ((nI (N 40 0 d)).toInt64))), (15, aL (Int64.ofNat 0)), (13, aL ((nI (N 31 0 (N 38 0 d))).toInt64)), (11, aL (Int64.ofNat 0)), (9, aL (s + ((nI (N 40 0 d)).toInt64))), (0, aR 23 0), (1, aN d), (2, aN 0), (3, aI x), (6, aN (N 38 0 d)), (7, aL s)]) (st' := [aL ((s + ((nI (N 40 0 d)).toInt64)) - (Int64.ofNat 0))]) (w' := wd (upN N 23 0 0 0) L) (P := []) rfl (trivial) (pc' := 358) rfl ?_
                refine Sem.goto (tgt := 362) d124_358 (by decide) ?_
                refine Sem.lret d124_362 rfl (by decide) (by decide) hzW ⟨_, _, _, rfl, rfl, ?_⟩
                refine ⟨rfl, rfl, ?_⟩
                rw [← hcl]
                unfold pgV
                rw [show Int64.ofNat 0 + q64 (N 31 0 (N 38 0 d)) = q64 (N 31 0 (N 38 0 d)) from Int64.zero_add _]
                rw [hhi, hlo]
                first
                | (rw [if_pos (by assumption)]; rfl)
                | rw [if_neg (by assumption)]
          · have b6_ : ¬ (s ≤ Int64.ofNat 0) := b6
            refine Sem.seg [(.lload 7, 0, 0)] ⟨⟨d124_319, trivial⟩, trivial⟩ (lv' := [(13, aL ((nI (N 31 0 (N 38 0 d))).toInt64)), (11, aL (Int64.ofNat 0)), (9, aL (s + ((nI (N 40 0 d)).toInt64))), (0, aR 23 0), (1, aN d), (2, aN 0), (3, aI x), (6, aN (N 38 0 d)), (7, aL s)]) (st' := [aL s]) (w' := wd (upN N 23 0 0 0) L) (P := []) rfl (trivial) (pc' := 321) rfl ?_
            refine Sem.goto (tgt := 326) d124_321 (by decide) ?_
            have hlo : (if s ≤ (Int64.ofNat 0) then (Int64.ofNat 0) else s) = s := by first | exact if_pos (by assumption) | exact if_neg (by assumption)
            refine Sem.seg [(.lstore 15, 0, 0), (.lload 9, 0, 0), (.lload 13, 0, 0)] ⟨⟨d124_326, trivial⟩, ⟨d124_328, trivial⟩, ⟨d124_330, trivial⟩, trivial⟩ (lv' := [(15, aL s), (13, aL ((nI (N 31 0 (N 38 0 d))).toInt64)), (11, aL (Int64.ofNat 0)), (9, aL (s + ((nI (N 40 0 d)).toInt64))), (0, aR 23 0), (1, aN d), (2, aN 0), (3, aI x), (6, aN (N 38 0 d)), (7, aL s)]) (st' := [aL ((nI (N 31 0 (N 38 0 d))).toInt64), aL (s + ((nI (N 40 0 d)).toInt64))]) (w' := wd (upN N 23 0 0 0) L) (P := []) rfl (trivial) (pc' := 332) rfl ?_
            refine Sem.lcmp (tgt := 341) d124_332 d124_333 (by decide) (fun b10 => ?_) (fun b10 => ?_)
            · have b10_ : (nI (N 31 0 (N 38 0 d))).toInt64 ≤ s + ((nI (N 40 0 d)).toInt64) := b10
              refine Sem.seg [(.lload 13, 0, 0)] ⟨⟨d124_341, trivial⟩, trivial⟩ (lv' := [(15, aL s), (13, aL ((nI (N 31 0 (N 38 0 d))).toInt64)), (11, aL (Int64.ofNat 0)), (9, aL (s + ((nI (N 40 0 d)).toInt64))), (0, aR 23 0), (1, aN d), (2, aN 0), (3, aI x), (6, aN (N 38 0 d)), (7, aL s)]) (st' := [aL ((nI (N 31 0 (N 38 0 d))).toInt64)]) (w' := wd (upN N 23 0 0 0) L) (P := []) rfl (trivial) (pc' := 343) rfl ?_
              have hhi : (if ((nI (N 31 0 (N 38 0 d))).toInt64) ≤ (s + ((nI (N 40 0 d)).toInt64)) then ((nI (N 31 0 (N 38 0 d))).toInt64) else (s + ((nI (N 40 0 d)).toInt64))) = ((nI (N 31 0 (N 38 0 d))).toInt64) := by first | exact if_pos (by assumption) | exact if_neg (by assumption)
              refine Sem.seg [(.lstore 17, 0, 0), (.lload 17, 0, 0), (.lload 15, 0, 0)] ⟨⟨d124_343, trivial⟩, ⟨d124_345, trivial⟩, ⟨d124_347, trivial⟩, trivial⟩ (lv' := [(17, aL ((nI (N 31 0 (N 38 0 d))).toInt64)), (15, aL s), (13, aL ((nI (N 31 0 (N 38 0 d))).toInt64)), (11, aL (Int64.ofNat 0)), (9, aL (s + ((nI (N 40 0 d)).toInt64))), (0, aR 23 0), (1, aN d), (2, aN 0), (3, aI x), (6, aN (N 38 0 d)), (7, aL s)]) (st' := [aL s, aL ((nI (N 31 0 (N 38 0 d))).toInt64)]) (w' := wd (upN N 23 0 0 0) L) (P := []) rfl (trivial) (pc' := 349) rfl ?_
              refine Sem.lcmp (tgt := 361) d124_349 d124_350 (by decide) (fun b11 => ?_) (fun b11 => ?_)
              · have b11_ : (nI (N 31 0 (N 38 0 d))).toInt64 ≤ s := b11
                refine Sem.seg [(.lconst 0, 0, 0)] ⟨⟨d124_361, trivial⟩, trivial⟩ (lv' := [(17, aL ((nI (N 31 0 (N 38 0 d))).toInt64)), (15, aL s), (13, aL ((nI (N 31 0 (N 38 0 d))).toInt64)), (11, aL (Int64.ofNat 0)), (9, aL (s + ((nI (N 40 0 d)).toInt64))), (0, aR 23 0), (1, aN d), (2, aN 0), (3, aI x), (6, aN (N 38 0 d)), (7, aL s)]) (st' := [aL (Int64.ofNat 0)]) (w' := wd (upN N 23 0 0 0) L) (P := []) rfl (trivial) (pc' := 362) rfl ?_
                refine Sem.lret d124_362 rfl (by decide) (by decide) hzW ⟨_, _, _, rfl, rfl, ?_⟩
                refine ⟨rfl, rfl, ?_⟩
                rw [← hcl]
                unfold pgV
                rw [show Int64.ofNat 0 + q64 (N 31 0 (N 38 0 d)) = q64 (N 31 0 (N 38 0 d)) from Int64.zero_add _]
                rw [hhi, hlo]
                first
                | (rw [if_pos (by assumption)]; rfl)
                | rw [if_neg (by assumption)]
              · have b11_ : ¬ ((nI (N 31 0 (N 38 0 d))).toInt64 ≤ s) := b11
                refine Sem.seg [(.lload 17, 0, 0), (.lload 15, 0, 0), (.lsub, 0, 0)] ⟨⟨d124_353, trivial⟩, ⟨d124_355, trivial⟩, ⟨d124_357, trivial⟩, trivial⟩ (lv' := [(17, aL ((nI (N 31 0 (N 38 0 d))).toInt64)), (15, aL s), (13, aL ((nI (N 31 0 (N 38 0 d))).toInt64)), (11, aL (Int64.ofNat 0)), (9, aL (s + ((nI (N 40 0 d)).toInt64))), (0, aR 23 0), (1, aN d), (2, aN 0), (3, aI x), (6, aN (N 38 0 d)), (7, aL s)]) (st' := [aL (((nI (N 31 0 (N 38 0 d))).toInt64) - s)]) (w' := wd (upN N 23 0 0 0) L) (P := []) rfl (trivial) (pc' := 358) rfl ?_
                refine Sem.goto (tgt := 362) d124_358 (by decide) ?_
                refine Sem.lret d124_362 rfl (by decide) (by decide) hzW ⟨_, _, _, rfl, rfl, ?_⟩
                refine ⟨rfl, rfl, ?_⟩
                rw [← hcl]
                unfold pgV
                rw [show Int64.ofNat 0 + q64 (N 31 0 (N 38 0 d)) = q64 (N 31 0 (N 38 0 d)) from Int64.zero_add _]
                rw [hhi, hlo]
                first
                | (rw [if_pos (by assumption)]; rfl)
                | rw [if_neg (by assumption)]
            · have b10_ : ¬ ((nI (N 31 0 (N 38 0 d))).toInt64 ≤ s + ((nI (N 40 0 d)).toInt64)) := b10
              refine Sem.seg [(.lload 9, 0, 0)] ⟨⟨d124_336, trivial⟩, trivial⟩ (lv' := [(15, aL s), (13, aL ((nI (N 31 0 (N 38 0 d))).toInt64)), (11, aL (Int64.ofNat 0)), (9, aL (s + ((nI (N 40 0 d)).toInt64))), (0, aR 23 0), (1, aN d), (2, aN 0), (3, aI x), (6, aN (N 38 0 d)), (7, aL s)]) (st' := [aL (s + ((nI (N 40 0 d)).toInt64))]) (w' := wd (upN N 23 0 0 0) L) (P := []) rfl (trivial) (pc' := 338) rfl ?_
              refine Sem.goto (tgt := 343) d124_338 (by decide) ?_
              have hhi : (if ((nI (N 31 0 (N 38 0 d))).toInt64) ≤ (s + ((nI (N 40 0 d)).toInt64)) then ((nI (N 31 0 (N 38 0 d))).toInt64) else (s + ((nI (N 40 0 d)).toInt64))) = (s + ((nI (N 40 0 d)).toInt64)) := by first | exact if_pos (by assumption) | exact if_neg (by assumption)
              refine Sem.seg [(.lstore 17, 0, 0), (.lload 17, 0, 0), (.lload 15, 0, 0)] ⟨⟨d124_343, trivial⟩, ⟨d124_345, trivial⟩, ⟨d124_347, trivial⟩, trivial⟩ (lv' := [(17, aL (s + ((nI (N 40 0 d)).toInt64))), (15, aL s), (13, aL ((nI (N 31 0 (N 38 0 d))).toInt64)), (11, aL (Int64.ofNat 0)), (9, aL (s + ((nI (N 40 0 d)).toInt64))), (0, aR 23 0), (1, aN d), (2, aN 0), (3, aI x), (6, aN (N 38 0 d)), (7, aL s)]) (st' := [aL s, aL (s + ((nI (N 40 0 d)).toInt64))]) (w' := wd (upN N 23 0 0 0) L) (P := []) rfl (trivial) (pc' := 349) rfl ?_
              refine Sem.lcmp (tgt := 361) d124_349 d124_350 (by decide) (fun b12 => ?_) (fun b12 => ?_)
              · have b12_ : s + ((nI (N 40 0 d)).toInt64) ≤ s := b12
                refine Sem.seg [(.lconst 0, 0, 0)] ⟨⟨d124_361, trivial⟩, trivial⟩ (lv' := [(17, aL (s + ((nI (N 40 0 d)).toInt64))), (15, aL s), (13, aL ((nI (N 31 0 (N 38 0 d))).toInt64)), (11, aL (Int64.ofNat 0)), (9, aL (s + ((nI (N 40 0 d)).toInt64))), (0, aR 23 0), (1, aN d), (2, aN 0), (3, aI x), (6, aN (N 38 0 d)), (7, aL s)]) (st' := [aL (Int64.ofNat 0)]) (w' := wd (upN N 23 0 0 0) L) (P := []) rfl (trivial) (pc' := 362) rfl ?_
                refine Sem.lret d124_362 rfl (by decide) (by decide) hzW ⟨_, _, _, rfl, rfl, ?_⟩
                refine ⟨rfl, rfl, ?_⟩
                rw [← hcl]
                unfold pgV
                rw [show Int64.ofNat 0 + q64 (N 31 0 (N 38 0 d)) = q64 (N 31 0 (N 38 0 d)) from Int64.zero_add _]
                rw [hhi, hlo]
                first
                | (rw [if_pos (by assumption)]; rfl)
                | rw [if_neg (by assumption)]
              · have b12_ : ¬ (s + ((nI (N 40 0 d)).toInt64) ≤ s) := b12
                refine Sem.seg [(.lload 17, 0, 0), (.lload 15, 0, 0), (.lsub, 0, 0)] ⟨⟨d124_353, trivial⟩, ⟨d124_355, trivial⟩, ⟨d124_357, trivial⟩, trivial⟩ (lv' := [(17, aL (s + ((nI (N 40 0 d)).toInt64))), (15, aL s), (13, aL ((nI (N 31 0 (N 38 0 d))).toInt64)), (11, aL (Int64.ofNat 0)), (9, aL (s + ((nI (N 40 0 d)).toInt64))), (0, aR 23 0), (1, aN d), (2, aN 0), (3, aI x), (6, aN (N 38 0 d)), (7, aL s)]) (st' := [aL ((s + ((nI (N 40 0 d)).toInt64)) - s)]) (w' := wd (upN N 23 0 0 0) L) (P := []) rfl (trivial) (pc' := 358) rfl ?_
                refine Sem.goto (tgt := 362) d124_358 (by decide) ?_
                refine Sem.lret d124_362 rfl (by decide) (by decide) hzW ⟨_, _, _, rfl, rfl, ?_⟩
                refine ⟨rfl, rfl, ?_⟩
                rw [← hcl]
                unfold pgV
                rw [show Int64.ofNat 0 + q64 (N 31 0 (N 38 0 d)) = q64 (N 31 0 (N 38 0 d)) from Int64.zero_add _]
                rw [hhi, hlo]
                first
                | (rw [if_pos (by assumption)]; rfl)
                | rw [if_neg (by assumption)]
        · have b3_ : ¬ (d ≤ q) := b3
          have jI : N 38 0 q < 12 := by rw [← z9]; exact (hc.2.1 0 (by decide)).2.1 q (show q < N 37 0 0 by omega)
          have jW : N 39 0 q < 12 := by rw [← z10]; exact (hc.2.1 0 (by decide)).2.2.1 q (show q < N 37 0 0 by omega)
          refine Sem.seg [(.aload_n 0, 0, 0), (.getfield 52, 5, 16), (.iload 9, 0, 0), (.iaload, 0, 0), (.iload 6, 0, 0)] ⟨⟨d124_179, trivial⟩, ⟨d124_180, gf5_52⟩, ⟨d124_183, trivial⟩, ⟨d124_185, trivial⟩, ⟨d124_186, trivial⟩, trivial⟩ (lv' := [(0, aR 23 0), (1, aN d), (2, aN 0), (3, aI x), (6, aN (N 38 0 d)), (7, aL s), (9, aN q)]) (st' := [aN (N 38 0 d), aN (N 38 0 q)]) (w' := wd (upN N 23 0 0 0) L) (P := [vld NN 23 0, vld NN 38 0, q < 72]) rfl (⟨vN (t := 23) (i := 0) (by decide), vN (t := 38) (i := 0) (by decide), (show q < 72 by first | omega | assumption)⟩) (pc' := 188) rfl ?_
          refine Sem.icmpN (tgt := 221) d124_188 (by decide) (show N 38 0 q < 2 ^ 31 by first | omega | assumption) (show N 38 0 d < 2 ^ 31 by first | omega | assumption) (fun b13 => ?_) (fun b13 => ?_)
          · have b13_ : ¬ N 38 0 q = N 38 0 d := b13
            refine Sem.seg [(.lload 7, 0, 0), (.lstore 7, 0, 0), (.iinc 9 1, 0, 0)] ⟨⟨d124_221, trivial⟩, ⟨d124_223, trivial⟩, ⟨d124_225, trivial⟩, trivial⟩ (lv' := [(9, aN (q + 1)), (7, aL s), (0, aR 23 0), (1, aN d), (2, aN 0), (3, aI x), (6, aN (N 38 0 d))]) (st' := []) (w' := wd (upN N 23 0 0 0) L) (P := []) rfl (trivial) (pc' := 228) rfl ?_
            refine Sem.goto (tgt := 173) d124_228 (by decide) ?_
            refine Sem.pick [2, 3, 4, 5, 6, 1, 0] (lv' := [(0, aR 23 0), (1, aN d), (2, aN 0), (3, aI x), (6, aN (N 38 0 d)), (7, aL s), (9, aN (q + 1))]) rfl ?_
            exact ihz _ (by omega) (q + 1) s rfl (by omega) (by simp only [bat, sm] at hs ⊢; rw [hs, z9, z10, z11]; first | (rw [if_pos (by omega), Int64.add_assoc]; done) | (rw [if_neg (by omega), Int64.add_zero]; done))
          · have b13_ : ¬ (¬ N 38 0 q = N 38 0 d) := b13
            refine Sem.seg [(.aload_n 0, 0, 0), (.getfield 55, 5, 17), (.iload 9, 0, 0), (.iaload, 0, 0), (.aload_n 0, 0, 0), (.getfield 55, 5, 17), (.iload_n 1, 0, 0), (.iaload, 0, 0)] ⟨⟨d124_191, trivial⟩, ⟨d124_192, gf5_55⟩, ⟨d124_195, trivial⟩, ⟨d124_197, trivial⟩, ⟨d124_198, trivial⟩, ⟨d124_199, gf5_55⟩, ⟨d124_202, trivial⟩, ⟨d124_203, trivial⟩, trivial⟩ (lv' := [(0, aR 23 0), (1, aN d), (2, aN 0), (3, aI x), (6, aN (N 38 0 d)), (7, aL s), (9, aN q)]) (st' := [aN (N 39 0 d), aN (N 39 0 q)]) (w' := wd (upN N 23 0 0 0) L) (P := [vld NN 23 0, vld NN 39 0, q < 72, vld NN 23 0, vld NN 39 0, d < 72]) rfl (⟨vN (t := 23) (i := 0) (by decide), vN (t := 39) (i := 0) (by decide), (show q < 72 by first | omega | assumption), vN (t := 23) (i := 0) (by decide), vN (t := 39) (i := 0) (by decide), (show d < 72 by first | omega | assumption)⟩) (pc' := 204) rfl ?_
            refine Sem.icmpN (tgt := 221) d124_204 (by decide) (show N 39 0 q < 2 ^ 31 by first | omega | assumption) (show N 39 0 d < 2 ^ 31 by first | omega | assumption) (fun b14 => ?_) (fun b14 => ?_)
            · have b14_ : ¬ N 39 0 q = N 39 0 d := b14
              refine Sem.seg [(.lload 7, 0, 0), (.lstore 7, 0, 0), (.iinc 9 1, 0, 0)] ⟨⟨d124_221, trivial⟩, ⟨d124_223, trivial⟩, ⟨d124_225, trivial⟩, trivial⟩ (lv' := [(9, aN (q + 1)), (7, aL s), (0, aR 23 0), (1, aN d), (2, aN 0), (3, aI x), (6, aN (N 38 0 d))]) (st' := []) (w' := wd (upN N 23 0 0 0) L) (P := []) rfl (trivial) (pc' := 228) rfl ?_
              refine Sem.goto (tgt := 173) d124_228 (by decide) ?_
              refine Sem.pick [2, 3, 4, 5, 6, 1, 0] (lv' := [(0, aR 23 0), (1, aN d), (2, aN 0), (3, aI x), (6, aN (N 38 0 d)), (7, aL s), (9, aN (q + 1))]) rfl ?_
              exact ihz _ (by omega) (q + 1) s rfl (by omega) (by simp only [bat, sm] at hs ⊢; rw [hs, z9, z10, z11]; first | (rw [if_pos (by omega), Int64.add_assoc]; done) | (rw [if_neg (by omega), Int64.add_zero]; done))
            · have b14_ : ¬ (¬ N 39 0 q = N 39 0 d) := b14
              refine Sem.seg [(.lload 7, 0, 0), (.aload_n 0, 0, 0), (.getfield 58, 5, 18), (.iload 9, 0, 0), (.iaload, 0, 0), (.i2l, 0, 0), (.ladd, 0, 0)] ⟨⟨d124_207, trivial⟩, ⟨d124_209, trivial⟩, ⟨d124_210, gf5_58⟩, ⟨d124_213, trivial⟩, ⟨d124_215, trivial⟩, ⟨d124_216, trivial⟩, ⟨d124_217, trivial⟩, trivial⟩ (lv' := [(0, aR 23 0), (1, aN d), (2, aN 0), (3, aI x), (6, aN (N 38 0 d)), (7, aL s), (9, aN q)]) (st' := [aL (s + ((nI (N 40 0 q)).toInt64))]) (w' := wd (upN N 23 0 0 0) L) (P := [vld NN 23 0, vld NN 40 0, q < 72]) rfl (⟨vN (t := 23) (i := 0) (by decide), vN (t := 40) (i := 0) (by decide), (show q < 72 by first | omega | assumption)⟩) (pc' := 218) rfl ?_
              refine Sem.goto (tgt := 223) d124_218 (by decide) ?_
              refine Sem.seg [(.lstore 7, 0, 0), (.iinc 9 1, 0, 0)] ⟨⟨d124_223, trivial⟩, ⟨d124_225, trivial⟩, trivial⟩ (lv' := [(9, aN (q + 1)), (7, aL (s + ((nI (N 40 0 q)).toInt64))), (0, aR 23 0), (1, aN d), (2, aN 0), (3, aI x), (6, aN (N 38 0 d))]) (st' := []) (w' := wd (upN N 23 0 0 0) L) (P := []) rfl (trivial) (pc' := 228) rfl ?_
              refine Sem.goto (tgt := 173) d124_228 (by decide) ?_
              refine Sem.pick [2, 3, 4, 5, 6, 1, 0] (lv' := [(0, aR 23 0), (1, aN d), (2, aN 0), (3, aI x), (6, aN (N 38 0 d)), (7, aL (s + ((nI (N 40 0 q)).toInt64))), (9, aN (q + 1))]) rfl ?_
              exact ihz _ (by omega) (q + 1) (s + ((nI (N 40 0 q)).toInt64)) rfl (by omega) (by simp only [bat, sm] at hs ⊢; rw [hs, z9, z10, z11]; first | (rw [if_pos (by omega), Int64.add_assoc]; done) | (rw [if_neg (by omega), Int64.add_zero]; done))
    refine Sem.pick [3, 4, 5, 6, 2, 1, 0] (lv' := [(0, aR 23 0), (1, aN d), (2, aN 0), (3, aI x), (6, aN (N 38 0 d)), (7, aL (Int64.ofNat 0)), (9, aN 0)]) rfl ?_
    exact lpz _ 0 (Int64.ofNat 0) rfl (by omega) (by rw [show N 39 0 d = 0 by omega]; rfl)
  · have b2_ : ¬ (N 39 0 d ≤ 0) := b2
    refine Sem.seg [(.aload_n 0, 0, 0), (.getfield 69, 5, 22), (.iload 6, 0, 0), (.aload_n 0, 0, 0), (.getfield 55, 5, 17), (.iload_n 1, 0, 0), (.iaload, 0, 0), (.iconst 1, 0, 0), (.isub, 0, 0)] ⟨⟨d124_147, trivial⟩, ⟨d124_148, gf5_69⟩, ⟨d124_151, trivial⟩, ⟨d124_153, trivial⟩, ⟨d124_154, gf5_55⟩, ⟨d124_157, trivial⟩, ⟨d124_158, trivial⟩, ⟨d124_159, trivial⟩, ⟨d124_160, trivial⟩, trivial⟩ (lv' := [(6, aN (N 38 0 d)), (0, aR 23 0), (1, aN d), (2, aN 0), (3, aI x)]) (st' := [aI ((nI (N 39 0 d)) - (nI 1)), aN (N 38 0 d), aR 42 0]) (w' := wd (upN N 23 0 0 0) L) (P := [vld NN 23 0, vld NN 23 0, vld NN 39 0, d < 72]) rfl (⟨vN (t := 23) (i := 0) (by decide), vN (t := 23) (i := 0) (by decide), vN (t := 39) (i := 0) (by decide), (show d < 72 by first | omega | assumption)⟩) (pc' := 161) rfl ?_
    refine Sem.topN (show (nI (N 39 0 d)) - (nI 1) = nI (N 39 0 d - 1) from nI_sub (by omega)) ?_
    refine Sem.cSp1 (as := [aR 42 0, aN (N 38 0 d), aN (N 39 0 d - 1)]) (rst := []) (c' := 0) (s' := 0) d124_161 mk113 rfl co113 lk5_131 ss113 (show 3 ≤ mL 113 by decide) rfl (show 0 ≤ 8 by decide) (by decide) (by decide) rfl rfl (by decide) (by decide) (m113_42 (upN N 23 0 0 0) L (N 38 0 d) (N 39 0 d - 1) dI (by omega)) ?_
    refine Sem.goto (tgt := 168) d124_164 (by decide) ?_
    refine Sem.seg [(.lstore 7, 0, 0), (.iconst 0, 0, 0), (.istore 9, 0, 0)] ⟨⟨d124_168, trivial⟩, ⟨d124_170, trivial⟩, ⟨d124_171, trivial⟩, trivial⟩ (lv' := [(9, aN 0), (7, aL (sm (mW L 20 (N 38 0 d)) (N 39 0 d - 1 + 1))), (6, aN (N 38 0 d)), (0, aR 23 0), (1, aN d), (2, aN 0), (3, aI x)]) (st' := []) (w' := wd (upN N 23 0 0 0) L) (P := []) rfl (trivial) (pc' := 173) rfl ?_
    have lpz : ∀ (d_ : Nat) (q : Nat) (s : Int64), d - q = d_ → (q ≤ d) → (s = sm (mW L 20 (N 38 0 d)) (N 39 0 d) + bat (mN N 9 0) (mN N 10 0) (mN N 11 0) (N 38 0 d) (N 39 0 d) q) → Sem sc 124 173 [(0, aR 23 0), (1, aN d), (2, aN 0), (3, aI x), (6, aN (N 38 0 d)), (7, aL s), (9, aN q)] [] (wd (upN N 23 0 0 0) L) 0 0 (QJ fun v N' L' => L = L' ∧ N' = upN N 23 0 0 0 ∧ v = pgV (clM N L d) (q64 (N 40 0 d)) (Int64.ofNat 0) (q64 (N 31 0 (N 38 0 d)))) := by
      intro dz
      induction dz using Nat.strongRecOn with
      | ind dz ihz =>
        intro q s hdz hq hs
        refine Sem.seg [(.iload 9, 0, 0), (.iload_n 1, 0, 0)] ⟨⟨d124_173, trivial⟩, ⟨d124_175, trivial⟩, trivial⟩ (lv' := [(0, aR 23 0), (1, aN d), (2, aN 0), (3, aI x), (6, aN (N 38 0 d)), (7, aL s), (9, aN q)]) (st' := [aN d, aN q]) (w' := wd (upN N 23 0 0 0) L) (P := []) rfl (trivial) (pc' := 176) rfl ?_
        refine Sem.icmpN (tgt := 231) d124_176 (by decide) (show q < 2 ^ 31 by first | omega | assumption) (show d < 2 ^ 31 by first | omega | assumption) (fun b15 => ?_) (fun b15 => ?_)
        · have b15_ : d ≤ q := b15
          have hcl : s = clM N L d := by rw [hs, show q = d by omega]; rfl
          refine Sem.seg [(.lload 7, 0, 0), (.aload_n 0, 0, 0), (.getfield 58, 5, 18), (.iload_n 1, 0, 0), (.iaload, 0, 0), (.i2l, 0, 0), (.ladd, 0, 0), (.lstore 9, 0, 0), (.iload_n 2, 0, 0)] ⟨⟨d124_231, trivial⟩, ⟨d124_233, trivial⟩, ⟨d124_234, gf5_58⟩, ⟨d124_237, trivial⟩, ⟨d124_238, trivial⟩, ⟨d124_239, trivial⟩, ⟨d124_240, trivial⟩, ⟨d124_241, trivial⟩, ⟨d124_243, trivial⟩, trivial⟩ (lv' := [(9, aL (s + ((nI (N 40 0 d)).toInt64))), (0, aR 23 0), (1, aN d), (2, aN 0), (3, aI x), (6, aN (N 38 0 d)), (7, aL s)]) (st' := [aN 0]) (w' := wd (upN N 23 0 0 0) L) (P := [vld NN 23 0, vld NN 40 0, d < 72]) rfl (⟨vN (t := 23) (i := 0) (by decide), vN (t := 40) (i := 0) (by decide), (show d < 72 by first | omega | assumption)⟩) (pc' := 244) rfl ?_
          refine Sem.ifN (tgt := 251) d124_244 (by decide) (by decide) (fun b16 => ?_) (fun b16 => ?_)
          · exact absurd (show ¬ 0 = 0 from b16) (by decide)
          refine Sem.seg [(.lconst 0, 0, 0)] ⟨⟨d124_247, trivial⟩, trivial⟩ (lv' := [(9, aL (s + ((nI (N 40 0 d)).toInt64))), (0, aR 23 0), (1, aN d), (2, aN 0), (3, aI x), (6, aN (N 38 0 d)), (7, aL s)]) (st' := [aL (Int64.ofNat 0)]) (w' := wd (upN N 23 0 0 0) L) (P := []) rfl (trivial) (pc' := 248) rfl ?_
          refine Sem.goto (tgt := 259) d124_248 (by decide) ?_
          refine Sem.seg [(.lstore 11, 0, 0), (.iload_n 2, 0, 0)] ⟨⟨d124_259, trivial⟩, ⟨d124_261, trivial⟩, trivial⟩ (lv' := [(11, aL (Int64.ofNat 0)), (9, aL (s + ((nI (N 40 0 d)).toInt64))), (0, aR 23 0), (1, aN d), (2, aN 0), (3, aI x), (6, aN (N 38 0 d)), (7, aL s)]) (st' := [aN 0]) (w' := wd (upN N 23 0 0 0) L) (P := []) rfl (trivial) (pc' := 262) rfl ?_
          refine Sem.ifN (tgt := 276) d124_262 (by decide) (by decide) (fun b17 => ?_) (fun b17 => ?_)
          · exact absurd (show ¬ 0 = 0 from b17) (by decide)
          refine Sem.seg [(.aload_n 0, 0, 0), (.getfield 31, 5, 8), (.iload 6, 0, 0), (.iaload, 0, 0), (.i2l, 0, 0)] ⟨⟨d124_265, trivial⟩, ⟨d124_266, gf5_31⟩, ⟨d124_269, trivial⟩, ⟨d124_271, trivial⟩, ⟨d124_272, trivial⟩, trivial⟩ (lv' := [(11, aL (Int64.ofNat 0)), (9, aL (s + ((nI (N 40 0 d)).toInt64))), (0, aR 23 0), (1, aN d), (2, aN 0), (3, aI x), (6, aN (N 38 0 d)), (7, aL s)]) (st' := [aL ((nI (N 31 0 (N 38 0 d))).toInt64)]) (w' := wd (upN N 23 0 0 0) L) (P := [vld NN 23 0, vld NN 31 0, N 38 0 d < 12]) rfl (⟨vN (t := 23) (i := 0) (by decide), vN (t := 31) (i := 0) (by decide), (show N 38 0 d < 12 by first | omega | assumption)⟩) (pc' := 273) rfl ?_
          refine Sem.goto (tgt := 309) d124_273 (by decide) ?_
          refine Sem.seg [(.lstore 13, 0, 0), (.lload 7, 0, 0), (.lload 11, 0, 0)] ⟨⟨d124_309, trivial⟩, ⟨d124_311, trivial⟩, ⟨d124_313, trivial⟩, trivial⟩ (lv' := [(13, aL ((nI (N 31 0 (N 38 0 d))).toInt64)), (11, aL (Int64.ofNat 0)), (9, aL (s + ((nI (N 40 0 d)).toInt64))), (0, aR 23 0), (1, aN d), (2, aN 0), (3, aI x), (6, aN (N 38 0 d)), (7, aL s)]) (st' := [aL (Int64.ofNat 0), aL s]) (w' := wd (upN N 23 0 0 0) L) (P := []) rfl (trivial) (pc' := 315) rfl ?_
          refine Sem.lcmp (tgt := 324) d124_315 d124_316 (by decide) (fun b18 => ?_) (fun b18 => ?_)
          · have b18_ : s ≤ Int64.ofNat 0 := b18
            refine Sem.seg [(.lload 11, 0, 0)] ⟨⟨d124_324, trivial⟩, trivial⟩ (lv' := [(13, aL ((nI (N 31 0 (N 38 0 d))).toInt64)), (11, aL (Int64.ofNat 0)), (9, aL (s + ((nI (N 40 0 d)).toInt64))), (0, aR 23 0), (1, aN d), (2, aN 0), (3, aI x), (6, aN (N 38 0 d)), (7, aL s)]) (st' := [aL (Int64.ofNat 0)]) (w' := wd (upN N 23 0 0 0) L) (P := []) rfl (trivial) (pc' := 326) rfl ?_
            have hlo : (if s ≤ (Int64.ofNat 0) then (Int64.ofNat 0) else s) = (Int64.ofNat 0) := by first | exact if_pos (by assumption) | exact if_neg (by assumption)
            refine Sem.seg [(.lstore 15, 0, 0), (.lload 9, 0, 0), (.lload 13, 0, 0)] ⟨⟨d124_326, trivial⟩, ⟨d124_328, trivial⟩, ⟨d124_330, trivial⟩, trivial⟩ (lv' := [(15, aL (Int64.ofNat 0)), (13, aL ((nI (N 31 0 (N 38 0 d))).toInt64)), (11, aL (Int64.ofNat 0)), (9, aL (s + ((nI (N 40 0 d)).toInt64))), (0, aR 23 0), (1, aN d), (2, aN 0), (3, aI x), (6, aN (N 38 0 d)), (7, aL s)]) (st' := [aL ((nI (N 31 0 (N 38 0 d))).toInt64), aL (s + ((nI (N 40 0 d)).toInt64))]) (w' := wd (upN N 23 0 0 0) L) (P := []) rfl (trivial) (pc' := 332) rfl ?_
            refine Sem.lcmp (tgt := 341) d124_332 d124_333 (by decide) (fun b19 => ?_) (fun b19 => ?_)
            · have b19_ : (nI (N 31 0 (N 38 0 d))).toInt64 ≤ s + ((nI (N 40 0 d)).toInt64) := b19
              refine Sem.seg [(.lload 13, 0, 0)] ⟨⟨d124_341, trivial⟩, trivial⟩ (lv' := [(15, aL (Int64.ofNat 0)), (13, aL ((nI (N 31 0 (N 38 0 d))).toInt64)), (11, aL (Int64.ofNat 0)), (9, aL (s + ((nI (N 40 0 d)).toInt64))), (0, aR 23 0), (1, aN d), (2, aN 0), (3, aI x), (6, aN (N 38 0 d)), (7, aL s)]) (st' := [aL ((nI (N 31 0 (N 38 0 d))).toInt64)]) (w' := wd (upN N 23 0 0 0) L) (P := []) rfl (trivial) (pc' := 343) rfl ?_
              have hhi : (if ((nI (N 31 0 (N 38 0 d))).toInt64) ≤ (s + ((nI (N 40 0 d)).toInt64)) then ((nI (N 31 0 (N 38 0 d))).toInt64) else (s + ((nI (N 40 0 d)).toInt64))) = ((nI (N 31 0 (N 38 0 d))).toInt64) := by first | exact if_pos (by assumption) | exact if_neg (by assumption)
              refine Sem.seg [(.lstore 17, 0, 0), (.lload 17, 0, 0), (.lload 15, 0, 0)] ⟨⟨d124_343, trivial⟩, ⟨d124_345, trivial⟩, ⟨d124_347, trivial⟩, trivial⟩ (lv' := [(17, aL ((nI (N 31 0 (N 38 0 d))).toInt64)), (15, aL (Int64.ofNat 0)), (13, aL ((nI (N 31 0 (N 38 0 d))).toInt64)), (11, aL (Int64.ofNat 0)), (9, aL (s + ((nI (N 40 0 d)).toInt64))), (0, aR 23 0), (1, aN d), (2, aN 0), (3, aI x), (6, aN (N 38 0 d)), (7, aL s)]) (st' := [aL (Int64.ofNat 0), aL ((nI (N 31 0 (N 38 0 d))).toInt64)]) (w' := wd (upN N 23 0 0 0) L) (P := []) rfl (trivial) (pc' := 349) rfl ?_
              refine Sem.lcmp (tgt := 361) d124_349 d124_350 (by decide) (fun b20 => ?_) (fun b20 => ?_)
              · have b20_ : (nI (N 31 0 (N 38 0 d))).toInt64 ≤ Int64.ofNat 0 := b20
                refine Sem.seg [(.lconst 0, 0, 0)] ⟨⟨d124_361, trivial⟩, trivial⟩ (lv' := [(17, aL ((nI (N 31 0 (N 38 0 d))).toInt64)), (15, aL (Int64.ofNat 0)), (13, aL ((nI (N 31 0 (N 38 0 d))).toInt64)), (11, aL (Int64.ofNat 0)), (9, aL (s + ((nI (N 40 0 d)).toInt64))), (0, aR 23 0), (1, aN d), (2, aN 0), (3, aI x), (6, aN (N 38 0 d)), (7, aL s)]) (st' := [aL (Int64.ofNat 0)]) (w' := wd (upN N 23 0 0 0) L) (P := []) rfl (trivial) (pc' := 362) rfl ?_
                refine Sem.lret d124_362 rfl (by decide) (by decide) hzW ⟨_, _, _, rfl, rfl, ?_⟩
                refine ⟨rfl, rfl, ?_⟩
                rw [← hcl]
                unfold pgV
                rw [show Int64.ofNat 0 + q64 (N 31 0 (N 38 0 d)) = q64 (N 31 0 (N 38 0 d)) from Int64.zero_add _]
                rw [hhi, hlo]
                first
                | (rw [if_pos (by assumption)]; rfl)
                | rw [if_neg (by assumption)]
              · have b20_ : ¬ ((nI (N 31 0 (N 38 0 d))).toInt64 ≤ Int64.ofNat 0) := b20
                refine Sem.seg [(.lload 17, 0, 0), (.lload 15, 0, 0), (.lsub, 0, 0)] ⟨⟨d124_353, trivial⟩, ⟨d124_355, trivial⟩, ⟨d124_357, trivial⟩, trivial⟩ (lv' := [(17, aL ((nI (N 31 0 (N 38 0 d))).toInt64)), (15, aL (Int64.ofNat 0)), (13, aL ((nI (N 31 0 (N 38 0 d))).toInt64)), (11, aL (Int64.ofNat 0)), (9, aL (s + ((nI (N 40 0 d)).toInt64))), (0, aR 23 0), (1, aN d), (2, aN 0), (3, aI x), (6, aN (N 38 0 d)), (7, aL s)]) (st' := [aL (((nI (N 31 0 (N 38 0 d))).toInt64) - (Int64.ofNat 0))]) (w' := wd (upN N 23 0 0 0) L) (P := []) rfl (trivial) (pc' := 358) rfl ?_
                refine Sem.goto (tgt := 362) d124_358 (by decide) ?_
                refine Sem.lret d124_362 rfl (by decide) (by decide) hzW ⟨_, _, _, rfl, rfl, ?_⟩
                refine ⟨rfl, rfl, ?_⟩
                rw [← hcl]
                unfold pgV
                rw [show Int64.ofNat 0 + q64 (N 31 0 (N 38 0 d)) = q64 (N 31 0 (N 38 0 d)) from Int64.zero_add _]
                rw [hhi, hlo]
                first
                | (rw [if_pos (by assumption)]; rfl)
                | rw [if_neg (by assumption)]
            · have b19_ : ¬ ((nI (N 31 0 (N 38 0 d))).toInt64 ≤ s + ((nI (N 40 0 d)).toInt64)) := b19
              refine Sem.seg [(.lload 9, 0, 0)] ⟨⟨d124_336, trivial⟩, trivial⟩ (lv' := [(15, aL (Int64.ofNat 0)), (13, aL ((nI (N 31 0 (N 38 0 d))).toInt64)), (11, aL (Int64.ofNat 0)), (9, aL (s + ((nI (N 40 0 d)).toInt64))), (0, aR 23 0), (1, aN d), (2, aN 0), (3, aI x), (6, aN (N 38 0 d)), (7, aL s)]) (st' := [aL (s + ((nI (N 40 0 d)).toInt64))]) (w' := wd (upN N 23 0 0 0) L) (P := []) rfl (trivial) (pc' := 338) rfl ?_
              refine Sem.goto (tgt := 343) d124_338 (by decide) ?_
              have hhi : (if ((nI (N 31 0 (N 38 0 d))).toInt64) ≤ (s + ((nI (N 40 0 d)).toInt64)) then ((nI (N 31 0 (N 38 0 d))).toInt64) else (s + ((nI (N 40 0 d)).toInt64))) = (s + ((nI (N 40 0 d)).toInt64)) := by first | exact if_pos (by assumption) | exact if_neg (by assumption)
              refine Sem.seg [(.lstore 17, 0, 0), (.lload 17, 0, 0), (.lload 15, 0, 0)] ⟨⟨d124_343, trivial⟩, ⟨d124_345, trivial⟩, ⟨d124_347, trivial⟩, trivial⟩ (lv' := [(17, aL (s + ((nI (N 40 0 d)).toInt64))), (15, aL (Int64.ofNat 0)), (13, aL ((nI (N 31 0 (N 38 0 d))).toInt64)), (11, aL (Int64.ofNat 0)), (9, aL (s + ((nI (N 40 0 d)).toInt64))), (0, aR 23 0), (1, aN d), (2, aN 0), (3, aI x), (6, aN (N 38 0 d)), (7, aL s)]) (st' := [aL (Int64.ofNat 0), aL (s + ((nI (N 40 0 d)).toInt64))]) (w' := wd (upN N 23 0 0 0) L) (P := []) rfl (trivial) (pc' := 349) rfl ?_
              refine Sem.lcmp (tgt := 361) d124_349 d124_350 (by decide) (fun b21 => ?_) (fun b21 => ?_)
              · have b21_ : s + ((nI (N 40 0 d)).toInt64) ≤ Int64.ofNat 0 := b21
                refine Sem.seg [(.lconst 0, 0, 0)] ⟨⟨d124_361, trivial⟩, trivial⟩ (lv' := [(17, aL (s + ((nI (N 40 0 d)).toInt64))), (15, aL (Int64.ofNat 0)), (13, aL ((nI (N 31 0 (N 38 0 d))).toInt64)), (11, aL (Int64.ofNat 0)), (9, aL (s + ((nI (N 40 0 d)).toInt64))), (0, aR 23 0), (1, aN d), (2, aN 0), (3, aI x), (6, aN (N 38 0 d)), (7, aL s)]) (st' := [aL (Int64.ofNat 0)]) (w' := wd (upN N 23 0 0 0) L) (P := []) rfl (trivial) (pc' := 362) rfl ?_
                refine Sem.lret d124_362 rfl (by decide) (by decide) hzW ⟨_, _, _, rfl, rfl, ?_⟩
                refine ⟨rfl, rfl, ?_⟩
                rw [← hcl]
                unfold pgV
                rw [show Int64.ofNat 0 + q64 (N 31 0 (N 38 0 d)) = q64 (N 31 0 (N 38 0 d)) from Int64.zero_add _]
                rw [hhi, hlo]
                first
                | (rw [if_pos (by assumption)]; rfl)
                | rw [if_neg (by assumption)]
              · have b21_ : ¬ (s + ((nI (N 40 0 d)).toInt64) ≤ Int64.ofNat 0) := b21
                refine Sem.seg [(.lload 17, 0, 0), (.lload 15, 0, 0), (.lsub, 0, 0)] ⟨⟨d124_353, trivial⟩, ⟨d124_355, trivial⟩, ⟨d124_357, trivial⟩, trivial⟩ (lv' := [(17, aL (s + ((nI (N 40 0 d)).toInt64))), (15, aL (Int64.ofNat 0)), (13, aL ((nI (N 31 0 (N 38 0 d))).toInt64)), (11, aL (Int64.ofNat 0)), (9, aL (s + ((nI (N 40 0 d)).toInt64))), (0, aR 23 0), (1, aN d), (2, aN 0), (3, aI x), (6, aN (N 38 0 d)), (7, aL s)]) (st' := [aL ((s + ((nI (N 40 0 d)).toInt64)) - (Int64.ofNat 0))]) (w' := wd (upN N 23 0 0 0) L) (P := []) rfl (trivial) (pc' := 358) rfl ?_
                refine Sem.goto (tgt := 362) d124_358 (by decide) ?_
                refine Sem.lret d124_362 rfl (by decide) (by decide) hzW ⟨_, _, _, rfl, rfl, ?_⟩
                refine ⟨rfl, rfl, ?_⟩
                rw [← hcl]
                unfold pgV
                rw [show Int64.ofNat 0 + q64 (N 31 0 (N 38 0 d)) = q64 (N 31 0 (N 38 0 d)) from Int64.zero_add _]
                rw [hhi, hlo]
                first
                | (rw [if_pos (by assumption)]; rfl)
                | rw [if_neg (by assumption)]
          · have b18_ : ¬ (s ≤ Int64.ofNat 0) := b18
            refine Sem.seg [(.lload 7, 0, 0)] ⟨⟨d124_319, trivial⟩, trivial⟩ (lv' := [(13, aL ((nI (N 31 0 (N 38 0 d))).toInt64)), (11, aL (Int64.ofNat 0)), (9, aL (s + ((nI (N 40 0 d)).toInt64))), (0, aR 23 0), (1, aN d), (2, aN 0), (3, aI x), (6, aN (N 38 0 d)), (7, aL s)]) (st' := [aL s]) (w' := wd (upN N 23 0 0 0) L) (P := []) rfl (trivial) (pc' := 321) rfl ?_
            refine Sem.goto (tgt := 326) d124_321 (by decide) ?_
            have hlo : (if s ≤ (Int64.ofNat 0) then (Int64.ofNat 0) else s) = s := by first | exact if_pos (by assumption) | exact if_neg (by assumption)
            refine Sem.seg [(.lstore 15, 0, 0), (.lload 9, 0, 0), (.lload 13, 0, 0)] ⟨⟨d124_326, trivial⟩, ⟨d124_328, trivial⟩, ⟨d124_330, trivial⟩, trivial⟩ (lv' := [(15, aL s), (13, aL ((nI (N 31 0 (N 38 0 d))).toInt64)), (11, aL (Int64.ofNat 0)), (9, aL (s + ((nI (N 40 0 d)).toInt64))), (0, aR 23 0), (1, aN d), (2, aN 0), (3, aI x), (6, aN (N 38 0 d)), (7, aL s)]) (st' := [aL ((nI (N 31 0 (N 38 0 d))).toInt64), aL (s + ((nI (N 40 0 d)).toInt64))]) (w' := wd (upN N 23 0 0 0) L) (P := []) rfl (trivial) (pc' := 332) rfl ?_
            refine Sem.lcmp (tgt := 341) d124_332 d124_333 (by decide) (fun b22 => ?_) (fun b22 => ?_)
            · have b22_ : (nI (N 31 0 (N 38 0 d))).toInt64 ≤ s + ((nI (N 40 0 d)).toInt64) := b22
              refine Sem.seg [(.lload 13, 0, 0)] ⟨⟨d124_341, trivial⟩, trivial⟩ (lv' := [(15, aL s), (13, aL ((nI (N 31 0 (N 38 0 d))).toInt64)), (11, aL (Int64.ofNat 0)), (9, aL (s + ((nI (N 40 0 d)).toInt64))), (0, aR 23 0), (1, aN d), (2, aN 0), (3, aI x), (6, aN (N 38 0 d)), (7, aL s)]) (st' := [aL ((nI (N 31 0 (N 38 0 d))).toInt64)]) (w' := wd (upN N 23 0 0 0) L) (P := []) rfl (trivial) (pc' := 343) rfl ?_
              have hhi : (if ((nI (N 31 0 (N 38 0 d))).toInt64) ≤ (s + ((nI (N 40 0 d)).toInt64)) then ((nI (N 31 0 (N 38 0 d))).toInt64) else (s + ((nI (N 40 0 d)).toInt64))) = ((nI (N 31 0 (N 38 0 d))).toInt64) := by first | exact if_pos (by assumption) | exact if_neg (by assumption)
              refine Sem.seg [(.lstore 17, 0, 0), (.lload 17, 0, 0), (.lload 15, 0, 0)] ⟨⟨d124_343, trivial⟩, ⟨d124_345, trivial⟩, ⟨d124_347, trivial⟩, trivial⟩ (lv' := [(17, aL ((nI (N 31 0 (N 38 0 d))).toInt64)), (15, aL s), (13, aL ((nI (N 31 0 (N 38 0 d))).toInt64)), (11, aL (Int64.ofNat 0)), (9, aL (s + ((nI (N 40 0 d)).toInt64))), (0, aR 23 0), (1, aN d), (2, aN 0), (3, aI x), (6, aN (N 38 0 d)), (7, aL s)]) (st' := [aL s, aL ((nI (N 31 0 (N 38 0 d))).toInt64)]) (w' := wd (upN N 23 0 0 0) L) (P := []) rfl (trivial) (pc' := 349) rfl ?_
              refine Sem.lcmp (tgt := 361) d124_349 d124_350 (by decide) (fun b23 => ?_) (fun b23 => ?_)
              · have b23_ : (nI (N 31 0 (N 38 0 d))).toInt64 ≤ s := b23
                refine Sem.seg [(.lconst 0, 0, 0)] ⟨⟨d124_361, trivial⟩, trivial⟩ (lv' := [(17, aL ((nI (N 31 0 (N 38 0 d))).toInt64)), (15, aL s), (13, aL ((nI (N 31 0 (N 38 0 d))).toInt64)), (11, aL (Int64.ofNat 0)), (9, aL (s + ((nI (N 40 0 d)).toInt64))), (0, aR 23 0), (1, aN d), (2, aN 0), (3, aI x), (6, aN (N 38 0 d)), (7, aL s)]) (st' := [aL (Int64.ofNat 0)]) (w' := wd (upN N 23 0 0 0) L) (P := []) rfl (trivial) (pc' := 362) rfl ?_
                refine Sem.lret d124_362 rfl (by decide) (by decide) hzW ⟨_, _, _, rfl, rfl, ?_⟩
                refine ⟨rfl, rfl, ?_⟩
                rw [← hcl]
                unfold pgV
                rw [show Int64.ofNat 0 + q64 (N 31 0 (N 38 0 d)) = q64 (N 31 0 (N 38 0 d)) from Int64.zero_add _]
                rw [hhi, hlo]
                first
                | (rw [if_pos (by assumption)]; rfl)
                | rw [if_neg (by assumption)]
              · have b23_ : ¬ ((nI (N 31 0 (N 38 0 d))).toInt64 ≤ s) := b23
                refine Sem.seg [(.lload 17, 0, 0), (.lload 15, 0, 0), (.lsub, 0, 0)] ⟨⟨d124_353, trivial⟩, ⟨d124_355, trivial⟩, ⟨d124_357, trivial⟩, trivial⟩ (lv' := [(17, aL ((nI (N 31 0 (N 38 0 d))).toInt64)), (15, aL s), (13, aL ((nI (N 31 0 (N 38 0 d))).toInt64)), (11, aL (Int64.ofNat 0)), (9, aL (s + ((nI (N 40 0 d)).toInt64))), (0, aR 23 0), (1, aN d), (2, aN 0), (3, aI x), (6, aN (N 38 0 d)), (7, aL s)]) (st' := [aL (((nI (N 31 0 (N 38 0 d))).toInt64) - s)]) (w' := wd (upN N 23 0 0 0) L) (P := []) rfl (trivial) (pc' := 358) rfl ?_
                refine Sem.goto (tgt := 362) d124_358 (by decide) ?_
                refine Sem.lret d124_362 rfl (by decide) (by decide) hzW ⟨_, _, _, rfl, rfl, ?_⟩
                refine ⟨rfl, rfl, ?_⟩
                rw [← hcl]
                unfold pgV
                rw [show Int64.ofNat 0 + q64 (N 31 0 (N 38 0 d)) = q64 (N 31 0 (N 38 0 d)) from Int64.zero_add _]
                rw [hhi, hlo]
                first
                | (rw [if_pos (by assumption)]; rfl)
                | rw [if_neg (by assumption)]
            · have b22_ : ¬ ((nI (N 31 0 (N 38 0 d))).toInt64 ≤ s + ((nI (N 40 0 d)).toInt64)) := b22
              refine Sem.seg [(.lload 9, 0, 0)] ⟨⟨d124_336, trivial⟩, trivial⟩ (lv' := [(15, aL s), (13, aL ((nI (N 31 0 (N 38 0 d))).toInt64)), (11, aL (Int64.ofNat 0)), (9, aL (s + ((nI (N 40 0 d)).toInt64))), (0, aR 23 0), (1, aN d), (2, aN 0), (3, aI x), (6, aN (N 38 0 d)), (7, aL s)]) (st' := [aL (s + ((nI (N 40 0 d)).toInt64))]) (w' := wd (upN N 23 0 0 0) L) (P := []) rfl (trivial) (pc' := 338) rfl ?_
              refine Sem.goto (tgt := 343) d124_338 (by decide) ?_
              have hhi : (if ((nI (N 31 0 (N 38 0 d))).toInt64) ≤ (s + ((nI (N 40 0 d)).toInt64)) then ((nI (N 31 0 (N 38 0 d))).toInt64) else (s + ((nI (N 40 0 d)).toInt64))) = (s + ((nI (N 40 0 d)).toInt64)) := by first | exact if_pos (by assumption) | exact if_neg (by assumption)
              refine Sem.seg [(.lstore 17, 0, 0), (.lload 17, 0, 0), (.lload 15, 0, 0)] ⟨⟨d124_343, trivial⟩, ⟨d124_345, trivial⟩, ⟨d124_347, trivial⟩, trivial⟩ (lv' := [(17, aL (s + ((nI (N 40 0 d)).toInt64))), (15, aL s), (13, aL ((nI (N 31 0 (N 38 0 d))).toInt64)), (11, aL (Int64.ofNat 0)), (9, aL (s + ((nI (N 40 0 d)).toInt64))), (0, aR 23 0), (1, aN d), (2, aN 0), (3, aI x), (6, aN (N 38 0 d)), (7, aL s)]) (st' := [aL s, aL (s + ((nI (N 40 0 d)).toInt64))]) (w' := wd (upN N 23 0 0 0) L) (P := []) rfl (trivial) (pc' := 349) rfl ?_
              refine Sem.lcmp (tgt := 361) d124_349 d124_350 (by decide) (fun b24 => ?_) (fun b24 => ?_)
              · have b24_ : s + ((nI (N 40 0 d)).toInt64) ≤ s := b24
                refine Sem.seg [(.lconst 0, 0, 0)] ⟨⟨d124_361, trivial⟩, trivial⟩ (lv' := [(17, aL (s + ((nI (N 40 0 d)).toInt64))), (15, aL s), (13, aL ((nI (N 31 0 (N 38 0 d))).toInt64)), (11, aL (Int64.ofNat 0)), (9, aL (s + ((nI (N 40 0 d)).toInt64))), (0, aR 23 0), (1, aN d), (2, aN 0), (3, aI x), (6, aN (N 38 0 d)), (7, aL s)]) (st' := [aL (Int64.ofNat 0)]) (w' := wd (upN N 23 0 0 0) L) (P := []) rfl (trivial) (pc' := 362) rfl ?_
                refine Sem.lret d124_362 rfl (by decide) (by decide) hzW ⟨_, _, _, rfl, rfl, ?_⟩
                refine ⟨rfl, rfl, ?_⟩
                rw [← hcl]
                unfold pgV
                rw [show Int64.ofNat 0 + q64 (N 31 0 (N 38 0 d)) = q64 (N 31 0 (N 38 0 d)) from Int64.zero_add _]
                rw [hhi, hlo]
                first
                | (rw [if_pos (by assumption)]; rfl)
                | rw [if_neg (by assumption)]
              · have b24_ : ¬ (s + ((nI (N 40 0 d)).toInt64) ≤ s) := b24
                refine Sem.seg [(.lload 17, 0, 0), (.lload 15, 0, 0), (.lsub, 0, 0)] ⟨⟨d124_353, trivial⟩, ⟨d124_355, trivial⟩, ⟨d124_357, trivial⟩, trivial⟩ (lv' := [(17, aL (s + ((nI (N 40 0 d)).toInt64))), (15, aL s), (13, aL ((nI (N 31 0 (N 38 0 d))).toInt64)), (11, aL (Int64.ofNat 0)), (9, aL (s + ((nI (N 40 0 d)).toInt64))), (0, aR 23 0), (1, aN d), (2, aN 0), (3, aI x), (6, aN (N 38 0 d)), (7, aL s)]) (st' := [aL ((s + ((nI (N 40 0 d)).toInt64)) - s)]) (w' := wd (upN N 23 0 0 0) L) (P := []) rfl (trivial) (pc' := 358) rfl ?_
                refine Sem.goto (tgt := 362) d124_358 (by decide) ?_
                refine Sem.lret d124_362 rfl (by decide) (by decide) hzW ⟨_, _, _, rfl, rfl, ?_⟩
                refine ⟨rfl, rfl, ?_⟩
                rw [← hcl]
                unfold pgV
                rw [show Int64.ofNat 0 + q64 (N 31 0 (N 38 0 d)) = q64 (N 31 0 (N 38 0 d)) from Int64.zero_add _]
                rw [hhi, hlo]
                first
                | (rw [if_pos (by assumption)]; rfl)
                | rw [if_neg (by assumption)]
        · have b15_ : ¬ (d ≤ q) := b15
          have jI : N 38 0 q < 12 := by rw [← z9]; exact (hc.2.1 0 (by decide)).2.1 q (show q < N 37 0 0 by omega)
          have jW : N 39 0 q < 12 := by rw [← z10]; exact (hc.2.1 0 (by decide)).2.2.1 q (show q < N 37 0 0 by omega)
          refine Sem.seg [(.aload_n 0, 0, 0), (.getfield 52, 5, 16), (.iload 9, 0, 0), (.iaload, 0, 0), (.iload 6, 0, 0)] ⟨⟨d124_179, trivial⟩, ⟨d124_180, gf5_52⟩, ⟨d124_183, trivial⟩, ⟨d124_185, trivial⟩, ⟨d124_186, trivial⟩, trivial⟩ (lv' := [(0, aR 23 0), (1, aN d), (2, aN 0), (3, aI x), (6, aN (N 38 0 d)), (7, aL s), (9, aN q)]) (st' := [aN (N 38 0 d), aN (N 38 0 q)]) (w' := wd (upN N 23 0 0 0) L) (P := [vld NN 23 0, vld NN 38 0, q < 72]) rfl (⟨vN (t := 23) (i := 0) (by decide), vN (t := 38) (i := 0) (by decide), (show q < 72 by first | omega | assumption)⟩) (pc' := 188) rfl ?_
          refine Sem.icmpN (tgt := 221) d124_188 (by decide) (show N 38 0 q < 2 ^ 31 by first | omega | assumption) (show N 38 0 d < 2 ^ 31 by first | omega | assumption) (fun b25 => ?_) (fun b25 => ?_)
          · have b25_ : ¬ N 38 0 q = N 38 0 d := b25
            refine Sem.seg [(.lload 7, 0, 0), (.lstore 7, 0, 0), (.iinc 9 1, 0, 0)] ⟨⟨d124_221, trivial⟩, ⟨d124_223, trivial⟩, ⟨d124_225, trivial⟩, trivial⟩ (lv' := [(9, aN (q + 1)), (7, aL s), (0, aR 23 0), (1, aN d), (2, aN 0), (3, aI x), (6, aN (N 38 0 d))]) (st' := []) (w' := wd (upN N 23 0 0 0) L) (P := []) rfl (trivial) (pc' := 228) rfl ?_
            refine Sem.goto (tgt := 173) d124_228 (by decide) ?_
            refine Sem.pick [2, 3, 4, 5, 6, 1, 0] (lv' := [(0, aR 23 0), (1, aN d), (2, aN 0), (3, aI x), (6, aN (N 38 0 d)), (7, aL s), (9, aN (q + 1))]) rfl ?_
            exact ihz _ (by omega) (q + 1) s rfl (by omega) (by simp only [bat, sm] at hs ⊢; rw [hs, z9, z10, z11]; first | (rw [if_pos (by omega), Int64.add_assoc]; done) | (rw [if_neg (by omega), Int64.add_zero]; done))
          · have b25_ : ¬ (¬ N 38 0 q = N 38 0 d) := b25
            refine Sem.seg [(.aload_n 0, 0, 0), (.getfield 55, 5, 17), (.iload 9, 0, 0), (.iaload, 0, 0), (.aload_n 0, 0, 0), (.getfield 55, 5, 17), (.iload_n 1, 0, 0), (.iaload, 0, 0)] ⟨⟨d124_191, trivial⟩, ⟨d124_192, gf5_55⟩, ⟨d124_195, trivial⟩, ⟨d124_197, trivial⟩, ⟨d124_198, trivial⟩, ⟨d124_199, gf5_55⟩, ⟨d124_202, trivial⟩, ⟨d124_203, trivial⟩, trivial⟩ (lv' := [(0, aR 23 0), (1, aN d), (2, aN 0), (3, aI x), (6, aN (N 38 0 d)), (7, aL s), (9, aN q)]) (st' := [aN (N 39 0 d), aN (N 39 0 q)]) (w' := wd (upN N 23 0 0 0) L) (P := [vld NN 23 0, vld NN 39 0, q < 72, vld NN 23 0, vld NN 39 0, d < 72]) rfl (⟨vN (t := 23) (i := 0) (by decide), vN (t := 39) (i := 0) (by decide), (show q < 72 by first | omega | assumption), vN (t := 23) (i := 0) (by decide), vN (t := 39) (i := 0) (by decide), (show d < 72 by first | omega | assumption)⟩) (pc' := 204) rfl ?_
            refine Sem.icmpN (tgt := 221) d124_204 (by decide) (show N 39 0 q < 2 ^ 31 by first | omega | assumption) (show N 39 0 d < 2 ^ 31 by first | omega | assumption) (fun b26 => ?_) (fun b26 => ?_)
            · have b26_ : ¬ N 39 0 q = N 39 0 d := b26
              refine Sem.seg [(.lload 7, 0, 0), (.lstore 7, 0, 0), (.iinc 9 1, 0, 0)] ⟨⟨d124_221, trivial⟩, ⟨d124_223, trivial⟩, ⟨d124_225, trivial⟩, trivial⟩ (lv' := [(9, aN (q + 1)), (7, aL s), (0, aR 23 0), (1, aN d), (2, aN 0), (3, aI x), (6, aN (N 38 0 d))]) (st' := []) (w' := wd (upN N 23 0 0 0) L) (P := []) rfl (trivial) (pc' := 228) rfl ?_
              refine Sem.goto (tgt := 173) d124_228 (by decide) ?_
              refine Sem.pick [2, 3, 4, 5, 6, 1, 0] (lv' := [(0, aR 23 0), (1, aN d), (2, aN 0), (3, aI x), (6, aN (N 38 0 d)), (7, aL s), (9, aN (q + 1))]) rfl ?_
              exact ihz _ (by omega) (q + 1) s rfl (by omega) (by simp only [bat, sm] at hs ⊢; rw [hs, z9, z10, z11]; first | (rw [if_pos (by omega), Int64.add_assoc]; done) | (rw [if_neg (by omega), Int64.add_zero]; done))
            · have b26_ : ¬ (¬ N 39 0 q = N 39 0 d) := b26
              refine Sem.seg [(.lload 7, 0, 0), (.aload_n 0, 0, 0), (.getfield 58, 5, 18), (.iload 9, 0, 0), (.iaload, 0, 0), (.i2l, 0, 0), (.ladd, 0, 0)] ⟨⟨d124_207, trivial⟩, ⟨d124_209, trivial⟩, ⟨d124_210, gf5_58⟩, ⟨d124_213, trivial⟩, ⟨d124_215, trivial⟩, ⟨d124_216, trivial⟩, ⟨d124_217, trivial⟩, trivial⟩ (lv' := [(0, aR 23 0), (1, aN d), (2, aN 0), (3, aI x), (6, aN (N 38 0 d)), (7, aL s), (9, aN q)]) (st' := [aL (s + ((nI (N 40 0 q)).toInt64))]) (w' := wd (upN N 23 0 0 0) L) (P := [vld NN 23 0, vld NN 40 0, q < 72]) rfl (⟨vN (t := 23) (i := 0) (by decide), vN (t := 40) (i := 0) (by decide), (show q < 72 by first | omega | assumption)⟩) (pc' := 218) rfl ?_
              refine Sem.goto (tgt := 223) d124_218 (by decide) ?_
              refine Sem.seg [(.lstore 7, 0, 0), (.iinc 9 1, 0, 0)] ⟨⟨d124_223, trivial⟩, ⟨d124_225, trivial⟩, trivial⟩ (lv' := [(9, aN (q + 1)), (7, aL (s + ((nI (N 40 0 q)).toInt64))), (0, aR 23 0), (1, aN d), (2, aN 0), (3, aI x), (6, aN (N 38 0 d))]) (st' := []) (w' := wd (upN N 23 0 0 0) L) (P := []) rfl (trivial) (pc' := 228) rfl ?_
              refine Sem.goto (tgt := 173) d124_228 (by decide) ?_
              refine Sem.pick [2, 3, 4, 5, 6, 1, 0] (lv' := [(0, aR 23 0), (1, aN d), (2, aN 0), (3, aI x), (6, aN (N 38 0 d)), (7, aL (s + ((nI (N 40 0 q)).toInt64))), (9, aN (q + 1))]) rfl ?_
              exact ihz _ (by omega) (q + 1) (s + ((nI (N 40 0 q)).toInt64)) rfl (by omega) (by simp only [bat, sm] at hs ⊢; rw [hs, z9, z10, z11]; first | (rw [if_pos (by omega), Int64.add_assoc]; done) | (rw [if_neg (by omega), Int64.add_zero]; done))
    refine Sem.pick [3, 4, 5, 6, 2, 1, 0] (lv' := [(0, aR 23 0), (1, aN d), (2, aN 0), (3, aI x), (6, aN (N 38 0 d)), (7, aL (sm (mW L 20 (N 38 0 d)) (N 39 0 d - 1 + 1))), (9, aN 0)]) rfl ?_
    exact lpz _ 0 (sm (mW L 20 (N 38 0 d)) (N 39 0 d - 1 + 1)) rfl (by omega) (by show _ = _ + (0 : Int64); rw [show N 39 0 d - 1 + 1 = N 39 0 d by omega, Int64.add_zero])

theorem m124t_1 {sc : XT} (N : TN) (L : TL) (d m : Nat) (hd : d < N 37 0 0) (hm : m < N 37 0 1) (hc : CD (mN N)) : Sem sc 124 109 [(0, aR 23 0), (1, aN d), (2, aN 1), (3, aN m)] [] (wd (upN N 23 0 0 0) L) 0 0 (QJ fun v N' L' => L = L' ∧ N' = upN N 23 0 0 0 ∧ v = if N 38 0 (24 + m) = N 38 0 d then pgV (clM N L d) (q64 (N 40 0 d)) (suO N L (N 38 0 d) m) (q64 (N 40 0 (24 + m))) else 0) := by
  have h24 : N 37 0 0 ≤ 24 := (hc.2.1 0 (by decide)).1
  have h241 : N 37 0 1 ≤ 24 := (hc.2.1 1 (by decide)).1
  have z9 : ∀ q, mN N 9 0 q = N 38 0 q := fun q => by show N 38 0 (24 * 0 + q) = _; rw [show 24 * 0 + q = q by omega]
  have z10 : ∀ q, mN N 10 0 q = N 39 0 q := fun q => by show N 39 0 (24 * 0 + q) = _; rw [show 24 * 0 + q = q by omega]
  have z11 : ∀ q, mN N 11 0 q = N 40 0 q := fun q => by show N 40 0 (24 * 0 + q) = _; rw [show 24 * 0 + q = q by omega]
  have dI : N 38 0 d < 12 := by rw [← z9]; exact (hc.2.1 0 (by decide)).2.1 d hd
  have dW : N 39 0 d < 12 := by rw [← z10]; exact (hc.2.1 0 (by decide)).2.2.1 d hd
  have oI : N 38 0 (24 + m) < 12 := (hc.2.1 1 (by decide)).2.1 m hm
  refine Sem.seg [(.aload_n 0, 0, 0), (.getfield 52, 5, 16), (.iload_n 1, 0, 0), (.iaload, 0, 0), (.istore 6, 0, 0), (.iload_n 2, 0, 0), (.iconst 1, 0, 0)] ⟨⟨d124_109, trivial⟩, ⟨d124_110, gf5_52⟩, ⟨d124_113, trivial⟩, ⟨d124_114, trivial⟩, ⟨d124_115, trivial⟩, ⟨d124_117, trivial⟩, ⟨d124_118, trivial⟩, trivial⟩ (lv' := [(6, aN (N 38 0 d)), (0, aR 23 0), (1, aN d), (2, aN 1), (3, aN m)]) (st' := [aN 1, aN 1]) (w' := wd (upN N 23 0 0 0) L) (P := [vld NN 23 0, vld NN 38 0, d < 72]) rfl (⟨vN (t := 23) (i := 0) (by decide), vN (t := 38) (i := 0) (by decide), (show d < 72 by first | omega | assumption)⟩) (pc' := 119) rfl ?_
  refine Sem.icmpN (tgt := 138) d124_119 (by decide) (by decide) (by decide) (fun b1 => ?_) (fun b1 => ?_)
  · exact absurd (show ¬ 1 = 1 from b1) (by decide)
  refine Sem.seg [(.aload_n 0, 0, 0), (.getfield 52, 5, 16), (.bipush 24, 0, 0), (.iload_n 3, 0, 0), (.iadd, 0, 0), (.iaload, 0, 0), (.iload 6, 0, 0)] ⟨⟨d124_122, trivial⟩, ⟨d124_123, gf5_52⟩, ⟨d124_126, trivial⟩, ⟨d124_128, trivial⟩, ⟨d124_129, trivial⟩, ⟨d124_130, trivial⟩, ⟨d124_131, trivial⟩, trivial⟩ (lv' := [(6, aN (N 38 0 d)), (0, aR 23 0), (1, aN d), (2, aN 1), (3, aN m)]) (st' := [aN (N 38 0 d), aN (N 38 0 (24 + m))]) (w' := wd (upN N 23 0 0 0) L) (P := [vld NN 23 0, vld NN 38 0, 24 + m < 72]) rfl (⟨vN (t := 23) (i := 0) (by decide), vN (t := 38) (i := 0) (by decide), (show 24 + m < 72 by first | omega | assumption)⟩) (pc' := 133) rfl ?_
  refine Sem.icmpN (tgt := 138) d124_133 (by decide) (show N 38 0 (24 + m) < 2 ^ 31 by first | omega | assumption) (show N 38 0 d < 2 ^ 31 by first | omega | assumption) (fun b2 => ?_) (fun b2 => ?_)
  · have b2_ : N 38 0 (24 + m) = N 38 0 d := b2
    refine Sem.seg [(.aload_n 0, 0, 0), (.getfield 55, 5, 17), (.iload_n 1, 0, 0), (.iaload, 0, 0)] ⟨⟨d124_138, trivial⟩, ⟨d124_139, gf5_55⟩, ⟨d124_142, trivial⟩, ⟨d124_143, trivial⟩, trivial⟩ (lv' := [(6, aN (N 38 0 d)), (0, aR 23 0), (1, aN d), (2, aN 1), (3, aN m)]) (st' := [aN (N 39 0 d)]) (w' := wd (upN N 23 0 0 0) L) (P := [vld NN 23 0, vld NN 39 0, d < 72]) rfl (⟨vN (t := 23) (i := 0) (by decide), vN (t := 39) (i := 0) (by decide), (show d < 72 by first | omega | assumption)⟩) (pc' := 144) rfl ?_
    refine Sem.ifN (tgt := 167) d124_144 (by decide) (show N 39 0 d < 2 ^ 31 by first | omega | assumption) (fun b3 => ?_) (fun b3 => ?_)
    · have b3_ : N 39 0 d ≤ 0 := b3
      refine Sem.seg [(.lconst 0, 0, 0), (.lstore 7, 0, 0), (.iconst 0, 0, 0), (.istore 9, 0, 0)] ⟨⟨d124_167, trivial⟩, ⟨d124_168, trivial⟩, ⟨d124_170, trivial⟩, ⟨d124_171, trivial⟩, trivial⟩ (lv' := [(9, aN 0), (7, aL (Int64.ofNat 0)), (6, aN (N 38 0 d)), (0, aR 23 0), (1, aN d), (2, aN 1), (3, aN m)]) (st' := []) (w' := wd (upN N 23 0 0 0) L) (P := []) rfl (trivial) (pc' := 173) rfl ?_
      have lpz : ∀ (d_ : Nat) (q : Nat) (s : Int64), d - q = d_ → (q ≤ d) → (s = sm (mW L 20 (N 38 0 d)) (N 39 0 d) + bat (mN N 9 0) (mN N 10 0) (mN N 11 0) (N 38 0 d) (N 39 0 d) q) → Sem sc 124 173 [(0, aR 23 0), (1, aN d), (2, aN 1), (3, aN m), (6, aN (N 38 0 d)), (7, aL s), (9, aN q)] [] (wd (upN N 23 0 0 0) L) 0 0 (QJ fun v N' L' => L = L' ∧ N' = upN N 23 0 0 0 ∧ v = if N 38 0 (24 + m) = N 38 0 d then pgV (clM N L d) (q64 (N 40 0 d)) (suO N L (N 38 0 d) m) (q64 (N 40 0 (24 + m))) else 0) := by
        intro dz
        induction dz using Nat.strongRecOn with
        | ind dz ihz =>
          intro q s hdz hq hs
          refine Sem.seg [(.iload 9, 0, 0), (.iload_n 1, 0, 0)] ⟨⟨d124_173, trivial⟩, ⟨d124_175, trivial⟩, trivial⟩ (lv' := [(0, aR 23 0), (1, aN d), (2, aN 1), (3, aN m), (6, aN (N 38 0 d)), (7, aL s), (9, aN q)]) (st' := [aN d, aN q]) (w' := wd (upN N 23 0 0 0) L) (P := []) rfl (trivial) (pc' := 176) rfl ?_
          refine Sem.icmpN (tgt := 231) d124_176 (by decide) (show q < 2 ^ 31 by first | omega | assumption) (show d < 2 ^ 31 by first | omega | assumption) (fun b4 => ?_) (fun b4 => ?_)
          · have b4_ : d ≤ q := b4
            have hcl : s = clM N L d := by rw [hs, show q = d by omega]; rfl
            refine Sem.seg [(.lload 7, 0, 0), (.aload_n 0, 0, 0), (.getfield 58, 5, 18), (.iload_n 1, 0, 0), (.iaload, 0, 0), (.i2l, 0, 0), (.ladd, 0, 0), (.lstore 9, 0, 0), (.iload_n 2, 0, 0)] ⟨⟨d124_231, trivial⟩, ⟨d124_233, trivial⟩, ⟨d124_234, gf5_58⟩, ⟨d124_237, trivial⟩, ⟨d124_238, trivial⟩, ⟨d124_239, trivial⟩, ⟨d124_240, trivial⟩, ⟨d124_241, trivial⟩, ⟨d124_243, trivial⟩, trivial⟩ (lv' := [(9, aL (s + ((nI (N 40 0 d)).toInt64))), (0, aR 23 0), (1, aN d), (2, aN 1), (3, aN m), (6, aN (N 38 0 d)), (7, aL s)]) (st' := [aN 1]) (w' := wd (upN N 23 0 0 0) L) (P := [vld NN 23 0, vld NN 40 0, d < 72]) rfl (⟨vN (t := 23) (i := 0) (by decide), vN (t := 40) (i := 0) (by decide), (show d < 72 by first | omega | assumption)⟩) (pc' := 244) rfl ?_
            refine Sem.ifN (tgt := 251) d124_244 (by decide) (by decide) (fun b5 => ?_) (fun b5 => ?_)
            rotate_left
            · exact absurd (show ¬ 1 = 0 from by decide) b5
            refine Sem.seg [(.aload_n 0, 0, 0), (.iload 6, 0, 0), (.iload_n 2, 0, 0), (.iload_n 3, 0, 0)] ⟨⟨d124_251, trivial⟩, ⟨d124_252, trivial⟩, ⟨d124_254, trivial⟩, ⟨d124_255, trivial⟩, trivial⟩ (lv' := [(9, aL (s + ((nI (N 40 0 d)).toInt64))), (0, aR 23 0), (1, aN d), (2, aN 1), (3, aN m), (6, aN (N 38 0 d)), (7, aL s)]) (st' := [aN m, aN 1, aN (N 38 0 d), aR 23 0]) (w' := wd (upN N 23 0 0 0) L) (P := []) rfl (trivial) (pc' := 256) rfl ?_
            refine Sem.cVp1 (t := 23) (i := 0) (as := [aN (N 38 0 d), aN 1, aN m]) (rst := []) (c' := 0) (s' := 0) d124_256 mk125 rfl co125 lk5_183 im125 se125 rfl (vN (t := 23) (i := 0) (by decide)) (show 4 ≤ mL 125 by decide) rfl (show 0 ≤ 8 by decide) (by decide) (by decide) rfl rfl (by decide) (by decide) (m125_1 (upN N 23 0 0 0) L (N 38 0 d) m dI hm hc) ?_
            refine Sem.seg [(.lstore 11, 0, 0), (.iload_n 2, 0, 0)] ⟨⟨d124_259, trivial⟩, ⟨d124_261, trivial⟩, trivial⟩ (lv' := [(11, aL (suO N L (N 38 0 d) m)), (9, aL (s + ((nI (N 40 0 d)).toInt64))), (0, aR 23 0), (1, aN d), (2, aN 1), (3, aN m), (6, aN (N 38 0 d)), (7, aL s)]) (st' := [aN 1]) (w' := wd (upN N 23 0 0 0) L) (P := []) rfl (trivial) (pc' := 262) rfl ?_
            refine Sem.ifN (tgt := 276) d124_262 (by decide) (by decide) (fun b6 => ?_) (fun b6 => ?_)
            rotate_left
            · exact absurd (show ¬ 1 = 0 from by decide) b6
            refine Sem.seg [(.lload 11, 0, 0), (.iload_n 2, 0, 0), (.iconst 1, 0, 0)] ⟨⟨d124_276, trivial⟩, ⟨d124_278, trivial⟩, ⟨d124_279, trivial⟩, trivial⟩ (lv' := [(11, aL (suO N L (N 38 0 d) m)), (9, aL (s + ((nI (N 40 0 d)).toInt64))), (0, aR 23 0), (1, aN d), (2, aN 1), (3, aN m), (6, aN (N 38 0 d)), (7, aL s)]) (st' := [aN 1, aN 1, aL (suO N L (N 38 0 d) m)]) (w' := wd (upN N 23 0 0 0) L) (P := []) rfl (trivial) (pc' := 280) rfl ?_
            refine Sem.icmpN (tgt := 296) d124_280 (by decide) (by decide) (by decide) (fun b7 => ?_) (fun b7 => ?_)
            · exact absurd (show ¬ 1 = 1 from b7) (by decide)
            refine Sem.seg [(.aload_n 0, 0, 0), (.getfield 58, 5, 18), (.bipush 24, 0, 0), (.iload_n 3, 0, 0), (.iadd, 0, 0), (.iaload, 0, 0), (.i2l, 0, 0)] ⟨⟨d124_283, trivial⟩, ⟨d124_284, gf5_58⟩, ⟨d124_287, trivial⟩, ⟨d124_289, trivial⟩, ⟨d124_290, trivial⟩, ⟨d124_291, trivial⟩, ⟨d124_292, trivial⟩, trivial⟩ (lv' := [(11, aL (suO N L (N 38 0 d) m)), (9, aL (s + ((nI (N 40 0 d)).toInt64))), (0, aR 23 0), (1, aN d), (2, aN 1), (3, aN m), (6, aN (N 38 0 d)), (7, aL s)]) (st' := [aL ((nI (N 40 0 (24 + m))).toInt64), aL (suO N L (N 38 0 d) m)]) (w' := wd (upN N 23 0 0 0) L) (P := [vld NN 23 0, vld NN 40 0, 24 + m < 72]) rfl (⟨vN (t := 23) (i := 0) (by decide), vN (t := 40) (i := 0) (by decide), (show 24 + m < 72 by first | omega | assumption)⟩) (pc' := 293) rfl ?_
            refine Sem.goto (tgt := 308) d124_293 (by decide) ?_
            refine Sem.seg [(.ladd, 0, 0), (.lstore 13, 0, 0), (.lload 7, 0, 0), (.lload 11, 0, 0)] ⟨⟨d124_308, trivial⟩, ⟨d124_309, trivial⟩, ⟨d124_311, trivial⟩, ⟨d124_313, trivial⟩, trivial⟩ (lv' := [(13, aL ((suO N L (N 38 0 d) m) + ((nI (N 40 0 (24 + m))).toInt64))), (11, aL (suO N L (N 38 0 d) m)), (9, aL (s + ((nI (N 40 0 d)).toInt64))), (0, aR 23 0), (1, aN d), (2, aN 1), (3, aN m), (6, aN (N 38 0 d)), (7, aL s)]) (st' := [aL (suO N L (N 38 0 d) m), aL s]) (w' := wd (upN N 23 0 0 0) L) (P := []) rfl (trivial) (pc' := 315) rfl ?_
            refine Sem.lcmp (tgt := 324) d124_315 d124_316 (by decide) (fun b8 => ?_) (fun b8 => ?_)
            · have b8_ : s ≤ suO N L (N 38 0 d) m := b8
              refine Sem.seg [(.lload 11, 0, 0)] ⟨⟨d124_324, trivial⟩, trivial⟩ (lv' := [(13, aL ((suO N L (N 38 0 d) m) + ((nI (N 40 0 (24 + m))).toInt64))), (11, aL (suO N L (N 38 0 d) m)), (9, aL (s + ((nI (N 40 0 d)).toInt64))), (0, aR 23 0), (1, aN d), (2, aN 1), (3, aN m), (6, aN (N 38 0 d)), (7, aL s)]) (st' := [aL (suO N L (N 38 0 d) m)]) (w' := wd (upN N 23 0 0 0) L) (P := []) rfl (trivial) (pc' := 326) rfl ?_
              have hlo : (if s ≤ (suO N L (N 38 0 d) m) then (suO N L (N 38 0 d) m) else s) = (suO N L (N 38 0 d) m) := by first | exact if_pos (by assumption) | exact if_neg (by assumption)
              refine Sem.seg [(.lstore 15, 0, 0), (.lload 9, 0, 0), (.lload 13, 0, 0)] ⟨⟨d124_326, trivial⟩, ⟨d124_328, trivial⟩, ⟨d124_330, trivial⟩, trivial⟩ (lv' := [(15, aL (suO N L (N 38 0 d) m)), (13, aL ((suO N L (N 38 0 d) m) + ((nI (N 40 0 (24 + m))).toInt64))), (11, aL (suO N L (N 38 0 d) m)), (9, aL (s + ((nI (N 40 0 d)).toInt64))), (0, aR 23 0), (1, aN d), (2, aN 1), (3, aN m), (6, aN (N 38 0 d)), (7, aL s)]) (st' := [aL ((suO N L (N 38 0 d) m) + ((nI (N 40 0 (24 + m))).toInt64)), aL (s + ((nI (N 40 0 d)).toInt64))]) (w' := wd (upN N 23 0 0 0) L) (P := []) rfl (trivial) (pc' := 332) rfl ?_
              refine Sem.lcmp (tgt := 341) d124_332 d124_333 (by decide) (fun b9 => ?_) (fun b9 => ?_)
              · have b9_ : (suO N L (N 38 0 d) m) + ((nI (N 40 0 (24 + m))).toInt64) ≤ s + ((nI (N 40 0 d)).toInt64) := b9
                refine Sem.seg [(.lload 13, 0, 0)] ⟨⟨d124_341, trivial⟩, trivial⟩ (lv' := [(15, aL (suO N L (N 38 0 d) m)), (13, aL ((suO N L (N 38 0 d) m) + ((nI (N 40 0 (24 + m))).toInt64))), (11, aL (suO N L (N 38 0 d) m)), (9, aL (s + ((nI (N 40 0 d)).toInt64))), (0, aR 23 0), (1, aN d), (2, aN 1), (3, aN m), (6, aN (N 38 0 d)), (7, aL s)]) (st' := [aL ((suO N L (N 38 0 d) m) + ((nI (N 40 0 (24 + m))).toInt64))]) (w' := wd (upN N 23 0 0 0) L) (P := []) rfl (trivial) (pc' := 343) rfl ?_
                have hhi : (if ((suO N L (N 38 0 d) m) + ((nI (N 40 0 (24 + m))).toInt64)) ≤ (s + ((nI (N 40 0 d)).toInt64)) then ((suO N L (N 38 0 d) m) + ((nI (N 40 0 (24 + m))).toInt64)) else (s + ((nI (N 40 0 d)).toInt64))) = ((suO N L (N 38 0 d) m) + ((nI (N 40 0 (24 + m))).toInt64)) := by first | exact if_pos (by assumption) | exact if_neg (by assumption)
                refine Sem.seg [(.lstore 17, 0, 0), (.lload 17, 0, 0), (.lload 15, 0, 0)] ⟨⟨d124_343, trivial⟩, ⟨d124_345, trivial⟩, ⟨d124_347, trivial⟩, trivial⟩ (lv' := [(17, aL ((suO N L (N 38 0 d) m) + ((nI (N 40 0 (24 + m))).toInt64))), (15, aL (suO N L (N 38 0 d) m)), (13, aL ((suO N L (N 38 0 d) m) + ((nI (N 40 0 (24 + m))).toInt64))), (11, aL (suO N L (N 38 0 d) m)), (9, aL (s + ((nI (N 40 0 d)).toInt64))), (0, aR 23 0), (1, aN d), (2, aN 1), (3, aN m), (6, aN (N 38 0 d)), (7, aL s)]) (st' := [aL (suO N L (N 38 0 d) m), aL ((suO N L (N 38 0 d) m) + ((nI (N 40 0 (24 + m))).toInt64))]) (w' := wd (upN N 23 0 0 0) L) (P := []) rfl (trivial) (pc' := 349) rfl ?_
                refine Sem.lcmp (tgt := 361) d124_349 d124_350 (by decide) (fun b10 => ?_) (fun b10 => ?_)
                · have b10_ : (suO N L (N 38 0 d) m) + ((nI (N 40 0 (24 + m))).toInt64) ≤ suO N L (N 38 0 d) m := b10
                  refine Sem.seg [(.lconst 0, 0, 0)] ⟨⟨d124_361, trivial⟩, trivial⟩ (lv' := [(17, aL ((suO N L (N 38 0 d) m) + ((nI (N 40 0 (24 + m))).toInt64))), (15, aL (suO N L (N 38 0 d) m)), (13, aL ((suO N L (N 38 0 d) m) + ((nI (N 40 0 (24 + m))).toInt64))), (11, aL (suO N L (N 38 0 d) m)), (9, aL (s + ((nI (N 40 0 d)).toInt64))), (0, aR 23 0), (1, aN d), (2, aN 1), (3, aN m), (6, aN (N 38 0 d)), (7, aL s)]) (st' := [aL (Int64.ofNat 0)]) (w' := wd (upN N 23 0 0 0) L) (P := []) rfl (trivial) (pc' := 362) rfl ?_
                  refine Sem.lret d124_362 rfl (by decide) (by decide) hzW ⟨_, _, _, rfl, rfl, ?_⟩
                  refine ⟨rfl, rfl, ?_⟩
                  rw [if_pos (by assumption)]
                  rw [← hcl]
                  unfold pgV
                  rw [hhi, hlo]
                  first
                  | (rw [if_pos (by assumption)]; rfl)
                  | rw [if_neg (by assumption)]
                · have b10_ : ¬ ((suO N L (N 38 0 d) m) + ((nI (N 40 0 (24 + m))).toInt64) ≤ suO N L (N 38 0 d) m) := b10
                  refine Sem.seg [(.lload 17, 0, 0), (.lload 15, 0, 0), (.lsub, 0, 0)] ⟨⟨d124_353, trivial⟩, ⟨d124_355, trivial⟩, ⟨d124_357, trivial⟩, trivial⟩ (lv' := [(17, aL ((suO N L (N 38 0 d) m) + ((nI (N 40 0 (24 + m))).toInt64))), (15, aL (suO N L (N 38 0 d) m)), (13, aL ((suO N L (N 38 0 d) m) + ((nI (N 40 0 (24 + m))).toInt64))), (11, aL (suO N L (N 38 0 d) m)), (9, aL (s + ((nI (N 40 0 d)).toInt64))), (0, aR 23 0), (1, aN d), (2, aN 1), (3, aN m), (6, aN (N 38 0 d)), (7, aL s)]) (st' := [aL (((suO N L (N 38 0 d) m) + ((nI (N 40 0 (24 + m))).toInt64)) - (suO N L (N 38 0 d) m))]) (w' := wd (upN N 23 0 0 0) L) (P := []) rfl (trivial) (pc' := 358) rfl ?_
                  refine Sem.goto (tgt := 362) d124_358 (by decide) ?_
                  refine Sem.lret d124_362 rfl (by decide) (by decide) hzW ⟨_, _, _, rfl, rfl, ?_⟩
                  refine ⟨rfl, rfl, ?_⟩
                  rw [if_pos (by assumption)]
                  rw [← hcl]
                  unfold pgV
                  rw [hhi, hlo]
                  first
                  | (rw [if_pos (by assumption)]; rfl)
                  | rw [if_neg (by assumption)]
              · have b9_ : ¬ ((suO N L (N 38 0 d) m) + ((nI (N 40 0 (24 + m))).toInt64) ≤ s + ((nI (N 40 0 d)).toInt64)) := b9
                refine Sem.seg [(.lload 9, 0, 0)] ⟨⟨d124_336, trivial⟩, trivial⟩ (lv' := [(15, aL (suO N L (N 38 0 d) m)), (13, aL ((suO N L (N 38 0 d) m) + ((nI (N 40 0 (24 + m))).toInt64))), (11, aL (suO N L (N 38 0 d) m)), (9, aL (s + ((nI (N 40 0 d)).toInt64))), (0, aR 23 0), (1, aN d), (2, aN 1), (3, aN m), (6, aN (N 38 0 d)), (7, aL s)]) (st' := [aL (s + ((nI (N 40 0 d)).toInt64))]) (w' := wd (upN N 23 0 0 0) L) (P := []) rfl (trivial) (pc' := 338) rfl ?_
                refine Sem.goto (tgt := 343) d124_338 (by decide) ?_
                have hhi : (if ((suO N L (N 38 0 d) m) + ((nI (N 40 0 (24 + m))).toInt64)) ≤ (s + ((nI (N 40 0 d)).toInt64)) then ((suO N L (N 38 0 d) m) + ((nI (N 40 0 (24 + m))).toInt64)) else (s + ((nI (N 40 0 d)).toInt64))) = (s + ((nI (N 40 0 d)).toInt64)) := by first | exact if_pos (by assumption) | exact if_neg (by assumption)
                refine Sem.seg [(.lstore 17, 0, 0), (.lload 17, 0, 0), (.lload 15, 0, 0)] ⟨⟨d124_343, trivial⟩, ⟨d124_345, trivial⟩, ⟨d124_347, trivial⟩, trivial⟩ (lv' := [(17, aL (s + ((nI (N 40 0 d)).toInt64))), (15, aL (suO N L (N 38 0 d) m)), (13, aL ((suO N L (N 38 0 d) m) + ((nI (N 40 0 (24 + m))).toInt64))), (11, aL (suO N L (N 38 0 d) m)), (9, aL (s + ((nI (N 40 0 d)).toInt64))), (0, aR 23 0), (1, aN d), (2, aN 1), (3, aN m), (6, aN (N 38 0 d)), (7, aL s)]) (st' := [aL (suO N L (N 38 0 d) m), aL (s + ((nI (N 40 0 d)).toInt64))]) (w' := wd (upN N 23 0 0 0) L) (P := []) rfl (trivial) (pc' := 349) rfl ?_
                refine Sem.lcmp (tgt := 361) d124_349 d124_350 (by decide) (fun b11 => ?_) (fun b11 => ?_)
                · have b11_ : s + ((nI (N 40 0 d)).toInt64) ≤ suO N L (N 38 0 d) m := b11
                  refine Sem.seg [(.lconst 0, 0, 0)] ⟨⟨d124_361, trivial⟩, trivial⟩ (lv' := [(17, aL (s + ((nI (N 40 0 d)).toInt64))), (15, aL (suO N L (N 38 0 d) m)), (13, aL ((suO N L (N 38 0 d) m) + ((nI (N 40 0 (24 + m))).toInt64))), (11, aL (suO N L (N 38 0 d) m)), (9, aL (s + ((nI (N 40 0 d)).toInt64))), (0, aR 23 0), (1, aN d), (2, aN 1), (3, aN m), (6, aN (N 38 0 d)), (7, aL s)]) (st' := [aL (Int64.ofNat 0)]) (w' := wd (upN N 23 0 0 0) L) (P := []) rfl (trivial) (pc' := 362) rfl ?_
                  refine Sem.lret d124_362 rfl (by decide) (by decide) hzW ⟨_, _, _, rfl, rfl, ?_⟩
                  refine ⟨rfl, rfl, ?_⟩
                  rw [if_pos (by assumption)]
                  rw [← hcl]
                  unfold pgV
                  rw [hhi, hlo]
                  first
                  | (rw [if_pos (by assumption)]; rfl)
                  | rw [if_neg (by assumption)]
                · have b11_ : ¬ (s + ((nI (N 40 0 d)).toInt64) ≤ suO N L (N 38 0 d) m) := b11
                  refine Sem.seg [(.lload 17, 0, 0), (.lload 15, 0, 0), (.lsub, 0, 0)] ⟨⟨d124_353, trivial⟩, ⟨d124_355, trivial⟩, ⟨d124_357, trivial⟩, trivial⟩ (lv' := [(17, aL (s + ((nI (N 40 0 d)).toInt64))), (15, aL (suO N L (N 38 0 d) m)), (13, aL ((suO N L (N 38 0 d) m) + ((nI (N 40 0 (24 + m))).toInt64))), (11, aL (suO N L (N 38 0 d) m)), (9, aL (s + ((nI (N 40 0 d)).toInt64))), (0, aR 23 0), (1, aN d), (2, aN 1), (3, aN m), (6, aN (N 38 0 d)), (7, aL s)]) (st' := [aL ((s + ((nI (N 40 0 d)).toInt64)) - (suO N L (N 38 0 d) m))]) (w' := wd (upN N 23 0 0 0) L) (P := []) rfl (trivial) (pc' := 358) rfl ?_
                  refine Sem.goto (tgt := 362) d124_358 (by decide) ?_
                  refine Sem.lret d124_362 rfl (by decide) (by decide) hzW ⟨_, _, _, rfl, rfl, ?_⟩
                  refine ⟨rfl, rfl, ?_⟩
                  rw [if_pos (by assumption)]
                  rw [← hcl]
                  unfold pgV
                  rw [hhi, hlo]
                  first
                  | (rw [if_pos (by assumption)]; rfl)
                  | rw [if_neg (by assumption)]
            · have b8_ : ¬ (s ≤ suO N L (N 38 0 d) m) := b8
              refine Sem.seg [(.lload 7, 0, 0)] ⟨⟨d124_319, trivial⟩, trivial⟩ (lv' := [(13, aL ((suO N L (N 38 0 d) m) + ((nI (N 40 0 (24 + m))).toInt64))), (11, aL (suO N L (N 38 0 d) m)), (9, aL (s + ((nI (N 40 0 d)).toInt64))), (0, aR 23 0), (1, aN d), (2, aN 1), (3, aN m), (6, aN (N 38 0 d)), (7, aL s)]) (st' := [aL s]) (w' := wd (upN N 23 0 0 0) L) (P := []) rfl (trivial) (pc' := 321) rfl ?_
              refine Sem.goto (tgt := 326) d124_321 (by decide) ?_
              have hlo : (if s ≤ (suO N L (N 38 0 d) m) then (suO N L (N 38 0 d) m) else s) = s := by first | exact if_pos (by assumption) | exact if_neg (by assumption)
              refine Sem.seg [(.lstore 15, 0, 0), (.lload 9, 0, 0), (.lload 13, 0, 0)] ⟨⟨d124_326, trivial⟩, ⟨d124_328, trivial⟩, ⟨d124_330, trivial⟩, trivial⟩ (lv' := [(15, aL s), (13, aL ((suO N L (N 38 0 d) m) + ((nI (N 40 0 (24 + m))).toInt64))), (11, aL (suO N L (N 38 0 d) m)), (9, aL (s + ((nI (N 40 0 d)).toInt64))), (0, aR 23 0), (1, aN d), (2, aN 1), (3, aN m), (6, aN (N 38 0 d)), (7, aL s)]) (st' := [aL ((suO N L (N 38 0 d) m) + ((nI (N 40 0 (24 + m))).toInt64)), aL (s + ((nI (N 40 0 d)).toInt64))]) (w' := wd (upN N 23 0 0 0) L) (P := []) rfl (trivial) (pc' := 332) rfl ?_
              refine Sem.lcmp (tgt := 341) d124_332 d124_333 (by decide) (fun b12 => ?_) (fun b12 => ?_)
              · have b12_ : (suO N L (N 38 0 d) m) + ((nI (N 40 0 (24 + m))).toInt64) ≤ s + ((nI (N 40 0 d)).toInt64) := b12
                refine Sem.seg [(.lload 13, 0, 0)] ⟨⟨d124_341, trivial⟩, trivial⟩ (lv' := [(15, aL s), (13, aL ((suO N L (N 38 0 d) m) + ((nI (N 40 0 (24 + m))).toInt64))), (11, aL (suO N L (N 38 0 d) m)), (9, aL (s + ((nI (N 40 0 d)).toInt64))), (0, aR 23 0), (1, aN d), (2, aN 1), (3, aN m), (6, aN (N 38 0 d)), (7, aL s)]) (st' := [aL ((suO N L (N 38 0 d) m) + ((nI (N 40 0 (24 + m))).toInt64))]) (w' := wd (upN N 23 0 0 0) L) (P := []) rfl (trivial) (pc' := 343) rfl ?_
                have hhi : (if ((suO N L (N 38 0 d) m) + ((nI (N 40 0 (24 + m))).toInt64)) ≤ (s + ((nI (N 40 0 d)).toInt64)) then ((suO N L (N 38 0 d) m) + ((nI (N 40 0 (24 + m))).toInt64)) else (s + ((nI (N 40 0 d)).toInt64))) = ((suO N L (N 38 0 d) m) + ((nI (N 40 0 (24 + m))).toInt64)) := by first | exact if_pos (by assumption) | exact if_neg (by assumption)
                refine Sem.seg [(.lstore 17, 0, 0), (.lload 17, 0, 0), (.lload 15, 0, 0)] ⟨⟨d124_343, trivial⟩, ⟨d124_345, trivial⟩, ⟨d124_347, trivial⟩, trivial⟩ (lv' := [(17, aL ((suO N L (N 38 0 d) m) + ((nI (N 40 0 (24 + m))).toInt64))), (15, aL s), (13, aL ((suO N L (N 38 0 d) m) + ((nI (N 40 0 (24 + m))).toInt64))), (11, aL (suO N L (N 38 0 d) m)), (9, aL (s + ((nI (N 40 0 d)).toInt64))), (0, aR 23 0), (1, aN d), (2, aN 1), (3, aN m), (6, aN (N 38 0 d)), (7, aL s)]) (st' := [aL s, aL ((suO N L (N 38 0 d) m) + ((nI (N 40 0 (24 + m))).toInt64))]) (w' := wd (upN N 23 0 0 0) L) (P := []) rfl (trivial) (pc' := 349) rfl ?_
                refine Sem.lcmp (tgt := 361) d124_349 d124_350 (by decide) (fun b13 => ?_) (fun b13 => ?_)
                · have b13_ : (suO N L (N 38 0 d) m) + ((nI (N 40 0 (24 + m))).toInt64) ≤ s := b13
                  refine Sem.seg [(.lconst 0, 0, 0)] ⟨⟨d124_361, trivial⟩, trivial⟩ (lv' := [(17, aL ((suO N L (N 38 0 d) m) + ((nI (N 40 0 (24 + m))).toInt64))), (15, aL s), (13, aL ((suO N L (N 38 0 d) m) + ((nI (N 40 0 (24 + m))).toInt64))), (11, aL (suO N L (N 38 0 d) m)), (9, aL (s + ((nI (N 40 0 d)).toInt64))), (0, aR 23 0), (1, aN d), (2, aN 1), (3, aN m), (6, aN (N 38 0 d)), (7, aL s)]) (st' := [aL (Int64.ofNat 0)]) (w' := wd (upN N 23 0 0 0) L) (P := []) rfl (trivial) (pc' := 362) rfl ?_
                  refine Sem.lret d124_362 rfl (by decide) (by decide) hzW ⟨_, _, _, rfl, rfl, ?_⟩
                  refine ⟨rfl, rfl, ?_⟩
                  rw [if_pos (by assumption)]
                  rw [← hcl]
                  unfold pgV
                  rw [hhi, hlo]
                  first
                  | (rw [if_pos (by assumption)]; rfl)
                  | rw [if_neg (by assumption)]
                · have b13_ : ¬ ((suO N L (N 38 0 d) m) + ((nI (N 40 0 (24 + m))).toInt64) ≤ s) := b13
                  refine Sem.seg [(.lload 17, 0, 0), (.lload 15, 0, 0), (.lsub, 0, 0)] ⟨⟨d124_353, trivial⟩, ⟨d124_355, trivial⟩, ⟨d124_357, trivial⟩, trivial⟩ (lv' := [(17, aL ((suO N L (N 38 0 d) m) + ((nI (N 40 0 (24 + m))).toInt64))), (15, aL s), (13, aL ((suO N L (N 38 0 d) m) + ((nI (N 40 0 (24 + m))).toInt64))), (11, aL (suO N L (N 38 0 d) m)), (9, aL (s + ((nI (N 40 0 d)).toInt64))), (0, aR 23 0), (1, aN d), (2, aN 1), (3, aN m), (6, aN (N 38 0 d)), (7, aL s)]) (st' := [aL (((suO N L (N 38 0 d) m) + ((nI (N 40 0 (24 + m))).toInt64)) - s)]) (w' := wd (upN N 23 0 0 0) L) (P := []) rfl (trivial) (pc' := 358) rfl ?_
                  refine Sem.goto (tgt := 362) d124_358 (by decide) ?_
                  refine Sem.lret d124_362 rfl (by decide) (by decide) hzW ⟨_, _, _, rfl, rfl, ?_⟩
                  refine ⟨rfl, rfl, ?_⟩
                  rw [if_pos (by assumption)]
                  rw [← hcl]
                  unfold pgV
                  rw [hhi, hlo]
                  first
                  | (rw [if_pos (by assumption)]; rfl)
                  | rw [if_neg (by assumption)]
              · have b12_ : ¬ ((suO N L (N 38 0 d) m) + ((nI (N 40 0 (24 + m))).toInt64) ≤ s + ((nI (N 40 0 d)).toInt64)) := b12
                refine Sem.seg [(.lload 9, 0, 0)] ⟨⟨d124_336, trivial⟩, trivial⟩ (lv' := [(15, aL s), (13, aL ((suO N L (N 38 0 d) m) + ((nI (N 40 0 (24 + m))).toInt64))), (11, aL (suO N L (N 38 0 d) m)), (9, aL (s + ((nI (N 40 0 d)).toInt64))), (0, aR 23 0), (1, aN d), (2, aN 1), (3, aN m), (6, aN (N 38 0 d)), (7, aL s)]) (st' := [aL (s + ((nI (N 40 0 d)).toInt64))]) (w' := wd (upN N 23 0 0 0) L) (P := []) rfl (trivial) (pc' := 338) rfl ?_
                refine Sem.goto (tgt := 343) d124_338 (by decide) ?_
                have hhi : (if ((suO N L (N 38 0 d) m) + ((nI (N 40 0 (24 + m))).toInt64)) ≤ (s + ((nI (N 40 0 d)).toInt64)) then ((suO N L (N 38 0 d) m) + ((nI (N 40 0 (24 + m))).toInt64)) else (s + ((nI (N 40 0 d)).toInt64))) = (s + ((nI (N 40 0 d)).toInt64)) := by first | exact if_pos (by assumption) | exact if_neg (by assumption)
                refine Sem.seg [(.lstore 17, 0, 0), (.lload 17, 0, 0), (.lload 15, 0, 0)] ⟨⟨d124_343, trivial⟩, ⟨d124_345, trivial⟩, ⟨d124_347, trivial⟩, trivial⟩ (lv' := [(17, aL (s + ((nI (N 40 0 d)).toInt64))), (15, aL s), (13, aL ((suO N L (N 38 0 d) m) + ((nI (N 40 0 (24 + m))).toInt64))), (11, aL (suO N L (N 38 0 d) m)), (9, aL (s + ((nI (N 40 0 d)).toInt64))), (0, aR 23 0), (1, aN d), (2, aN 1), (3, aN m), (6, aN (N 38 0 d)), (7, aL s)]) (st' := [aL s, aL (s + ((nI (N 40 0 d)).toInt64))]) (w' := wd (upN N 23 0 0 0) L) (P := []) rfl (trivial) (pc' := 349) rfl ?_
                refine Sem.lcmp (tgt := 361) d124_349 d124_350 (by decide) (fun b14 => ?_) (fun b14 => ?_)
                · have b14_ : s + ((nI (N 40 0 d)).toInt64) ≤ s := b14
                  refine Sem.seg [(.lconst 0, 0, 0)] ⟨⟨d124_361, trivial⟩, trivial⟩ (lv' := [(17, aL (s + ((nI (N 40 0 d)).toInt64))), (15, aL s), (13, aL ((suO N L (N 38 0 d) m) + ((nI (N 40 0 (24 + m))).toInt64))), (11, aL (suO N L (N 38 0 d) m)), (9, aL (s + ((nI (N 40 0 d)).toInt64))), (0, aR 23 0), (1, aN d), (2, aN 1), (3, aN m), (6, aN (N 38 0 d)), (7, aL s)]) (st' := [aL (Int64.ofNat 0)]) (w' := wd (upN N 23 0 0 0) L) (P := []) rfl (trivial) (pc' := 362) rfl ?_
                  refine Sem.lret d124_362 rfl (by decide) (by decide) hzW ⟨_, _, _, rfl, rfl, ?_⟩
                  refine ⟨rfl, rfl, ?_⟩
                  rw [if_pos (by assumption)]
                  rw [← hcl]
                  unfold pgV
                  rw [hhi, hlo]
                  first
                  | (rw [if_pos (by assumption)]; rfl)
                  | rw [if_neg (by assumption)]
                · have b14_ : ¬ (s + ((nI (N 40 0 d)).toInt64) ≤ s) := b14
                  refine Sem.seg [(.lload 17, 0, 0), (.lload 15, 0, 0), (.lsub, 0, 0)] ⟨⟨d124_353, trivial⟩, ⟨d124_355, trivial⟩, ⟨d124_357, trivial⟩, trivial⟩ (lv' := [(17, aL (s + ((nI (N 40 0 d)).toInt64))), (15, aL s), (13, aL ((suO N L (N 38 0 d) m) + ((nI (N 40 0 (24 + m))).toInt64))), (11, aL (suO N L (N 38 0 d) m)), (9, aL (s + ((nI (N 40 0 d)).toInt64))), (0, aR 23 0), (1, aN d), (2, aN 1), (3, aN m), (6, aN (N 38 0 d)), (7, aL s)]) (st' := [aL ((s + ((nI (N 40 0 d)).toInt64)) - s)]) (w' := wd (upN N 23 0 0 0) L) (P := []) rfl (trivial) (pc' := 358) rfl ?_
                  refine Sem.goto (tgt := 362) d124_358 (by decide) ?_
                  refine Sem.lret d124_362 rfl (by decide) (by decide) hzW ⟨_, _, _, rfl, rfl, ?_⟩
                  refine ⟨rfl, rfl, ?_⟩
                  rw [if_pos (by assumption)]
                  rw [← hcl]
                  unfold pgV
                  rw [hhi, hlo]
                  first
                  | (rw [if_pos (by assumption)]; rfl)
                  | rw [if_neg (by assumption)]
          · have b4_ : ¬ (d ≤ q) := b4
            have jI : N 38 0 q < 12 := by rw [← z9]; exact (hc.2.1 0 (by decide)).2.1 q (show q < N 37 0 0 by omega)
            have jW : N 39 0 q < 12 := by rw [← z10]; exact (hc.2.1 0 (by decide)).2.2.1 q (show q < N 37 0 0 by omega)
            refine Sem.seg [(.aload_n 0, 0, 0), (.getfield 52, 5, 16), (.iload 9, 0, 0), (.iaload, 0, 0), (.iload 6, 0, 0)] ⟨⟨d124_179, trivial⟩, ⟨d124_180, gf5_52⟩, ⟨d124_183, trivial⟩, ⟨d124_185, trivial⟩, ⟨d124_186, trivial⟩, trivial⟩ (lv' := [(0, aR 23 0), (1, aN d), (2, aN 1), (3, aN m), (6, aN (N 38 0 d)), (7, aL s), (9, aN q)]) (st' := [aN (N 38 0 d), aN (N 38 0 q)]) (w' := wd (upN N 23 0 0 0) L) (P := [vld NN 23 0, vld NN 38 0, q < 72]) rfl (⟨vN (t := 23) (i := 0) (by decide), vN (t := 38) (i := 0) (by decide), (show q < 72 by first | omega | assumption)⟩) (pc' := 188) rfl ?_
            refine Sem.icmpN (tgt := 221) d124_188 (by decide) (show N 38 0 q < 2 ^ 31 by first | omega | assumption) (show N 38 0 d < 2 ^ 31 by first | omega | assumption) (fun b15 => ?_) (fun b15 => ?_)
            · have b15_ : ¬ N 38 0 q = N 38 0 d := b15
              refine Sem.seg [(.lload 7, 0, 0), (.lstore 7, 0, 0), (.iinc 9 1, 0, 0)] ⟨⟨d124_221, trivial⟩, ⟨d124_223, trivial⟩, ⟨d124_225, trivial⟩, trivial⟩ (lv' := [(9, aN (q + 1)), (7, aL s), (0, aR 23 0), (1, aN d), (2, aN 1), (3, aN m), (6, aN (N 38 0 d))]) (st' := []) (w' := wd (upN N 23 0 0 0) L) (P := []) rfl (trivial) (pc' := 228) rfl ?_
              refine Sem.goto (tgt := 173) d124_228 (by decide) ?_
              refine Sem.pick [2, 3, 4, 5, 6, 1, 0] (lv' := [(0, aR 23 0), (1, aN d), (2, aN 1), (3, aN m), (6, aN (N 38 0 d)), (7, aL s), (9, aN (q + 1))]) rfl ?_
              exact ihz _ (by omega) (q + 1) s rfl (by omega) (by simp only [bat, sm] at hs ⊢; rw [hs, z9, z10, z11]; first | (rw [if_pos (by omega), Int64.add_assoc]; done) | (rw [if_neg (by omega), Int64.add_zero]; done))
            · have b15_ : ¬ (¬ N 38 0 q = N 38 0 d) := b15
              refine Sem.seg [(.aload_n 0, 0, 0), (.getfield 55, 5, 17), (.iload 9, 0, 0), (.iaload, 0, 0), (.aload_n 0, 0, 0), (.getfield 55, 5, 17), (.iload_n 1, 0, 0), (.iaload, 0, 0)] ⟨⟨d124_191, trivial⟩, ⟨d124_192, gf5_55⟩, ⟨d124_195, trivial⟩, ⟨d124_197, trivial⟩, ⟨d124_198, trivial⟩, ⟨d124_199, gf5_55⟩, ⟨d124_202, trivial⟩, ⟨d124_203, trivial⟩, trivial⟩ (lv' := [(0, aR 23 0), (1, aN d), (2, aN 1), (3, aN m), (6, aN (N 38 0 d)), (7, aL s), (9, aN q)]) (st' := [aN (N 39 0 d), aN (N 39 0 q)]) (w' := wd (upN N 23 0 0 0) L) (P := [vld NN 23 0, vld NN 39 0, q < 72, vld NN 23 0, vld NN 39 0, d < 72]) rfl (⟨vN (t := 23) (i := 0) (by decide), vN (t := 39) (i := 0) (by decide), (show q < 72 by first | omega | assumption), vN (t := 23) (i := 0) (by decide), vN (t := 39) (i := 0) (by decide), (show d < 72 by first | omega | assumption)⟩) (pc' := 204) rfl ?_
              refine Sem.icmpN (tgt := 221) d124_204 (by decide) (show N 39 0 q < 2 ^ 31 by first | omega | assumption) (show N 39 0 d < 2 ^ 31 by first | omega | assumption) (fun b16 => ?_) (fun b16 => ?_)
              · have b16_ : ¬ N 39 0 q = N 39 0 d := b16
                refine Sem.seg [(.lload 7, 0, 0), (.lstore 7, 0, 0), (.iinc 9 1, 0, 0)] ⟨⟨d124_221, trivial⟩, ⟨d124_223, trivial⟩, ⟨d124_225, trivial⟩, trivial⟩ (lv' := [(9, aN (q + 1)), (7, aL s), (0, aR 23 0), (1, aN d), (2, aN 1), (3, aN m), (6, aN (N 38 0 d))]) (st' := []) (w' := wd (upN N 23 0 0 0) L) (P := []) rfl (trivial) (pc' := 228) rfl ?_
                refine Sem.goto (tgt := 173) d124_228 (by decide) ?_
                refine Sem.pick [2, 3, 4, 5, 6, 1, 0] (lv' := [(0, aR 23 0), (1, aN d), (2, aN 1), (3, aN m), (6, aN (N 38 0 d)), (7, aL s), (9, aN (q + 1))]) rfl ?_
                exact ihz _ (by omega) (q + 1) s rfl (by omega) (by simp only [bat, sm] at hs ⊢; rw [hs, z9, z10, z11]; first | (rw [if_pos (by omega), Int64.add_assoc]; done) | (rw [if_neg (by omega), Int64.add_zero]; done))
              · have b16_ : ¬ (¬ N 39 0 q = N 39 0 d) := b16
                refine Sem.seg [(.lload 7, 0, 0), (.aload_n 0, 0, 0), (.getfield 58, 5, 18), (.iload 9, 0, 0), (.iaload, 0, 0), (.i2l, 0, 0), (.ladd, 0, 0)] ⟨⟨d124_207, trivial⟩, ⟨d124_209, trivial⟩, ⟨d124_210, gf5_58⟩, ⟨d124_213, trivial⟩, ⟨d124_215, trivial⟩, ⟨d124_216, trivial⟩, ⟨d124_217, trivial⟩, trivial⟩ (lv' := [(0, aR 23 0), (1, aN d), (2, aN 1), (3, aN m), (6, aN (N 38 0 d)), (7, aL s), (9, aN q)]) (st' := [aL (s + ((nI (N 40 0 q)).toInt64))]) (w' := wd (upN N 23 0 0 0) L) (P := [vld NN 23 0, vld NN 40 0, q < 72]) rfl (⟨vN (t := 23) (i := 0) (by decide), vN (t := 40) (i := 0) (by decide), (show q < 72 by first | omega | assumption)⟩) (pc' := 218) rfl ?_
                refine Sem.goto (tgt := 223) d124_218 (by decide) ?_
                refine Sem.seg [(.lstore 7, 0, 0), (.iinc 9 1, 0, 0)] ⟨⟨d124_223, trivial⟩, ⟨d124_225, trivial⟩, trivial⟩ (lv' := [(9, aN (q + 1)), (7, aL (s + ((nI (N 40 0 q)).toInt64))), (0, aR 23 0), (1, aN d), (2, aN 1), (3, aN m), (6, aN (N 38 0 d))]) (st' := []) (w' := wd (upN N 23 0 0 0) L) (P := []) rfl (trivial) (pc' := 228) rfl ?_
                refine Sem.goto (tgt := 173) d124_228 (by decide) ?_
                refine Sem.pick [2, 3, 4, 5, 6, 1, 0] (lv' := [(0, aR 23 0), (1, aN d), (2, aN 1), (3, aN m), (6, aN (N 38 0 d)), (7, aL (s + ((nI (N 40 0 q)).toInt64))), (9, aN (q + 1))]) rfl ?_
                exact ihz _ (by omega) (q + 1) (s + ((nI (N 40 0 q)).toInt64)) rfl (by omega) (by simp only [bat, sm] at hs ⊢; rw [hs, z9, z10, z11]; first | (rw [if_pos (by omega), Int64.add_assoc]; done) | (rw [if_neg (by omega), Int64.add_zero]; done))
      refine Sem.pick [3, 4, 5, 6, 2, 1, 0] (lv' := [(0, aR 23 0), (1, aN d), (2, aN 1), (3, aN m), (6, aN (N 38 0 d)), (7, aL (Int64.ofNat 0)), (9, aN 0)]) rfl ?_
      exact lpz _ 0 (Int64.ofNat 0) rfl (by omega) (by rw [show N 39 0 d = 0 by omega]; rfl)
    · have b3_ : ¬ (N 39 0 d ≤ 0) := b3
      refine Sem.seg [(.aload_n 0, 0, 0), (.getfield 69, 5, 22), (.iload 6, 0, 0), (.aload_n 0, 0, 0), (.getfield 55, 5, 17), (.iload_n 1, 0, 0), (.iaload, 0, 0), (.iconst 1, 0, 0), (.isub, 0, 0)] ⟨⟨d124_147, trivial⟩, ⟨d124_148, gf5_69⟩, ⟨d124_151, trivial⟩, ⟨d124_153, trivial⟩, ⟨d124_154, gf5_55⟩, ⟨d124_157, trivial⟩, ⟨d124_158, trivial⟩, ⟨d124_159, trivial⟩, ⟨d124_160, trivial⟩, trivial⟩ (lv' := [(6, aN (N 38 0 d)), (0, aR 23 0), (1, aN d), (2, aN 1), (3, aN m)]) (st' := [aI ((nI (N 39 0 d)) - (nI 1)), aN (N 38 0 d), aR 42 0]) (w' := wd (upN N 23 0 0 0) L) (P := [vld NN 23 0, vld NN 23 0, vld NN 39 0, d < 72]) rfl (⟨vN (t := 23) (i := 0) (by decide), vN (t := 23) (i := 0) (by decide), vN (t := 39) (i := 0) (by decide), (show d < 72 by first | omega | assumption)⟩) (pc' := 161) rfl ?_
      refine Sem.topN (show (nI (N 39 0 d)) - (nI 1) = nI (N 39 0 d - 1) from nI_sub (by omega)) ?_
      refine Sem.cSp1 (as := [aR 42 0, aN (N 38 0 d), aN (N 39 0 d - 1)]) (rst := []) (c' := 0) (s' := 0) d124_161 mk113 rfl co113 lk5_131 ss113 (show 3 ≤ mL 113 by decide) rfl (show 0 ≤ 8 by decide) (by decide) (by decide) rfl rfl (by decide) (by decide) (m113_42 (upN N 23 0 0 0) L (N 38 0 d) (N 39 0 d - 1) dI (by omega)) ?_
      refine Sem.goto (tgt := 168) d124_164 (by decide) ?_
      refine Sem.seg [(.lstore 7, 0, 0), (.iconst 0, 0, 0), (.istore 9, 0, 0)] ⟨⟨d124_168, trivial⟩, ⟨d124_170, trivial⟩, ⟨d124_171, trivial⟩, trivial⟩ (lv' := [(9, aN 0), (7, aL (sm (mW L 20 (N 38 0 d)) (N 39 0 d - 1 + 1))), (6, aN (N 38 0 d)), (0, aR 23 0), (1, aN d), (2, aN 1), (3, aN m)]) (st' := []) (w' := wd (upN N 23 0 0 0) L) (P := []) rfl (trivial) (pc' := 173) rfl ?_
      have lpz : ∀ (d_ : Nat) (q : Nat) (s : Int64), d - q = d_ → (q ≤ d) → (s = sm (mW L 20 (N 38 0 d)) (N 39 0 d) + bat (mN N 9 0) (mN N 10 0) (mN N 11 0) (N 38 0 d) (N 39 0 d) q) → Sem sc 124 173 [(0, aR 23 0), (1, aN d), (2, aN 1), (3, aN m), (6, aN (N 38 0 d)), (7, aL s), (9, aN q)] [] (wd (upN N 23 0 0 0) L) 0 0 (QJ fun v N' L' => L = L' ∧ N' = upN N 23 0 0 0 ∧ v = if N 38 0 (24 + m) = N 38 0 d then pgV (clM N L d) (q64 (N 40 0 d)) (suO N L (N 38 0 d) m) (q64 (N 40 0 (24 + m))) else 0) := by
        intro dz
        induction dz using Nat.strongRecOn with
        | ind dz ihz =>
          intro q s hdz hq hs
          refine Sem.seg [(.iload 9, 0, 0), (.iload_n 1, 0, 0)] ⟨⟨d124_173, trivial⟩, ⟨d124_175, trivial⟩, trivial⟩ (lv' := [(0, aR 23 0), (1, aN d), (2, aN 1), (3, aN m), (6, aN (N 38 0 d)), (7, aL s), (9, aN q)]) (st' := [aN d, aN q]) (w' := wd (upN N 23 0 0 0) L) (P := []) rfl (trivial) (pc' := 176) rfl ?_
          refine Sem.icmpN (tgt := 231) d124_176 (by decide) (show q < 2 ^ 31 by first | omega | assumption) (show d < 2 ^ 31 by first | omega | assumption) (fun b17 => ?_) (fun b17 => ?_)
          · have b17_ : d ≤ q := b17
            have hcl : s = clM N L d := by rw [hs, show q = d by omega]; rfl
            refine Sem.seg [(.lload 7, 0, 0), (.aload_n 0, 0, 0), (.getfield 58, 5, 18), (.iload_n 1, 0, 0), (.iaload, 0, 0), (.i2l, 0, 0), (.ladd, 0, 0), (.lstore 9, 0, 0), (.iload_n 2, 0, 0)] ⟨⟨d124_231, trivial⟩, ⟨d124_233, trivial⟩, ⟨d124_234, gf5_58⟩, ⟨d124_237, trivial⟩, ⟨d124_238, trivial⟩, ⟨d124_239, trivial⟩, ⟨d124_240, trivial⟩, ⟨d124_241, trivial⟩, ⟨d124_243, trivial⟩, trivial⟩ (lv' := [(9, aL (s + ((nI (N 40 0 d)).toInt64))), (0, aR 23 0), (1, aN d), (2, aN 1), (3, aN m), (6, aN (N 38 0 d)), (7, aL s)]) (st' := [aN 1]) (w' := wd (upN N 23 0 0 0) L) (P := [vld NN 23 0, vld NN 40 0, d < 72]) rfl (⟨vN (t := 23) (i := 0) (by decide), vN (t := 40) (i := 0) (by decide), (show d < 72 by first | omega | assumption)⟩) (pc' := 244) rfl ?_
            refine Sem.ifN (tgt := 251) d124_244 (by decide) (by decide) (fun b18 => ?_) (fun b18 => ?_)
            rotate_left
            · exact absurd (show ¬ 1 = 0 from by decide) b18
            refine Sem.seg [(.aload_n 0, 0, 0), (.iload 6, 0, 0), (.iload_n 2, 0, 0), (.iload_n 3, 0, 0)] ⟨⟨d124_251, trivial⟩, ⟨d124_252, trivial⟩, ⟨d124_254, trivial⟩, ⟨d124_255, trivial⟩, trivial⟩ (lv' := [(9, aL (s + ((nI (N 40 0 d)).toInt64))), (0, aR 23 0), (1, aN d), (2, aN 1), (3, aN m), (6, aN (N 38 0 d)), (7, aL s)]) (st' := [aN m, aN 1, aN (N 38 0 d), aR 23 0]) (w' := wd (upN N 23 0 0 0) L) (P := []) rfl (trivial) (pc' := 256) rfl ?_
            refine Sem.cVp1 (t := 23) (i := 0) (as := [aN (N 38 0 d), aN 1, aN m]) (rst := []) (c' := 0) (s' := 0) d124_256 mk125 rfl co125 lk5_183 im125 se125 rfl (vN (t := 23) (i := 0) (by decide)) (show 4 ≤ mL 125 by decide) rfl (show 0 ≤ 8 by decide) (by decide) (by decide) rfl rfl (by decide) (by decide) (m125_1 (upN N 23 0 0 0) L (N 38 0 d) m dI hm hc) ?_
            refine Sem.seg [(.lstore 11, 0, 0), (.iload_n 2, 0, 0)] ⟨⟨d124_259, trivial⟩, ⟨d124_261, trivial⟩, trivial⟩ (lv' := [(11, aL (suO N L (N 38 0 d) m)), (9, aL (s + ((nI (N 40 0 d)).toInt64))), (0, aR 23 0), (1, aN d), (2, aN 1), (3, aN m), (6, aN (N 38 0 d)), (7, aL s)]) (st' := [aN 1]) (w' := wd (upN N 23 0 0 0) L) (P := []) rfl (trivial) (pc' := 262) rfl ?_
            refine Sem.ifN (tgt := 276) d124_262 (by decide) (by decide) (fun b19 => ?_) (fun b19 => ?_)
            rotate_left
            · exact absurd (show ¬ 1 = 0 from by decide) b19
            refine Sem.seg [(.lload 11, 0, 0), (.iload_n 2, 0, 0), (.iconst 1, 0, 0)] ⟨⟨d124_276, trivial⟩, ⟨d124_278, trivial⟩, ⟨d124_279, trivial⟩, trivial⟩ (lv' := [(11, aL (suO N L (N 38 0 d) m)), (9, aL (s + ((nI (N 40 0 d)).toInt64))), (0, aR 23 0), (1, aN d), (2, aN 1), (3, aN m), (6, aN (N 38 0 d)), (7, aL s)]) (st' := [aN 1, aN 1, aL (suO N L (N 38 0 d) m)]) (w' := wd (upN N 23 0 0 0) L) (P := []) rfl (trivial) (pc' := 280) rfl ?_
            refine Sem.icmpN (tgt := 296) d124_280 (by decide) (by decide) (by decide) (fun b20 => ?_) (fun b20 => ?_)
            · exact absurd (show ¬ 1 = 1 from b20) (by decide)
            refine Sem.seg [(.aload_n 0, 0, 0), (.getfield 58, 5, 18), (.bipush 24, 0, 0), (.iload_n 3, 0, 0), (.iadd, 0, 0), (.iaload, 0, 0), (.i2l, 0, 0)] ⟨⟨d124_283, trivial⟩, ⟨d124_284, gf5_58⟩, ⟨d124_287, trivial⟩, ⟨d124_289, trivial⟩, ⟨d124_290, trivial⟩, ⟨d124_291, trivial⟩, ⟨d124_292, trivial⟩, trivial⟩ (lv' := [(11, aL (suO N L (N 38 0 d) m)), (9, aL (s + ((nI (N 40 0 d)).toInt64))), (0, aR 23 0), (1, aN d), (2, aN 1), (3, aN m), (6, aN (N 38 0 d)), (7, aL s)]) (st' := [aL ((nI (N 40 0 (24 + m))).toInt64), aL (suO N L (N 38 0 d) m)]) (w' := wd (upN N 23 0 0 0) L) (P := [vld NN 23 0, vld NN 40 0, 24 + m < 72]) rfl (⟨vN (t := 23) (i := 0) (by decide), vN (t := 40) (i := 0) (by decide), (show 24 + m < 72 by first | omega | assumption)⟩) (pc' := 293) rfl ?_
            refine Sem.goto (tgt := 308) d124_293 (by decide) ?_
            refine Sem.seg [(.ladd, 0, 0), (.lstore 13, 0, 0), (.lload 7, 0, 0), (.lload 11, 0, 0)] ⟨⟨d124_308, trivial⟩, ⟨d124_309, trivial⟩, ⟨d124_311, trivial⟩, ⟨d124_313, trivial⟩, trivial⟩ (lv' := [(13, aL ((suO N L (N 38 0 d) m) + ((nI (N 40 0 (24 + m))).toInt64))), (11, aL (suO N L (N 38 0 d) m)), (9, aL (s + ((nI (N 40 0 d)).toInt64))), (0, aR 23 0), (1, aN d), (2, aN 1), (3, aN m), (6, aN (N 38 0 d)), (7, aL s)]) (st' := [aL (suO N L (N 38 0 d) m), aL s]) (w' := wd (upN N 23 0 0 0) L) (P := []) rfl (trivial) (pc' := 315) rfl ?_
            refine Sem.lcmp (tgt := 324) d124_315 d124_316 (by decide) (fun b21 => ?_) (fun b21 => ?_)
            · have b21_ : s ≤ suO N L (N 38 0 d) m := b21
              refine Sem.seg [(.lload 11, 0, 0)] ⟨⟨d124_324, trivial⟩, trivial⟩ (lv' := [(13, aL ((suO N L (N 38 0 d) m) + ((nI (N 40 0 (24 + m))).toInt64))), (11, aL (suO N L (N 38 0 d) m)), (9, aL (s + ((nI (N 40 0 d)).toInt64))), (0, aR 23 0), (1, aN d), (2, aN 1), (3, aN m), (6, aN (N 38 0 d)), (7, aL s)]) (st' := [aL (suO N L (N 38 0 d) m)]) (w' := wd (upN N 23 0 0 0) L) (P := []) rfl (trivial) (pc' := 326) rfl ?_
              have hlo : (if s ≤ (suO N L (N 38 0 d) m) then (suO N L (N 38 0 d) m) else s) = (suO N L (N 38 0 d) m) := by first | exact if_pos (by assumption) | exact if_neg (by assumption)
              refine Sem.seg [(.lstore 15, 0, 0), (.lload 9, 0, 0), (.lload 13, 0, 0)] ⟨⟨d124_326, trivial⟩, ⟨d124_328, trivial⟩, ⟨d124_330, trivial⟩, trivial⟩ (lv' := [(15, aL (suO N L (N 38 0 d) m)), (13, aL ((suO N L (N 38 0 d) m) + ((nI (N 40 0 (24 + m))).toInt64))), (11, aL (suO N L (N 38 0 d) m)), (9, aL (s + ((nI (N 40 0 d)).toInt64))), (0, aR 23 0), (1, aN d), (2, aN 1), (3, aN m), (6, aN (N 38 0 d)), (7, aL s)]) (st' := [aL ((suO N L (N 38 0 d) m) + ((nI (N 40 0 (24 + m))).toInt64)), aL (s + ((nI (N 40 0 d)).toInt64))]) (w' := wd (upN N 23 0 0 0) L) (P := []) rfl (trivial) (pc' := 332) rfl ?_
              refine Sem.lcmp (tgt := 341) d124_332 d124_333 (by decide) (fun b22 => ?_) (fun b22 => ?_)
              · have b22_ : (suO N L (N 38 0 d) m) + ((nI (N 40 0 (24 + m))).toInt64) ≤ s + ((nI (N 40 0 d)).toInt64) := b22
                refine Sem.seg [(.lload 13, 0, 0)] ⟨⟨d124_341, trivial⟩, trivial⟩ (lv' := [(15, aL (suO N L (N 38 0 d) m)), (13, aL ((suO N L (N 38 0 d) m) + ((nI (N 40 0 (24 + m))).toInt64))), (11, aL (suO N L (N 38 0 d) m)), (9, aL (s + ((nI (N 40 0 d)).toInt64))), (0, aR 23 0), (1, aN d), (2, aN 1), (3, aN m), (6, aN (N 38 0 d)), (7, aL s)]) (st' := [aL ((suO N L (N 38 0 d) m) + ((nI (N 40 0 (24 + m))).toInt64))]) (w' := wd (upN N 23 0 0 0) L) (P := []) rfl (trivial) (pc' := 343) rfl ?_
                have hhi : (if ((suO N L (N 38 0 d) m) + ((nI (N 40 0 (24 + m))).toInt64)) ≤ (s + ((nI (N 40 0 d)).toInt64)) then ((suO N L (N 38 0 d) m) + ((nI (N 40 0 (24 + m))).toInt64)) else (s + ((nI (N 40 0 d)).toInt64))) = ((suO N L (N 38 0 d) m) + ((nI (N 40 0 (24 + m))).toInt64)) := by first | exact if_pos (by assumption) | exact if_neg (by assumption)
                refine Sem.seg [(.lstore 17, 0, 0), (.lload 17, 0, 0), (.lload 15, 0, 0)] ⟨⟨d124_343, trivial⟩, ⟨d124_345, trivial⟩, ⟨d124_347, trivial⟩, trivial⟩ (lv' := [(17, aL ((suO N L (N 38 0 d) m) + ((nI (N 40 0 (24 + m))).toInt64))), (15, aL (suO N L (N 38 0 d) m)), (13, aL ((suO N L (N 38 0 d) m) + ((nI (N 40 0 (24 + m))).toInt64))), (11, aL (suO N L (N 38 0 d) m)), (9, aL (s + ((nI (N 40 0 d)).toInt64))), (0, aR 23 0), (1, aN d), (2, aN 1), (3, aN m), (6, aN (N 38 0 d)), (7, aL s)]) (st' := [aL (suO N L (N 38 0 d) m), aL ((suO N L (N 38 0 d) m) + ((nI (N 40 0 (24 + m))).toInt64))]) (w' := wd (upN N 23 0 0 0) L) (P := []) rfl (trivial) (pc' := 349) rfl ?_
                refine Sem.lcmp (tgt := 361) d124_349 d124_350 (by decide) (fun b23 => ?_) (fun b23 => ?_)
                · have b23_ : (suO N L (N 38 0 d) m) + ((nI (N 40 0 (24 + m))).toInt64) ≤ suO N L (N 38 0 d) m := b23
                  refine Sem.seg [(.lconst 0, 0, 0)] ⟨⟨d124_361, trivial⟩, trivial⟩ (lv' := [(17, aL ((suO N L (N 38 0 d) m) + ((nI (N 40 0 (24 + m))).toInt64))), (15, aL (suO N L (N 38 0 d) m)), (13, aL ((suO N L (N 38 0 d) m) + ((nI (N 40 0 (24 + m))).toInt64))), (11, aL (suO N L (N 38 0 d) m)), (9, aL (s + ((nI (N 40 0 d)).toInt64))), (0, aR 23 0), (1, aN d), (2, aN 1), (3, aN m), (6, aN (N 38 0 d)), (7, aL s)]) (st' := [aL (Int64.ofNat 0)]) (w' := wd (upN N 23 0 0 0) L) (P := []) rfl (trivial) (pc' := 362) rfl ?_
                  refine Sem.lret d124_362 rfl (by decide) (by decide) hzW ⟨_, _, _, rfl, rfl, ?_⟩
                  refine ⟨rfl, rfl, ?_⟩
                  rw [if_pos (by assumption)]
                  rw [← hcl]
                  unfold pgV
                  rw [hhi, hlo]
                  first
                  | (rw [if_pos (by assumption)]; rfl)
                  | rw [if_neg (by assumption)]
                · have b23_ : ¬ ((suO N L (N 38 0 d) m) + ((nI (N 40 0 (24 + m))).toInt64) ≤ suO N L (N 38 0 d) m) := b23
                  refine Sem.seg [(.lload 17, 0, 0), (.lload 15, 0, 0), (.lsub, 0, 0)] ⟨⟨d124_353, trivial⟩, ⟨d124_355, trivial⟩, ⟨d124_357, trivial⟩, trivial⟩ (lv' := [(17, aL ((suO N L (N 38 0 d) m) + ((nI (N 40 0 (24 + m))).toInt64))), (15, aL (suO N L (N 38 0 d) m)), (13, aL ((suO N L (N 38 0 d) m) + ((nI (N 40 0 (24 + m))).toInt64))), (11, aL (suO N L (N 38 0 d) m)), (9, aL (s + ((nI (N 40 0 d)).toInt64))), (0, aR 23 0), (1, aN d), (2, aN 1), (3, aN m), (6, aN (N 38 0 d)), (7, aL s)]) (st' := [aL (((suO N L (N 38 0 d) m) + ((nI (N 40 0 (24 + m))).toInt64)) - (suO N L (N 38 0 d) m))]) (w' := wd (upN N 23 0 0 0) L) (P := []) rfl (trivial) (pc' := 358) rfl ?_
                  refine Sem.goto (tgt := 362) d124_358 (by decide) ?_
                  refine Sem.lret d124_362 rfl (by decide) (by decide) hzW ⟨_, _, _, rfl, rfl, ?_⟩
                  refine ⟨rfl, rfl, ?_⟩
                  rw [if_pos (by assumption)]
                  rw [← hcl]
                  unfold pgV
                  rw [hhi, hlo]
                  first
                  | (rw [if_pos (by assumption)]; rfl)
                  | rw [if_neg (by assumption)]
              · have b22_ : ¬ ((suO N L (N 38 0 d) m) + ((nI (N 40 0 (24 + m))).toInt64) ≤ s + ((nI (N 40 0 d)).toInt64)) := b22
                refine Sem.seg [(.lload 9, 0, 0)] ⟨⟨d124_336, trivial⟩, trivial⟩ (lv' := [(15, aL (suO N L (N 38 0 d) m)), (13, aL ((suO N L (N 38 0 d) m) + ((nI (N 40 0 (24 + m))).toInt64))), (11, aL (suO N L (N 38 0 d) m)), (9, aL (s + ((nI (N 40 0 d)).toInt64))), (0, aR 23 0), (1, aN d), (2, aN 1), (3, aN m), (6, aN (N 38 0 d)), (7, aL s)]) (st' := [aL (s + ((nI (N 40 0 d)).toInt64))]) (w' := wd (upN N 23 0 0 0) L) (P := []) rfl (trivial) (pc' := 338) rfl ?_
                refine Sem.goto (tgt := 343) d124_338 (by decide) ?_
                have hhi : (if ((suO N L (N 38 0 d) m) + ((nI (N 40 0 (24 + m))).toInt64)) ≤ (s + ((nI (N 40 0 d)).toInt64)) then ((suO N L (N 38 0 d) m) + ((nI (N 40 0 (24 + m))).toInt64)) else (s + ((nI (N 40 0 d)).toInt64))) = (s + ((nI (N 40 0 d)).toInt64)) := by first | exact if_pos (by assumption) | exact if_neg (by assumption)
                refine Sem.seg [(.lstore 17, 0, 0), (.lload 17, 0, 0), (.lload 15, 0, 0)] ⟨⟨d124_343, trivial⟩, ⟨d124_345, trivial⟩, ⟨d124_347, trivial⟩, trivial⟩ (lv' := [(17, aL (s + ((nI (N 40 0 d)).toInt64))), (15, aL (suO N L (N 38 0 d) m)), (13, aL ((suO N L (N 38 0 d) m) + ((nI (N 40 0 (24 + m))).toInt64))), (11, aL (suO N L (N 38 0 d) m)), (9, aL (s + ((nI (N 40 0 d)).toInt64))), (0, aR 23 0), (1, aN d), (2, aN 1), (3, aN m), (6, aN (N 38 0 d)), (7, aL s)]) (st' := [aL (suO N L (N 38 0 d) m), aL (s + ((nI (N 40 0 d)).toInt64))]) (w' := wd (upN N 23 0 0 0) L) (P := []) rfl (trivial) (pc' := 349) rfl ?_
                refine Sem.lcmp (tgt := 361) d124_349 d124_350 (by decide) (fun b24 => ?_) (fun b24 => ?_)
                · have b24_ : s + ((nI (N 40 0 d)).toInt64) ≤ suO N L (N 38 0 d) m := b24
                  refine Sem.seg [(.lconst 0, 0, 0)] ⟨⟨d124_361, trivial⟩, trivial⟩ (lv' := [(17, aL (s + ((nI (N 40 0 d)).toInt64))), (15, aL (suO N L (N 38 0 d) m)), (13, aL ((suO N L (N 38 0 d) m) + ((nI (N 40 0 (24 + m))).toInt64))), (11, aL (suO N L (N 38 0 d) m)), (9, aL (s + ((nI (N 40 0 d)).toInt64))), (0, aR 23 0), (1, aN d), (2, aN 1), (3, aN m), (6, aN (N 38 0 d)), (7, aL s)]) (st' := [aL (Int64.ofNat 0)]) (w' := wd (upN N 23 0 0 0) L) (P := []) rfl (trivial) (pc' := 362) rfl ?_
                  refine Sem.lret d124_362 rfl (by decide) (by decide) hzW ⟨_, _, _, rfl, rfl, ?_⟩
                  refine ⟨rfl, rfl, ?_⟩
                  rw [if_pos (by assumption)]
                  rw [← hcl]
                  unfold pgV
                  rw [hhi, hlo]
                  first
                  | (rw [if_pos (by assumption)]; rfl)
                  | rw [if_neg (by assumption)]
                · have b24_ : ¬ (s + ((nI (N 40 0 d)).toInt64) ≤ suO N L (N 38 0 d) m) := b24
                  refine Sem.seg [(.lload 17, 0, 0), (.lload 15, 0, 0), (.lsub, 0, 0)] ⟨⟨d124_353, trivial⟩, ⟨d124_355, trivial⟩, ⟨d124_357, trivial⟩, trivial⟩ (lv' := [(17, aL (s + ((nI (N 40 0 d)).toInt64))), (15, aL (suO N L (N 38 0 d) m)), (13, aL ((suO N L (N 38 0 d) m) + ((nI (N 40 0 (24 + m))).toInt64))), (11, aL (suO N L (N 38 0 d) m)), (9, aL (s + ((nI (N 40 0 d)).toInt64))), (0, aR 23 0), (1, aN d), (2, aN 1), (3, aN m), (6, aN (N 38 0 d)), (7, aL s)]) (st' := [aL ((s + ((nI (N 40 0 d)).toInt64)) - (suO N L (N 38 0 d) m))]) (w' := wd (upN N 23 0 0 0) L) (P := []) rfl (trivial) (pc' := 358) rfl ?_
                  refine Sem.goto (tgt := 362) d124_358 (by decide) ?_
                  refine Sem.lret d124_362 rfl (by decide) (by decide) hzW ⟨_, _, _, rfl, rfl, ?_⟩
                  refine ⟨rfl, rfl, ?_⟩
                  rw [if_pos (by assumption)]
                  rw [← hcl]
                  unfold pgV
                  rw [hhi, hlo]
                  first
                  | (rw [if_pos (by assumption)]; rfl)
                  | rw [if_neg (by assumption)]
            · have b21_ : ¬ (s ≤ suO N L (N 38 0 d) m) := b21
              refine Sem.seg [(.lload 7, 0, 0)] ⟨⟨d124_319, trivial⟩, trivial⟩ (lv' := [(13, aL ((suO N L (N 38 0 d) m) + ((nI (N 40 0 (24 + m))).toInt64))), (11, aL (suO N L (N 38 0 d) m)), (9, aL (s + ((nI (N 40 0 d)).toInt64))), (0, aR 23 0), (1, aN d), (2, aN 1), (3, aN m), (6, aN (N 38 0 d)), (7, aL s)]) (st' := [aL s]) (w' := wd (upN N 23 0 0 0) L) (P := []) rfl (trivial) (pc' := 321) rfl ?_
              refine Sem.goto (tgt := 326) d124_321 (by decide) ?_
              have hlo : (if s ≤ (suO N L (N 38 0 d) m) then (suO N L (N 38 0 d) m) else s) = s := by first | exact if_pos (by assumption) | exact if_neg (by assumption)
              refine Sem.seg [(.lstore 15, 0, 0), (.lload 9, 0, 0), (.lload 13, 0, 0)] ⟨⟨d124_326, trivial⟩, ⟨d124_328, trivial⟩, ⟨d124_330, trivial⟩, trivial⟩ (lv' := [(15, aL s), (13, aL ((suO N L (N 38 0 d) m) + ((nI (N 40 0 (24 + m))).toInt64))), (11, aL (suO N L (N 38 0 d) m)), (9, aL (s + ((nI (N 40 0 d)).toInt64))), (0, aR 23 0), (1, aN d), (2, aN 1), (3, aN m), (6, aN (N 38 0 d)), (7, aL s)]) (st' := [aL ((suO N L (N 38 0 d) m) + ((nI (N 40 0 (24 + m))).toInt64)), aL (s + ((nI (N 40 0 d)).toInt64))]) (w' := wd (upN N 23 0 0 0) L) (P := []) rfl (trivial) (pc' := 332) rfl ?_
              refine Sem.lcmp (tgt := 341) d124_332 d124_333 (by decide) (fun b25 => ?_) (fun b25 => ?_)
              · have b25_ : (suO N L (N 38 0 d) m) + ((nI (N 40 0 (24 + m))).toInt64) ≤ s + ((nI (N 40 0 d)).toInt64) := b25
                refine Sem.seg [(.lload 13, 0, 0)] ⟨⟨d124_341, trivial⟩, trivial⟩ (lv' := [(15, aL s), (13, aL ((suO N L (N 38 0 d) m) + ((nI (N 40 0 (24 + m))).toInt64))), (11, aL (suO N L (N 38 0 d) m)), (9, aL (s + ((nI (N 40 0 d)).toInt64))), (0, aR 23 0), (1, aN d), (2, aN 1), (3, aN m), (6, aN (N 38 0 d)), (7, aL s)]) (st' := [aL ((suO N L (N 38 0 d) m) + ((nI (N 40 0 (24 + m))).toInt64))]) (w' := wd (upN N 23 0 0 0) L) (P := []) rfl (trivial) (pc' := 343) rfl ?_
                have hhi : (if ((suO N L (N 38 0 d) m) + ((nI (N 40 0 (24 + m))).toInt64)) ≤ (s + ((nI (N 40 0 d)).toInt64)) then ((suO N L (N 38 0 d) m) + ((nI (N 40 0 (24 + m))).toInt64)) else (s + ((nI (N 40 0 d)).toInt64))) = ((suO N L (N 38 0 d) m) + ((nI (N 40 0 (24 + m))).toInt64)) := by first | exact if_pos (by assumption) | exact if_neg (by assumption)
                refine Sem.seg [(.lstore 17, 0, 0), (.lload 17, 0, 0), (.lload 15, 0, 0)] ⟨⟨d124_343, trivial⟩, ⟨d124_345, trivial⟩, ⟨d124_347, trivial⟩, trivial⟩ (lv' := [(17, aL ((suO N L (N 38 0 d) m) + ((nI (N 40 0 (24 + m))).toInt64))), (15, aL s), (13, aL ((suO N L (N 38 0 d) m) + ((nI (N 40 0 (24 + m))).toInt64))), (11, aL (suO N L (N 38 0 d) m)), (9, aL (s + ((nI (N 40 0 d)).toInt64))), (0, aR 23 0), (1, aN d), (2, aN 1), (3, aN m), (6, aN (N 38 0 d)), (7, aL s)]) (st' := [aL s, aL ((suO N L (N 38 0 d) m) + ((nI (N 40 0 (24 + m))).toInt64))]) (w' := wd (upN N 23 0 0 0) L) (P := []) rfl (trivial) (pc' := 349) rfl ?_
                refine Sem.lcmp (tgt := 361) d124_349 d124_350 (by decide) (fun b26 => ?_) (fun b26 => ?_)
                · have b26_ : (suO N L (N 38 0 d) m) + ((nI (N 40 0 (24 + m))).toInt64) ≤ s := b26
                  refine Sem.seg [(.lconst 0, 0, 0)] ⟨⟨d124_361, trivial⟩, trivial⟩ (lv' := [(17, aL ((suO N L (N 38 0 d) m) + ((nI (N 40 0 (24 + m))).toInt64))), (15, aL s), (13, aL ((suO N L (N 38 0 d) m) + ((nI (N 40 0 (24 + m))).toInt64))), (11, aL (suO N L (N 38 0 d) m)), (9, aL (s + ((nI (N 40 0 d)).toInt64))), (0, aR 23 0), (1, aN d), (2, aN 1), (3, aN m), (6, aN (N 38 0 d)), (7, aL s)]) (st' := [aL (Int64.ofNat 0)]) (w' := wd (upN N 23 0 0 0) L) (P := []) rfl (trivial) (pc' := 362) rfl ?_
                  refine Sem.lret d124_362 rfl (by decide) (by decide) hzW ⟨_, _, _, rfl, rfl, ?_⟩
                  refine ⟨rfl, rfl, ?_⟩
                  rw [if_pos (by assumption)]
                  rw [← hcl]
                  unfold pgV
                  rw [hhi, hlo]
                  first
                  | (rw [if_pos (by assumption)]; rfl)
                  | rw [if_neg (by assumption)]
                · have b26_ : ¬ ((suO N L (N 38 0 d) m) + ((nI (N 40 0 (24 + m))).toInt64) ≤ s) := b26
                  refine Sem.seg [(.lload 17, 0, 0), (.lload 15, 0, 0), (.lsub, 0, 0)] ⟨⟨d124_353, trivial⟩, ⟨d124_355, trivial⟩, ⟨d124_357, trivial⟩, trivial⟩ (lv' := [(17, aL ((suO N L (N 38 0 d) m) + ((nI (N 40 0 (24 + m))).toInt64))), (15, aL s), (13, aL ((suO N L (N 38 0 d) m) + ((nI (N 40 0 (24 + m))).toInt64))), (11, aL (suO N L (N 38 0 d) m)), (9, aL (s + ((nI (N 40 0 d)).toInt64))), (0, aR 23 0), (1, aN d), (2, aN 1), (3, aN m), (6, aN (N 38 0 d)), (7, aL s)]) (st' := [aL (((suO N L (N 38 0 d) m) + ((nI (N 40 0 (24 + m))).toInt64)) - s)]) (w' := wd (upN N 23 0 0 0) L) (P := []) rfl (trivial) (pc' := 358) rfl ?_
                  refine Sem.goto (tgt := 362) d124_358 (by decide) ?_
                  refine Sem.lret d124_362 rfl (by decide) (by decide) hzW ⟨_, _, _, rfl, rfl, ?_⟩
                  refine ⟨rfl, rfl, ?_⟩
                  rw [if_pos (by assumption)]
                  rw [← hcl]
                  unfold pgV
                  rw [hhi, hlo]
                  first
                  | (rw [if_pos (by assumption)]; rfl)
                  | rw [if_neg (by assumption)]
              · have b25_ : ¬ ((suO N L (N 38 0 d) m) + ((nI (N 40 0 (24 + m))).toInt64) ≤ s + ((nI (N 40 0 d)).toInt64)) := b25
                refine Sem.seg [(.lload 9, 0, 0)] ⟨⟨d124_336, trivial⟩, trivial⟩ (lv' := [(15, aL s), (13, aL ((suO N L (N 38 0 d) m) + ((nI (N 40 0 (24 + m))).toInt64))), (11, aL (suO N L (N 38 0 d) m)), (9, aL (s + ((nI (N 40 0 d)).toInt64))), (0, aR 23 0), (1, aN d), (2, aN 1), (3, aN m), (6, aN (N 38 0 d)), (7, aL s)]) (st' := [aL (s + ((nI (N 40 0 d)).toInt64))]) (w' := wd (upN N 23 0 0 0) L) (P := []) rfl (trivial) (pc' := 338) rfl ?_
                refine Sem.goto (tgt := 343) d124_338 (by decide) ?_
                have hhi : (if ((suO N L (N 38 0 d) m) + ((nI (N 40 0 (24 + m))).toInt64)) ≤ (s + ((nI (N 40 0 d)).toInt64)) then ((suO N L (N 38 0 d) m) + ((nI (N 40 0 (24 + m))).toInt64)) else (s + ((nI (N 40 0 d)).toInt64))) = (s + ((nI (N 40 0 d)).toInt64)) := by first | exact if_pos (by assumption) | exact if_neg (by assumption)
                refine Sem.seg [(.lstore 17, 0, 0), (.lload 17, 0, 0), (.lload 15, 0, 0)] ⟨⟨d124_343, trivial⟩, ⟨d124_345, trivial⟩, ⟨d124_347, trivial⟩, trivial⟩ (lv' := [(17, aL (s + ((nI (N 40 0 d)).toInt64))), (15, aL s), (13, aL ((suO N L (N 38 0 d) m) + ((nI (N 40 0 (24 + m))).toInt64))), (11, aL (suO N L (N 38 0 d) m)), (9, aL (s + ((nI (N 40 0 d)).toInt64))), (0, aR 23 0), (1, aN d), (2, aN 1), (3, aN m), (6, aN (N 38 0 d)), (7, aL s)]) (st' := [aL s, aL (s + ((nI (N 40 0 d)).toInt64))]) (w' := wd (upN N 23 0 0 0) L) (P := []) rfl (trivial) (pc' := 349) rfl ?_
                refine Sem.lcmp (tgt := 361) d124_349 d124_350 (by decide) (fun b27 => ?_) (fun b27 => ?_)
                · have b27_ : s + ((nI (N 40 0 d)).toInt64) ≤ s := b27
                  refine Sem.seg [(.lconst 0, 0, 0)] ⟨⟨d124_361, trivial⟩, trivial⟩ (lv' := [(17, aL (s + ((nI (N 40 0 d)).toInt64))), (15, aL s), (13, aL ((suO N L (N 38 0 d) m) + ((nI (N 40 0 (24 + m))).toInt64))), (11, aL (suO N L (N 38 0 d) m)), (9, aL (s + ((nI (N 40 0 d)).toInt64))), (0, aR 23 0), (1, aN d), (2, aN 1), (3, aN m), (6, aN (N 38 0 d)), (7, aL s)]) (st' := [aL (Int64.ofNat 0)]) (w' := wd (upN N 23 0 0 0) L) (P := []) rfl (trivial) (pc' := 362) rfl ?_
                  refine Sem.lret d124_362 rfl (by decide) (by decide) hzW ⟨_, _, _, rfl, rfl, ?_⟩
                  refine ⟨rfl, rfl, ?_⟩
                  rw [if_pos (by assumption)]
                  rw [← hcl]
                  unfold pgV
                  rw [hhi, hlo]
                  first
                  | (rw [if_pos (by assumption)]; rfl)
                  | rw [if_neg (by assumption)]
                · have b27_ : ¬ (s + ((nI (N 40 0 d)).toInt64) ≤ s) := b27
                  refine Sem.seg [(.lload 17, 0, 0), (.lload 15, 0, 0), (.lsub, 0, 0)] ⟨⟨d124_353, trivial⟩, ⟨d124_355, trivial⟩, ⟨d124_357, trivial⟩, trivial⟩ (lv' := [(17, aL (s + ((nI (N 40 0 d)).toInt64))), (15, aL s), (13, aL ((suO N L (N 38 0 d) m) + ((nI (N 40 0 (24 + m))).toInt64))), (11, aL (suO N L (N 38 0 d) m)), (9, aL (s + ((nI (N 40 0 d)).toInt64))), (0, aR 23 0), (1, aN d), (2, aN 1), (3, aN m), (6, aN (N 38 0 d)), (7, aL s)]) (st' := [aL ((s + ((nI (N 40 0 d)).toInt64)) - s)]) (w' := wd (upN N 23 0 0 0) L) (P := []) rfl (trivial) (pc' := 358) rfl ?_
                  refine Sem.goto (tgt := 362) d124_358 (by decide) ?_
                  refine Sem.lret d124_362 rfl (by decide) (by decide) hzW ⟨_, _, _, rfl, rfl, ?_⟩
                  refine ⟨rfl, rfl, ?_⟩
                  rw [if_pos (by assumption)]
                  rw [← hcl]
                  unfold pgV
                  rw [hhi, hlo]
                  first
                  | (rw [if_pos (by assumption)]; rfl)
                  | rw [if_neg (by assumption)]
          · have b17_ : ¬ (d ≤ q) := b17
            have jI : N 38 0 q < 12 := by rw [← z9]; exact (hc.2.1 0 (by decide)).2.1 q (show q < N 37 0 0 by omega)
            have jW : N 39 0 q < 12 := by rw [← z10]; exact (hc.2.1 0 (by decide)).2.2.1 q (show q < N 37 0 0 by omega)
            refine Sem.seg [(.aload_n 0, 0, 0), (.getfield 52, 5, 16), (.iload 9, 0, 0), (.iaload, 0, 0), (.iload 6, 0, 0)] ⟨⟨d124_179, trivial⟩, ⟨d124_180, gf5_52⟩, ⟨d124_183, trivial⟩, ⟨d124_185, trivial⟩, ⟨d124_186, trivial⟩, trivial⟩ (lv' := [(0, aR 23 0), (1, aN d), (2, aN 1), (3, aN m), (6, aN (N 38 0 d)), (7, aL s), (9, aN q)]) (st' := [aN (N 38 0 d), aN (N 38 0 q)]) (w' := wd (upN N 23 0 0 0) L) (P := [vld NN 23 0, vld NN 38 0, q < 72]) rfl (⟨vN (t := 23) (i := 0) (by decide), vN (t := 38) (i := 0) (by decide), (show q < 72 by first | omega | assumption)⟩) (pc' := 188) rfl ?_
            refine Sem.icmpN (tgt := 221) d124_188 (by decide) (show N 38 0 q < 2 ^ 31 by first | omega | assumption) (show N 38 0 d < 2 ^ 31 by first | omega | assumption) (fun b28 => ?_) (fun b28 => ?_)
            · have b28_ : ¬ N 38 0 q = N 38 0 d := b28
              refine Sem.seg [(.lload 7, 0, 0), (.lstore 7, 0, 0), (.iinc 9 1, 0, 0)] ⟨⟨d124_221, trivial⟩, ⟨d124_223, trivial⟩, ⟨d124_225, trivial⟩, trivial⟩ (lv' := [(9, aN (q + 1)), (7, aL s), (0, aR 23 0), (1, aN d), (2, aN 1), (3, aN m), (6, aN (N 38 0 d))]) (st' := []) (w' := wd (upN N 23 0 0 0) L) (P := []) rfl (trivial) (pc' := 228) rfl ?_
              refine Sem.goto (tgt := 173) d124_228 (by decide) ?_
              refine Sem.pick [2, 3, 4, 5, 6, 1, 0] (lv' := [(0, aR 23 0), (1, aN d), (2, aN 1), (3, aN m), (6, aN (N 38 0 d)), (7, aL s), (9, aN (q + 1))]) rfl ?_
              exact ihz _ (by omega) (q + 1) s rfl (by omega) (by simp only [bat, sm] at hs ⊢; rw [hs, z9, z10, z11]; first | (rw [if_pos (by omega), Int64.add_assoc]; done) | (rw [if_neg (by omega), Int64.add_zero]; done))
            · have b28_ : ¬ (¬ N 38 0 q = N 38 0 d) := b28
              refine Sem.seg [(.aload_n 0, 0, 0), (.getfield 55, 5, 17), (.iload 9, 0, 0), (.iaload, 0, 0), (.aload_n 0, 0, 0), (.getfield 55, 5, 17), (.iload_n 1, 0, 0), (.iaload, 0, 0)] ⟨⟨d124_191, trivial⟩, ⟨d124_192, gf5_55⟩, ⟨d124_195, trivial⟩, ⟨d124_197, trivial⟩, ⟨d124_198, trivial⟩, ⟨d124_199, gf5_55⟩, ⟨d124_202, trivial⟩, ⟨d124_203, trivial⟩, trivial⟩ (lv' := [(0, aR 23 0), (1, aN d), (2, aN 1), (3, aN m), (6, aN (N 38 0 d)), (7, aL s), (9, aN q)]) (st' := [aN (N 39 0 d), aN (N 39 0 q)]) (w' := wd (upN N 23 0 0 0) L) (P := [vld NN 23 0, vld NN 39 0, q < 72, vld NN 23 0, vld NN 39 0, d < 72]) rfl (⟨vN (t := 23) (i := 0) (by decide), vN (t := 39) (i := 0) (by decide), (show q < 72 by first | omega | assumption), vN (t := 23) (i := 0) (by decide), vN (t := 39) (i := 0) (by decide), (show d < 72 by first | omega | assumption)⟩) (pc' := 204) rfl ?_
              refine Sem.icmpN (tgt := 221) d124_204 (by decide) (show N 39 0 q < 2 ^ 31 by first | omega | assumption) (show N 39 0 d < 2 ^ 31 by first | omega | assumption) (fun b29 => ?_) (fun b29 => ?_)
              · have b29_ : ¬ N 39 0 q = N 39 0 d := b29
                refine Sem.seg [(.lload 7, 0, 0), (.lstore 7, 0, 0), (.iinc 9 1, 0, 0)] ⟨⟨d124_221, trivial⟩, ⟨d124_223, trivial⟩, ⟨d124_225, trivial⟩, trivial⟩ (lv' := [(9, aN (q + 1)), (7, aL s), (0, aR 23 0), (1, aN d), (2, aN 1), (3, aN m), (6, aN (N 38 0 d))]) (st' := []) (w' := wd (upN N 23 0 0 0) L) (P := []) rfl (trivial) (pc' := 228) rfl ?_
                refine Sem.goto (tgt := 173) d124_228 (by decide) ?_
                refine Sem.pick [2, 3, 4, 5, 6, 1, 0] (lv' := [(0, aR 23 0), (1, aN d), (2, aN 1), (3, aN m), (6, aN (N 38 0 d)), (7, aL s), (9, aN (q + 1))]) rfl ?_
                exact ihz _ (by omega) (q + 1) s rfl (by omega) (by simp only [bat, sm] at hs ⊢; rw [hs, z9, z10, z11]; first | (rw [if_pos (by omega), Int64.add_assoc]; done) | (rw [if_neg (by omega), Int64.add_zero]; done))
              · have b29_ : ¬ (¬ N 39 0 q = N 39 0 d) := b29
                refine Sem.seg [(.lload 7, 0, 0), (.aload_n 0, 0, 0), (.getfield 58, 5, 18), (.iload 9, 0, 0), (.iaload, 0, 0), (.i2l, 0, 0), (.ladd, 0, 0)] ⟨⟨d124_207, trivial⟩, ⟨d124_209, trivial⟩, ⟨d124_210, gf5_58⟩, ⟨d124_213, trivial⟩, ⟨d124_215, trivial⟩, ⟨d124_216, trivial⟩, ⟨d124_217, trivial⟩, trivial⟩ (lv' := [(0, aR 23 0), (1, aN d), (2, aN 1), (3, aN m), (6, aN (N 38 0 d)), (7, aL s), (9, aN q)]) (st' := [aL (s + ((nI (N 40 0 q)).toInt64))]) (w' := wd (upN N 23 0 0 0) L) (P := [vld NN 23 0, vld NN 40 0, q < 72]) rfl (⟨vN (t := 23) (i := 0) (by decide), vN (t := 40) (i := 0) (by decide), (show q < 72 by first | omega | assumption)⟩) (pc' := 218) rfl ?_
                refine Sem.goto (tgt := 223) d124_218 (by decide) ?_
                refine Sem.seg [(.lstore 7, 0, 0), (.iinc 9 1, 0, 0)] ⟨⟨d124_223, trivial⟩, ⟨d124_225, trivial⟩, trivial⟩ (lv' := [(9, aN (q + 1)), (7, aL (s + ((nI (N 40 0 q)).toInt64))), (0, aR 23 0), (1, aN d), (2, aN 1), (3, aN m), (6, aN (N 38 0 d))]) (st' := []) (w' := wd (upN N 23 0 0 0) L) (P := []) rfl (trivial) (pc' := 228) rfl ?_
                refine Sem.goto (tgt := 173) d124_228 (by decide) ?_
                refine Sem.pick [2, 3, 4, 5, 6, 1, 0] (lv' := [(0, aR 23 0), (1, aN d), (2, aN 1), (3, aN m), (6, aN (N 38 0 d)), (7, aL (s + ((nI (N 40 0 q)).toInt64))), (9, aN (q + 1))]) rfl ?_
                exact ihz _ (by omega) (q + 1) (s + ((nI (N 40 0 q)).toInt64)) rfl (by omega) (by simp only [bat, sm] at hs ⊢; rw [hs, z9, z10, z11]; first | (rw [if_pos (by omega), Int64.add_assoc]; done) | (rw [if_neg (by omega), Int64.add_zero]; done))
      refine Sem.pick [3, 4, 5, 6, 2, 1, 0] (lv' := [(0, aR 23 0), (1, aN d), (2, aN 1), (3, aN m), (6, aN (N 38 0 d)), (7, aL (sm (mW L 20 (N 38 0 d)) (N 39 0 d - 1 + 1))), (9, aN 0)]) rfl ?_
      exact lpz _ 0 (sm (mW L 20 (N 38 0 d)) (N 39 0 d - 1 + 1)) rfl (by omega) (by show _ = _ + (0 : Int64); rw [show N 39 0 d - 1 + 1 = N 39 0 d by omega, Int64.add_zero])
  · have b2_ : ¬ (N 38 0 (24 + m) = N 38 0 d) := b2
    refine Sem.seg [(.lconst 0, 0, 0)] ⟨⟨d124_136, trivial⟩, trivial⟩ (lv' := [(6, aN (N 38 0 d)), (0, aR 23 0), (1, aN d), (2, aN 1), (3, aN m)]) (st' := [aL (Int64.ofNat 0)]) (w' := wd (upN N 23 0 0 0) L) (P := []) rfl (trivial) (pc' := 137) rfl ?_
    refine Sem.lret d124_137 rfl (by decide) (by decide) hzW ⟨_, _, _, rfl, rfl, ?_⟩
    refine ⟨rfl, rfl, ?_⟩
    rw [if_neg (by assumption)]; rfl

theorem m124t_2 {sc : XT} (N : TN) (L : TL) (d m : Nat) (hd : d < N 37 0 0) (hm : m < 12) (hc : CD (mN N)) : Sem sc 124 109 [(0, aR 23 0), (1, aN d), (2, aN 2), (3, aN m)] [] (wd (upN N 23 0 0 0) L) 0 0 (QJ fun v N' L' => L = L' ∧ N' = upN N 23 0 0 0 ∧ v = pgV (clM N L d) (q64 (N 40 0 d)) (suR N L (N 38 0 d) m) (L 43 0 (12 * N 38 0 d + m))) := by
  have h24 : N 37 0 0 ≤ 24 := (hc.2.1 0 (by decide)).1
  have h241 : N 37 0 1 ≤ 24 := (hc.2.1 1 (by decide)).1
  have z9 : ∀ q, mN N 9 0 q = N 38 0 q := fun q => by show N 38 0 (24 * 0 + q) = _; rw [show 24 * 0 + q = q by omega]
  have z10 : ∀ q, mN N 10 0 q = N 39 0 q := fun q => by show N 39 0 (24 * 0 + q) = _; rw [show 24 * 0 + q = q by omega]
  have z11 : ∀ q, mN N 11 0 q = N 40 0 q := fun q => by show N 40 0 (24 * 0 + q) = _; rw [show 24 * 0 + q = q by omega]
  have dI : N 38 0 d < 12 := by rw [← z9]; exact (hc.2.1 0 (by decide)).2.1 d hd
  have dW : N 39 0 d < 12 := by rw [← z10]; exact (hc.2.1 0 (by decide)).2.2.1 d hd
  refine Sem.seg [(.aload_n 0, 0, 0), (.getfield 52, 5, 16), (.iload_n 1, 0, 0), (.iaload, 0, 0), (.istore 6, 0, 0), (.iload_n 2, 0, 0), (.iconst 1, 0, 0)] ⟨⟨d124_109, trivial⟩, ⟨d124_110, gf5_52⟩, ⟨d124_113, trivial⟩, ⟨d124_114, trivial⟩, ⟨d124_115, trivial⟩, ⟨d124_117, trivial⟩, ⟨d124_118, trivial⟩, trivial⟩ (lv' := [(6, aN (N 38 0 d)), (0, aR 23 0), (1, aN d), (2, aN 2), (3, aN m)]) (st' := [aN 1, aN 2]) (w' := wd (upN N 23 0 0 0) L) (P := [vld NN 23 0, vld NN 38 0, d < 72]) rfl (⟨vN (t := 23) (i := 0) (by decide), vN (t := 38) (i := 0) (by decide), (show d < 72 by first | omega | assumption)⟩) (pc' := 119) rfl ?_
  refine Sem.icmpN (tgt := 138) d124_119 (by decide) (by decide) (by decide) (fun b1 => ?_) (fun b1 => ?_)
  rotate_left
  · exact absurd (show ¬ 2 = 1 from by decide) b1
  refine Sem.seg [(.aload_n 0, 0, 0), (.getfield 55, 5, 17), (.iload_n 1, 0, 0), (.iaload, 0, 0)] ⟨⟨d124_138, trivial⟩, ⟨d124_139, gf5_55⟩, ⟨d124_142, trivial⟩, ⟨d124_143, trivial⟩, trivial⟩ (lv' := [(6, aN (N 38 0 d)), (0, aR 23 0), (1, aN d), (2, aN 2), (3, aN m)]) (st' := [aN (N 39 0 d)]) (w' := wd (upN N 23 0 0 0) L) (P := [vld NN 23 0, vld NN 39 0, d < 72]) rfl (⟨vN (t := 23) (i := 0) (by decide), vN (t := 39) (i := 0) (by decide), (show d < 72 by first | omega | assumption)⟩) (pc' := 144) rfl ?_
  refine Sem.ifN (tgt := 167) d124_144 (by decide) (show N 39 0 d < 2 ^ 31 by first | omega | assumption) (fun b2 => ?_) (fun b2 => ?_)
  · have b2_ : N 39 0 d ≤ 0 := b2
    refine Sem.seg [(.lconst 0, 0, 0), (.lstore 7, 0, 0), (.iconst 0, 0, 0), (.istore 9, 0, 0)] ⟨⟨d124_167, trivial⟩, ⟨d124_168, trivial⟩, ⟨d124_170, trivial⟩, ⟨d124_171, trivial⟩, trivial⟩ (lv' := [(9, aN 0), (7, aL (Int64.ofNat 0)), (6, aN (N 38 0 d)), (0, aR 23 0), (1, aN d), (2, aN 2), (3, aN m)]) (st' := []) (w' := wd (upN N 23 0 0 0) L) (P := []) rfl (trivial) (pc' := 173) rfl ?_
    have lpz : ∀ (d_ : Nat) (q : Nat) (s : Int64), d - q = d_ → (q ≤ d) → (s = sm (mW L 20 (N 38 0 d)) (N 39 0 d) + bat (mN N 9 0) (mN N 10 0) (mN N 11 0) (N 38 0 d) (N 39 0 d) q) → Sem sc 124 173 [(0, aR 23 0), (1, aN d), (2, aN 2), (3, aN m), (6, aN (N 38 0 d)), (7, aL s), (9, aN q)] [] (wd (upN N 23 0 0 0) L) 0 0 (QJ fun v N' L' => L = L' ∧ N' = upN N 23 0 0 0 ∧ v = pgV (clM N L d) (q64 (N 40 0 d)) (suR N L (N 38 0 d) m) (L 43 0 (12 * N 38 0 d + m))) := by
      intro dz
      induction dz using Nat.strongRecOn with
      | ind dz ihz =>
        intro q s hdz hq hs
        refine Sem.seg [(.iload 9, 0, 0), (.iload_n 1, 0, 0)] ⟨⟨d124_173, trivial⟩, ⟨d124_175, trivial⟩, trivial⟩ (lv' := [(0, aR 23 0), (1, aN d), (2, aN 2), (3, aN m), (6, aN (N 38 0 d)), (7, aL s), (9, aN q)]) (st' := [aN d, aN q]) (w' := wd (upN N 23 0 0 0) L) (P := []) rfl (trivial) (pc' := 176) rfl ?_
        refine Sem.icmpN (tgt := 231) d124_176 (by decide) (show q < 2 ^ 31 by first | omega | assumption) (show d < 2 ^ 31 by first | omega | assumption) (fun b3 => ?_) (fun b3 => ?_)
        · have b3_ : d ≤ q := b3
          have hcl : s = clM N L d := by rw [hs, show q = d by omega]; rfl
          refine Sem.seg [(.lload 7, 0, 0), (.aload_n 0, 0, 0), (.getfield 58, 5, 18), (.iload_n 1, 0, 0), (.iaload, 0, 0), (.i2l, 0, 0), (.ladd, 0, 0), (.lstore 9, 0, 0), (.iload_n 2, 0, 0)] ⟨⟨d124_231, trivial⟩, ⟨d124_233, trivial⟩, ⟨d124_234, gf5_58⟩, ⟨d124_237, trivial⟩, ⟨d124_238, trivial⟩, ⟨d124_239, trivial⟩, ⟨d124_240, trivial⟩, ⟨d124_241, trivial⟩, ⟨d124_243, trivial⟩, trivial⟩ (lv' := [(9, aL (s + ((nI (N 40 0 d)).toInt64))), (0, aR 23 0), (1, aN d), (2, aN 2), (3, aN m), (6, aN (N 38 0 d)), (7, aL s)]) (st' := [aN 2]) (w' := wd (upN N 23 0 0 0) L) (P := [vld NN 23 0, vld NN 40 0, d < 72]) rfl (⟨vN (t := 23) (i := 0) (by decide), vN (t := 40) (i := 0) (by decide), (show d < 72 by first | omega | assumption)⟩) (pc' := 244) rfl ?_
          refine Sem.ifN (tgt := 251) d124_244 (by decide) (by decide) (fun b4 => ?_) (fun b4 => ?_)
          rotate_left
          · exact absurd (show ¬ 2 = 0 from by decide) b4
          refine Sem.seg [(.aload_n 0, 0, 0), (.iload 6, 0, 0), (.iload_n 2, 0, 0), (.iload_n 3, 0, 0)] ⟨⟨d124_251, trivial⟩, ⟨d124_252, trivial⟩, ⟨d124_254, trivial⟩, ⟨d124_255, trivial⟩, trivial⟩ (lv' := [(9, aL (s + ((nI (N 40 0 d)).toInt64))), (0, aR 23 0), (1, aN d), (2, aN 2), (3, aN m), (6, aN (N 38 0 d)), (7, aL s)]) (st' := [aN m, aN 2, aN (N 38 0 d), aR 23 0]) (w' := wd (upN N 23 0 0 0) L) (P := []) rfl (trivial) (pc' := 256) rfl ?_
          refine Sem.cVp1 (t := 23) (i := 0) (as := [aN (N 38 0 d), aN 2, aN m]) (rst := []) (c' := 0) (s' := 0) d124_256 mk125 rfl co125 lk5_183 im125 se125 rfl (vN (t := 23) (i := 0) (by decide)) (show 4 ≤ mL 125 by decide) rfl (show 0 ≤ 8 by decide) (by decide) (by decide) rfl rfl (by decide) (by decide) (m125_2 (upN N 23 0 0 0) L (N 38 0 d) m dI hm hc) ?_
          refine Sem.seg [(.lstore 11, 0, 0), (.iload_n 2, 0, 0)] ⟨⟨d124_259, trivial⟩, ⟨d124_261, trivial⟩, trivial⟩ (lv' := [(11, aL (suR N L (N 38 0 d) m)), (9, aL (s + ((nI (N 40 0 d)).toInt64))), (0, aR 23 0), (1, aN d), (2, aN 2), (3, aN m), (6, aN (N 38 0 d)), (7, aL s)]) (st' := [aN 2]) (w' := wd (upN N 23 0 0 0) L) (P := []) rfl (trivial) (pc' := 262) rfl ?_
          refine Sem.ifN (tgt := 276) d124_262 (by decide) (by decide) (fun b5 => ?_) (fun b5 => ?_)
          rotate_left
          · exact absurd (show ¬ 2 = 0 from by decide) b5
          refine Sem.seg [(.lload 11, 0, 0), (.iload_n 2, 0, 0), (.iconst 1, 0, 0)] ⟨⟨d124_276, trivial⟩, ⟨d124_278, trivial⟩, ⟨d124_279, trivial⟩, trivial⟩ (lv' := [(11, aL (suR N L (N 38 0 d) m)), (9, aL (s + ((nI (N 40 0 d)).toInt64))), (0, aR 23 0), (1, aN d), (2, aN 2), (3, aN m), (6, aN (N 38 0 d)), (7, aL s)]) (st' := [aN 1, aN 2, aL (suR N L (N 38 0 d) m)]) (w' := wd (upN N 23 0 0 0) L) (P := []) rfl (trivial) (pc' := 280) rfl ?_
          refine Sem.icmpN (tgt := 296) d124_280 (by decide) (by decide) (by decide) (fun b6 => ?_) (fun b6 => ?_)
          rotate_left
          · exact absurd (show ¬ 2 = 1 from by decide) b6
          refine Sem.seg [(.aload_n 0, 0, 0), (.getfield 73, 5, 23), (.bipush 12, 0, 0), (.iload 6, 0, 0), (.imul, 0, 0), (.iload_n 3, 0, 0), (.iadd, 0, 0), (.laload, 0, 0), (.ladd, 0, 0)] ⟨⟨d124_296, trivial⟩, ⟨d124_297, gf5_73⟩, ⟨d124_300, trivial⟩, ⟨d124_302, trivial⟩, ⟨d124_304, trivial⟩, ⟨d124_305, trivial⟩, ⟨d124_306, trivial⟩, ⟨d124_307, trivial⟩, ⟨d124_308, trivial⟩, trivial⟩ (lv' := [(11, aL (suR N L (N 38 0 d) m)), (9, aL (s + ((nI (N 40 0 d)).toInt64))), (0, aR 23 0), (1, aN d), (2, aN 2), (3, aN m), (6, aN (N 38 0 d)), (7, aL s)]) (st' := [aL ((suR N L (N 38 0 d) m) + (L 43 0 ((12 * (N 38 0 d)) + m)))]) (w' := wd (upN N 23 0 0 0) L) (P := [vld NN 23 0, vld NN 43 0, (12 * (N 38 0 d)) + m < 144]) rfl (⟨vN (t := 23) (i := 0) (by decide), vN (t := 43) (i := 0) (by decide), (show (12 * (N 38 0 d)) + m < 144 by first | omega | assumption)⟩) (pc' := 309) rfl ?_
          refine Sem.seg [(.lstore 13, 0, 0), (.lload 7, 0, 0), (.lload 11, 0, 0)] ⟨⟨d124_309, trivial⟩, ⟨d124_311, trivial⟩, ⟨d124_313, trivial⟩, trivial⟩ (lv' := [(13, aL ((suR N L (N 38 0 d) m) + (L 43 0 ((12 * (N 38 0 d)) + m)))), (11, aL (suR N L (N 38 0 d) m)), (9, aL (s + ((nI (N 40 0 d)).toInt64))), (0, aR 23 0), (1, aN d), (2, aN 2), (3, aN m), (6, aN (N 38 0 d)), (7, aL s)]) (st' := [aL (suR N L (N 38 0 d) m), aL s]) (w' := wd (upN N 23 0 0 0) L) (P := []) rfl (trivial) (pc' := 315) rfl ?_
          refine Sem.lcmp (tgt := 324) d124_315 d124_316 (by decide) (fun b7 => ?_) (fun b7 => ?_)
          · have b7_ : s ≤ suR N L (N 38 0 d) m := b7
            refine Sem.seg [(.lload 11, 0, 0)] ⟨⟨d124_324, trivial⟩, trivial⟩ (lv' := [(13, aL ((suR N L (N 38 0 d) m) + (L 43 0 ((12 * (N 38 0 d)) + m)))), (11, aL (suR N L (N 38 0 d) m)), (9, aL (s + ((nI (N 40 0 d)).toInt64))), (0, aR 23 0), (1, aN d), (2, aN 2), (3, aN m), (6, aN (N 38 0 d)), (7, aL s)]) (st' := [aL (suR N L (N 38 0 d) m)]) (w' := wd (upN N 23 0 0 0) L) (P := []) rfl (trivial) (pc' := 326) rfl ?_
            have hlo : (if s ≤ (suR N L (N 38 0 d) m) then (suR N L (N 38 0 d) m) else s) = (suR N L (N 38 0 d) m) := by first | exact if_pos (by assumption) | exact if_neg (by assumption)
            refine Sem.seg [(.lstore 15, 0, 0), (.lload 9, 0, 0), (.lload 13, 0, 0)] ⟨⟨d124_326, trivial⟩, ⟨d124_328, trivial⟩, ⟨d124_330, trivial⟩, trivial⟩ (lv' := [(15, aL (suR N L (N 38 0 d) m)), (13, aL ((suR N L (N 38 0 d) m) + (L 43 0 ((12 * (N 38 0 d)) + m)))), (11, aL (suR N L (N 38 0 d) m)), (9, aL (s + ((nI (N 40 0 d)).toInt64))), (0, aR 23 0), (1, aN d), (2, aN 2), (3, aN m), (6, aN (N 38 0 d)), (7, aL s)]) (st' := [aL ((suR N L (N 38 0 d) m) + (L 43 0 ((12 * (N 38 0 d)) + m))), aL (s + ((nI (N 40 0 d)).toInt64))]) (w' := wd (upN N 23 0 0 0) L) (P := []) rfl (trivial) (pc' := 332) rfl ?_
            refine Sem.lcmp (tgt := 341) d124_332 d124_333 (by decide) (fun b8 => ?_) (fun b8 => ?_)
            · have b8_ : (suR N L (N 38 0 d) m) + (L 43 0 ((12 * (N 38 0 d)) + m)) ≤ s + ((nI (N 40 0 d)).toInt64) := b8
              refine Sem.seg [(.lload 13, 0, 0)] ⟨⟨d124_341, trivial⟩, trivial⟩ (lv' := [(15, aL (suR N L (N 38 0 d) m)), (13, aL ((suR N L (N 38 0 d) m) + (L 43 0 ((12 * (N 38 0 d)) + m)))), (11, aL (suR N L (N 38 0 d) m)), (9, aL (s + ((nI (N 40 0 d)).toInt64))), (0, aR 23 0), (1, aN d), (2, aN 2), (3, aN m), (6, aN (N 38 0 d)), (7, aL s)]) (st' := [aL ((suR N L (N 38 0 d) m) + (L 43 0 ((12 * (N 38 0 d)) + m)))]) (w' := wd (upN N 23 0 0 0) L) (P := []) rfl (trivial) (pc' := 343) rfl ?_
              have hhi : (if ((suR N L (N 38 0 d) m) + (L 43 0 ((12 * (N 38 0 d)) + m))) ≤ (s + ((nI (N 40 0 d)).toInt64)) then ((suR N L (N 38 0 d) m) + (L 43 0 ((12 * (N 38 0 d)) + m))) else (s + ((nI (N 40 0 d)).toInt64))) = ((suR N L (N 38 0 d) m) + (L 43 0 ((12 * (N 38 0 d)) + m))) := by first | exact if_pos (by assumption) | exact if_neg (by assumption)
              refine Sem.seg [(.lstore 17, 0, 0), (.lload 17, 0, 0), (.lload 15, 0, 0)] ⟨⟨d124_343, trivial⟩, ⟨d124_345, trivial⟩, ⟨d124_347, trivial⟩, trivial⟩ (lv' := [(17, aL ((suR N L (N 38 0 d) m) + (L 43 0 ((12 * (N 38 0 d)) + m)))), (15, aL (suR N L (N 38 0 d) m)), (13, aL ((suR N L (N 38 0 d) m) + (L 43 0 ((12 * (N 38 0 d)) + m)))), (11, aL (suR N L (N 38 0 d) m)), (9, aL (s + ((nI (N 40 0 d)).toInt64))), (0, aR 23 0), (1, aN d), (2, aN 2), (3, aN m), (6, aN (N 38 0 d)), (7, aL s)]) (st' := [aL (suR N L (N 38 0 d) m), aL ((suR N L (N 38 0 d) m) + (L 43 0 ((12 * (N 38 0 d)) + m)))]) (w' := wd (upN N 23 0 0 0) L) (P := []) rfl (trivial) (pc' := 349) rfl ?_
              refine Sem.lcmp (tgt := 361) d124_349 d124_350 (by decide) (fun b9 => ?_) (fun b9 => ?_)
              · have b9_ : (suR N L (N 38 0 d) m) + (L 43 0 ((12 * (N 38 0 d)) + m)) ≤ suR N L (N 38 0 d) m := b9
                refine Sem.seg [(.lconst 0, 0, 0)] ⟨⟨d124_361, trivial⟩, trivial⟩ (lv' := [(17, aL ((suR N L (N 38 0 d) m) + (L 43 0 ((12 * (N 38 0 d)) + m)))), (15, aL (suR N L (N 38 0 d) m)), (13, aL ((suR N L (N 38 0 d) m) + (L 43 0 ((12 * (N 38 0 d)) + m)))), (11, aL (suR N L (N 38 0 d) m)), (9, aL (s + ((nI (N 40 0 d)).toInt64))), (0, aR 23 0), (1, aN d), (2, aN 2), (3, aN m), (6, aN (N 38 0 d)), (7, aL s)]) (st' := [aL (Int64.ofNat 0)]) (w' := wd (upN N 23 0 0 0) L) (P := []) rfl (trivial) (pc' := 362) rfl ?_
                refine Sem.lret d124_362 rfl (by decide) (by decide) hzW ⟨_, _, _, rfl, rfl, ?_⟩
                refine ⟨rfl, rfl, ?_⟩
                rw [← hcl]
                unfold pgV
                rw [hhi, hlo]
                first
                | (rw [if_pos (by assumption)]; rfl)
                | rw [if_neg (by assumption)]
              · have b9_ : ¬ ((suR N L (N 38 0 d) m) + (L 43 0 ((12 * (N 38 0 d)) + m)) ≤ suR N L (N 38 0 d) m) := b9
                refine Sem.seg [(.lload 17, 0, 0), (.lload 15, 0, 0), (.lsub, 0, 0)] ⟨⟨d124_353, trivial⟩, ⟨d124_355, trivial⟩, ⟨d124_357, trivial⟩, trivial⟩ (lv' := [(17, aL ((suR N L (N 38 0 d) m) + (L 43 0 ((12 * (N 38 0 d)) + m)))), (15, aL (suR N L (N 38 0 d) m)), (13, aL ((suR N L (N 38 0 d) m) + (L 43 0 ((12 * (N 38 0 d)) + m)))), (11, aL (suR N L (N 38 0 d) m)), (9, aL (s + ((nI (N 40 0 d)).toInt64))), (0, aR 23 0), (1, aN d), (2, aN 2), (3, aN m), (6, aN (N 38 0 d)), (7, aL s)]) (st' := [aL (((suR N L (N 38 0 d) m) + (L 43 0 ((12 * (N 38 0 d)) + m))) - (suR N L (N 38 0 d) m))]) (w' := wd (upN N 23 0 0 0) L) (P := []) rfl (trivial) (pc' := 358) rfl ?_
                refine Sem.goto (tgt := 362) d124_358 (by decide) ?_
                refine Sem.lret d124_362 rfl (by decide) (by decide) hzW ⟨_, _, _, rfl, rfl, ?_⟩
                refine ⟨rfl, rfl, ?_⟩
                rw [← hcl]
                unfold pgV
                rw [hhi, hlo]
                first
                | (rw [if_pos (by assumption)]; rfl)
                | rw [if_neg (by assumption)]
            · have b8_ : ¬ ((suR N L (N 38 0 d) m) + (L 43 0 ((12 * (N 38 0 d)) + m)) ≤ s + ((nI (N 40 0 d)).toInt64)) := b8
              refine Sem.seg [(.lload 9, 0, 0)] ⟨⟨d124_336, trivial⟩, trivial⟩ (lv' := [(15, aL (suR N L (N 38 0 d) m)), (13, aL ((suR N L (N 38 0 d) m) + (L 43 0 ((12 * (N 38 0 d)) + m)))), (11, aL (suR N L (N 38 0 d) m)), (9, aL (s + ((nI (N 40 0 d)).toInt64))), (0, aR 23 0), (1, aN d), (2, aN 2), (3, aN m), (6, aN (N 38 0 d)), (7, aL s)]) (st' := [aL (s + ((nI (N 40 0 d)).toInt64))]) (w' := wd (upN N 23 0 0 0) L) (P := []) rfl (trivial) (pc' := 338) rfl ?_
              refine Sem.goto (tgt := 343) d124_338 (by decide) ?_
              have hhi : (if ((suR N L (N 38 0 d) m) + (L 43 0 ((12 * (N 38 0 d)) + m))) ≤ (s + ((nI (N 40 0 d)).toInt64)) then ((suR N L (N 38 0 d) m) + (L 43 0 ((12 * (N 38 0 d)) + m))) else (s + ((nI (N 40 0 d)).toInt64))) = (s + ((nI (N 40 0 d)).toInt64)) := by first | exact if_pos (by assumption) | exact if_neg (by assumption)
              refine Sem.seg [(.lstore 17, 0, 0), (.lload 17, 0, 0), (.lload 15, 0, 0)] ⟨⟨d124_343, trivial⟩, ⟨d124_345, trivial⟩, ⟨d124_347, trivial⟩, trivial⟩ (lv' := [(17, aL (s + ((nI (N 40 0 d)).toInt64))), (15, aL (suR N L (N 38 0 d) m)), (13, aL ((suR N L (N 38 0 d) m) + (L 43 0 ((12 * (N 38 0 d)) + m)))), (11, aL (suR N L (N 38 0 d) m)), (9, aL (s + ((nI (N 40 0 d)).toInt64))), (0, aR 23 0), (1, aN d), (2, aN 2), (3, aN m), (6, aN (N 38 0 d)), (7, aL s)]) (st' := [aL (suR N L (N 38 0 d) m), aL (s + ((nI (N 40 0 d)).toInt64))]) (w' := wd (upN N 23 0 0 0) L) (P := []) rfl (trivial) (pc' := 349) rfl ?_
              refine Sem.lcmp (tgt := 361) d124_349 d124_350 (by decide) (fun b10 => ?_) (fun b10 => ?_)
              · have b10_ : s + ((nI (N 40 0 d)).toInt64) ≤ suR N L (N 38 0 d) m := b10
                refine Sem.seg [(.lconst 0, 0, 0)] ⟨⟨d124_361, trivial⟩, trivial⟩ (lv' := [(17, aL (s + ((nI (N 40 0 d)).toInt64))), (15, aL (suR N L (N 38 0 d) m)), (13, aL ((suR N L (N 38 0 d) m) + (L 43 0 ((12 * (N 38 0 d)) + m)))), (11, aL (suR N L (N 38 0 d) m)), (9, aL (s + ((nI (N 40 0 d)).toInt64))), (0, aR 23 0), (1, aN d), (2, aN 2), (3, aN m), (6, aN (N 38 0 d)), (7, aL s)]) (st' := [aL (Int64.ofNat 0)]) (w' := wd (upN N 23 0 0 0) L) (P := []) rfl (trivial) (pc' := 362) rfl ?_
                refine Sem.lret d124_362 rfl (by decide) (by decide) hzW ⟨_, _, _, rfl, rfl, ?_⟩
                refine ⟨rfl, rfl, ?_⟩
                rw [← hcl]
                unfold pgV
                rw [hhi, hlo]
                first
                | (rw [if_pos (by assumption)]; rfl)
                | rw [if_neg (by assumption)]
              · have b10_ : ¬ (s + ((nI (N 40 0 d)).toInt64) ≤ suR N L (N 38 0 d) m) := b10
                refine Sem.seg [(.lload 17, 0, 0), (.lload 15, 0, 0), (.lsub, 0, 0)] ⟨⟨d124_353, trivial⟩, ⟨d124_355, trivial⟩, ⟨d124_357, trivial⟩, trivial⟩ (lv' := [(17, aL (s + ((nI (N 40 0 d)).toInt64))), (15, aL (suR N L (N 38 0 d) m)), (13, aL ((suR N L (N 38 0 d) m) + (L 43 0 ((12 * (N 38 0 d)) + m)))), (11, aL (suR N L (N 38 0 d) m)), (9, aL (s + ((nI (N 40 0 d)).toInt64))), (0, aR 23 0), (1, aN d), (2, aN 2), (3, aN m), (6, aN (N 38 0 d)), (7, aL s)]) (st' := [aL ((s + ((nI (N 40 0 d)).toInt64)) - (suR N L (N 38 0 d) m))]) (w' := wd (upN N 23 0 0 0) L) (P := []) rfl (trivial) (pc' := 358) rfl ?_
                refine Sem.goto (tgt := 362) d124_358 (by decide) ?_
                refine Sem.lret d124_362 rfl (by decide) (by decide) hzW ⟨_, _, _, rfl, rfl, ?_⟩
                refine ⟨rfl, rfl, ?_⟩
                rw [← hcl]
                unfold pgV
                rw [hhi, hlo]
                first
                | (rw [if_pos (by assumption)]; rfl)
                | rw [if_neg (by assumption)]
          · have b7_ : ¬ (s ≤ suR N L (N 38 0 d) m) := b7
            refine Sem.seg [(.lload 7, 0, 0)] ⟨⟨d124_319, trivial⟩, trivial⟩ (lv' := [(13, aL ((suR N L (N 38 0 d) m) + (L 43 0 ((12 * (N 38 0 d)) + m)))), (11, aL (suR N L (N 38 0 d) m)), (9, aL (s + ((nI (N 40 0 d)).toInt64))), (0, aR 23 0), (1, aN d), (2, aN 2), (3, aN m), (6, aN (N 38 0 d)), (7, aL s)]) (st' := [aL s]) (w' := wd (upN N 23 0 0 0) L) (P := []) rfl (trivial) (pc' := 321) rfl ?_
            refine Sem.goto (tgt := 326) d124_321 (by decide) ?_
            have hlo : (if s ≤ (suR N L (N 38 0 d) m) then (suR N L (N 38 0 d) m) else s) = s := by first | exact if_pos (by assumption) | exact if_neg (by assumption)
            refine Sem.seg [(.lstore 15, 0, 0), (.lload 9, 0, 0), (.lload 13, 0, 0)] ⟨⟨d124_326, trivial⟩, ⟨d124_328, trivial⟩, ⟨d124_330, trivial⟩, trivial⟩ (lv' := [(15, aL s), (13, aL ((suR N L (N 38 0 d) m) + (L 43 0 ((12 * (N 38 0 d)) + m)))), (11, aL (suR N L (N 38 0 d) m)), (9, aL (s + ((nI (N 40 0 d)).toInt64))), (0, aR 23 0), (1, aN d), (2, aN 2), (3, aN m), (6, aN (N 38 0 d)), (7, aL s)]) (st' := [aL ((suR N L (N 38 0 d) m) + (L 43 0 ((12 * (N 38 0 d)) + m))), aL (s + ((nI (N 40 0 d)).toInt64))]) (w' := wd (upN N 23 0 0 0) L) (P := []) rfl (trivial) (pc' := 332) rfl ?_
            refine Sem.lcmp (tgt := 341) d124_332 d124_333 (by decide) (fun b11 => ?_) (fun b11 => ?_)
            · have b11_ : (suR N L (N 38 0 d) m) + (L 43 0 ((12 * (N 38 0 d)) + m)) ≤ s + ((nI (N 40 0 d)).toInt64) := b11
              refine Sem.seg [(.lload 13, 0, 0)] ⟨⟨d124_341, trivial⟩, trivial⟩ (lv' := [(15, aL s), (13, aL ((suR N L (N 38 0 d) m) + (L 43 0 ((12 * (N 38 0 d)) + m)))), (11, aL (suR N L (N 38 0 d) m)), (9, aL (s + ((nI (N 40 0 d)).toInt64))), (0, aR 23 0), (1, aN d), (2, aN 2), (3, aN m), (6, aN (N 38 0 d)), (7, aL s)]) (st' := [aL ((suR N L (N 38 0 d) m) + (L 43 0 ((12 * (N 38 0 d)) + m)))]) (w' := wd (upN N 23 0 0 0) L) (P := []) rfl (trivial) (pc' := 343) rfl ?_
              have hhi : (if ((suR N L (N 38 0 d) m) + (L 43 0 ((12 * (N 38 0 d)) + m))) ≤ (s + ((nI (N 40 0 d)).toInt64)) then ((suR N L (N 38 0 d) m) + (L 43 0 ((12 * (N 38 0 d)) + m))) else (s + ((nI (N 40 0 d)).toInt64))) = ((suR N L (N 38 0 d) m) + (L 43 0 ((12 * (N 38 0 d)) + m))) := by first | exact if_pos (by assumption) | exact if_neg (by assumption)
              refine Sem.seg [(.lstore 17, 0, 0), (.lload 17, 0, 0), (.lload 15, 0, 0)] ⟨⟨d124_343, trivial⟩, ⟨d124_345, trivial⟩, ⟨d124_347, trivial⟩, trivial⟩ (lv' := [(17, aL ((suR N L (N 38 0 d) m) + (L 43 0 ((12 * (N 38 0 d)) + m)))), (15, aL s), (13, aL ((suR N L (N 38 0 d) m) + (L 43 0 ((12 * (N 38 0 d)) + m)))), (11, aL (suR N L (N 38 0 d) m)), (9, aL (s + ((nI (N 40 0 d)).toInt64))), (0, aR 23 0), (1, aN d), (2, aN 2), (3, aN m), (6, aN (N 38 0 d)), (7, aL s)]) (st' := [aL s, aL ((suR N L (N 38 0 d) m) + (L 43 0 ((12 * (N 38 0 d)) + m)))]) (w' := wd (upN N 23 0 0 0) L) (P := []) rfl (trivial) (pc' := 349) rfl ?_
              refine Sem.lcmp (tgt := 361) d124_349 d124_350 (by decide) (fun b12 => ?_) (fun b12 => ?_)
              · have b12_ : (suR N L (N 38 0 d) m) + (L 43 0 ((12 * (N 38 0 d)) + m)) ≤ s := b12
                refine Sem.seg [(.lconst 0, 0, 0)] ⟨⟨d124_361, trivial⟩, trivial⟩ (lv' := [(17, aL ((suR N L (N 38 0 d) m) + (L 43 0 ((12 * (N 38 0 d)) + m)))), (15, aL s), (13, aL ((suR N L (N 38 0 d) m) + (L 43 0 ((12 * (N 38 0 d)) + m)))), (11, aL (suR N L (N 38 0 d) m)), (9, aL (s + ((nI (N 40 0 d)).toInt64))), (0, aR 23 0), (1, aN d), (2, aN 2), (3, aN m), (6, aN (N 38 0 d)), (7, aL s)]) (st' := [aL (Int64.ofNat 0)]) (w' := wd (upN N 23 0 0 0) L) (P := []) rfl (trivial) (pc' := 362) rfl ?_
                refine Sem.lret d124_362 rfl (by decide) (by decide) hzW ⟨_, _, _, rfl, rfl, ?_⟩
                refine ⟨rfl, rfl, ?_⟩
                rw [← hcl]
                unfold pgV
                rw [hhi, hlo]
                first
                | (rw [if_pos (by assumption)]; rfl)
                | rw [if_neg (by assumption)]
              · have b12_ : ¬ ((suR N L (N 38 0 d) m) + (L 43 0 ((12 * (N 38 0 d)) + m)) ≤ s) := b12
                refine Sem.seg [(.lload 17, 0, 0), (.lload 15, 0, 0), (.lsub, 0, 0)] ⟨⟨d124_353, trivial⟩, ⟨d124_355, trivial⟩, ⟨d124_357, trivial⟩, trivial⟩ (lv' := [(17, aL ((suR N L (N 38 0 d) m) + (L 43 0 ((12 * (N 38 0 d)) + m)))), (15, aL s), (13, aL ((suR N L (N 38 0 d) m) + (L 43 0 ((12 * (N 38 0 d)) + m)))), (11, aL (suR N L (N 38 0 d) m)), (9, aL (s + ((nI (N 40 0 d)).toInt64))), (0, aR 23 0), (1, aN d), (2, aN 2), (3, aN m), (6, aN (N 38 0 d)), (7, aL s)]) (st' := [aL (((suR N L (N 38 0 d) m) + (L 43 0 ((12 * (N 38 0 d)) + m))) - s)]) (w' := wd (upN N 23 0 0 0) L) (P := []) rfl (trivial) (pc' := 358) rfl ?_
                refine Sem.goto (tgt := 362) d124_358 (by decide) ?_
                refine Sem.lret d124_362 rfl (by decide) (by decide) hzW ⟨_, _, _, rfl, rfl, ?_⟩
                refine ⟨rfl, rfl, ?_⟩
                rw [← hcl]
                unfold pgV
                rw [hhi, hlo]
                first
                | (rw [if_pos (by assumption)]; rfl)
                | rw [if_neg (by assumption)]
            · have b11_ : ¬ ((suR N L (N 38 0 d) m) + (L 43 0 ((12 * (N 38 0 d)) + m)) ≤ s + ((nI (N 40 0 d)).toInt64)) := b11
              refine Sem.seg [(.lload 9, 0, 0)] ⟨⟨d124_336, trivial⟩, trivial⟩ (lv' := [(15, aL s), (13, aL ((suR N L (N 38 0 d) m) + (L 43 0 ((12 * (N 38 0 d)) + m)))), (11, aL (suR N L (N 38 0 d) m)), (9, aL (s + ((nI (N 40 0 d)).toInt64))), (0, aR 23 0), (1, aN d), (2, aN 2), (3, aN m), (6, aN (N 38 0 d)), (7, aL s)]) (st' := [aL (s + ((nI (N 40 0 d)).toInt64))]) (w' := wd (upN N 23 0 0 0) L) (P := []) rfl (trivial) (pc' := 338) rfl ?_
              refine Sem.goto (tgt := 343) d124_338 (by decide) ?_
              have hhi : (if ((suR N L (N 38 0 d) m) + (L 43 0 ((12 * (N 38 0 d)) + m))) ≤ (s + ((nI (N 40 0 d)).toInt64)) then ((suR N L (N 38 0 d) m) + (L 43 0 ((12 * (N 38 0 d)) + m))) else (s + ((nI (N 40 0 d)).toInt64))) = (s + ((nI (N 40 0 d)).toInt64)) := by first | exact if_pos (by assumption) | exact if_neg (by assumption)
              refine Sem.seg [(.lstore 17, 0, 0), (.lload 17, 0, 0), (.lload 15, 0, 0)] ⟨⟨d124_343, trivial⟩, ⟨d124_345, trivial⟩, ⟨d124_347, trivial⟩, trivial⟩ (lv' := [(17, aL (s + ((nI (N 40 0 d)).toInt64))), (15, aL s), (13, aL ((suR N L (N 38 0 d) m) + (L 43 0 ((12 * (N 38 0 d)) + m)))), (11, aL (suR N L (N 38 0 d) m)), (9, aL (s + ((nI (N 40 0 d)).toInt64))), (0, aR 23 0), (1, aN d), (2, aN 2), (3, aN m), (6, aN (N 38 0 d)), (7, aL s)]) (st' := [aL s, aL (s + ((nI (N 40 0 d)).toInt64))]) (w' := wd (upN N 23 0 0 0) L) (P := []) rfl (trivial) (pc' := 349) rfl ?_
              refine Sem.lcmp (tgt := 361) d124_349 d124_350 (by decide) (fun b13 => ?_) (fun b13 => ?_)
              · have b13_ : s + ((nI (N 40 0 d)).toInt64) ≤ s := b13
                refine Sem.seg [(.lconst 0, 0, 0)] ⟨⟨d124_361, trivial⟩, trivial⟩ (lv' := [(17, aL (s + ((nI (N 40 0 d)).toInt64))), (15, aL s), (13, aL ((suR N L (N 38 0 d) m) + (L 43 0 ((12 * (N 38 0 d)) + m)))), (11, aL (suR N L (N 38 0 d) m)), (9, aL (s + ((nI (N 40 0 d)).toInt64))), (0, aR 23 0), (1, aN d), (2, aN 2), (3, aN m), (6, aN (N 38 0 d)), (7, aL s)]) (st' := [aL (Int64.ofNat 0)]) (w' := wd (upN N 23 0 0 0) L) (P := []) rfl (trivial) (pc' := 362) rfl ?_
                refine Sem.lret d124_362 rfl (by decide) (by decide) hzW ⟨_, _, _, rfl, rfl, ?_⟩
                refine ⟨rfl, rfl, ?_⟩
                rw [← hcl]
                unfold pgV
                rw [hhi, hlo]
                first
                | (rw [if_pos (by assumption)]; rfl)
                | rw [if_neg (by assumption)]
              · have b13_ : ¬ (s + ((nI (N 40 0 d)).toInt64) ≤ s) := b13
                refine Sem.seg [(.lload 17, 0, 0), (.lload 15, 0, 0), (.lsub, 0, 0)] ⟨⟨d124_353, trivial⟩, ⟨d124_355, trivial⟩, ⟨d124_357, trivial⟩, trivial⟩ (lv' := [(17, aL (s + ((nI (N 40 0 d)).toInt64))), (15, aL s), (13, aL ((suR N L (N 38 0 d) m) + (L 43 0 ((12 * (N 38 0 d)) + m)))), (11, aL (suR N L (N 38 0 d) m)), (9, aL (s + ((nI (N 40 0 d)).toInt64))), (0, aR 23 0), (1, aN d), (2, aN 2), (3, aN m), (6, aN (N 38 0 d)), (7, aL s)]) (st' := [aL ((s + ((nI (N 40 0 d)).toInt64)) - s)]) (w' := wd (upN N 23 0 0 0) L) (P := []) rfl (trivial) (pc' := 358) rfl ?_
                refine Sem.goto (tgt := 362) d124_358 (by decide) ?_
                refine Sem.lret d124_362 rfl (by decide) (by decide) hzW ⟨_, _, _, rfl, rfl, ?_⟩
                refine ⟨rfl, rfl, ?_⟩
                rw [← hcl]
                unfold pgV
                rw [hhi, hlo]
                first
                | (rw [if_pos (by assumption)]; rfl)
                | rw [if_neg (by assumption)]
        · have b3_ : ¬ (d ≤ q) := b3
          have jI : N 38 0 q < 12 := by rw [← z9]; exact (hc.2.1 0 (by decide)).2.1 q (show q < N 37 0 0 by omega)
          have jW : N 39 0 q < 12 := by rw [← z10]; exact (hc.2.1 0 (by decide)).2.2.1 q (show q < N 37 0 0 by omega)
          refine Sem.seg [(.aload_n 0, 0, 0), (.getfield 52, 5, 16), (.iload 9, 0, 0), (.iaload, 0, 0), (.iload 6, 0, 0)] ⟨⟨d124_179, trivial⟩, ⟨d124_180, gf5_52⟩, ⟨d124_183, trivial⟩, ⟨d124_185, trivial⟩, ⟨d124_186, trivial⟩, trivial⟩ (lv' := [(0, aR 23 0), (1, aN d), (2, aN 2), (3, aN m), (6, aN (N 38 0 d)), (7, aL s), (9, aN q)]) (st' := [aN (N 38 0 d), aN (N 38 0 q)]) (w' := wd (upN N 23 0 0 0) L) (P := [vld NN 23 0, vld NN 38 0, q < 72]) rfl (⟨vN (t := 23) (i := 0) (by decide), vN (t := 38) (i := 0) (by decide), (show q < 72 by first | omega | assumption)⟩) (pc' := 188) rfl ?_
          refine Sem.icmpN (tgt := 221) d124_188 (by decide) (show N 38 0 q < 2 ^ 31 by first | omega | assumption) (show N 38 0 d < 2 ^ 31 by first | omega | assumption) (fun b14 => ?_) (fun b14 => ?_)
          · have b14_ : ¬ N 38 0 q = N 38 0 d := b14
            refine Sem.seg [(.lload 7, 0, 0), (.lstore 7, 0, 0), (.iinc 9 1, 0, 0)] ⟨⟨d124_221, trivial⟩, ⟨d124_223, trivial⟩, ⟨d124_225, trivial⟩, trivial⟩ (lv' := [(9, aN (q + 1)), (7, aL s), (0, aR 23 0), (1, aN d), (2, aN 2), (3, aN m), (6, aN (N 38 0 d))]) (st' := []) (w' := wd (upN N 23 0 0 0) L) (P := []) rfl (trivial) (pc' := 228) rfl ?_
            refine Sem.goto (tgt := 173) d124_228 (by decide) ?_
            refine Sem.pick [2, 3, 4, 5, 6, 1, 0] (lv' := [(0, aR 23 0), (1, aN d), (2, aN 2), (3, aN m), (6, aN (N 38 0 d)), (7, aL s), (9, aN (q + 1))]) rfl ?_
            exact ihz _ (by omega) (q + 1) s rfl (by omega) (by simp only [bat, sm] at hs ⊢; rw [hs, z9, z10, z11]; first | (rw [if_pos (by omega), Int64.add_assoc]; done) | (rw [if_neg (by omega), Int64.add_zero]; done))
          · have b14_ : ¬ (¬ N 38 0 q = N 38 0 d) := b14
            refine Sem.seg [(.aload_n 0, 0, 0), (.getfield 55, 5, 17), (.iload 9, 0, 0), (.iaload, 0, 0), (.aload_n 0, 0, 0), (.getfield 55, 5, 17), (.iload_n 1, 0, 0), (.iaload, 0, 0)] ⟨⟨d124_191, trivial⟩, ⟨d124_192, gf5_55⟩, ⟨d124_195, trivial⟩, ⟨d124_197, trivial⟩, ⟨d124_198, trivial⟩, ⟨d124_199, gf5_55⟩, ⟨d124_202, trivial⟩, ⟨d124_203, trivial⟩, trivial⟩ (lv' := [(0, aR 23 0), (1, aN d), (2, aN 2), (3, aN m), (6, aN (N 38 0 d)), (7, aL s), (9, aN q)]) (st' := [aN (N 39 0 d), aN (N 39 0 q)]) (w' := wd (upN N 23 0 0 0) L) (P := [vld NN 23 0, vld NN 39 0, q < 72, vld NN 23 0, vld NN 39 0, d < 72]) rfl (⟨vN (t := 23) (i := 0) (by decide), vN (t := 39) (i := 0) (by decide), (show q < 72 by first | omega | assumption), vN (t := 23) (i := 0) (by decide), vN (t := 39) (i := 0) (by decide), (show d < 72 by first | omega | assumption)⟩) (pc' := 204) rfl ?_
            refine Sem.icmpN (tgt := 221) d124_204 (by decide) (show N 39 0 q < 2 ^ 31 by first | omega | assumption) (show N 39 0 d < 2 ^ 31 by first | omega | assumption) (fun b15 => ?_) (fun b15 => ?_)
            · have b15_ : ¬ N 39 0 q = N 39 0 d := b15
              refine Sem.seg [(.lload 7, 0, 0), (.lstore 7, 0, 0), (.iinc 9 1, 0, 0)] ⟨⟨d124_221, trivial⟩, ⟨d124_223, trivial⟩, ⟨d124_225, trivial⟩, trivial⟩ (lv' := [(9, aN (q + 1)), (7, aL s), (0, aR 23 0), (1, aN d), (2, aN 2), (3, aN m), (6, aN (N 38 0 d))]) (st' := []) (w' := wd (upN N 23 0 0 0) L) (P := []) rfl (trivial) (pc' := 228) rfl ?_
              refine Sem.goto (tgt := 173) d124_228 (by decide) ?_
              refine Sem.pick [2, 3, 4, 5, 6, 1, 0] (lv' := [(0, aR 23 0), (1, aN d), (2, aN 2), (3, aN m), (6, aN (N 38 0 d)), (7, aL s), (9, aN (q + 1))]) rfl ?_
              exact ihz _ (by omega) (q + 1) s rfl (by omega) (by simp only [bat, sm] at hs ⊢; rw [hs, z9, z10, z11]; first | (rw [if_pos (by omega), Int64.add_assoc]; done) | (rw [if_neg (by omega), Int64.add_zero]; done))
            · have b15_ : ¬ (¬ N 39 0 q = N 39 0 d) := b15
              refine Sem.seg [(.lload 7, 0, 0), (.aload_n 0, 0, 0), (.getfield 58, 5, 18), (.iload 9, 0, 0), (.iaload, 0, 0), (.i2l, 0, 0), (.ladd, 0, 0)] ⟨⟨d124_207, trivial⟩, ⟨d124_209, trivial⟩, ⟨d124_210, gf5_58⟩, ⟨d124_213, trivial⟩, ⟨d124_215, trivial⟩, ⟨d124_216, trivial⟩, ⟨d124_217, trivial⟩, trivial⟩ (lv' := [(0, aR 23 0), (1, aN d), (2, aN 2), (3, aN m), (6, aN (N 38 0 d)), (7, aL s), (9, aN q)]) (st' := [aL (s + ((nI (N 40 0 q)).toInt64))]) (w' := wd (upN N 23 0 0 0) L) (P := [vld NN 23 0, vld NN 40 0, q < 72]) rfl (⟨vN (t := 23) (i := 0) (by decide), vN (t := 40) (i := 0) (by decide), (show q < 72 by first | omega | assumption)⟩) (pc' := 218) rfl ?_
              refine Sem.goto (tgt := 223) d124_218 (by decide) ?_
              refine Sem.seg [(.lstore 7, 0, 0), (.iinc 9 1, 0, 0)] ⟨⟨d124_223, trivial⟩, ⟨d124_225, trivial⟩, trivial⟩ (lv' := [(9, aN (q + 1)), (7, aL (s + ((nI (N 40 0 q)).toInt64))), (0, aR 23 0), (1, aN d), (2, aN 2), (3, aN m), (6, aN (N 38 0 d))]) (st' := []) (w' := wd (upN N 23 0 0 0) L) (P := []) rfl (trivial) (pc' := 228) rfl ?_
              refine Sem.goto (tgt := 173) d124_228 (by decide) ?_
              refine Sem.pick [2, 3, 4, 5, 6, 1, 0] (lv' := [(0, aR 23 0), (1, aN d), (2, aN 2), (3, aN m), (6, aN (N 38 0 d)), (7, aL (s + ((nI (N 40 0 q)).toInt64))), (9, aN (q + 1))]) rfl ?_
              exact ihz _ (by omega) (q + 1) (s + ((nI (N 40 0 q)).toInt64)) rfl (by omega) (by simp only [bat, sm] at hs ⊢; rw [hs, z9, z10, z11]; first | (rw [if_pos (by omega), Int64.add_assoc]; done) | (rw [if_neg (by omega), Int64.add_zero]; done))
    refine Sem.pick [3, 4, 5, 6, 2, 1, 0] (lv' := [(0, aR 23 0), (1, aN d), (2, aN 2), (3, aN m), (6, aN (N 38 0 d)), (7, aL (Int64.ofNat 0)), (9, aN 0)]) rfl ?_
    exact lpz _ 0 (Int64.ofNat 0) rfl (by omega) (by rw [show N 39 0 d = 0 by omega]; rfl)
  · have b2_ : ¬ (N 39 0 d ≤ 0) := b2
    refine Sem.seg [(.aload_n 0, 0, 0), (.getfield 69, 5, 22), (.iload 6, 0, 0), (.aload_n 0, 0, 0), (.getfield 55, 5, 17), (.iload_n 1, 0, 0), (.iaload, 0, 0), (.iconst 1, 0, 0), (.isub, 0, 0)] ⟨⟨d124_147, trivial⟩, ⟨d124_148, gf5_69⟩, ⟨d124_151, trivial⟩, ⟨d124_153, trivial⟩, ⟨d124_154, gf5_55⟩, ⟨d124_157, trivial⟩, ⟨d124_158, trivial⟩, ⟨d124_159, trivial⟩, ⟨d124_160, trivial⟩, trivial⟩ (lv' := [(6, aN (N 38 0 d)), (0, aR 23 0), (1, aN d), (2, aN 2), (3, aN m)]) (st' := [aI ((nI (N 39 0 d)) - (nI 1)), aN (N 38 0 d), aR 42 0]) (w' := wd (upN N 23 0 0 0) L) (P := [vld NN 23 0, vld NN 23 0, vld NN 39 0, d < 72]) rfl (⟨vN (t := 23) (i := 0) (by decide), vN (t := 23) (i := 0) (by decide), vN (t := 39) (i := 0) (by decide), (show d < 72 by first | omega | assumption)⟩) (pc' := 161) rfl ?_
    refine Sem.topN (show (nI (N 39 0 d)) - (nI 1) = nI (N 39 0 d - 1) from nI_sub (by omega)) ?_
    refine Sem.cSp1 (as := [aR 42 0, aN (N 38 0 d), aN (N 39 0 d - 1)]) (rst := []) (c' := 0) (s' := 0) d124_161 mk113 rfl co113 lk5_131 ss113 (show 3 ≤ mL 113 by decide) rfl (show 0 ≤ 8 by decide) (by decide) (by decide) rfl rfl (by decide) (by decide) (m113_42 (upN N 23 0 0 0) L (N 38 0 d) (N 39 0 d - 1) dI (by omega)) ?_
    refine Sem.goto (tgt := 168) d124_164 (by decide) ?_
    refine Sem.seg [(.lstore 7, 0, 0), (.iconst 0, 0, 0), (.istore 9, 0, 0)] ⟨⟨d124_168, trivial⟩, ⟨d124_170, trivial⟩, ⟨d124_171, trivial⟩, trivial⟩ (lv' := [(9, aN 0), (7, aL (sm (mW L 20 (N 38 0 d)) (N 39 0 d - 1 + 1))), (6, aN (N 38 0 d)), (0, aR 23 0), (1, aN d), (2, aN 2), (3, aN m)]) (st' := []) (w' := wd (upN N 23 0 0 0) L) (P := []) rfl (trivial) (pc' := 173) rfl ?_
    have lpz : ∀ (d_ : Nat) (q : Nat) (s : Int64), d - q = d_ → (q ≤ d) → (s = sm (mW L 20 (N 38 0 d)) (N 39 0 d) + bat (mN N 9 0) (mN N 10 0) (mN N 11 0) (N 38 0 d) (N 39 0 d) q) → Sem sc 124 173 [(0, aR 23 0), (1, aN d), (2, aN 2), (3, aN m), (6, aN (N 38 0 d)), (7, aL s), (9, aN q)] [] (wd (upN N 23 0 0 0) L) 0 0 (QJ fun v N' L' => L = L' ∧ N' = upN N 23 0 0 0 ∧ v = pgV (clM N L d) (q64 (N 40 0 d)) (suR N L (N 38 0 d) m) (L 43 0 (12 * N 38 0 d + m))) := by
      intro dz
      induction dz using Nat.strongRecOn with
      | ind dz ihz =>
        intro q s hdz hq hs
        refine Sem.seg [(.iload 9, 0, 0), (.iload_n 1, 0, 0)] ⟨⟨d124_173, trivial⟩, ⟨d124_175, trivial⟩, trivial⟩ (lv' := [(0, aR 23 0), (1, aN d), (2, aN 2), (3, aN m), (6, aN (N 38 0 d)), (7, aL s), (9, aN q)]) (st' := [aN d, aN q]) (w' := wd (upN N 23 0 0 0) L) (P := []) rfl (trivial) (pc' := 176) rfl ?_
        refine Sem.icmpN (tgt := 231) d124_176 (by decide) (show q < 2 ^ 31 by first | omega | assumption) (show d < 2 ^ 31 by first | omega | assumption) (fun b16 => ?_) (fun b16 => ?_)
        · have b16_ : d ≤ q := b16
          have hcl : s = clM N L d := by rw [hs, show q = d by omega]; rfl
          refine Sem.seg [(.lload 7, 0, 0), (.aload_n 0, 0, 0), (.getfield 58, 5, 18), (.iload_n 1, 0, 0), (.iaload, 0, 0), (.i2l, 0, 0), (.ladd, 0, 0), (.lstore 9, 0, 0), (.iload_n 2, 0, 0)] ⟨⟨d124_231, trivial⟩, ⟨d124_233, trivial⟩, ⟨d124_234, gf5_58⟩, ⟨d124_237, trivial⟩, ⟨d124_238, trivial⟩, ⟨d124_239, trivial⟩, ⟨d124_240, trivial⟩, ⟨d124_241, trivial⟩, ⟨d124_243, trivial⟩, trivial⟩ (lv' := [(9, aL (s + ((nI (N 40 0 d)).toInt64))), (0, aR 23 0), (1, aN d), (2, aN 2), (3, aN m), (6, aN (N 38 0 d)), (7, aL s)]) (st' := [aN 2]) (w' := wd (upN N 23 0 0 0) L) (P := [vld NN 23 0, vld NN 40 0, d < 72]) rfl (⟨vN (t := 23) (i := 0) (by decide), vN (t := 40) (i := 0) (by decide), (show d < 72 by first | omega | assumption)⟩) (pc' := 244) rfl ?_
          refine Sem.ifN (tgt := 251) d124_244 (by decide) (by decide) (fun b17 => ?_) (fun b17 => ?_)
          rotate_left
          · exact absurd (show ¬ 2 = 0 from by decide) b17
          refine Sem.seg [(.aload_n 0, 0, 0), (.iload 6, 0, 0), (.iload_n 2, 0, 0), (.iload_n 3, 0, 0)] ⟨⟨d124_251, trivial⟩, ⟨d124_252, trivial⟩, ⟨d124_254, trivial⟩, ⟨d124_255, trivial⟩, trivial⟩ (lv' := [(9, aL (s + ((nI (N 40 0 d)).toInt64))), (0, aR 23 0), (1, aN d), (2, aN 2), (3, aN m), (6, aN (N 38 0 d)), (7, aL s)]) (st' := [aN m, aN 2, aN (N 38 0 d), aR 23 0]) (w' := wd (upN N 23 0 0 0) L) (P := []) rfl (trivial) (pc' := 256) rfl ?_
          refine Sem.cVp1 (t := 23) (i := 0) (as := [aN (N 38 0 d), aN 2, aN m]) (rst := []) (c' := 0) (s' := 0) d124_256 mk125 rfl co125 lk5_183 im125 se125 rfl (vN (t := 23) (i := 0) (by decide)) (show 4 ≤ mL 125 by decide) rfl (show 0 ≤ 8 by decide) (by decide) (by decide) rfl rfl (by decide) (by decide) (m125_2 (upN N 23 0 0 0) L (N 38 0 d) m dI hm hc) ?_
          refine Sem.seg [(.lstore 11, 0, 0), (.iload_n 2, 0, 0)] ⟨⟨d124_259, trivial⟩, ⟨d124_261, trivial⟩, trivial⟩ (lv' := [(11, aL (suR N L (N 38 0 d) m)), (9, aL (s + ((nI (N 40 0 d)).toInt64))), (0, aR 23 0), (1, aN d), (2, aN 2), (3, aN m), (6, aN (N 38 0 d)), (7, aL s)]) (st' := [aN 2]) (w' := wd (upN N 23 0 0 0) L) (P := []) rfl (trivial) (pc' := 262) rfl ?_
          refine Sem.ifN (tgt := 276) d124_262 (by decide) (by decide) (fun b18 => ?_) (fun b18 => ?_)
          rotate_left
          · exact absurd (show ¬ 2 = 0 from by decide) b18
          refine Sem.seg [(.lload 11, 0, 0), (.iload_n 2, 0, 0), (.iconst 1, 0, 0)] ⟨⟨d124_276, trivial⟩, ⟨d124_278, trivial⟩, ⟨d124_279, trivial⟩, trivial⟩ (lv' := [(11, aL (suR N L (N 38 0 d) m)), (9, aL (s + ((nI (N 40 0 d)).toInt64))), (0, aR 23 0), (1, aN d), (2, aN 2), (3, aN m), (6, aN (N 38 0 d)), (7, aL s)]) (st' := [aN 1, aN 2, aL (suR N L (N 38 0 d) m)]) (w' := wd (upN N 23 0 0 0) L) (P := []) rfl (trivial) (pc' := 280) rfl ?_
          refine Sem.icmpN (tgt := 296) d124_280 (by decide) (by decide) (by decide) (fun b19 => ?_) (fun b19 => ?_)
          rotate_left
          · exact absurd (show ¬ 2 = 1 from by decide) b19
          refine Sem.seg [(.aload_n 0, 0, 0), (.getfield 73, 5, 23), (.bipush 12, 0, 0), (.iload 6, 0, 0), (.imul, 0, 0), (.iload_n 3, 0, 0), (.iadd, 0, 0), (.laload, 0, 0), (.ladd, 0, 0)] ⟨⟨d124_296, trivial⟩, ⟨d124_297, gf5_73⟩, ⟨d124_300, trivial⟩, ⟨d124_302, trivial⟩, ⟨d124_304, trivial⟩, ⟨d124_305, trivial⟩, ⟨d124_306, trivial⟩, ⟨d124_307, trivial⟩, ⟨d124_308, trivial⟩, trivial⟩ (lv' := [(11, aL (suR N L (N 38 0 d) m)), (9, aL (s + ((nI (N 40 0 d)).toInt64))), (0, aR 23 0), (1, aN d), (2, aN 2), (3, aN m), (6, aN (N 38 0 d)), (7, aL s)]) (st' := [aL ((suR N L (N 38 0 d) m) + (L 43 0 ((12 * (N 38 0 d)) + m)))]) (w' := wd (upN N 23 0 0 0) L) (P := [vld NN 23 0, vld NN 43 0, (12 * (N 38 0 d)) + m < 144]) rfl (⟨vN (t := 23) (i := 0) (by decide), vN (t := 43) (i := 0) (by decide), (show (12 * (N 38 0 d)) + m < 144 by first | omega | assumption)⟩) (pc' := 309) rfl ?_
          refine Sem.seg [(.lstore 13, 0, 0), (.lload 7, 0, 0), (.lload 11, 0, 0)] ⟨⟨d124_309, trivial⟩, ⟨d124_311, trivial⟩, ⟨d124_313, trivial⟩, trivial⟩ (lv' := [(13, aL ((suR N L (N 38 0 d) m) + (L 43 0 ((12 * (N 38 0 d)) + m)))), (11, aL (suR N L (N 38 0 d) m)), (9, aL (s + ((nI (N 40 0 d)).toInt64))), (0, aR 23 0), (1, aN d), (2, aN 2), (3, aN m), (6, aN (N 38 0 d)), (7, aL s)]) (st' := [aL (suR N L (N 38 0 d) m), aL s]) (w' := wd (upN N 23 0 0 0) L) (P := []) rfl (trivial) (pc' := 315) rfl ?_
          refine Sem.lcmp (tgt := 324) d124_315 d124_316 (by decide) (fun b20 => ?_) (fun b20 => ?_)
          · have b20_ : s ≤ suR N L (N 38 0 d) m := b20
            refine Sem.seg [(.lload 11, 0, 0)] ⟨⟨d124_324, trivial⟩, trivial⟩ (lv' := [(13, aL ((suR N L (N 38 0 d) m) + (L 43 0 ((12 * (N 38 0 d)) + m)))), (11, aL (suR N L (N 38 0 d) m)), (9, aL (s + ((nI (N 40 0 d)).toInt64))), (0, aR 23 0), (1, aN d), (2, aN 2), (3, aN m), (6, aN (N 38 0 d)), (7, aL s)]) (st' := [aL (suR N L (N 38 0 d) m)]) (w' := wd (upN N 23 0 0 0) L) (P := []) rfl (trivial) (pc' := 326) rfl ?_
            have hlo : (if s ≤ (suR N L (N 38 0 d) m) then (suR N L (N 38 0 d) m) else s) = (suR N L (N 38 0 d) m) := by first | exact if_pos (by assumption) | exact if_neg (by assumption)
            refine Sem.seg [(.lstore 15, 0, 0), (.lload 9, 0, 0), (.lload 13, 0, 0)] ⟨⟨d124_326, trivial⟩, ⟨d124_328, trivial⟩, ⟨d124_330, trivial⟩, trivial⟩ (lv' := [(15, aL (suR N L (N 38 0 d) m)), (13, aL ((suR N L (N 38 0 d) m) + (L 43 0 ((12 * (N 38 0 d)) + m)))), (11, aL (suR N L (N 38 0 d) m)), (9, aL (s + ((nI (N 40 0 d)).toInt64))), (0, aR 23 0), (1, aN d), (2, aN 2), (3, aN m), (6, aN (N 38 0 d)), (7, aL s)]) (st' := [aL ((suR N L (N 38 0 d) m) + (L 43 0 ((12 * (N 38 0 d)) + m))), aL (s + ((nI (N 40 0 d)).toInt64))]) (w' := wd (upN N 23 0 0 0) L) (P := []) rfl (trivial) (pc' := 332) rfl ?_
            refine Sem.lcmp (tgt := 341) d124_332 d124_333 (by decide) (fun b21 => ?_) (fun b21 => ?_)
            · have b21_ : (suR N L (N 38 0 d) m) + (L 43 0 ((12 * (N 38 0 d)) + m)) ≤ s + ((nI (N 40 0 d)).toInt64) := b21
              refine Sem.seg [(.lload 13, 0, 0)] ⟨⟨d124_341, trivial⟩, trivial⟩ (lv' := [(15, aL (suR N L (N 38 0 d) m)), (13, aL ((suR N L (N 38 0 d) m) + (L 43 0 ((12 * (N 38 0 d)) + m)))), (11, aL (suR N L (N 38 0 d) m)), (9, aL (s + ((nI (N 40 0 d)).toInt64))), (0, aR 23 0), (1, aN d), (2, aN 2), (3, aN m), (6, aN (N 38 0 d)), (7, aL s)]) (st' := [aL ((suR N L (N 38 0 d) m) + (L 43 0 ((12 * (N 38 0 d)) + m)))]) (w' := wd (upN N 23 0 0 0) L) (P := []) rfl (trivial) (pc' := 343) rfl ?_
              have hhi : (if ((suR N L (N 38 0 d) m) + (L 43 0 ((12 * (N 38 0 d)) + m))) ≤ (s + ((nI (N 40 0 d)).toInt64)) then ((suR N L (N 38 0 d) m) + (L 43 0 ((12 * (N 38 0 d)) + m))) else (s + ((nI (N 40 0 d)).toInt64))) = ((suR N L (N 38 0 d) m) + (L 43 0 ((12 * (N 38 0 d)) + m))) := by first | exact if_pos (by assumption) | exact if_neg (by assumption)
              refine Sem.seg [(.lstore 17, 0, 0), (.lload 17, 0, 0), (.lload 15, 0, 0)] ⟨⟨d124_343, trivial⟩, ⟨d124_345, trivial⟩, ⟨d124_347, trivial⟩, trivial⟩ (lv' := [(17, aL ((suR N L (N 38 0 d) m) + (L 43 0 ((12 * (N 38 0 d)) + m)))), (15, aL (suR N L (N 38 0 d) m)), (13, aL ((suR N L (N 38 0 d) m) + (L 43 0 ((12 * (N 38 0 d)) + m)))), (11, aL (suR N L (N 38 0 d) m)), (9, aL (s + ((nI (N 40 0 d)).toInt64))), (0, aR 23 0), (1, aN d), (2, aN 2), (3, aN m), (6, aN (N 38 0 d)), (7, aL s)]) (st' := [aL (suR N L (N 38 0 d) m), aL ((suR N L (N 38 0 d) m) + (L 43 0 ((12 * (N 38 0 d)) + m)))]) (w' := wd (upN N 23 0 0 0) L) (P := []) rfl (trivial) (pc' := 349) rfl ?_
              refine Sem.lcmp (tgt := 361) d124_349 d124_350 (by decide) (fun b22 => ?_) (fun b22 => ?_)
              · have b22_ : (suR N L (N 38 0 d) m) + (L 43 0 ((12 * (N 38 0 d)) + m)) ≤ suR N L (N 38 0 d) m := b22
                refine Sem.seg [(.lconst 0, 0, 0)] ⟨⟨d124_361, trivial⟩, trivial⟩ (lv' := [(17, aL ((suR N L (N 38 0 d) m) + (L 43 0 ((12 * (N 38 0 d)) + m)))), (15, aL (suR N L (N 38 0 d) m)), (13, aL ((suR N L (N 38 0 d) m) + (L 43 0 ((12 * (N 38 0 d)) + m)))), (11, aL (suR N L (N 38 0 d) m)), (9, aL (s + ((nI (N 40 0 d)).toInt64))), (0, aR 23 0), (1, aN d), (2, aN 2), (3, aN m), (6, aN (N 38 0 d)), (7, aL s)]) (st' := [aL (Int64.ofNat 0)]) (w' := wd (upN N 23 0 0 0) L) (P := []) rfl (trivial) (pc' := 362) rfl ?_
                refine Sem.lret d124_362 rfl (by decide) (by decide) hzW ⟨_, _, _, rfl, rfl, ?_⟩
                refine ⟨rfl, rfl, ?_⟩
                rw [← hcl]
                unfold pgV
                rw [hhi, hlo]
                first
                | (rw [if_pos (by assumption)]; rfl)
                | rw [if_neg (by assumption)]
              · have b22_ : ¬ ((suR N L (N 38 0 d) m) + (L 43 0 ((12 * (N 38 0 d)) + m)) ≤ suR N L (N 38 0 d) m) := b22
                refine Sem.seg [(.lload 17, 0, 0), (.lload 15, 0, 0), (.lsub, 0, 0)] ⟨⟨d124_353, trivial⟩, ⟨d124_355, trivial⟩, ⟨d124_357, trivial⟩, trivial⟩ (lv' := [(17, aL ((suR N L (N 38 0 d) m) + (L 43 0 ((12 * (N 38 0 d)) + m)))), (15, aL (suR N L (N 38 0 d) m)), (13, aL ((suR N L (N 38 0 d) m) + (L 43 0 ((12 * (N 38 0 d)) + m)))), (11, aL (suR N L (N 38 0 d) m)), (9, aL (s + ((nI (N 40 0 d)).toInt64))), (0, aR 23 0), (1, aN d), (2, aN 2), (3, aN m), (6, aN (N 38 0 d)), (7, aL s)]) (st' := [aL (((suR N L (N 38 0 d) m) + (L 43 0 ((12 * (N 38 0 d)) + m))) - (suR N L (N 38 0 d) m))]) (w' := wd (upN N 23 0 0 0) L) (P := []) rfl (trivial) (pc' := 358) rfl ?_
                refine Sem.goto (tgt := 362) d124_358 (by decide) ?_
                refine Sem.lret d124_362 rfl (by decide) (by decide) hzW ⟨_, _, _, rfl, rfl, ?_⟩
                refine ⟨rfl, rfl, ?_⟩
                rw [← hcl]
                unfold pgV
                rw [hhi, hlo]
                first
                | (rw [if_pos (by assumption)]; rfl)
                | rw [if_neg (by assumption)]
            · have b21_ : ¬ ((suR N L (N 38 0 d) m) + (L 43 0 ((12 * (N 38 0 d)) + m)) ≤ s + ((nI (N 40 0 d)).toInt64)) := b21
              refine Sem.seg [(.lload 9, 0, 0)] ⟨⟨d124_336, trivial⟩, trivial⟩ (lv' := [(15, aL (suR N L (N 38 0 d) m)), (13, aL ((suR N L (N 38 0 d) m) + (L 43 0 ((12 * (N 38 0 d)) + m)))), (11, aL (suR N L (N 38 0 d) m)), (9, aL (s + ((nI (N 40 0 d)).toInt64))), (0, aR 23 0), (1, aN d), (2, aN 2), (3, aN m), (6, aN (N 38 0 d)), (7, aL s)]) (st' := [aL (s + ((nI (N 40 0 d)).toInt64))]) (w' := wd (upN N 23 0 0 0) L) (P := []) rfl (trivial) (pc' := 338) rfl ?_
              refine Sem.goto (tgt := 343) d124_338 (by decide) ?_
              have hhi : (if ((suR N L (N 38 0 d) m) + (L 43 0 ((12 * (N 38 0 d)) + m))) ≤ (s + ((nI (N 40 0 d)).toInt64)) then ((suR N L (N 38 0 d) m) + (L 43 0 ((12 * (N 38 0 d)) + m))) else (s + ((nI (N 40 0 d)).toInt64))) = (s + ((nI (N 40 0 d)).toInt64)) := by first | exact if_pos (by assumption) | exact if_neg (by assumption)
              refine Sem.seg [(.lstore 17, 0, 0), (.lload 17, 0, 0), (.lload 15, 0, 0)] ⟨⟨d124_343, trivial⟩, ⟨d124_345, trivial⟩, ⟨d124_347, trivial⟩, trivial⟩ (lv' := [(17, aL (s + ((nI (N 40 0 d)).toInt64))), (15, aL (suR N L (N 38 0 d) m)), (13, aL ((suR N L (N 38 0 d) m) + (L 43 0 ((12 * (N 38 0 d)) + m)))), (11, aL (suR N L (N 38 0 d) m)), (9, aL (s + ((nI (N 40 0 d)).toInt64))), (0, aR 23 0), (1, aN d), (2, aN 2), (3, aN m), (6, aN (N 38 0 d)), (7, aL s)]) (st' := [aL (suR N L (N 38 0 d) m), aL (s + ((nI (N 40 0 d)).toInt64))]) (w' := wd (upN N 23 0 0 0) L) (P := []) rfl (trivial) (pc' := 349) rfl ?_
              refine Sem.lcmp (tgt := 361) d124_349 d124_350 (by decide) (fun b23 => ?_) (fun b23 => ?_)
              · have b23_ : s + ((nI (N 40 0 d)).toInt64) ≤ suR N L (N 38 0 d) m := b23
                refine Sem.seg [(.lconst 0, 0, 0)] ⟨⟨d124_361, trivial⟩, trivial⟩ (lv' := [(17, aL (s + ((nI (N 40 0 d)).toInt64))), (15, aL (suR N L (N 38 0 d) m)), (13, aL ((suR N L (N 38 0 d) m) + (L 43 0 ((12 * (N 38 0 d)) + m)))), (11, aL (suR N L (N 38 0 d) m)), (9, aL (s + ((nI (N 40 0 d)).toInt64))), (0, aR 23 0), (1, aN d), (2, aN 2), (3, aN m), (6, aN (N 38 0 d)), (7, aL s)]) (st' := [aL (Int64.ofNat 0)]) (w' := wd (upN N 23 0 0 0) L) (P := []) rfl (trivial) (pc' := 362) rfl ?_
                refine Sem.lret d124_362 rfl (by decide) (by decide) hzW ⟨_, _, _, rfl, rfl, ?_⟩
                refine ⟨rfl, rfl, ?_⟩
                rw [← hcl]
                unfold pgV
                rw [hhi, hlo]
                first
                | (rw [if_pos (by assumption)]; rfl)
                | rw [if_neg (by assumption)]
              · have b23_ : ¬ (s + ((nI (N 40 0 d)).toInt64) ≤ suR N L (N 38 0 d) m) := b23
                refine Sem.seg [(.lload 17, 0, 0), (.lload 15, 0, 0), (.lsub, 0, 0)] ⟨⟨d124_353, trivial⟩, ⟨d124_355, trivial⟩, ⟨d124_357, trivial⟩, trivial⟩ (lv' := [(17, aL (s + ((nI (N 40 0 d)).toInt64))), (15, aL (suR N L (N 38 0 d) m)), (13, aL ((suR N L (N 38 0 d) m) + (L 43 0 ((12 * (N 38 0 d)) + m)))), (11, aL (suR N L (N 38 0 d) m)), (9, aL (s + ((nI (N 40 0 d)).toInt64))), (0, aR 23 0), (1, aN d), (2, aN 2), (3, aN m), (6, aN (N 38 0 d)), (7, aL s)]) (st' := [aL ((s + ((nI (N 40 0 d)).toInt64)) - (suR N L (N 38 0 d) m))]) (w' := wd (upN N 23 0 0 0) L) (P := []) rfl (trivial) (pc' := 358) rfl ?_
                refine Sem.goto (tgt := 362) d124_358 (by decide) ?_
                refine Sem.lret d124_362 rfl (by decide) (by decide) hzW ⟨_, _, _, rfl, rfl, ?_⟩
                refine ⟨rfl, rfl, ?_⟩
                rw [← hcl]
                unfold pgV
                rw [hhi, hlo]
                first
                | (rw [if_pos (by assumption)]; rfl)
                | rw [if_neg (by assumption)]
          · have b20_ : ¬ (s ≤ suR N L (N 38 0 d) m) := b20
            refine Sem.seg [(.lload 7, 0, 0)] ⟨⟨d124_319, trivial⟩, trivial⟩ (lv' := [(13, aL ((suR N L (N 38 0 d) m) + (L 43 0 ((12 * (N 38 0 d)) + m)))), (11, aL (suR N L (N 38 0 d) m)), (9, aL (s + ((nI (N 40 0 d)).toInt64))), (0, aR 23 0), (1, aN d), (2, aN 2), (3, aN m), (6, aN (N 38 0 d)), (7, aL s)]) (st' := [aL s]) (w' := wd (upN N 23 0 0 0) L) (P := []) rfl (trivial) (pc' := 321) rfl ?_
            refine Sem.goto (tgt := 326) d124_321 (by decide) ?_
            have hlo : (if s ≤ (suR N L (N 38 0 d) m) then (suR N L (N 38 0 d) m) else s) = s := by first | exact if_pos (by assumption) | exact if_neg (by assumption)
            refine Sem.seg [(.lstore 15, 0, 0), (.lload 9, 0, 0), (.lload 13, 0, 0)] ⟨⟨d124_326, trivial⟩, ⟨d124_328, trivial⟩, ⟨d124_330, trivial⟩, trivial⟩ (lv' := [(15, aL s), (13, aL ((suR N L (N 38 0 d) m) + (L 43 0 ((12 * (N 38 0 d)) + m)))), (11, aL (suR N L (N 38 0 d) m)), (9, aL (s + ((nI (N 40 0 d)).toInt64))), (0, aR 23 0), (1, aN d), (2, aN 2), (3, aN m), (6, aN (N 38 0 d)), (7, aL s)]) (st' := [aL ((suR N L (N 38 0 d) m) + (L 43 0 ((12 * (N 38 0 d)) + m))), aL (s + ((nI (N 40 0 d)).toInt64))]) (w' := wd (upN N 23 0 0 0) L) (P := []) rfl (trivial) (pc' := 332) rfl ?_
            refine Sem.lcmp (tgt := 341) d124_332 d124_333 (by decide) (fun b24 => ?_) (fun b24 => ?_)
            · have b24_ : (suR N L (N 38 0 d) m) + (L 43 0 ((12 * (N 38 0 d)) + m)) ≤ s + ((nI (N 40 0 d)).toInt64) := b24
              refine Sem.seg [(.lload 13, 0, 0)] ⟨⟨d124_341, trivial⟩, trivial⟩ (lv' := [(15, aL s), (13, aL ((suR N L (N 38 0 d) m) + (L 43 0 ((12 * (N 38 0 d)) + m)))), (11, aL (suR N L (N 38 0 d) m)), (9, aL (s + ((nI (N 40 0 d)).toInt64))), (0, aR 23 0), (1, aN d), (2, aN 2), (3, aN m), (6, aN (N 38 0 d)), (7, aL s)]) (st' := [aL ((suR N L (N 38 0 d) m) + (L 43 0 ((12 * (N 38 0 d)) + m)))]) (w' := wd (upN N 23 0 0 0) L) (P := []) rfl (trivial) (pc' := 343) rfl ?_
              have hhi : (if ((suR N L (N 38 0 d) m) + (L 43 0 ((12 * (N 38 0 d)) + m))) ≤ (s + ((nI (N 40 0 d)).toInt64)) then ((suR N L (N 38 0 d) m) + (L 43 0 ((12 * (N 38 0 d)) + m))) else (s + ((nI (N 40 0 d)).toInt64))) = ((suR N L (N 38 0 d) m) + (L 43 0 ((12 * (N 38 0 d)) + m))) := by first | exact if_pos (by assumption) | exact if_neg (by assumption)
              refine Sem.seg [(.lstore 17, 0, 0), (.lload 17, 0, 0), (.lload 15, 0, 0)] ⟨⟨d124_343, trivial⟩, ⟨d124_345, trivial⟩, ⟨d124_347, trivial⟩, trivial⟩ (lv' := [(17, aL ((suR N L (N 38 0 d) m) + (L 43 0 ((12 * (N 38 0 d)) + m)))), (15, aL s), (13, aL ((suR N L (N 38 0 d) m) + (L 43 0 ((12 * (N 38 0 d)) + m)))), (11, aL (suR N L (N 38 0 d) m)), (9, aL (s + ((nI (N 40 0 d)).toInt64))), (0, aR 23 0), (1, aN d), (2, aN 2), (3, aN m), (6, aN (N 38 0 d)), (7, aL s)]) (st' := [aL s, aL ((suR N L (N 38 0 d) m) + (L 43 0 ((12 * (N 38 0 d)) + m)))]) (w' := wd (upN N 23 0 0 0) L) (P := []) rfl (trivial) (pc' := 349) rfl ?_
              refine Sem.lcmp (tgt := 361) d124_349 d124_350 (by decide) (fun b25 => ?_) (fun b25 => ?_)
              · have b25_ : (suR N L (N 38 0 d) m) + (L 43 0 ((12 * (N 38 0 d)) + m)) ≤ s := b25
                refine Sem.seg [(.lconst 0, 0, 0)] ⟨⟨d124_361, trivial⟩, trivial⟩ (lv' := [(17, aL ((suR N L (N 38 0 d) m) + (L 43 0 ((12 * (N 38 0 d)) + m)))), (15, aL s), (13, aL ((suR N L (N 38 0 d) m) + (L 43 0 ((12 * (N 38 0 d)) + m)))), (11, aL (suR N L (N 38 0 d) m)), (9, aL (s + ((nI (N 40 0 d)).toInt64))), (0, aR 23 0), (1, aN d), (2, aN 2), (3, aN m), (6, aN (N 38 0 d)), (7, aL s)]) (st' := [aL (Int64.ofNat 0)]) (w' := wd (upN N 23 0 0 0) L) (P := []) rfl (trivial) (pc' := 362) rfl ?_
                refine Sem.lret d124_362 rfl (by decide) (by decide) hzW ⟨_, _, _, rfl, rfl, ?_⟩
                refine ⟨rfl, rfl, ?_⟩
                rw [← hcl]
                unfold pgV
                rw [hhi, hlo]
                first
                | (rw [if_pos (by assumption)]; rfl)
                | rw [if_neg (by assumption)]
              · have b25_ : ¬ ((suR N L (N 38 0 d) m) + (L 43 0 ((12 * (N 38 0 d)) + m)) ≤ s) := b25
                refine Sem.seg [(.lload 17, 0, 0), (.lload 15, 0, 0), (.lsub, 0, 0)] ⟨⟨d124_353, trivial⟩, ⟨d124_355, trivial⟩, ⟨d124_357, trivial⟩, trivial⟩ (lv' := [(17, aL ((suR N L (N 38 0 d) m) + (L 43 0 ((12 * (N 38 0 d)) + m)))), (15, aL s), (13, aL ((suR N L (N 38 0 d) m) + (L 43 0 ((12 * (N 38 0 d)) + m)))), (11, aL (suR N L (N 38 0 d) m)), (9, aL (s + ((nI (N 40 0 d)).toInt64))), (0, aR 23 0), (1, aN d), (2, aN 2), (3, aN m), (6, aN (N 38 0 d)), (7, aL s)]) (st' := [aL (((suR N L (N 38 0 d) m) + (L 43 0 ((12 * (N 38 0 d)) + m))) - s)]) (w' := wd (upN N 23 0 0 0) L) (P := []) rfl (trivial) (pc' := 358) rfl ?_
                refine Sem.goto (tgt := 362) d124_358 (by decide) ?_
                refine Sem.lret d124_362 rfl (by decide) (by decide) hzW ⟨_, _, _, rfl, rfl, ?_⟩
                refine ⟨rfl, rfl, ?_⟩
                rw [← hcl]
                unfold pgV
                rw [hhi, hlo]
                first
                | (rw [if_pos (by assumption)]; rfl)
                | rw [if_neg (by assumption)]
            · have b24_ : ¬ ((suR N L (N 38 0 d) m) + (L 43 0 ((12 * (N 38 0 d)) + m)) ≤ s + ((nI (N 40 0 d)).toInt64)) := b24
              refine Sem.seg [(.lload 9, 0, 0)] ⟨⟨d124_336, trivial⟩, trivial⟩ (lv' := [(15, aL s), (13, aL ((suR N L (N 38 0 d) m) + (L 43 0 ((12 * (N 38 0 d)) + m)))), (11, aL (suR N L (N 38 0 d) m)), (9, aL (s + ((nI (N 40 0 d)).toInt64))), (0, aR 23 0), (1, aN d), (2, aN 2), (3, aN m), (6, aN (N 38 0 d)), (7, aL s)]) (st' := [aL (s + ((nI (N 40 0 d)).toInt64))]) (w' := wd (upN N 23 0 0 0) L) (P := []) rfl (trivial) (pc' := 338) rfl ?_
              refine Sem.goto (tgt := 343) d124_338 (by decide) ?_
              have hhi : (if ((suR N L (N 38 0 d) m) + (L 43 0 ((12 * (N 38 0 d)) + m))) ≤ (s + ((nI (N 40 0 d)).toInt64)) then ((suR N L (N 38 0 d) m) + (L 43 0 ((12 * (N 38 0 d)) + m))) else (s + ((nI (N 40 0 d)).toInt64))) = (s + ((nI (N 40 0 d)).toInt64)) := by first | exact if_pos (by assumption) | exact if_neg (by assumption)
              refine Sem.seg [(.lstore 17, 0, 0), (.lload 17, 0, 0), (.lload 15, 0, 0)] ⟨⟨d124_343, trivial⟩, ⟨d124_345, trivial⟩, ⟨d124_347, trivial⟩, trivial⟩ (lv' := [(17, aL (s + ((nI (N 40 0 d)).toInt64))), (15, aL s), (13, aL ((suR N L (N 38 0 d) m) + (L 43 0 ((12 * (N 38 0 d)) + m)))), (11, aL (suR N L (N 38 0 d) m)), (9, aL (s + ((nI (N 40 0 d)).toInt64))), (0, aR 23 0), (1, aN d), (2, aN 2), (3, aN m), (6, aN (N 38 0 d)), (7, aL s)]) (st' := [aL s, aL (s + ((nI (N 40 0 d)).toInt64))]) (w' := wd (upN N 23 0 0 0) L) (P := []) rfl (trivial) (pc' := 349) rfl ?_
              refine Sem.lcmp (tgt := 361) d124_349 d124_350 (by decide) (fun b26 => ?_) (fun b26 => ?_)
              · have b26_ : s + ((nI (N 40 0 d)).toInt64) ≤ s := b26
                refine Sem.seg [(.lconst 0, 0, 0)] ⟨⟨d124_361, trivial⟩, trivial⟩ (lv' := [(17, aL (s + ((nI (N 40 0 d)).toInt64))), (15, aL s), (13, aL ((suR N L (N 38 0 d) m) + (L 43 0 ((12 * (N 38 0 d)) + m)))), (11, aL (suR N L (N 38 0 d) m)), (9, aL (s + ((nI (N 40 0 d)).toInt64))), (0, aR 23 0), (1, aN d), (2, aN 2), (3, aN m), (6, aN (N 38 0 d)), (7, aL s)]) (st' := [aL (Int64.ofNat 0)]) (w' := wd (upN N 23 0 0 0) L) (P := []) rfl (trivial) (pc' := 362) rfl ?_
                refine Sem.lret d124_362 rfl (by decide) (by decide) hzW ⟨_, _, _, rfl, rfl, ?_⟩
                refine ⟨rfl, rfl, ?_⟩
                rw [← hcl]
                unfold pgV
                rw [hhi, hlo]
                first
                | (rw [if_pos (by assumption)]; rfl)
                | rw [if_neg (by assumption)]
              · have b26_ : ¬ (s + ((nI (N 40 0 d)).toInt64) ≤ s) := b26
                refine Sem.seg [(.lload 17, 0, 0), (.lload 15, 0, 0), (.lsub, 0, 0)] ⟨⟨d124_353, trivial⟩, ⟨d124_355, trivial⟩, ⟨d124_357, trivial⟩, trivial⟩ (lv' := [(17, aL (s + ((nI (N 40 0 d)).toInt64))), (15, aL s), (13, aL ((suR N L (N 38 0 d) m) + (L 43 0 ((12 * (N 38 0 d)) + m)))), (11, aL (suR N L (N 38 0 d) m)), (9, aL (s + ((nI (N 40 0 d)).toInt64))), (0, aR 23 0), (1, aN d), (2, aN 2), (3, aN m), (6, aN (N 38 0 d)), (7, aL s)]) (st' := [aL ((s + ((nI (N 40 0 d)).toInt64)) - s)]) (w' := wd (upN N 23 0 0 0) L) (P := []) rfl (trivial) (pc' := 358) rfl ?_
                refine Sem.goto (tgt := 362) d124_358 (by decide) ?_
                refine Sem.lret d124_362 rfl (by decide) (by decide) hzW ⟨_, _, _, rfl, rfl, ?_⟩
                refine ⟨rfl, rfl, ?_⟩
                rw [← hcl]
                unfold pgV
                rw [hhi, hlo]
                first
                | (rw [if_pos (by assumption)]; rfl)
                | rw [if_neg (by assumption)]
        · have b16_ : ¬ (d ≤ q) := b16
          have jI : N 38 0 q < 12 := by rw [← z9]; exact (hc.2.1 0 (by decide)).2.1 q (show q < N 37 0 0 by omega)
          have jW : N 39 0 q < 12 := by rw [← z10]; exact (hc.2.1 0 (by decide)).2.2.1 q (show q < N 37 0 0 by omega)
          refine Sem.seg [(.aload_n 0, 0, 0), (.getfield 52, 5, 16), (.iload 9, 0, 0), (.iaload, 0, 0), (.iload 6, 0, 0)] ⟨⟨d124_179, trivial⟩, ⟨d124_180, gf5_52⟩, ⟨d124_183, trivial⟩, ⟨d124_185, trivial⟩, ⟨d124_186, trivial⟩, trivial⟩ (lv' := [(0, aR 23 0), (1, aN d), (2, aN 2), (3, aN m), (6, aN (N 38 0 d)), (7, aL s), (9, aN q)]) (st' := [aN (N 38 0 d), aN (N 38 0 q)]) (w' := wd (upN N 23 0 0 0) L) (P := [vld NN 23 0, vld NN 38 0, q < 72]) rfl (⟨vN (t := 23) (i := 0) (by decide), vN (t := 38) (i := 0) (by decide), (show q < 72 by first | omega | assumption)⟩) (pc' := 188) rfl ?_
          refine Sem.icmpN (tgt := 221) d124_188 (by decide) (show N 38 0 q < 2 ^ 31 by first | omega | assumption) (show N 38 0 d < 2 ^ 31 by first | omega | assumption) (fun b27 => ?_) (fun b27 => ?_)
          · have b27_ : ¬ N 38 0 q = N 38 0 d := b27
            refine Sem.seg [(.lload 7, 0, 0), (.lstore 7, 0, 0), (.iinc 9 1, 0, 0)] ⟨⟨d124_221, trivial⟩, ⟨d124_223, trivial⟩, ⟨d124_225, trivial⟩, trivial⟩ (lv' := [(9, aN (q + 1)), (7, aL s), (0, aR 23 0), (1, aN d), (2, aN 2), (3, aN m), (6, aN (N 38 0 d))]) (st' := []) (w' := wd (upN N 23 0 0 0) L) (P := []) rfl (trivial) (pc' := 228) rfl ?_
            refine Sem.goto (tgt := 173) d124_228 (by decide) ?_
            refine Sem.pick [2, 3, 4, 5, 6, 1, 0] (lv' := [(0, aR 23 0), (1, aN d), (2, aN 2), (3, aN m), (6, aN (N 38 0 d)), (7, aL s), (9, aN (q + 1))]) rfl ?_
            exact ihz _ (by omega) (q + 1) s rfl (by omega) (by simp only [bat, sm] at hs ⊢; rw [hs, z9, z10, z11]; first | (rw [if_pos (by omega), Int64.add_assoc]; done) | (rw [if_neg (by omega), Int64.add_zero]; done))
          · have b27_ : ¬ (¬ N 38 0 q = N 38 0 d) := b27
            refine Sem.seg [(.aload_n 0, 0, 0), (.getfield 55, 5, 17), (.iload 9, 0, 0), (.iaload, 0, 0), (.aload_n 0, 0, 0), (.getfield 55, 5, 17), (.iload_n 1, 0, 0), (.iaload, 0, 0)] ⟨⟨d124_191, trivial⟩, ⟨d124_192, gf5_55⟩, ⟨d124_195, trivial⟩, ⟨d124_197, trivial⟩, ⟨d124_198, trivial⟩, ⟨d124_199, gf5_55⟩, ⟨d124_202, trivial⟩, ⟨d124_203, trivial⟩, trivial⟩ (lv' := [(0, aR 23 0), (1, aN d), (2, aN 2), (3, aN m), (6, aN (N 38 0 d)), (7, aL s), (9, aN q)]) (st' := [aN (N 39 0 d), aN (N 39 0 q)]) (w' := wd (upN N 23 0 0 0) L) (P := [vld NN 23 0, vld NN 39 0, q < 72, vld NN 23 0, vld NN 39 0, d < 72]) rfl (⟨vN (t := 23) (i := 0) (by decide), vN (t := 39) (i := 0) (by decide), (show q < 72 by first | omega | assumption), vN (t := 23) (i := 0) (by decide), vN (t := 39) (i := 0) (by decide), (show d < 72 by first | omega | assumption)⟩) (pc' := 204) rfl ?_
            refine Sem.icmpN (tgt := 221) d124_204 (by decide) (show N 39 0 q < 2 ^ 31 by first | omega | assumption) (show N 39 0 d < 2 ^ 31 by first | omega | assumption) (fun b28 => ?_) (fun b28 => ?_)
            · have b28_ : ¬ N 39 0 q = N 39 0 d := b28
              refine Sem.seg [(.lload 7, 0, 0), (.lstore 7, 0, 0), (.iinc 9 1, 0, 0)] ⟨⟨d124_221, trivial⟩, ⟨d124_223, trivial⟩, ⟨d124_225, trivial⟩, trivial⟩ (lv' := [(9, aN (q + 1)), (7, aL s), (0, aR 23 0), (1, aN d), (2, aN 2), (3, aN m), (6, aN (N 38 0 d))]) (st' := []) (w' := wd (upN N 23 0 0 0) L) (P := []) rfl (trivial) (pc' := 228) rfl ?_
              refine Sem.goto (tgt := 173) d124_228 (by decide) ?_
              refine Sem.pick [2, 3, 4, 5, 6, 1, 0] (lv' := [(0, aR 23 0), (1, aN d), (2, aN 2), (3, aN m), (6, aN (N 38 0 d)), (7, aL s), (9, aN (q + 1))]) rfl ?_
              exact ihz _ (by omega) (q + 1) s rfl (by omega) (by simp only [bat, sm] at hs ⊢; rw [hs, z9, z10, z11]; first | (rw [if_pos (by omega), Int64.add_assoc]; done) | (rw [if_neg (by omega), Int64.add_zero]; done))
            · have b28_ : ¬ (¬ N 39 0 q = N 39 0 d) := b28
              refine Sem.seg [(.lload 7, 0, 0), (.aload_n 0, 0, 0), (.getfield 58, 5, 18), (.iload 9, 0, 0), (.iaload, 0, 0), (.i2l, 0, 0), (.ladd, 0, 0)] ⟨⟨d124_207, trivial⟩, ⟨d124_209, trivial⟩, ⟨d124_210, gf5_58⟩, ⟨d124_213, trivial⟩, ⟨d124_215, trivial⟩, ⟨d124_216, trivial⟩, ⟨d124_217, trivial⟩, trivial⟩ (lv' := [(0, aR 23 0), (1, aN d), (2, aN 2), (3, aN m), (6, aN (N 38 0 d)), (7, aL s), (9, aN q)]) (st' := [aL (s + ((nI (N 40 0 q)).toInt64))]) (w' := wd (upN N 23 0 0 0) L) (P := [vld NN 23 0, vld NN 40 0, q < 72]) rfl (⟨vN (t := 23) (i := 0) (by decide), vN (t := 40) (i := 0) (by decide), (show q < 72 by first | omega | assumption)⟩) (pc' := 218) rfl ?_
              refine Sem.goto (tgt := 223) d124_218 (by decide) ?_
              refine Sem.seg [(.lstore 7, 0, 0), (.iinc 9 1, 0, 0)] ⟨⟨d124_223, trivial⟩, ⟨d124_225, trivial⟩, trivial⟩ (lv' := [(9, aN (q + 1)), (7, aL (s + ((nI (N 40 0 q)).toInt64))), (0, aR 23 0), (1, aN d), (2, aN 2), (3, aN m), (6, aN (N 38 0 d))]) (st' := []) (w' := wd (upN N 23 0 0 0) L) (P := []) rfl (trivial) (pc' := 228) rfl ?_
              refine Sem.goto (tgt := 173) d124_228 (by decide) ?_
              refine Sem.pick [2, 3, 4, 5, 6, 1, 0] (lv' := [(0, aR 23 0), (1, aN d), (2, aN 2), (3, aN m), (6, aN (N 38 0 d)), (7, aL (s + ((nI (N 40 0 q)).toInt64))), (9, aN (q + 1))]) rfl ?_
              exact ihz _ (by omega) (q + 1) (s + ((nI (N 40 0 q)).toInt64)) rfl (by omega) (by simp only [bat, sm] at hs ⊢; rw [hs, z9, z10, z11]; first | (rw [if_pos (by omega), Int64.add_assoc]; done) | (rw [if_neg (by omega), Int64.add_zero]; done))
    refine Sem.pick [3, 4, 5, 6, 2, 1, 0] (lv' := [(0, aR 23 0), (1, aN d), (2, aN 2), (3, aN m), (6, aN (N 38 0 d)), (7, aL (sm (mW L 20 (N 38 0 d)) (N 39 0 d - 1 + 1))), (9, aN 0)]) rfl ?_
    exact lpz _ 0 (sm (mW L 20 (N 38 0 d)) (N 39 0 d - 1 + 1)) rfl (by omega) (by show _ = _ + (0 : Int64); rw [show N 39 0 d - 1 + 1 = N 39 0 d by omega, Int64.add_zero])

theorem m124 {sc : XT} (N : TN) (L : TL) (d k m : Int32) (h20 : N 23 0 20 ≤ 1) (hc : CD (mN N)) : Sem sc 124 0 [(0, aR 23 0), (1, aI d), (2, aI k), (3, aI m)] [] (wd N L) 0 0 (QJ fun v N' L' => L = L' ∧ N' = upN N 23 0 0 (cPeg (N 37 0 0) (N 37 0 1) (N 23 0 20) d k m) ∧ (cPeg (N 37 0 0) (N 37 0 1) (N 23 0 20) d k m = 0 → v = pgM N L d.toInt.toNat k.toInt.toNat m.toInt.toNat)) := by
  have h24 : N 37 0 0 ≤ 24 := (hc.2.1 0 (by decide)).1
  have h241 : N 37 0 1 ≤ 24 := (hc.2.1 1 (by decide)).1
  refine Sem.seg [(.iload_n 1, 0, 0), (.iconst 0, 0, 0), (.aload_n 0, 0, 0), (.getfield 49, 5, 15), (.iconst 0, 0, 0), (.iaload, 0, 0), (.iconst 1, 0, 0), (.isub, 0, 0)] ⟨⟨d124_0, trivial⟩, ⟨d124_1, trivial⟩, ⟨d124_2, trivial⟩, ⟨d124_3, gf5_49⟩, ⟨d124_6, trivial⟩, ⟨d124_7, trivial⟩, ⟨d124_8, trivial⟩, ⟨d124_9, trivial⟩, trivial⟩ (lv' := [(0, aR 23 0), (1, aI d), (2, aI k), (3, aI m)]) (st' := [aI ((nI (N 37 0 0)) - (nI 1)), aN 0, aI d]) (w' := wd N L) (P := [vld NN 23 0, vld NN 37 0, 0 < 3]) rfl (⟨vN (t := 23) (i := 0) (by decide), vN (t := 37) (i := 0) (by decide), (by decide : (0 : Nat) < 3)⟩) (pc' := 10) rfl ?_
  by_cases h1 : 0 ≤ d.toInt ∧ d.toInt < (N 37 0 0 : Int)
  case pos =>
    refine Sem.cSp1 (as := [aI d, aN 0, aI ((nI (N 37 0 0)) - (nI 1))]) (rst := []) (c' := 0) (s' := 0) d124_10 mk89 rfl co89 lk5_89 ss89 (show 3 ≤ mL 89 by decide) rfl (show 0 ≤ 8 by decide) (by decide) (by decide) rfl rfl (by decide) (by decide) (m89c (N) L d (N 37 0 0) (by omega)) ?_
    refine Sem.topNN (if_pos h1) ?_
    refine Sem.seg [(.istore 4, 0, 0), (.iload_n 2, 0, 0)] ⟨⟨d124_13, trivial⟩, ⟨d124_15, trivial⟩, trivial⟩ (lv' := [(4, aN 1), (0, aR 23 0), (1, aI d), (2, aI k), (3, aI m)]) (st' := [aI k]) (w' := wd N L) (P := []) rfl (trivial) (pc' := 16) rfl ?_
    refine Sem.ifc (tgt := 50) d124_16 (by decide) rfl (fun b2 => ?_) (fun b2 => ?_)
    · have b2_ : k.toInt = 0 := bT rfl rfl b2
      refine Sem.seg [(.iconst 1, 0, 0)] ⟨⟨d124_50, trivial⟩, trivial⟩ (lv' := [(4, aN 1), (0, aR 23 0), (1, aI d), (2, aI k), (3, aI m)]) (st' := [aN 1]) (w' := wd N L) (P := []) rfl (trivial) (pc' := 51) rfl ?_
      refine Sem.goto (tgt := 55) d124_51 (by decide) ?_
      refine Sem.seg [(.istore 5, 0, 0), (.aload_n 0, 0, 0), (.iload 4, 0, 0)] ⟨⟨d124_55, trivial⟩, ⟨d124_57, trivial⟩, ⟨d124_58, trivial⟩, trivial⟩ (lv' := [(5, aN 1), (4, aN 1), (0, aR 23 0), (1, aI d), (2, aI k), (3, aI m)]) (st' := [aN 1, aR 23 0]) (w' := wd N L) (P := []) rfl (trivial) (pc' := 60) rfl ?_
      refine Sem.ifN (tgt := 67) d124_60 (by decide) (by decide) (fun b3 => ?_) (fun b3 => ?_)
      rotate_left
      · exact absurd (show ¬ 1 = 0 from by decide) b3
      refine Sem.seg [(.iload_n 2, 0, 0), (.iconst 0, 0, 0), (.iconst 2, 0, 0)] ⟨⟨d124_67, trivial⟩, ⟨d124_68, trivial⟩, ⟨d124_69, trivial⟩, trivial⟩ (lv' := [(5, aN 1), (4, aN 1), (0, aR 23 0), (1, aI d), (2, aI k), (3, aI m)]) (st' := [aN 2, aN 0, aI k, aR 23 0]) (w' := wd N L) (P := []) rfl (trivial) (pc' := 70) rfl ?_
      by_cases h4 : ((0 : Nat) : Int) ≤ k.toInt ∧ k.toInt ≤ ((2 : Nat) : Int)
      case pos =>
        refine Sem.cSp1 (as := [aI k, aN 0, aN 2]) (rst := [aR 23 0]) (c' := 0) (s' := 0) d124_70 mk89 rfl co89 lk5_89 ss89 (show 3 ≤ mL 89 by decide) rfl (show 1 ≤ 8 by decide) (by decide) (by decide) rfl rfl (by decide) (by decide) (m89 (N) L k 0 2 (by decide) (by decide)) ?_
        refine Sem.topNN (if_pos h4) ?_
        refine Sem.ifN (tgt := 80) d124_73 (by decide) (by decide) (fun b5 => ?_) (fun b5 => ?_)
        rotate_left
        · exact absurd (show ¬ 1 = 0 from by decide) b5
        refine Sem.seg [(.iload 5, 0, 0)] ⟨⟨d124_80, trivial⟩, trivial⟩ (lv' := [(5, aN 1), (4, aN 1), (0, aR 23 0), (1, aI d), (2, aI k), (3, aI m)]) (st' := [aN 1, aR 23 0]) (w' := wd N L) (P := []) rfl (trivial) (pc' := 82) rfl ?_
        refine Sem.ifN (tgt := 89) d124_82 (by decide) (by decide) (fun b6 => ?_) (fun b6 => ?_)
        rotate_left
        · exact absurd (show ¬ 1 = 0 from by decide) b6
        refine Sem.seg [(.aload_n 0, 0, 0), (.getfield 61, 5, 20)] ⟨⟨d124_89, trivial⟩, ⟨d124_90, gf5_61⟩, trivial⟩ (lv' := [(5, aN 1), (4, aN 1), (0, aR 23 0), (1, aI d), (2, aI k), (3, aI m)]) (st' := [aN (N 23 0 20), aR 23 0]) (w' := wd N L) (P := [vld NN 23 0]) rfl (vN (t := 23) (i := 0) (by decide)) (pc' := 93) rfl ?_
        refine Sem.ifN (tgt := 100) d124_93 (by decide) (show N 23 0 20 < 2 ^ 31 by omega) (fun b7 => ?_) (fun b7 => ?_)
        · have b7_ : N 23 0 20 = 0 := b7
          refine Sem.seg [(.iconst 0, 0, 0)] ⟨⟨d124_100, trivial⟩, trivial⟩ (lv' := [(5, aN 1), (4, aN 1), (0, aR 23 0), (1, aI d), (2, aI k), (3, aI m)]) (st' := [aN 0, aR 23 0]) (w' := wd N L) (P := []) rfl (trivial) (pc' := 101) rfl ?_
          refine Sem.cVp1 (t := 23) (i := 0) (as := [aN 0]) (rst := []) (c' := 0) (s' := 0) d124_101 mk91 rfl co91 lk5_97 im91 se91 rfl (vN (t := 23) (i := 0) (by decide)) (show 2 ≤ mL 91 by decide) rfl (show 0 ≤ 8 by decide) (by decide) (by decide) rfl rfl (by decide) (by decide) (m91 (N) L 0 (by decide)) ?_
          refine Sem.topNN (show (if 0 < 0 then 1 else 0) = 0 from rfl) ?_
          refine Sem.ifN (tgt := 109) d124_104 (by decide) (by decide) (fun b8 => ?_) (fun b8 => ?_)
          rotate_left
          · exact absurd (show 0 = 0 from by decide) b8
          refine Sem.pick [3, 0, 1, 2, 4, 5] (lv' := [(1, aI d), (5, aN 1), (4, aN 1), (0, aR 23 0), (2, aI k), (3, aI m)]) rfl ?_
          refine Sem.loc0 (show d = nI d.toInt.toNat from i_nI2 (by omega)) ?_
          refine Sem.pick [4, 0, 1, 2, 3, 5] (lv' := [(2, aI k), (1, aN d.toInt.toNat), (5, aN 1), (4, aN 1), (0, aR 23 0), (3, aI m)]) rfl ?_
          refine Sem.loc0 (show k = nI 0 from i_nI (by omega)) ?_
          have hcode : cPeg (N 37 0 0) (N 37 0 1) (N 23 0 20) d k m = 0 := by unfold cPeg; (repeat' split) <;> omega
          have hkk : k.toInt.toNat = 0 := by omega
          refine Sem.pick [4, 1, 0, 5] rfl ?_
          refine Sem.mono (fun o w h => ?_) (m124t_0 N L d.toInt.toNat 0 m (by omega) hc)
          obtain ⟨z, N', L', h1, h2, h3, h4, h5⟩ := h
          exact ⟨z, N', L', h1, h2, h3, by rw [hcode]; exact h4, fun _ => by rw [hkk]; exact h5⟩
        · have b7_ : ¬ (N 23 0 20 = 0) := b7
          refine Sem.seg [(.iconst 3, 0, 0)] ⟨⟨d124_96, trivial⟩, trivial⟩ (lv' := [(5, aN 1), (4, aN 1), (0, aR 23 0), (1, aI d), (2, aI k), (3, aI m)]) (st' := [aN 3, aR 23 0]) (w' := wd N L) (P := []) rfl (trivial) (pc' := 97) rfl ?_
          refine Sem.goto (tgt := 101) d124_97 (by decide) ?_
          refine Sem.cVp1 (t := 23) (i := 0) (as := [aN 3]) (rst := []) (c' := 0) (s' := 0) d124_101 mk91 rfl co91 lk5_97 im91 se91 rfl (vN (t := 23) (i := 0) (by decide)) (show 2 ≤ mL 91 by decide) rfl (show 0 ≤ 8 by decide) (by decide) (by decide) rfl rfl (by decide) (by decide) (m91 (N) L 3 (by decide)) ?_
          refine Sem.topNN (show (if 0 < 3 then 1 else 0) = 1 from rfl) ?_
          refine Sem.ifN (tgt := 109) d124_104 (by decide) (by decide) (fun b9 => ?_) (fun b9 => ?_)
          · exact absurd (show 1 = 0 from b9) (by decide)
          refine Sem.seg [(.lconst 0, 0, 0)] ⟨⟨d124_107, trivial⟩, trivial⟩ (lv' := [(5, aN 1), (4, aN 1), (0, aR 23 0), (1, aI d), (2, aI k), (3, aI m)]) (st' := [aL (Int64.ofNat 0)]) (w' := wd (upN N 23 0 0 3) L) (P := []) rfl (trivial) (pc' := 108) rfl ?_
          refine Sem.lret d124_108 rfl (by decide) (by decide) hzW ⟨_, _, _, rfl, rfl, ?_⟩
          have hcode : cPeg (N 37 0 0) (N 37 0 1) (N 23 0 20) d k m = 3 := by unfold cPeg; (repeat' split) <;> omega
          exact ⟨rfl, by rw [hcode], fun q => absurd (hcode.symm.trans q) (by decide)⟩
      case neg =>
        refine Sem.cSp1 (as := [aI k, aN 0, aN 2]) (rst := [aR 23 0]) (c' := 0) (s' := 0) d124_70 mk89 rfl co89 lk5_89 ss89 (show 3 ≤ mL 89 by decide) rfl (show 1 ≤ 8 by decide) (by decide) (by decide) rfl rfl (by decide) (by decide) (m89 (N) L k 0 2 (by decide) (by decide)) ?_
        refine Sem.topNN (if_neg h4) ?_
        refine Sem.ifN (tgt := 80) d124_73 (by decide) (by decide) (fun b10 => ?_) (fun b10 => ?_)
        · exact absurd (show ¬ 0 = 0 from b10) (by decide)
        refine Sem.seg [(.iconst 2, 0, 0)] ⟨⟨d124_76, trivial⟩, trivial⟩ (lv' := [(5, aN 1), (4, aN 1), (0, aR 23 0), (1, aI d), (2, aI k), (3, aI m)]) (st' := [aN 2, aR 23 0]) (w' := wd N L) (P := []) rfl (trivial) (pc' := 77) rfl ?_
        refine Sem.goto (tgt := 101) d124_77 (by decide) ?_
        refine Sem.cVp1 (t := 23) (i := 0) (as := [aN 2]) (rst := []) (c' := 0) (s' := 0) d124_101 mk91 rfl co91 lk5_97 im91 se91 rfl (vN (t := 23) (i := 0) (by decide)) (show 2 ≤ mL 91 by decide) rfl (show 0 ≤ 8 by decide) (by decide) (by decide) rfl rfl (by decide) (by decide) (m91 (N) L 2 (by decide)) ?_
        refine Sem.topNN (show (if 0 < 2 then 1 else 0) = 1 from rfl) ?_
        refine Sem.ifN (tgt := 109) d124_104 (by decide) (by decide) (fun b11 => ?_) (fun b11 => ?_)
        · exact absurd (show 1 = 0 from b11) (by decide)
        refine Sem.seg [(.lconst 0, 0, 0)] ⟨⟨d124_107, trivial⟩, trivial⟩ (lv' := [(5, aN 1), (4, aN 1), (0, aR 23 0), (1, aI d), (2, aI k), (3, aI m)]) (st' := [aL (Int64.ofNat 0)]) (w' := wd (upN N 23 0 0 2) L) (P := []) rfl (trivial) (pc' := 108) rfl ?_
        refine Sem.lret d124_108 rfl (by decide) (by decide) hzW ⟨_, _, _, rfl, rfl, ?_⟩
        have hcode : cPeg (N 37 0 0) (N 37 0 1) (N 23 0 20) d k m = 2 := by unfold cPeg; (repeat' split) <;> omega
        exact ⟨rfl, by rw [hcode], fun q => absurd (hcode.symm.trans q) (by decide)⟩
    · have b2_ : ¬ (k.toInt = 0) := bF rfl rfl b2
      refine Sem.seg [(.iload_n 2, 0, 0), (.iconst 1, 0, 0)] ⟨⟨d124_19, trivial⟩, ⟨d124_20, trivial⟩, trivial⟩ (lv' := [(4, aN 1), (0, aR 23 0), (1, aI d), (2, aI k), (3, aI m)]) (st' := [aN 1, aI k]) (w' := wd N L) (P := []) rfl (trivial) (pc' := 21) rfl ?_
      refine Sem.icmp (tgt := 43) d124_21 (by decide) rfl rfl (fun b12 => ?_) (fun b12 => ?_)
      · have b12_ : ¬ k.toInt = 1 := bT rfl (nI_toInt (by decide)) b12
        
        refine Sem.seg [(.iload_n 3, 0, 0)] ⟨⟨d124_43, trivial⟩, trivial⟩ (lv' := [(4, aN 1), (0, aR 23 0), (1, aI d), (2, aI k), (3, aI m)]) (st' := [aI m]) (w' := wd N L) (P := []) rfl (trivial) (pc' := 44) rfl ?_
        by_cases h13 : 0 ≤ m.toInt ∧ m.toInt < 12
        case pos =>
          refine Sem.cSp1 (as := [aI m]) (rst := []) (c' := 0) (s' := 0) d124_44 mk90 rfl co90 lk5_93 ss90 (show 1 ≤ mL 90 by decide) rfl (show 0 ≤ 8 by decide) (by decide) (by decide) rfl rfl (by decide) (by decide) (m90 (N) L m) ?_
          refine Sem.topNN (if_pos h13) ?_
          refine Sem.ifN (tgt := 54) d124_47 (by decide) (by decide) (fun b14 => ?_) (fun b14 => ?_)
          · exact absurd (show 1 = 0 from b14) (by decide)
          refine Sem.seg [(.iconst 1, 0, 0)] ⟨⟨d124_50, trivial⟩, trivial⟩ (lv' := [(4, aN 1), (0, aR 23 0), (1, aI d), (2, aI k), (3, aI m)]) (st' := [aN 1]) (w' := wd N L) (P := []) rfl (trivial) (pc' := 51) rfl ?_
          refine Sem.goto (tgt := 55) d124_51 (by decide) ?_
          refine Sem.seg [(.istore 5, 0, 0), (.aload_n 0, 0, 0), (.iload 4, 0, 0)] ⟨⟨d124_55, trivial⟩, ⟨d124_57, trivial⟩, ⟨d124_58, trivial⟩, trivial⟩ (lv' := [(5, aN 1), (4, aN 1), (0, aR 23 0), (1, aI d), (2, aI k), (3, aI m)]) (st' := [aN 1, aR 23 0]) (w' := wd N L) (P := []) rfl (trivial) (pc' := 60) rfl ?_
          refine Sem.ifN (tgt := 67) d124_60 (by decide) (by decide) (fun b15 => ?_) (fun b15 => ?_)
          rotate_left
          · exact absurd (show ¬ 1 = 0 from by decide) b15
          refine Sem.seg [(.iload_n 2, 0, 0), (.iconst 0, 0, 0), (.iconst 2, 0, 0)] ⟨⟨d124_67, trivial⟩, ⟨d124_68, trivial⟩, ⟨d124_69, trivial⟩, trivial⟩ (lv' := [(5, aN 1), (4, aN 1), (0, aR 23 0), (1, aI d), (2, aI k), (3, aI m)]) (st' := [aN 2, aN 0, aI k, aR 23 0]) (w' := wd N L) (P := []) rfl (trivial) (pc' := 70) rfl ?_
          by_cases h16 : ((0 : Nat) : Int) ≤ k.toInt ∧ k.toInt ≤ ((2 : Nat) : Int)
          case pos =>
            refine Sem.cSp1 (as := [aI k, aN 0, aN 2]) (rst := [aR 23 0]) (c' := 0) (s' := 0) d124_70 mk89 rfl co89 lk5_89 ss89 (show 3 ≤ mL 89 by decide) rfl (show 1 ≤ 8 by decide) (by decide) (by decide) rfl rfl (by decide) (by decide) (m89 (N) L k 0 2 (by decide) (by decide)) ?_
            refine Sem.topNN (if_pos h16) ?_
            refine Sem.ifN (tgt := 80) d124_73 (by decide) (by decide) (fun b17 => ?_) (fun b17 => ?_)
            rotate_left
            · exact absurd (show ¬ 1 = 0 from by decide) b17
            refine Sem.seg [(.iload 5, 0, 0)] ⟨⟨d124_80, trivial⟩, trivial⟩ (lv' := [(5, aN 1), (4, aN 1), (0, aR 23 0), (1, aI d), (2, aI k), (3, aI m)]) (st' := [aN 1, aR 23 0]) (w' := wd N L) (P := []) rfl (trivial) (pc' := 82) rfl ?_
            refine Sem.ifN (tgt := 89) d124_82 (by decide) (by decide) (fun b18 => ?_) (fun b18 => ?_)
            rotate_left
            · exact absurd (show ¬ 1 = 0 from by decide) b18
            refine Sem.seg [(.aload_n 0, 0, 0), (.getfield 61, 5, 20)] ⟨⟨d124_89, trivial⟩, ⟨d124_90, gf5_61⟩, trivial⟩ (lv' := [(5, aN 1), (4, aN 1), (0, aR 23 0), (1, aI d), (2, aI k), (3, aI m)]) (st' := [aN (N 23 0 20), aR 23 0]) (w' := wd N L) (P := [vld NN 23 0]) rfl (vN (t := 23) (i := 0) (by decide)) (pc' := 93) rfl ?_
            refine Sem.ifN (tgt := 100) d124_93 (by decide) (show N 23 0 20 < 2 ^ 31 by omega) (fun b19 => ?_) (fun b19 => ?_)
            · have b19_ : N 23 0 20 = 0 := b19
              refine Sem.seg [(.iconst 0, 0, 0)] ⟨⟨d124_100, trivial⟩, trivial⟩ (lv' := [(5, aN 1), (4, aN 1), (0, aR 23 0), (1, aI d), (2, aI k), (3, aI m)]) (st' := [aN 0, aR 23 0]) (w' := wd N L) (P := []) rfl (trivial) (pc' := 101) rfl ?_
              refine Sem.cVp1 (t := 23) (i := 0) (as := [aN 0]) (rst := []) (c' := 0) (s' := 0) d124_101 mk91 rfl co91 lk5_97 im91 se91 rfl (vN (t := 23) (i := 0) (by decide)) (show 2 ≤ mL 91 by decide) rfl (show 0 ≤ 8 by decide) (by decide) (by decide) rfl rfl (by decide) (by decide) (m91 (N) L 0 (by decide)) ?_
              refine Sem.topNN (show (if 0 < 0 then 1 else 0) = 0 from rfl) ?_
              refine Sem.ifN (tgt := 109) d124_104 (by decide) (by decide) (fun b20 => ?_) (fun b20 => ?_)
              rotate_left
              · exact absurd (show 0 = 0 from by decide) b20
              refine Sem.pick [3, 0, 1, 2, 4, 5] (lv' := [(1, aI d), (5, aN 1), (4, aN 1), (0, aR 23 0), (2, aI k), (3, aI m)]) rfl ?_
              refine Sem.loc0 (show d = nI d.toInt.toNat from i_nI2 (by omega)) ?_
              refine Sem.pick [4, 0, 1, 2, 3, 5] (lv' := [(2, aI k), (1, aN d.toInt.toNat), (5, aN 1), (4, aN 1), (0, aR 23 0), (3, aI m)]) rfl ?_
              refine Sem.loc0 (show k = nI 2 from i_nI (by omega)) ?_
              refine Sem.pick [5, 0, 1, 2, 3, 4] (lv' := [(3, aI m), (2, aN 2), (1, aN d.toInt.toNat), (5, aN 1), (4, aN 1), (0, aR 23 0)]) rfl ?_
              refine Sem.loc0 (show m = nI m.toInt.toNat from i_nI2 (by omega)) ?_
              have hcode : cPeg (N 37 0 0) (N 37 0 1) (N 23 0 20) d k m = 0 := by unfold cPeg; (repeat' split) <;> omega
              have hkk : k.toInt.toNat = 2 := by omega
              refine Sem.pick [5, 2, 1, 0] rfl ?_
              refine Sem.mono (fun o w h => ?_) (m124t_2 N L d.toInt.toNat m.toInt.toNat (by omega) (by omega) hc)
              obtain ⟨z, N', L', h1, h2, h3, h4, h5⟩ := h
              exact ⟨z, N', L', h1, h2, h3, by rw [hcode]; exact h4, fun _ => by rw [hkk]; exact h5⟩
            · have b19_ : ¬ (N 23 0 20 = 0) := b19
              refine Sem.seg [(.iconst 3, 0, 0)] ⟨⟨d124_96, trivial⟩, trivial⟩ (lv' := [(5, aN 1), (4, aN 1), (0, aR 23 0), (1, aI d), (2, aI k), (3, aI m)]) (st' := [aN 3, aR 23 0]) (w' := wd N L) (P := []) rfl (trivial) (pc' := 97) rfl ?_
              refine Sem.goto (tgt := 101) d124_97 (by decide) ?_
              refine Sem.cVp1 (t := 23) (i := 0) (as := [aN 3]) (rst := []) (c' := 0) (s' := 0) d124_101 mk91 rfl co91 lk5_97 im91 se91 rfl (vN (t := 23) (i := 0) (by decide)) (show 2 ≤ mL 91 by decide) rfl (show 0 ≤ 8 by decide) (by decide) (by decide) rfl rfl (by decide) (by decide) (m91 (N) L 3 (by decide)) ?_
              refine Sem.topNN (show (if 0 < 3 then 1 else 0) = 1 from rfl) ?_
              refine Sem.ifN (tgt := 109) d124_104 (by decide) (by decide) (fun b21 => ?_) (fun b21 => ?_)
              · exact absurd (show 1 = 0 from b21) (by decide)
              refine Sem.seg [(.lconst 0, 0, 0)] ⟨⟨d124_107, trivial⟩, trivial⟩ (lv' := [(5, aN 1), (4, aN 1), (0, aR 23 0), (1, aI d), (2, aI k), (3, aI m)]) (st' := [aL (Int64.ofNat 0)]) (w' := wd (upN N 23 0 0 3) L) (P := []) rfl (trivial) (pc' := 108) rfl ?_
              refine Sem.lret d124_108 rfl (by decide) (by decide) hzW ⟨_, _, _, rfl, rfl, ?_⟩
              have hcode : cPeg (N 37 0 0) (N 37 0 1) (N 23 0 20) d k m = 3 := by unfold cPeg; (repeat' split) <;> omega
              exact ⟨rfl, by rw [hcode], fun q => absurd (hcode.symm.trans q) (by decide)⟩
          case neg =>
            refine Sem.cSp1 (as := [aI k, aN 0, aN 2]) (rst := [aR 23 0]) (c' := 0) (s' := 0) d124_70 mk89 rfl co89 lk5_89 ss89 (show 3 ≤ mL 89 by decide) rfl (show 1 ≤ 8 by decide) (by decide) (by decide) rfl rfl (by decide) (by decide) (m89 (N) L k 0 2 (by decide) (by decide)) ?_
            refine Sem.topNN (if_neg h16) ?_
            refine Sem.ifN (tgt := 80) d124_73 (by decide) (by decide) (fun b22 => ?_) (fun b22 => ?_)
            · exact absurd (show ¬ 0 = 0 from b22) (by decide)
            refine Sem.seg [(.iconst 2, 0, 0)] ⟨⟨d124_76, trivial⟩, trivial⟩ (lv' := [(5, aN 1), (4, aN 1), (0, aR 23 0), (1, aI d), (2, aI k), (3, aI m)]) (st' := [aN 2, aR 23 0]) (w' := wd N L) (P := []) rfl (trivial) (pc' := 77) rfl ?_
            refine Sem.goto (tgt := 101) d124_77 (by decide) ?_
            refine Sem.cVp1 (t := 23) (i := 0) (as := [aN 2]) (rst := []) (c' := 0) (s' := 0) d124_101 mk91 rfl co91 lk5_97 im91 se91 rfl (vN (t := 23) (i := 0) (by decide)) (show 2 ≤ mL 91 by decide) rfl (show 0 ≤ 8 by decide) (by decide) (by decide) rfl rfl (by decide) (by decide) (m91 (N) L 2 (by decide)) ?_
            refine Sem.topNN (show (if 0 < 2 then 1 else 0) = 1 from rfl) ?_
            refine Sem.ifN (tgt := 109) d124_104 (by decide) (by decide) (fun b23 => ?_) (fun b23 => ?_)
            · exact absurd (show 1 = 0 from b23) (by decide)
            refine Sem.seg [(.lconst 0, 0, 0)] ⟨⟨d124_107, trivial⟩, trivial⟩ (lv' := [(5, aN 1), (4, aN 1), (0, aR 23 0), (1, aI d), (2, aI k), (3, aI m)]) (st' := [aL (Int64.ofNat 0)]) (w' := wd (upN N 23 0 0 2) L) (P := []) rfl (trivial) (pc' := 108) rfl ?_
            refine Sem.lret d124_108 rfl (by decide) (by decide) hzW ⟨_, _, _, rfl, rfl, ?_⟩
            have hcode : cPeg (N 37 0 0) (N 37 0 1) (N 23 0 20) d k m = 2 := by unfold cPeg; (repeat' split) <;> omega
            exact ⟨rfl, by rw [hcode], fun q => absurd (hcode.symm.trans q) (by decide)⟩
        case neg =>
          refine Sem.cSp1 (as := [aI m]) (rst := []) (c' := 0) (s' := 0) d124_44 mk90 rfl co90 lk5_93 ss90 (show 1 ≤ mL 90 by decide) rfl (show 0 ≤ 8 by decide) (by decide) (by decide) rfl rfl (by decide) (by decide) (m90 (N) L m) ?_
          refine Sem.topNN (if_neg h13) ?_
          refine Sem.ifN (tgt := 54) d124_47 (by decide) (by decide) (fun b24 => ?_) (fun b24 => ?_)
          rotate_left
          · exact absurd (show 0 = 0 from by decide) b24
          refine Sem.seg [(.iconst 0, 0, 0), (.istore 5, 0, 0), (.aload_n 0, 0, 0), (.iload 4, 0, 0)] ⟨⟨d124_54, trivial⟩, ⟨d124_55, trivial⟩, ⟨d124_57, trivial⟩, ⟨d124_58, trivial⟩, trivial⟩ (lv' := [(5, aN 0), (4, aN 1), (0, aR 23 0), (1, aI d), (2, aI k), (3, aI m)]) (st' := [aN 1, aR 23 0]) (w' := wd N L) (P := []) rfl (trivial) (pc' := 60) rfl ?_
          refine Sem.ifN (tgt := 67) d124_60 (by decide) (by decide) (fun b25 => ?_) (fun b25 => ?_)
          rotate_left
          · exact absurd (show ¬ 1 = 0 from by decide) b25
          refine Sem.seg [(.iload_n 2, 0, 0), (.iconst 0, 0, 0), (.iconst 2, 0, 0)] ⟨⟨d124_67, trivial⟩, ⟨d124_68, trivial⟩, ⟨d124_69, trivial⟩, trivial⟩ (lv' := [(5, aN 0), (4, aN 1), (0, aR 23 0), (1, aI d), (2, aI k), (3, aI m)]) (st' := [aN 2, aN 0, aI k, aR 23 0]) (w' := wd N L) (P := []) rfl (trivial) (pc' := 70) rfl ?_
          by_cases h26 : ((0 : Nat) : Int) ≤ k.toInt ∧ k.toInt ≤ ((2 : Nat) : Int)
          case pos =>
            refine Sem.cSp1 (as := [aI k, aN 0, aN 2]) (rst := [aR 23 0]) (c' := 0) (s' := 0) d124_70 mk89 rfl co89 lk5_89 ss89 (show 3 ≤ mL 89 by decide) rfl (show 1 ≤ 8 by decide) (by decide) (by decide) rfl rfl (by decide) (by decide) (m89 (N) L k 0 2 (by decide) (by decide)) ?_
            refine Sem.topNN (if_pos h26) ?_
            refine Sem.ifN (tgt := 80) d124_73 (by decide) (by decide) (fun b27 => ?_) (fun b27 => ?_)
            rotate_left
            · exact absurd (show ¬ 1 = 0 from by decide) b27
            refine Sem.seg [(.iload 5, 0, 0)] ⟨⟨d124_80, trivial⟩, trivial⟩ (lv' := [(5, aN 0), (4, aN 1), (0, aR 23 0), (1, aI d), (2, aI k), (3, aI m)]) (st' := [aN 0, aR 23 0]) (w' := wd N L) (P := []) rfl (trivial) (pc' := 82) rfl ?_
            refine Sem.ifN (tgt := 89) d124_82 (by decide) (by decide) (fun b28 => ?_) (fun b28 => ?_)
            · exact absurd (show ¬ 0 = 0 from b28) (by decide)
            refine Sem.seg [(.iconst 1, 0, 0)] ⟨⟨d124_85, trivial⟩, trivial⟩ (lv' := [(5, aN 0), (4, aN 1), (0, aR 23 0), (1, aI d), (2, aI k), (3, aI m)]) (st' := [aN 1, aR 23 0]) (w' := wd N L) (P := []) rfl (trivial) (pc' := 86) rfl ?_
            refine Sem.goto (tgt := 101) d124_86 (by decide) ?_
            refine Sem.cVp1 (t := 23) (i := 0) (as := [aN 1]) (rst := []) (c' := 0) (s' := 0) d124_101 mk91 rfl co91 lk5_97 im91 se91 rfl (vN (t := 23) (i := 0) (by decide)) (show 2 ≤ mL 91 by decide) rfl (show 0 ≤ 8 by decide) (by decide) (by decide) rfl rfl (by decide) (by decide) (m91 (N) L 1 (by decide)) ?_
            refine Sem.topNN (show (if 0 < 1 then 1 else 0) = 1 from rfl) ?_
            refine Sem.ifN (tgt := 109) d124_104 (by decide) (by decide) (fun b29 => ?_) (fun b29 => ?_)
            · exact absurd (show 1 = 0 from b29) (by decide)
            refine Sem.seg [(.lconst 0, 0, 0)] ⟨⟨d124_107, trivial⟩, trivial⟩ (lv' := [(5, aN 0), (4, aN 1), (0, aR 23 0), (1, aI d), (2, aI k), (3, aI m)]) (st' := [aL (Int64.ofNat 0)]) (w' := wd (upN N 23 0 0 1) L) (P := []) rfl (trivial) (pc' := 108) rfl ?_
            refine Sem.lret d124_108 rfl (by decide) (by decide) hzW ⟨_, _, _, rfl, rfl, ?_⟩
            have hcode : cPeg (N 37 0 0) (N 37 0 1) (N 23 0 20) d k m = 1 := by unfold cPeg; (repeat' split) <;> omega
            exact ⟨rfl, by rw [hcode], fun q => absurd (hcode.symm.trans q) (by decide)⟩
          case neg =>
            refine Sem.cSp1 (as := [aI k, aN 0, aN 2]) (rst := [aR 23 0]) (c' := 0) (s' := 0) d124_70 mk89 rfl co89 lk5_89 ss89 (show 3 ≤ mL 89 by decide) rfl (show 1 ≤ 8 by decide) (by decide) (by decide) rfl rfl (by decide) (by decide) (m89 (N) L k 0 2 (by decide) (by decide)) ?_
            refine Sem.topNN (if_neg h26) ?_
            refine Sem.ifN (tgt := 80) d124_73 (by decide) (by decide) (fun b30 => ?_) (fun b30 => ?_)
            · exact absurd (show ¬ 0 = 0 from b30) (by decide)
            refine Sem.seg [(.iconst 2, 0, 0)] ⟨⟨d124_76, trivial⟩, trivial⟩ (lv' := [(5, aN 0), (4, aN 1), (0, aR 23 0), (1, aI d), (2, aI k), (3, aI m)]) (st' := [aN 2, aR 23 0]) (w' := wd N L) (P := []) rfl (trivial) (pc' := 77) rfl ?_
            refine Sem.goto (tgt := 101) d124_77 (by decide) ?_
            refine Sem.cVp1 (t := 23) (i := 0) (as := [aN 2]) (rst := []) (c' := 0) (s' := 0) d124_101 mk91 rfl co91 lk5_97 im91 se91 rfl (vN (t := 23) (i := 0) (by decide)) (show 2 ≤ mL 91 by decide) rfl (show 0 ≤ 8 by decide) (by decide) (by decide) rfl rfl (by decide) (by decide) (m91 (N) L 2 (by decide)) ?_
            refine Sem.topNN (show (if 0 < 2 then 1 else 0) = 1 from rfl) ?_
            refine Sem.ifN (tgt := 109) d124_104 (by decide) (by decide) (fun b31 => ?_) (fun b31 => ?_)
            · exact absurd (show 1 = 0 from b31) (by decide)
            refine Sem.seg [(.lconst 0, 0, 0)] ⟨⟨d124_107, trivial⟩, trivial⟩ (lv' := [(5, aN 0), (4, aN 1), (0, aR 23 0), (1, aI d), (2, aI k), (3, aI m)]) (st' := [aL (Int64.ofNat 0)]) (w' := wd (upN N 23 0 0 2) L) (P := []) rfl (trivial) (pc' := 108) rfl ?_
            refine Sem.lret d124_108 rfl (by decide) (by decide) hzW ⟨_, _, _, rfl, rfl, ?_⟩
            have hcode : cPeg (N 37 0 0) (N 37 0 1) (N 23 0 20) d k m = 2 := by unfold cPeg; (repeat' split) <;> omega
            exact ⟨rfl, by rw [hcode], fun q => absurd (hcode.symm.trans q) (by decide)⟩
      · have b12_ : ¬ (¬ k.toInt = 1) := bF rfl (nI_toInt (by decide)) b12
        
        refine Sem.seg [(.iload_n 3, 0, 0), (.iconst 0, 0, 0), (.aload_n 0, 0, 0), (.getfield 49, 5, 15), (.iconst 1, 0, 0), (.iaload, 0, 0), (.iconst 1, 0, 0), (.isub, 0, 0)] ⟨⟨d124_24, trivial⟩, ⟨d124_25, trivial⟩, ⟨d124_26, trivial⟩, ⟨d124_27, gf5_49⟩, ⟨d124_30, trivial⟩, ⟨d124_31, trivial⟩, ⟨d124_32, trivial⟩, ⟨d124_33, trivial⟩, trivial⟩ (lv' := [(4, aN 1), (0, aR 23 0), (1, aI d), (2, aI k), (3, aI m)]) (st' := [aI ((nI (N 37 0 1)) - (nI 1)), aN 0, aI m]) (w' := wd N L) (P := [vld NN 23 0, vld NN 37 0, 1 < 3]) rfl (⟨vN (t := 23) (i := 0) (by decide), vN (t := 37) (i := 0) (by decide), (by decide : (1 : Nat) < 3)⟩) (pc' := 34) rfl ?_
        by_cases h32 : 0 ≤ m.toInt ∧ m.toInt < (N 37 0 1 : Int)
        case pos =>
          refine Sem.cSp1 (as := [aI m, aN 0, aI ((nI (N 37 0 1)) - (nI 1))]) (rst := []) (c' := 0) (s' := 0) d124_34 mk89 rfl co89 lk5_89 ss89 (show 3 ≤ mL 89 by decide) rfl (show 0 ≤ 8 by decide) (by decide) (by decide) rfl rfl (by decide) (by decide) (m89c (N) L m (N 37 0 1) (by omega)) ?_
          refine Sem.topNN (if_pos h32) ?_
          refine Sem.ifN (tgt := 54) d124_37 (by decide) (by decide) (fun b33 => ?_) (fun b33 => ?_)
          · exact absurd (show 1 = 0 from b33) (by decide)
          refine Sem.goto (tgt := 50) d124_40 (by decide) ?_
          refine Sem.seg [(.iconst 1, 0, 0)] ⟨⟨d124_50, trivial⟩, trivial⟩ (lv' := [(4, aN 1), (0, aR 23 0), (1, aI d), (2, aI k), (3, aI m)]) (st' := [aN 1]) (w' := wd N L) (P := []) rfl (trivial) (pc' := 51) rfl ?_
          refine Sem.goto (tgt := 55) d124_51 (by decide) ?_
          refine Sem.seg [(.istore 5, 0, 0), (.aload_n 0, 0, 0), (.iload 4, 0, 0)] ⟨⟨d124_55, trivial⟩, ⟨d124_57, trivial⟩, ⟨d124_58, trivial⟩, trivial⟩ (lv' := [(5, aN 1), (4, aN 1), (0, aR 23 0), (1, aI d), (2, aI k), (3, aI m)]) (st' := [aN 1, aR 23 0]) (w' := wd N L) (P := []) rfl (trivial) (pc' := 60) rfl ?_
          refine Sem.ifN (tgt := 67) d124_60 (by decide) (by decide) (fun b34 => ?_) (fun b34 => ?_)
          rotate_left
          · exact absurd (show ¬ 1 = 0 from by decide) b34
          refine Sem.seg [(.iload_n 2, 0, 0), (.iconst 0, 0, 0), (.iconst 2, 0, 0)] ⟨⟨d124_67, trivial⟩, ⟨d124_68, trivial⟩, ⟨d124_69, trivial⟩, trivial⟩ (lv' := [(5, aN 1), (4, aN 1), (0, aR 23 0), (1, aI d), (2, aI k), (3, aI m)]) (st' := [aN 2, aN 0, aI k, aR 23 0]) (w' := wd N L) (P := []) rfl (trivial) (pc' := 70) rfl ?_
          by_cases h35 : ((0 : Nat) : Int) ≤ k.toInt ∧ k.toInt ≤ ((2 : Nat) : Int)
          case pos =>
            refine Sem.cSp1 (as := [aI k, aN 0, aN 2]) (rst := [aR 23 0]) (c' := 0) (s' := 0) d124_70 mk89 rfl co89 lk5_89 ss89 (show 3 ≤ mL 89 by decide) rfl (show 1 ≤ 8 by decide) (by decide) (by decide) rfl rfl (by decide) (by decide) (m89 (N) L k 0 2 (by decide) (by decide)) ?_
            refine Sem.topNN (if_pos h35) ?_
            refine Sem.ifN (tgt := 80) d124_73 (by decide) (by decide) (fun b36 => ?_) (fun b36 => ?_)
            rotate_left
            · exact absurd (show ¬ 1 = 0 from by decide) b36
            refine Sem.seg [(.iload 5, 0, 0)] ⟨⟨d124_80, trivial⟩, trivial⟩ (lv' := [(5, aN 1), (4, aN 1), (0, aR 23 0), (1, aI d), (2, aI k), (3, aI m)]) (st' := [aN 1, aR 23 0]) (w' := wd N L) (P := []) rfl (trivial) (pc' := 82) rfl ?_
            refine Sem.ifN (tgt := 89) d124_82 (by decide) (by decide) (fun b37 => ?_) (fun b37 => ?_)
            rotate_left
            · exact absurd (show ¬ 1 = 0 from by decide) b37
            refine Sem.seg [(.aload_n 0, 0, 0), (.getfield 61, 5, 20)] ⟨⟨d124_89, trivial⟩, ⟨d124_90, gf5_61⟩, trivial⟩ (lv' := [(5, aN 1), (4, aN 1), (0, aR 23 0), (1, aI d), (2, aI k), (3, aI m)]) (st' := [aN (N 23 0 20), aR 23 0]) (w' := wd N L) (P := [vld NN 23 0]) rfl (vN (t := 23) (i := 0) (by decide)) (pc' := 93) rfl ?_
            refine Sem.ifN (tgt := 100) d124_93 (by decide) (show N 23 0 20 < 2 ^ 31 by omega) (fun b38 => ?_) (fun b38 => ?_)
            · have b38_ : N 23 0 20 = 0 := b38
              refine Sem.seg [(.iconst 0, 0, 0)] ⟨⟨d124_100, trivial⟩, trivial⟩ (lv' := [(5, aN 1), (4, aN 1), (0, aR 23 0), (1, aI d), (2, aI k), (3, aI m)]) (st' := [aN 0, aR 23 0]) (w' := wd N L) (P := []) rfl (trivial) (pc' := 101) rfl ?_
              refine Sem.cVp1 (t := 23) (i := 0) (as := [aN 0]) (rst := []) (c' := 0) (s' := 0) d124_101 mk91 rfl co91 lk5_97 im91 se91 rfl (vN (t := 23) (i := 0) (by decide)) (show 2 ≤ mL 91 by decide) rfl (show 0 ≤ 8 by decide) (by decide) (by decide) rfl rfl (by decide) (by decide) (m91 (N) L 0 (by decide)) ?_
              refine Sem.topNN (show (if 0 < 0 then 1 else 0) = 0 from rfl) ?_
              refine Sem.ifN (tgt := 109) d124_104 (by decide) (by decide) (fun b39 => ?_) (fun b39 => ?_)
              rotate_left
              · exact absurd (show 0 = 0 from by decide) b39
              refine Sem.pick [3, 0, 1, 2, 4, 5] (lv' := [(1, aI d), (5, aN 1), (4, aN 1), (0, aR 23 0), (2, aI k), (3, aI m)]) rfl ?_
              refine Sem.loc0 (show d = nI d.toInt.toNat from i_nI2 (by omega)) ?_
              refine Sem.pick [4, 0, 1, 2, 3, 5] (lv' := [(2, aI k), (1, aN d.toInt.toNat), (5, aN 1), (4, aN 1), (0, aR 23 0), (3, aI m)]) rfl ?_
              refine Sem.loc0 (show k = nI 1 from i_nI (by omega)) ?_
              refine Sem.pick [5, 0, 1, 2, 3, 4] (lv' := [(3, aI m), (2, aN 1), (1, aN d.toInt.toNat), (5, aN 1), (4, aN 1), (0, aR 23 0)]) rfl ?_
              refine Sem.loc0 (show m = nI m.toInt.toNat from i_nI2 (by omega)) ?_
              have hcode : cPeg (N 37 0 0) (N 37 0 1) (N 23 0 20) d k m = 0 := by unfold cPeg; (repeat' split) <;> omega
              have hkk : k.toInt.toNat = 1 := by omega
              refine Sem.pick [5, 2, 1, 0] rfl ?_
              refine Sem.mono (fun o w h => ?_) (m124t_1 N L d.toInt.toNat m.toInt.toNat (by omega) (by omega) hc)
              obtain ⟨z, N', L', h1, h2, h3, h4, h5⟩ := h
              exact ⟨z, N', L', h1, h2, h3, by rw [hcode]; exact h4, fun _ => by rw [hkk]; exact h5⟩
            · have b38_ : ¬ (N 23 0 20 = 0) := b38
              refine Sem.seg [(.iconst 3, 0, 0)] ⟨⟨d124_96, trivial⟩, trivial⟩ (lv' := [(5, aN 1), (4, aN 1), (0, aR 23 0), (1, aI d), (2, aI k), (3, aI m)]) (st' := [aN 3, aR 23 0]) (w' := wd N L) (P := []) rfl (trivial) (pc' := 97) rfl ?_
              refine Sem.goto (tgt := 101) d124_97 (by decide) ?_
              refine Sem.cVp1 (t := 23) (i := 0) (as := [aN 3]) (rst := []) (c' := 0) (s' := 0) d124_101 mk91 rfl co91 lk5_97 im91 se91 rfl (vN (t := 23) (i := 0) (by decide)) (show 2 ≤ mL 91 by decide) rfl (show 0 ≤ 8 by decide) (by decide) (by decide) rfl rfl (by decide) (by decide) (m91 (N) L 3 (by decide)) ?_
              refine Sem.topNN (show (if 0 < 3 then 1 else 0) = 1 from rfl) ?_
              refine Sem.ifN (tgt := 109) d124_104 (by decide) (by decide) (fun b40 => ?_) (fun b40 => ?_)
              · exact absurd (show 1 = 0 from b40) (by decide)
              refine Sem.seg [(.lconst 0, 0, 0)] ⟨⟨d124_107, trivial⟩, trivial⟩ (lv' := [(5, aN 1), (4, aN 1), (0, aR 23 0), (1, aI d), (2, aI k), (3, aI m)]) (st' := [aL (Int64.ofNat 0)]) (w' := wd (upN N 23 0 0 3) L) (P := []) rfl (trivial) (pc' := 108) rfl ?_
              refine Sem.lret d124_108 rfl (by decide) (by decide) hzW ⟨_, _, _, rfl, rfl, ?_⟩
              have hcode : cPeg (N 37 0 0) (N 37 0 1) (N 23 0 20) d k m = 3 := by unfold cPeg; (repeat' split) <;> omega
              exact ⟨rfl, by rw [hcode], fun q => absurd (hcode.symm.trans q) (by decide)⟩
          case neg =>
            refine Sem.cSp1 (as := [aI k, aN 0, aN 2]) (rst := [aR 23 0]) (c' := 0) (s' := 0) d124_70 mk89 rfl co89 lk5_89 ss89 (show 3 ≤ mL 89 by decide) rfl (show 1 ≤ 8 by decide) (by decide) (by decide) rfl rfl (by decide) (by decide) (m89 (N) L k 0 2 (by decide) (by decide)) ?_
            refine Sem.topNN (if_neg h35) ?_
            refine Sem.ifN (tgt := 80) d124_73 (by decide) (by decide) (fun b41 => ?_) (fun b41 => ?_)
            · exact absurd (show ¬ 0 = 0 from b41) (by decide)
            refine Sem.seg [(.iconst 2, 0, 0)] ⟨⟨d124_76, trivial⟩, trivial⟩ (lv' := [(5, aN 1), (4, aN 1), (0, aR 23 0), (1, aI d), (2, aI k), (3, aI m)]) (st' := [aN 2, aR 23 0]) (w' := wd N L) (P := []) rfl (trivial) (pc' := 77) rfl ?_
            refine Sem.goto (tgt := 101) d124_77 (by decide) ?_
            refine Sem.cVp1 (t := 23) (i := 0) (as := [aN 2]) (rst := []) (c' := 0) (s' := 0) d124_101 mk91 rfl co91 lk5_97 im91 se91 rfl (vN (t := 23) (i := 0) (by decide)) (show 2 ≤ mL 91 by decide) rfl (show 0 ≤ 8 by decide) (by decide) (by decide) rfl rfl (by decide) (by decide) (m91 (N) L 2 (by decide)) ?_
            refine Sem.topNN (show (if 0 < 2 then 1 else 0) = 1 from rfl) ?_
            refine Sem.ifN (tgt := 109) d124_104 (by decide) (by decide) (fun b42 => ?_) (fun b42 => ?_)
            · exact absurd (show 1 = 0 from b42) (by decide)
            refine Sem.seg [(.lconst 0, 0, 0)] ⟨⟨d124_107, trivial⟩, trivial⟩ (lv' := [(5, aN 1), (4, aN 1), (0, aR 23 0), (1, aI d), (2, aI k), (3, aI m)]) (st' := [aL (Int64.ofNat 0)]) (w' := wd (upN N 23 0 0 2) L) (P := []) rfl (trivial) (pc' := 108) rfl ?_
            refine Sem.lret d124_108 rfl (by decide) (by decide) hzW ⟨_, _, _, rfl, rfl, ?_⟩
            have hcode : cPeg (N 37 0 0) (N 37 0 1) (N 23 0 20) d k m = 2 := by unfold cPeg; (repeat' split) <;> omega
            exact ⟨rfl, by rw [hcode], fun q => absurd (hcode.symm.trans q) (by decide)⟩
        case neg =>
          refine Sem.cSp1 (as := [aI m, aN 0, aI ((nI (N 37 0 1)) - (nI 1))]) (rst := []) (c' := 0) (s' := 0) d124_34 mk89 rfl co89 lk5_89 ss89 (show 3 ≤ mL 89 by decide) rfl (show 0 ≤ 8 by decide) (by decide) (by decide) rfl rfl (by decide) (by decide) (m89c (N) L m (N 37 0 1) (by omega)) ?_
          refine Sem.topNN (if_neg h32) ?_
          refine Sem.ifN (tgt := 54) d124_37 (by decide) (by decide) (fun b43 => ?_) (fun b43 => ?_)
          rotate_left
          · exact absurd (show 0 = 0 from by decide) b43
          refine Sem.seg [(.iconst 0, 0, 0), (.istore 5, 0, 0), (.aload_n 0, 0, 0), (.iload 4, 0, 0)] ⟨⟨d124_54, trivial⟩, ⟨d124_55, trivial⟩, ⟨d124_57, trivial⟩, ⟨d124_58, trivial⟩, trivial⟩ (lv' := [(5, aN 0), (4, aN 1), (0, aR 23 0), (1, aI d), (2, aI k), (3, aI m)]) (st' := [aN 1, aR 23 0]) (w' := wd N L) (P := []) rfl (trivial) (pc' := 60) rfl ?_
          refine Sem.ifN (tgt := 67) d124_60 (by decide) (by decide) (fun b44 => ?_) (fun b44 => ?_)
          rotate_left
          · exact absurd (show ¬ 1 = 0 from by decide) b44
          refine Sem.seg [(.iload_n 2, 0, 0), (.iconst 0, 0, 0), (.iconst 2, 0, 0)] ⟨⟨d124_67, trivial⟩, ⟨d124_68, trivial⟩, ⟨d124_69, trivial⟩, trivial⟩ (lv' := [(5, aN 0), (4, aN 1), (0, aR 23 0), (1, aI d), (2, aI k), (3, aI m)]) (st' := [aN 2, aN 0, aI k, aR 23 0]) (w' := wd N L) (P := []) rfl (trivial) (pc' := 70) rfl ?_
          by_cases h45 : ((0 : Nat) : Int) ≤ k.toInt ∧ k.toInt ≤ ((2 : Nat) : Int)
          case pos =>
            refine Sem.cSp1 (as := [aI k, aN 0, aN 2]) (rst := [aR 23 0]) (c' := 0) (s' := 0) d124_70 mk89 rfl co89 lk5_89 ss89 (show 3 ≤ mL 89 by decide) rfl (show 1 ≤ 8 by decide) (by decide) (by decide) rfl rfl (by decide) (by decide) (m89 (N) L k 0 2 (by decide) (by decide)) ?_
            refine Sem.topNN (if_pos h45) ?_
            refine Sem.ifN (tgt := 80) d124_73 (by decide) (by decide) (fun b46 => ?_) (fun b46 => ?_)
            rotate_left
            · exact absurd (show ¬ 1 = 0 from by decide) b46
            refine Sem.seg [(.iload 5, 0, 0)] ⟨⟨d124_80, trivial⟩, trivial⟩ (lv' := [(5, aN 0), (4, aN 1), (0, aR 23 0), (1, aI d), (2, aI k), (3, aI m)]) (st' := [aN 0, aR 23 0]) (w' := wd N L) (P := []) rfl (trivial) (pc' := 82) rfl ?_
            refine Sem.ifN (tgt := 89) d124_82 (by decide) (by decide) (fun b47 => ?_) (fun b47 => ?_)
            · exact absurd (show ¬ 0 = 0 from b47) (by decide)
            refine Sem.seg [(.iconst 1, 0, 0)] ⟨⟨d124_85, trivial⟩, trivial⟩ (lv' := [(5, aN 0), (4, aN 1), (0, aR 23 0), (1, aI d), (2, aI k), (3, aI m)]) (st' := [aN 1, aR 23 0]) (w' := wd N L) (P := []) rfl (trivial) (pc' := 86) rfl ?_
            refine Sem.goto (tgt := 101) d124_86 (by decide) ?_
            refine Sem.cVp1 (t := 23) (i := 0) (as := [aN 1]) (rst := []) (c' := 0) (s' := 0) d124_101 mk91 rfl co91 lk5_97 im91 se91 rfl (vN (t := 23) (i := 0) (by decide)) (show 2 ≤ mL 91 by decide) rfl (show 0 ≤ 8 by decide) (by decide) (by decide) rfl rfl (by decide) (by decide) (m91 (N) L 1 (by decide)) ?_
            refine Sem.topNN (show (if 0 < 1 then 1 else 0) = 1 from rfl) ?_
            refine Sem.ifN (tgt := 109) d124_104 (by decide) (by decide) (fun b48 => ?_) (fun b48 => ?_)
            · exact absurd (show 1 = 0 from b48) (by decide)
            refine Sem.seg [(.lconst 0, 0, 0)] ⟨⟨d124_107, trivial⟩, trivial⟩ (lv' := [(5, aN 0), (4, aN 1), (0, aR 23 0), (1, aI d), (2, aI k), (3, aI m)]) (st' := [aL (Int64.ofNat 0)]) (w' := wd (upN N 23 0 0 1) L) (P := []) rfl (trivial) (pc' := 108) rfl ?_
            refine Sem.lret d124_108 rfl (by decide) (by decide) hzW ⟨_, _, _, rfl, rfl, ?_⟩
            have hcode : cPeg (N 37 0 0) (N 37 0 1) (N 23 0 20) d k m = 1 := by unfold cPeg; (repeat' split) <;> omega
            exact ⟨rfl, by rw [hcode], fun q => absurd (hcode.symm.trans q) (by decide)⟩
          case neg =>
            refine Sem.cSp1 (as := [aI k, aN 0, aN 2]) (rst := [aR 23 0]) (c' := 0) (s' := 0) d124_70 mk89 rfl co89 lk5_89 ss89 (show 3 ≤ mL 89 by decide) rfl (show 1 ≤ 8 by decide) (by decide) (by decide) rfl rfl (by decide) (by decide) (m89 (N) L k 0 2 (by decide) (by decide)) ?_
            refine Sem.topNN (if_neg h45) ?_
            refine Sem.ifN (tgt := 80) d124_73 (by decide) (by decide) (fun b49 => ?_) (fun b49 => ?_)
            · exact absurd (show ¬ 0 = 0 from b49) (by decide)
            refine Sem.seg [(.iconst 2, 0, 0)] ⟨⟨d124_76, trivial⟩, trivial⟩ (lv' := [(5, aN 0), (4, aN 1), (0, aR 23 0), (1, aI d), (2, aI k), (3, aI m)]) (st' := [aN 2, aR 23 0]) (w' := wd N L) (P := []) rfl (trivial) (pc' := 77) rfl ?_
            refine Sem.goto (tgt := 101) d124_77 (by decide) ?_
            refine Sem.cVp1 (t := 23) (i := 0) (as := [aN 2]) (rst := []) (c' := 0) (s' := 0) d124_101 mk91 rfl co91 lk5_97 im91 se91 rfl (vN (t := 23) (i := 0) (by decide)) (show 2 ≤ mL 91 by decide) rfl (show 0 ≤ 8 by decide) (by decide) (by decide) rfl rfl (by decide) (by decide) (m91 (N) L 2 (by decide)) ?_
            refine Sem.topNN (show (if 0 < 2 then 1 else 0) = 1 from rfl) ?_
            refine Sem.ifN (tgt := 109) d124_104 (by decide) (by decide) (fun b50 => ?_) (fun b50 => ?_)
            · exact absurd (show 1 = 0 from b50) (by decide)
            refine Sem.seg [(.lconst 0, 0, 0)] ⟨⟨d124_107, trivial⟩, trivial⟩ (lv' := [(5, aN 0), (4, aN 1), (0, aR 23 0), (1, aI d), (2, aI k), (3, aI m)]) (st' := [aL (Int64.ofNat 0)]) (w' := wd (upN N 23 0 0 2) L) (P := []) rfl (trivial) (pc' := 108) rfl ?_
            refine Sem.lret d124_108 rfl (by decide) (by decide) hzW ⟨_, _, _, rfl, rfl, ?_⟩
            have hcode : cPeg (N 37 0 0) (N 37 0 1) (N 23 0 20) d k m = 2 := by unfold cPeg; (repeat' split) <;> omega
            exact ⟨rfl, by rw [hcode], fun q => absurd (hcode.symm.trans q) (by decide)⟩
  case neg =>
    refine Sem.cSp1 (as := [aI d, aN 0, aI ((nI (N 37 0 0)) - (nI 1))]) (rst := []) (c' := 0) (s' := 0) d124_10 mk89 rfl co89 lk5_89 ss89 (show 3 ≤ mL 89 by decide) rfl (show 0 ≤ 8 by decide) (by decide) (by decide) rfl rfl (by decide) (by decide) (m89c (N) L d (N 37 0 0) (by omega)) ?_
    refine Sem.topNN (if_neg h1) ?_
    refine Sem.seg [(.istore 4, 0, 0), (.iload_n 2, 0, 0)] ⟨⟨d124_13, trivial⟩, ⟨d124_15, trivial⟩, trivial⟩ (lv' := [(4, aN 0), (0, aR 23 0), (1, aI d), (2, aI k), (3, aI m)]) (st' := [aI k]) (w' := wd N L) (P := []) rfl (trivial) (pc' := 16) rfl ?_
    refine Sem.ifc (tgt := 50) d124_16 (by decide) rfl (fun b51 => ?_) (fun b51 => ?_)
    · have b51_ : k.toInt = 0 := bT rfl rfl b51
      refine Sem.seg [(.iconst 1, 0, 0)] ⟨⟨d124_50, trivial⟩, trivial⟩ (lv' := [(4, aN 0), (0, aR 23 0), (1, aI d), (2, aI k), (3, aI m)]) (st' := [aN 1]) (w' := wd N L) (P := []) rfl (trivial) (pc' := 51) rfl ?_
      refine Sem.goto (tgt := 55) d124_51 (by decide) ?_
      refine Sem.seg [(.istore 5, 0, 0), (.aload_n 0, 0, 0), (.iload 4, 0, 0)] ⟨⟨d124_55, trivial⟩, ⟨d124_57, trivial⟩, ⟨d124_58, trivial⟩, trivial⟩ (lv' := [(5, aN 1), (4, aN 0), (0, aR 23 0), (1, aI d), (2, aI k), (3, aI m)]) (st' := [aN 0, aR 23 0]) (w' := wd N L) (P := []) rfl (trivial) (pc' := 60) rfl ?_
      refine Sem.ifN (tgt := 67) d124_60 (by decide) (by decide) (fun b52 => ?_) (fun b52 => ?_)
      · exact absurd (show ¬ 0 = 0 from b52) (by decide)
      refine Sem.seg [(.iconst 1, 0, 0)] ⟨⟨d124_63, trivial⟩, trivial⟩ (lv' := [(5, aN 1), (4, aN 0), (0, aR 23 0), (1, aI d), (2, aI k), (3, aI m)]) (st' := [aN 1, aR 23 0]) (w' := wd N L) (P := []) rfl (trivial) (pc' := 64) rfl ?_
      refine Sem.goto (tgt := 101) d124_64 (by decide) ?_
      refine Sem.cVp1 (t := 23) (i := 0) (as := [aN 1]) (rst := []) (c' := 0) (s' := 0) d124_101 mk91 rfl co91 lk5_97 im91 se91 rfl (vN (t := 23) (i := 0) (by decide)) (show 2 ≤ mL 91 by decide) rfl (show 0 ≤ 8 by decide) (by decide) (by decide) rfl rfl (by decide) (by decide) (m91 (N) L 1 (by decide)) ?_
      refine Sem.topNN (show (if 0 < 1 then 1 else 0) = 1 from rfl) ?_
      refine Sem.ifN (tgt := 109) d124_104 (by decide) (by decide) (fun b53 => ?_) (fun b53 => ?_)
      · exact absurd (show 1 = 0 from b53) (by decide)
      refine Sem.seg [(.lconst 0, 0, 0)] ⟨⟨d124_107, trivial⟩, trivial⟩ (lv' := [(5, aN 1), (4, aN 0), (0, aR 23 0), (1, aI d), (2, aI k), (3, aI m)]) (st' := [aL (Int64.ofNat 0)]) (w' := wd (upN N 23 0 0 1) L) (P := []) rfl (trivial) (pc' := 108) rfl ?_
      refine Sem.lret d124_108 rfl (by decide) (by decide) hzW ⟨_, _, _, rfl, rfl, ?_⟩
      have hcode : cPeg (N 37 0 0) (N 37 0 1) (N 23 0 20) d k m = 1 := by unfold cPeg; (repeat' split) <;> omega
      exact ⟨rfl, by rw [hcode], fun q => absurd (hcode.symm.trans q) (by decide)⟩
    · have b51_ : ¬ (k.toInt = 0) := bF rfl rfl b51
      refine Sem.seg [(.iload_n 2, 0, 0), (.iconst 1, 0, 0)] ⟨⟨d124_19, trivial⟩, ⟨d124_20, trivial⟩, trivial⟩ (lv' := [(4, aN 0), (0, aR 23 0), (1, aI d), (2, aI k), (3, aI m)]) (st' := [aN 1, aI k]) (w' := wd N L) (P := []) rfl (trivial) (pc' := 21) rfl ?_
      refine Sem.icmp (tgt := 43) d124_21 (by decide) rfl rfl (fun b54 => ?_) (fun b54 => ?_)
      · have b54_ : ¬ k.toInt = 1 := bT rfl (nI_toInt (by decide)) b54
        
        refine Sem.seg [(.iload_n 3, 0, 0)] ⟨⟨d124_43, trivial⟩, trivial⟩ (lv' := [(4, aN 0), (0, aR 23 0), (1, aI d), (2, aI k), (3, aI m)]) (st' := [aI m]) (w' := wd N L) (P := []) rfl (trivial) (pc' := 44) rfl ?_
        by_cases h55 : 0 ≤ m.toInt ∧ m.toInt < 12
        case pos =>
          refine Sem.cSp1 (as := [aI m]) (rst := []) (c' := 0) (s' := 0) d124_44 mk90 rfl co90 lk5_93 ss90 (show 1 ≤ mL 90 by decide) rfl (show 0 ≤ 8 by decide) (by decide) (by decide) rfl rfl (by decide) (by decide) (m90 (N) L m) ?_
          refine Sem.topNN (if_pos h55) ?_
          refine Sem.ifN (tgt := 54) d124_47 (by decide) (by decide) (fun b56 => ?_) (fun b56 => ?_)
          · exact absurd (show 1 = 0 from b56) (by decide)
          refine Sem.seg [(.iconst 1, 0, 0)] ⟨⟨d124_50, trivial⟩, trivial⟩ (lv' := [(4, aN 0), (0, aR 23 0), (1, aI d), (2, aI k), (3, aI m)]) (st' := [aN 1]) (w' := wd N L) (P := []) rfl (trivial) (pc' := 51) rfl ?_
          refine Sem.goto (tgt := 55) d124_51 (by decide) ?_
          refine Sem.seg [(.istore 5, 0, 0), (.aload_n 0, 0, 0), (.iload 4, 0, 0)] ⟨⟨d124_55, trivial⟩, ⟨d124_57, trivial⟩, ⟨d124_58, trivial⟩, trivial⟩ (lv' := [(5, aN 1), (4, aN 0), (0, aR 23 0), (1, aI d), (2, aI k), (3, aI m)]) (st' := [aN 0, aR 23 0]) (w' := wd N L) (P := []) rfl (trivial) (pc' := 60) rfl ?_
          refine Sem.ifN (tgt := 67) d124_60 (by decide) (by decide) (fun b57 => ?_) (fun b57 => ?_)
          · exact absurd (show ¬ 0 = 0 from b57) (by decide)
          refine Sem.seg [(.iconst 1, 0, 0)] ⟨⟨d124_63, trivial⟩, trivial⟩ (lv' := [(5, aN 1), (4, aN 0), (0, aR 23 0), (1, aI d), (2, aI k), (3, aI m)]) (st' := [aN 1, aR 23 0]) (w' := wd N L) (P := []) rfl (trivial) (pc' := 64) rfl ?_
          refine Sem.goto (tgt := 101) d124_64 (by decide) ?_
          refine Sem.cVp1 (t := 23) (i := 0) (as := [aN 1]) (rst := []) (c' := 0) (s' := 0) d124_101 mk91 rfl co91 lk5_97 im91 se91 rfl (vN (t := 23) (i := 0) (by decide)) (show 2 ≤ mL 91 by decide) rfl (show 0 ≤ 8 by decide) (by decide) (by decide) rfl rfl (by decide) (by decide) (m91 (N) L 1 (by decide)) ?_
          refine Sem.topNN (show (if 0 < 1 then 1 else 0) = 1 from rfl) ?_
          refine Sem.ifN (tgt := 109) d124_104 (by decide) (by decide) (fun b58 => ?_) (fun b58 => ?_)
          · exact absurd (show 1 = 0 from b58) (by decide)
          refine Sem.seg [(.lconst 0, 0, 0)] ⟨⟨d124_107, trivial⟩, trivial⟩ (lv' := [(5, aN 1), (4, aN 0), (0, aR 23 0), (1, aI d), (2, aI k), (3, aI m)]) (st' := [aL (Int64.ofNat 0)]) (w' := wd (upN N 23 0 0 1) L) (P := []) rfl (trivial) (pc' := 108) rfl ?_
          refine Sem.lret d124_108 rfl (by decide) (by decide) hzW ⟨_, _, _, rfl, rfl, ?_⟩
          have hcode : cPeg (N 37 0 0) (N 37 0 1) (N 23 0 20) d k m = 1 := by unfold cPeg; (repeat' split) <;> omega
          exact ⟨rfl, by rw [hcode], fun q => absurd (hcode.symm.trans q) (by decide)⟩
        case neg =>
          refine Sem.cSp1 (as := [aI m]) (rst := []) (c' := 0) (s' := 0) d124_44 mk90 rfl co90 lk5_93 ss90 (show 1 ≤ mL 90 by decide) rfl (show 0 ≤ 8 by decide) (by decide) (by decide) rfl rfl (by decide) (by decide) (m90 (N) L m) ?_
          refine Sem.topNN (if_neg h55) ?_
          refine Sem.ifN (tgt := 54) d124_47 (by decide) (by decide) (fun b59 => ?_) (fun b59 => ?_)
          rotate_left
          · exact absurd (show 0 = 0 from by decide) b59
          refine Sem.seg [(.iconst 0, 0, 0), (.istore 5, 0, 0), (.aload_n 0, 0, 0), (.iload 4, 0, 0)] ⟨⟨d124_54, trivial⟩, ⟨d124_55, trivial⟩, ⟨d124_57, trivial⟩, ⟨d124_58, trivial⟩, trivial⟩ (lv' := [(5, aN 0), (4, aN 0), (0, aR 23 0), (1, aI d), (2, aI k), (3, aI m)]) (st' := [aN 0, aR 23 0]) (w' := wd N L) (P := []) rfl (trivial) (pc' := 60) rfl ?_
          refine Sem.ifN (tgt := 67) d124_60 (by decide) (by decide) (fun b60 => ?_) (fun b60 => ?_)
          · exact absurd (show ¬ 0 = 0 from b60) (by decide)
          refine Sem.seg [(.iconst 1, 0, 0)] ⟨⟨d124_63, trivial⟩, trivial⟩ (lv' := [(5, aN 0), (4, aN 0), (0, aR 23 0), (1, aI d), (2, aI k), (3, aI m)]) (st' := [aN 1, aR 23 0]) (w' := wd N L) (P := []) rfl (trivial) (pc' := 64) rfl ?_
          refine Sem.goto (tgt := 101) d124_64 (by decide) ?_
          refine Sem.cVp1 (t := 23) (i := 0) (as := [aN 1]) (rst := []) (c' := 0) (s' := 0) d124_101 mk91 rfl co91 lk5_97 im91 se91 rfl (vN (t := 23) (i := 0) (by decide)) (show 2 ≤ mL 91 by decide) rfl (show 0 ≤ 8 by decide) (by decide) (by decide) rfl rfl (by decide) (by decide) (m91 (N) L 1 (by decide)) ?_
          refine Sem.topNN (show (if 0 < 1 then 1 else 0) = 1 from rfl) ?_
          refine Sem.ifN (tgt := 109) d124_104 (by decide) (by decide) (fun b61 => ?_) (fun b61 => ?_)
          · exact absurd (show 1 = 0 from b61) (by decide)
          refine Sem.seg [(.lconst 0, 0, 0)] ⟨⟨d124_107, trivial⟩, trivial⟩ (lv' := [(5, aN 0), (4, aN 0), (0, aR 23 0), (1, aI d), (2, aI k), (3, aI m)]) (st' := [aL (Int64.ofNat 0)]) (w' := wd (upN N 23 0 0 1) L) (P := []) rfl (trivial) (pc' := 108) rfl ?_
          refine Sem.lret d124_108 rfl (by decide) (by decide) hzW ⟨_, _, _, rfl, rfl, ?_⟩
          have hcode : cPeg (N 37 0 0) (N 37 0 1) (N 23 0 20) d k m = 1 := by unfold cPeg; (repeat' split) <;> omega
          exact ⟨rfl, by rw [hcode], fun q => absurd (hcode.symm.trans q) (by decide)⟩
      · have b54_ : ¬ (¬ k.toInt = 1) := bF rfl (nI_toInt (by decide)) b54
        
        refine Sem.seg [(.iload_n 3, 0, 0), (.iconst 0, 0, 0), (.aload_n 0, 0, 0), (.getfield 49, 5, 15), (.iconst 1, 0, 0), (.iaload, 0, 0), (.iconst 1, 0, 0), (.isub, 0, 0)] ⟨⟨d124_24, trivial⟩, ⟨d124_25, trivial⟩, ⟨d124_26, trivial⟩, ⟨d124_27, gf5_49⟩, ⟨d124_30, trivial⟩, ⟨d124_31, trivial⟩, ⟨d124_32, trivial⟩, ⟨d124_33, trivial⟩, trivial⟩ (lv' := [(4, aN 0), (0, aR 23 0), (1, aI d), (2, aI k), (3, aI m)]) (st' := [aI ((nI (N 37 0 1)) - (nI 1)), aN 0, aI m]) (w' := wd N L) (P := [vld NN 23 0, vld NN 37 0, 1 < 3]) rfl (⟨vN (t := 23) (i := 0) (by decide), vN (t := 37) (i := 0) (by decide), (by decide : (1 : Nat) < 3)⟩) (pc' := 34) rfl ?_
        by_cases h62 : 0 ≤ m.toInt ∧ m.toInt < (N 37 0 1 : Int)
        case pos =>
          refine Sem.cSp1 (as := [aI m, aN 0, aI ((nI (N 37 0 1)) - (nI 1))]) (rst := []) (c' := 0) (s' := 0) d124_34 mk89 rfl co89 lk5_89 ss89 (show 3 ≤ mL 89 by decide) rfl (show 0 ≤ 8 by decide) (by decide) (by decide) rfl rfl (by decide) (by decide) (m89c (N) L m (N 37 0 1) (by omega)) ?_
          refine Sem.topNN (if_pos h62) ?_
          refine Sem.ifN (tgt := 54) d124_37 (by decide) (by decide) (fun b63 => ?_) (fun b63 => ?_)
          · exact absurd (show 1 = 0 from b63) (by decide)
          refine Sem.goto (tgt := 50) d124_40 (by decide) ?_
          refine Sem.seg [(.iconst 1, 0, 0)] ⟨⟨d124_50, trivial⟩, trivial⟩ (lv' := [(4, aN 0), (0, aR 23 0), (1, aI d), (2, aI k), (3, aI m)]) (st' := [aN 1]) (w' := wd N L) (P := []) rfl (trivial) (pc' := 51) rfl ?_
          refine Sem.goto (tgt := 55) d124_51 (by decide) ?_
          refine Sem.seg [(.istore 5, 0, 0), (.aload_n 0, 0, 0), (.iload 4, 0, 0)] ⟨⟨d124_55, trivial⟩, ⟨d124_57, trivial⟩, ⟨d124_58, trivial⟩, trivial⟩ (lv' := [(5, aN 1), (4, aN 0), (0, aR 23 0), (1, aI d), (2, aI k), (3, aI m)]) (st' := [aN 0, aR 23 0]) (w' := wd N L) (P := []) rfl (trivial) (pc' := 60) rfl ?_
          refine Sem.ifN (tgt := 67) d124_60 (by decide) (by decide) (fun b64 => ?_) (fun b64 => ?_)
          · exact absurd (show ¬ 0 = 0 from b64) (by decide)
          refine Sem.seg [(.iconst 1, 0, 0)] ⟨⟨d124_63, trivial⟩, trivial⟩ (lv' := [(5, aN 1), (4, aN 0), (0, aR 23 0), (1, aI d), (2, aI k), (3, aI m)]) (st' := [aN 1, aR 23 0]) (w' := wd N L) (P := []) rfl (trivial) (pc' := 64) rfl ?_
          refine Sem.goto (tgt := 101) d124_64 (by decide) ?_
          refine Sem.cVp1 (t := 23) (i := 0) (as := [aN 1]) (rst := []) (c' := 0) (s' := 0) d124_101 mk91 rfl co91 lk5_97 im91 se91 rfl (vN (t := 23) (i := 0) (by decide)) (show 2 ≤ mL 91 by decide) rfl (show 0 ≤ 8 by decide) (by decide) (by decide) rfl rfl (by decide) (by decide) (m91 (N) L 1 (by decide)) ?_
          refine Sem.topNN (show (if 0 < 1 then 1 else 0) = 1 from rfl) ?_
          refine Sem.ifN (tgt := 109) d124_104 (by decide) (by decide) (fun b65 => ?_) (fun b65 => ?_)
          · exact absurd (show 1 = 0 from b65) (by decide)
          refine Sem.seg [(.lconst 0, 0, 0)] ⟨⟨d124_107, trivial⟩, trivial⟩ (lv' := [(5, aN 1), (4, aN 0), (0, aR 23 0), (1, aI d), (2, aI k), (3, aI m)]) (st' := [aL (Int64.ofNat 0)]) (w' := wd (upN N 23 0 0 1) L) (P := []) rfl (trivial) (pc' := 108) rfl ?_
          refine Sem.lret d124_108 rfl (by decide) (by decide) hzW ⟨_, _, _, rfl, rfl, ?_⟩
          have hcode : cPeg (N 37 0 0) (N 37 0 1) (N 23 0 20) d k m = 1 := by unfold cPeg; (repeat' split) <;> omega
          exact ⟨rfl, by rw [hcode], fun q => absurd (hcode.symm.trans q) (by decide)⟩
        case neg =>
          refine Sem.cSp1 (as := [aI m, aN 0, aI ((nI (N 37 0 1)) - (nI 1))]) (rst := []) (c' := 0) (s' := 0) d124_34 mk89 rfl co89 lk5_89 ss89 (show 3 ≤ mL 89 by decide) rfl (show 0 ≤ 8 by decide) (by decide) (by decide) rfl rfl (by decide) (by decide) (m89c (N) L m (N 37 0 1) (by omega)) ?_
          refine Sem.topNN (if_neg h62) ?_
          refine Sem.ifN (tgt := 54) d124_37 (by decide) (by decide) (fun b66 => ?_) (fun b66 => ?_)
          rotate_left
          · exact absurd (show 0 = 0 from by decide) b66
          refine Sem.seg [(.iconst 0, 0, 0), (.istore 5, 0, 0), (.aload_n 0, 0, 0), (.iload 4, 0, 0)] ⟨⟨d124_54, trivial⟩, ⟨d124_55, trivial⟩, ⟨d124_57, trivial⟩, ⟨d124_58, trivial⟩, trivial⟩ (lv' := [(5, aN 0), (4, aN 0), (0, aR 23 0), (1, aI d), (2, aI k), (3, aI m)]) (st' := [aN 0, aR 23 0]) (w' := wd N L) (P := []) rfl (trivial) (pc' := 60) rfl ?_
          refine Sem.ifN (tgt := 67) d124_60 (by decide) (by decide) (fun b67 => ?_) (fun b67 => ?_)
          · exact absurd (show ¬ 0 = 0 from b67) (by decide)
          refine Sem.seg [(.iconst 1, 0, 0)] ⟨⟨d124_63, trivial⟩, trivial⟩ (lv' := [(5, aN 0), (4, aN 0), (0, aR 23 0), (1, aI d), (2, aI k), (3, aI m)]) (st' := [aN 1, aR 23 0]) (w' := wd N L) (P := []) rfl (trivial) (pc' := 64) rfl ?_
          refine Sem.goto (tgt := 101) d124_64 (by decide) ?_
          refine Sem.cVp1 (t := 23) (i := 0) (as := [aN 1]) (rst := []) (c' := 0) (s' := 0) d124_101 mk91 rfl co91 lk5_97 im91 se91 rfl (vN (t := 23) (i := 0) (by decide)) (show 2 ≤ mL 91 by decide) rfl (show 0 ≤ 8 by decide) (by decide) (by decide) rfl rfl (by decide) (by decide) (m91 (N) L 1 (by decide)) ?_
          refine Sem.topNN (show (if 0 < 1 then 1 else 0) = 1 from rfl) ?_
          refine Sem.ifN (tgt := 109) d124_104 (by decide) (by decide) (fun b68 => ?_) (fun b68 => ?_)
          · exact absurd (show 1 = 0 from b68) (by decide)
          refine Sem.seg [(.lconst 0, 0, 0)] ⟨⟨d124_107, trivial⟩, trivial⟩ (lv' := [(5, aN 0), (4, aN 0), (0, aR 23 0), (1, aI d), (2, aI k), (3, aI m)]) (st' := [aL (Int64.ofNat 0)]) (w' := wd (upN N 23 0 0 1) L) (P := []) rfl (trivial) (pc' := 108) rfl ?_
          refine Sem.lret d124_108 rfl (by decide) (by decide) hzW ⟨_, _, _, rfl, rfl, ?_⟩
          have hcode : cPeg (N 37 0 0) (N 37 0 1) (N 23 0 20) d k m = 1 := by unfold cPeg; (repeat' split) <;> omega
          exact ⟨rfl, by rw [hcode], fun q => absurd (hcode.symm.trans q) (by decide)⟩

theorem m132 {sc : XT} (N : TN) (L : TL) (hc : CD (mN N)) : Sem sc 132 0 [(0, aR 23 0)] [] (wd N L) 0 0 (QP (some (aN (smN (shM N L) 12))) N L) := by
  refine Sem.seg [(.iconst 0, 0, 0), (.istore_n 1, 0, 0), (.iconst 0, 0, 0), (.istore_n 2, 0, 0)] ⟨⟨d132_0, trivial⟩, ⟨d132_1, trivial⟩, ⟨d132_2, trivial⟩, ⟨d132_3, trivial⟩, trivial⟩ (lv' := [(2, aN 0), (1, aN 0), (0, aR 23 0)]) (st' := []) (w' := wd N L) (P := []) rfl (trivial) (pc' := 4) rfl ?_
  have lpa : ∀ (d_ : Nat) (n c : Nat), 12 - n = d_ → (n ≤ 12) → (c = smN (shM N L) n) → Sem sc 132 4 [(0, aR 23 0), (1, aN c), (2, aN n)] [] (wd N L) 0 0 (QP (some (aN (smN (shM N L) 12))) N L) := by
    intro da
    induction da using Nat.strongRecOn with
    | ind da iha =>
      intro n c hda hn hca
      refine Sem.seg [(.iload_n 2, 0, 0), (.bipush 12, 0, 0)] ⟨⟨d132_4, trivial⟩, ⟨d132_5, trivial⟩, trivial⟩ (lv' := [(0, aR 23 0), (1, aN c), (2, aN n)]) (st' := [aN 12, aN n]) (w' := wd N L) (P := []) rfl (trivial) (pc' := 7) rfl ?_
      refine Sem.icmpN (tgt := 79) d132_7 (by decide) (show n < 2 ^ 31 by omega) (by decide) (fun b1 => ?_) (fun b1 => ?_)
      · have b1_ : 12 ≤ n := b1
        obtain rfl : n = 12 := by omega
        refine Sem.seg [(.iload_n 1, 0, 0)] ⟨⟨d132_79, trivial⟩, trivial⟩ (lv' := [(0, aR 23 0), (1, aN c), (2, aN 12)]) (st' := [aN c]) (w' := wd N L) (P := []) rfl (trivial) (pc' := 80) rfl ?_
        exact Sem.iret rfl d132_80 (Or.inl rfl) (by decide) (by decide) hzW ⟨congrArg (fun z => Sum.inl (some (aN z))) (show c = smN (shM N L) 12 by exact hca), rfl⟩
      · have b1_ : ¬ (12 ≤ n) := b1
        refine Sem.seg [(.iconst 0, 0, 0), (.istore_n 3, 0, 0), (.iconst 0, 0, 0), (.istore 4, 0, 0)] ⟨⟨d132_10, trivial⟩, ⟨d132_11, trivial⟩, ⟨d132_12, trivial⟩, ⟨d132_13, trivial⟩, trivial⟩ (lv' := [(4, aN 0), (3, aN 0), (0, aR 23 0), (1, aN c), (2, aN n)]) (st' := []) (w' := wd N L) (P := []) rfl (trivial) (pc' := 15) rfl ?_
        have lpb : ∀ (d_ : Nat) (w b : Nat), 12 - w = d_ → (w ≤ 12) → (b = bo (¬ ∀ v, v < w → ¬ bareF (mN N 19 n) (brF (mN N) n) (mW L 20 n) v + sm (mW L 21 n) (v + 1) < 0)) → Sem sc 132 15 [(0, aR 23 0), (1, aN c), (2, aN n), (3, aN b), (4, aN w)] [] (wd N L) 0 0 (QP (some (aN (smN (shM N L) 12))) N L) := by
          intro db
          induction db using Nat.strongRecOn with
          | ind db ihb =>
            intro w b hdb hw hb
            refine Sem.seg [(.iload 4, 0, 0), (.bipush 12, 0, 0)] ⟨⟨d132_15, trivial⟩, ⟨d132_17, trivial⟩, trivial⟩ (lv' := [(0, aR 23 0), (1, aN c), (2, aN n), (3, aN b), (4, aN w)]) (st' := [aN 12, aN w]) (w' := wd N L) (P := []) rfl (trivial) (pc' := 19) rfl ?_
            refine Sem.icmpN (tgt := 61) d132_19 (by decide) (show w < 2 ^ 31 by omega) (by decide) (fun b2 => ?_) (fun b2 => ?_)
            · have b2_ : 12 ≤ w := b2
              obtain rfl : w = 12 := by omega
              have hb1 := bo_le (¬ ∀ v, v < 12 → ¬ bareF (mN N 19 n) (brF (mN N) n) (mW L 20 n) v + sm (mW L 21 n) (v + 1) < 0)
              refine Sem.seg [(.iload_n 3, 0, 0)] ⟨⟨d132_61, trivial⟩, trivial⟩ (lv' := [(0, aR 23 0), (1, aN c), (2, aN n), (3, aN b), (4, aN 12)]) (st' := [aN b]) (w' := wd N L) (P := []) rfl (trivial) (pc' := 62) rfl ?_
              refine Sem.ifN (tgt := 71) d132_62 (by decide) (show b < 2 ^ 31 by omega) (fun b3 => ?_) (fun b3 => ?_)
              · have b3_ : b = 0 := b3
                refine Sem.seg [(.iload_n 1, 0, 0), (.istore_n 1, 0, 0), (.iinc 2 1, 0, 0)] ⟨⟨d132_71, trivial⟩, ⟨d132_72, trivial⟩, ⟨d132_73, trivial⟩, trivial⟩ (lv' := [(2, aN (n + 1)), (1, aN c), (0, aR 23 0), (3, aN b), (4, aN 12)]) (st' := []) (w' := wd N L) (P := []) rfl (trivial) (pc' := 76) rfl ?_
                refine Sem.goto (tgt := 4) d132_76 (by decide) ?_
                refine Sem.pick [2, 1, 0] (lv' := [(0, aR 23 0), (1, aN c), (2, aN (n + 1))]) rfl ?_
                exact iha _ (by omega) (n + 1) c rfl (by omega) (by simp only [smN]; rw [← hca]; show _ = c + bo (¬ ∀ w, w < 12 → ¬ bareF (mN N 19 n) (brF (mN N) n) (mW L 20 n) w + sm (mW L 21 n) (w + 1) < 0); rw [← hb]; omega)
              · have b3_ : ¬ (b = 0) := b3
                refine Sem.seg [(.iload_n 1, 0, 0), (.iconst 1, 0, 0), (.iadd, 0, 0)] ⟨⟨d132_65, trivial⟩, ⟨d132_66, trivial⟩, ⟨d132_67, trivial⟩, trivial⟩ (lv' := [(0, aR 23 0), (1, aN c), (2, aN n), (3, aN b), (4, aN 12)]) (st' := [aN (c + 1)]) (w' := wd N L) (P := []) rfl (trivial) (pc' := 68) rfl ?_
                refine Sem.goto (tgt := 72) d132_68 (by decide) ?_
                refine Sem.seg [(.istore_n 1, 0, 0), (.iinc 2 1, 0, 0)] ⟨⟨d132_72, trivial⟩, ⟨d132_73, trivial⟩, trivial⟩ (lv' := [(2, aN (n + 1)), (1, aN (c + 1)), (0, aR 23 0), (3, aN b), (4, aN 12)]) (st' := []) (w' := wd N L) (P := []) rfl (trivial) (pc' := 76) rfl ?_
                refine Sem.goto (tgt := 4) d132_76 (by decide) ?_
                refine Sem.pick [2, 1, 0] (lv' := [(0, aR 23 0), (1, aN (c + 1)), (2, aN (n + 1))]) rfl ?_
                exact iha _ (by omega) (n + 1) (c + 1) rfl (by omega) (by simp only [smN]; rw [← hca]; show _ = c + bo (¬ ∀ w, w < 12 → ¬ bareF (mN N 19 n) (brF (mN N) n) (mW L 20 n) w + sm (mW L 21 n) (w + 1) < 0); rw [← hb]; omega)
            · have b2_ : ¬ (12 ≤ w) := b2
              have hb1 := bo_le (¬ ∀ v, v < w → ¬ bareF (mN N 19 n) (brF (mN N) n) (mW L 20 n) v + sm (mW L 21 n) (v + 1) < 0)
              refine Sem.seg [(.iload_n 3, 0, 0)] ⟨⟨d132_22, trivial⟩, trivial⟩ (lv' := [(0, aR 23 0), (1, aN c), (2, aN n), (3, aN b), (4, aN w)]) (st' := [aN b]) (w' := wd N L) (P := []) rfl (trivial) (pc' := 23) rfl ?_
              refine Sem.ifN (tgt := 49) d132_23 (by decide) (show b < 2 ^ 31 by omega) (fun b4 => ?_) (fun b4 => ?_)
              · have b4_ : ¬ b = 0 := b4
                refine Sem.seg [(.iconst 1, 0, 0)] ⟨⟨d132_49, trivial⟩, trivial⟩ (lv' := [(0, aR 23 0), (1, aN c), (2, aN n), (3, aN b), (4, aN w)]) (st' := [aN 1]) (w' := wd N L) (P := []) rfl (trivial) (pc' := 50) rfl ?_
                refine Sem.goto (tgt := 54) d132_50 (by decide) ?_
                refine Sem.seg [(.istore_n 3, 0, 0), (.iinc 4 1, 0, 0)] ⟨⟨d132_54, trivial⟩, ⟨d132_55, trivial⟩, trivial⟩ (lv' := [(4, aN (w + 1)), (3, aN 1), (0, aR 23 0), (1, aN c), (2, aN n)]) (st' := []) (w' := wd N L) (P := []) rfl (trivial) (pc' := 58) rfl ?_
                refine Sem.goto (tgt := 15) d132_58 (by decide) ?_
                refine Sem.pick [2, 3, 4, 1, 0] (lv' := [(0, aR 23 0), (1, aN c), (2, aN n), (3, aN 1), (4, aN (w + 1))]) rfl ?_
                exact ihb _ (by omega) (w + 1) 1 rfl (by omega) ((bo_t (fun q => by first | exact (Classical.byContradiction fun z => (by assumption : ¬ b = 0) (hb.trans (bo_f z))) (fun v h => q v (by omega)) | exact absurd (Int64.not_le.mp (by assumption)) (q w (by omega)))).symm)
              · have b4_ : ¬ (¬ b = 0) := b4
                refine Sem.seg [(.aload_n 0, 0, 0), (.iload_n 2, 0, 0), (.iload 4, 0, 0)] ⟨⟨d132_26, trivial⟩, ⟨d132_27, trivial⟩, ⟨d132_28, trivial⟩, trivial⟩ (lv' := [(0, aR 23 0), (1, aN c), (2, aN n), (3, aN b), (4, aN w)]) (st' := [aN w, aN n, aR 23 0]) (w' := wd N L) (P := []) rfl (trivial) (pc' := 30) rfl ?_
                refine Sem.cVp1 (t := 23) (i := 0) (as := [aN n, aN w]) (rst := []) (c' := 0) (s' := 0) d132_30 mk112 rfl co112 lk5_143 im112 se112 rfl (vN (t := 23) (i := 0) (by decide)) (show 3 ≤ mL 112 by decide) rfl (show 0 ≤ 8 by decide) (by decide) (by decide) rfl rfl (by decide) (by decide) (m112 N L n w (by omega) (by omega) hc) ?_
                refine Sem.seg [(.aload_n 0, 0, 0), (.getfield 73, 5, 23), (.iload_n 2, 0, 0), (.iload 4, 0, 0)] ⟨⟨d132_33, trivial⟩, ⟨d132_34, gf5_73⟩, ⟨d132_37, trivial⟩, ⟨d132_38, trivial⟩, trivial⟩ (lv' := [(0, aR 23 0), (1, aN c), (2, aN n), (3, aN b), (4, aN w)]) (st' := [aN w, aN n, aR 43 0, aL (bareF (mN N 19 n) (brF (mN N) n) (mW L 20 n) w)]) (w' := wd N L) (P := [vld NN 23 0]) rfl (vN (t := 23) (i := 0) (by decide)) (pc' := 40) rfl ?_
                refine Sem.cSp1 (as := [aR 43 0, aN n, aN w]) (rst := [aL (bareF (mN N 19 n) (brF (mN N) n) (mW L 20 n) w)]) (c' := 0) (s' := 0) d132_40 mk113 rfl co113 lk5_131 ss113 (show 3 ≤ mL 113 by decide) rfl (show 2 ≤ 8 by decide) (by decide) (by decide) rfl rfl (by decide) (by decide) (m113_43 N L n w (by omega) (by omega)) ?_
                refine Sem.seg [(.ladd, 0, 0), (.lconst 0, 0, 0)] ⟨⟨d132_43, trivial⟩, ⟨d132_44, trivial⟩, trivial⟩ (lv' := [(0, aR 23 0), (1, aN c), (2, aN n), (3, aN b), (4, aN w)]) (st' := [aL (Int64.ofNat 0), aL ((bareF (mN N 19 n) (brF (mN N) n) (mW L 20 n) w) + (sm (mW L 21 n) (w + 1)))]) (w' := wd N L) (P := []) rfl (trivial) (pc' := 45) rfl ?_
                refine Sem.lcmp (tgt := 53) d132_45 d132_46 (by decide) (fun b5 => ?_) (fun b5 => ?_)
                · have b5_ : Int64.ofNat 0 ≤ (bareF (mN N 19 n) (brF (mN N) n) (mW L 20 n) w) + (sm (mW L 21 n) (w + 1)) := b5
                  refine Sem.seg [(.iconst 0, 0, 0), (.istore_n 3, 0, 0), (.iinc 4 1, 0, 0)] ⟨⟨d132_53, trivial⟩, ⟨d132_54, trivial⟩, ⟨d132_55, trivial⟩, trivial⟩ (lv' := [(4, aN (w + 1)), (3, aN 0), (0, aR 23 0), (1, aN c), (2, aN n)]) (st' := []) (w' := wd N L) (P := []) rfl (trivial) (pc' := 58) rfl ?_
                  refine Sem.goto (tgt := 15) d132_58 (by decide) ?_
                  refine Sem.pick [2, 3, 4, 1, 0] (lv' := [(0, aR 23 0), (1, aN c), (2, aN n), (3, aN 0), (4, aN (w + 1))]) rfl ?_
                  exact ihb _ (by omega) (w + 1) 0 rfl (by omega) ((bo_f (fun q => q (all_s (Classical.byContradiction fun z => absurd (hb.trans (bo_t z)) (by omega)) (Int64.not_lt.mpr (by assumption))))).symm)
                · have b5_ : ¬ (Int64.ofNat 0 ≤ (bareF (mN N 19 n) (brF (mN N) n) (mW L 20 n) w) + (sm (mW L 21 n) (w + 1))) := b5
                  refine Sem.seg [(.iconst 1, 0, 0)] ⟨⟨d132_49, trivial⟩, trivial⟩ (lv' := [(0, aR 23 0), (1, aN c), (2, aN n), (3, aN b), (4, aN w)]) (st' := [aN 1]) (w' := wd N L) (P := []) rfl (trivial) (pc' := 50) rfl ?_
                  refine Sem.goto (tgt := 54) d132_50 (by decide) ?_
                  refine Sem.seg [(.istore_n 3, 0, 0), (.iinc 4 1, 0, 0)] ⟨⟨d132_54, trivial⟩, ⟨d132_55, trivial⟩, trivial⟩ (lv' := [(4, aN (w + 1)), (3, aN 1), (0, aR 23 0), (1, aN c), (2, aN n)]) (st' := []) (w' := wd N L) (P := []) rfl (trivial) (pc' := 58) rfl ?_
                  refine Sem.goto (tgt := 15) d132_58 (by decide) ?_
                  refine Sem.pick [2, 3, 4, 1, 0] (lv' := [(0, aR 23 0), (1, aN c), (2, aN n), (3, aN 1), (4, aN (w + 1))]) rfl ?_
                  exact ihb _ (by omega) (w + 1) 1 rfl (by omega) ((bo_t (fun q => by first | exact (Classical.byContradiction fun z => (by assumption : ¬ b = 0) (hb.trans (bo_f z))) (fun v h => q v (by omega)) | exact absurd (Int64.not_le.mp (by assumption)) (q w (by omega)))).symm)
        refine Sem.pick [2, 3, 4, 1, 0] (lv' := [(0, aR 23 0), (1, aN c), (2, aN n), (3, aN 0), (4, aN 0)]) rfl ?_
        exact lpb _ 0 0 rfl (by omega) ((bo_f (fun q => q (fun v h => absurd h (by omega)))).symm)
  refine Sem.pick [2, 1, 0] (lv' := [(0, aR 23 0), (1, aN 0), (2, aN 0)]) rfl ?_
  exact lpa _ 0 0 rfl (by omega) (rfl)

theorem m131 {sc : XT} (N : TN) (L : TL) (x : Int32) (h20 : N 23 0 20 ≤ 1) (hc : CD (mN N)) : Sem sc 131 0 [(0, aR 23 0), (1, aI x)] [] (wd N L) 0 0 (QI fun y N' L' => L = L' ∧ N' = upN N 23 0 0 (cCount (N 23 0 20) x) ∧ (cCount (N 23 0 20) x = 0 → y = vCountM N L x)) := by
  refine Sem.seg [(.aload_n 0, 0, 0), (.iload_n 1, 0, 0), (.iconst 4, 0, 0)] ⟨⟨d131_0, trivial⟩, ⟨d131_1, trivial⟩, ⟨d131_2, trivial⟩, trivial⟩ (lv' := [(0, aR 23 0), (1, aI x)]) (st' := [aN 4, aI x, aR 23 0]) (w' := wd N L) (P := []) rfl (trivial) (pc' := 3) rfl ?_
  refine Sem.icmp (tgt := 17) d131_3 (by decide) rfl rfl (fun b1 => ?_) (fun b1 => ?_)
  · have b1_ : ¬ x.toInt = 4 := bT rfl (nI_toInt (by decide)) b1
    refine Sem.seg [(.iconst 0, 0, 0)] ⟨⟨d131_17, trivial⟩, trivial⟩ (lv' := [(0, aR 23 0), (1, aI x)]) (st' := [aN 0, aR 23 0]) (w' := wd N L) (P := []) rfl (trivial) (pc' := 18) rfl ?_
    refine Sem.cVp1 (t := 23) (i := 0) (as := [aN 0]) (rst := []) (c' := 0) (s' := 0) d131_18 mk91 rfl co91 lk5_97 im91 se91 rfl (vN (t := 23) (i := 0) (by decide)) (show 2 ≤ mL 91 by decide) rfl (show 0 ≤ 8 by decide) (by decide) (by decide) rfl rfl (by decide) (by decide) (m91 (N) L 0 (by decide)) ?_
    refine Sem.topNN (show (if 0 < 0 then 1 else 0) = 0 from rfl) ?_
    refine Sem.ifN (tgt := 26) d131_21 (by decide) (by decide) (fun b2 => ?_) (fun b2 => ?_)
    rotate_left
    · exact absurd (show 0 = 0 from by decide) b2
    refine Sem.seg [(.iload_n 1, 0, 0)] ⟨⟨d131_26, trivial⟩, trivial⟩ (lv' := [(0, aR 23 0), (1, aI x)]) (st' := [aI x]) (w' := wd (upN N 23 0 0 0) L) (P := []) rfl (trivial) (pc' := 27) rfl ?_
    by_cases e0 : x.toInt = 0
    case pos =>
      refine Sem.tabIn rfl d131_27 (by omega) (by omega) (off := 37) (by rw [e0]; rfl) (tgt := 64) (by decide) ?_
      refine Sem.seg [(.aload_n 0, 0, 0), (.getfield 109, 5, 14)] ⟨⟨d131_64, trivial⟩, ⟨d131_65, gf5_109⟩, trivial⟩ (lv' := [(0, aR 23 0), (1, aI x)]) (st' := [aN (N 23 0 14)]) (w' := wd (upN N 23 0 0 0) L) (P := [vld NN 23 0]) rfl (vN (t := 23) (i := 0) (by decide)) (pc' := 68) rfl ?_
      refine Sem.topNI rfl ?_
      refine Sem.iret rfl d131_68 (Or.inl rfl) (by decide) (by decide) hzW ⟨_, _, _, rfl, rfl, ?_⟩
      have hcode : cCount (N 23 0 20) x = 0 := by unfold cCount; (repeat' split) <;> omega
      refine ⟨rfl, by rw [hcode], fun _ => ?_⟩
      first
      | (exfalso; omega)
      | (unfold vCountM
         simp only [*]
         first | done | rfl | (rw [show N 23 0 20 = 1 by omega]; rfl))
    case neg =>
      by_cases e1 : x.toInt = 1
      case pos =>
        refine Sem.tabIn rfl d131_27 (by omega) (by omega) (off := 42) (by rw [e1]; rfl) (tgt := 69) (by decide) ?_
        refine Sem.seg [(.aload_n 0, 0, 0), (.getfield 49, 5, 15), (.iconst 0, 0, 0), (.iaload, 0, 0)] ⟨⟨d131_69, trivial⟩, ⟨d131_70, gf5_49⟩, ⟨d131_73, trivial⟩, ⟨d131_74, trivial⟩, trivial⟩ (lv' := [(0, aR 23 0), (1, aI x)]) (st' := [aN (N 37 0 0)]) (w' := wd (upN N 23 0 0 0) L) (P := [vld NN 23 0, vld NN 37 0, 0 < 3]) rfl (⟨vN (t := 23) (i := 0) (by decide), vN (t := 37) (i := 0) (by decide), (by decide : (0 : Nat) < 3)⟩) (pc' := 75) rfl ?_
        refine Sem.topNI rfl ?_
        refine Sem.iret rfl d131_75 (Or.inl rfl) (by decide) (by decide) hzW ⟨_, _, _, rfl, rfl, ?_⟩
        have hcode : cCount (N 23 0 20) x = 0 := by unfold cCount; (repeat' split) <;> omega
        refine ⟨rfl, by rw [hcode], fun _ => ?_⟩
        first
        | (exfalso; omega)
        | (unfold vCountM
           simp only [*]
           first | done | rfl | (rw [show N 23 0 20 = 1 by omega]; rfl))
      case neg =>
        by_cases e2 : x.toInt = 2
        case pos =>
          refine Sem.tabIn rfl d131_27 (by omega) (by omega) (off := 49) (by rw [e2]; rfl) (tgt := 76) (by decide) ?_
          refine Sem.seg [(.aload_n 0, 0, 0), (.getfield 49, 5, 15), (.iconst 1, 0, 0), (.iaload, 0, 0)] ⟨⟨d131_76, trivial⟩, ⟨d131_77, gf5_49⟩, ⟨d131_80, trivial⟩, ⟨d131_81, trivial⟩, trivial⟩ (lv' := [(0, aR 23 0), (1, aI x)]) (st' := [aN (N 37 0 1)]) (w' := wd (upN N 23 0 0 0) L) (P := [vld NN 23 0, vld NN 37 0, 1 < 3]) rfl (⟨vN (t := 23) (i := 0) (by decide), vN (t := 37) (i := 0) (by decide), (by decide : (1 : Nat) < 3)⟩) (pc' := 82) rfl ?_
          refine Sem.topNI rfl ?_
          refine Sem.iret rfl d131_82 (Or.inl rfl) (by decide) (by decide) hzW ⟨_, _, _, rfl, rfl, ?_⟩
          have hcode : cCount (N 23 0 20) x = 0 := by unfold cCount; (repeat' split) <;> omega
          refine ⟨rfl, by rw [hcode], fun _ => ?_⟩
          first
          | (exfalso; omega)
          | (unfold vCountM
             simp only [*]
             first | done | rfl | (rw [show N 23 0 20 = 1 by omega]; rfl))
        case neg =>
          by_cases e3 : x.toInt = 3
          case pos =>
            refine Sem.tabIn rfl d131_27 (by omega) (by omega) (off := 56) (by rw [e3]; rfl) (tgt := 83) (by decide) ?_
            refine Sem.seg [(.aload_n 0, 0, 0), (.getfield 49, 5, 15), (.iconst 2, 0, 0), (.iaload, 0, 0)] ⟨⟨d131_83, trivial⟩, ⟨d131_84, gf5_49⟩, ⟨d131_87, trivial⟩, ⟨d131_88, trivial⟩, trivial⟩ (lv' := [(0, aR 23 0), (1, aI x)]) (st' := [aN (N 37 0 2)]) (w' := wd (upN N 23 0 0 0) L) (P := [vld NN 23 0, vld NN 37 0, 2 < 3]) rfl (⟨vN (t := 23) (i := 0) (by decide), vN (t := 37) (i := 0) (by decide), (by decide : (2 : Nat) < 3)⟩) (pc' := 89) rfl ?_
            refine Sem.topNI rfl ?_
            refine Sem.iret rfl d131_89 (Or.inl rfl) (by decide) (by decide) hzW ⟨_, _, _, rfl, rfl, ?_⟩
            have hcode : cCount (N 23 0 20) x = 0 := by unfold cCount; (repeat' split) <;> omega
            refine ⟨rfl, by rw [hcode], fun _ => ?_⟩
            first
            | (exfalso; omega)
            | (unfold vCountM
               simp only [*]
               first | done | rfl | (rw [show N 23 0 20 = 1 by omega]; rfl))
          case neg =>
            by_cases e4 : x.toInt = 4
            case pos =>
              refine Sem.tabIn rfl d131_27 (by omega) (by omega) (off := 63) (by rw [e4]; rfl) (tgt := 90) (by decide) ?_
              refine Sem.seg [(.aload_n 0, 0, 0)] ⟨⟨d131_90, trivial⟩, trivial⟩ (lv' := [(0, aR 23 0), (1, aI x)]) (st' := [aR 23 0]) (w' := wd (upN N 23 0 0 0) L) (P := []) rfl (trivial) (pc' := 91) rfl ?_
              refine Sem.cVp1 (t := 23) (i := 0) (as := []) (rst := []) (c' := 0) (s' := 0) d131_91 mk132 rfl co132 lk5_189 im132 se132 rfl (vN (t := 23) (i := 0) (by decide)) (show 1 ≤ mL 132 by decide) rfl (show 0 ≤ 8 by decide) (by decide) (by decide) rfl rfl (by decide) (by decide) (m132 (upN N 23 0 0 0) L hc) ?_
              refine Sem.topNI rfl ?_
              refine Sem.iret rfl d131_94 (Or.inl rfl) (by decide) (by decide) hzW ⟨_, _, _, rfl, rfl, ?_⟩
              have hcode : cCount (N 23 0 20) x = 0 := by unfold cCount; (repeat' split) <;> omega
              refine ⟨rfl, by rw [hcode], fun _ => ?_⟩
              first
              | (exfalso; omega)
              | (unfold vCountM
                 simp only [*]
                 first | done | rfl | (rw [show N 23 0 20 = 1 by omega]; rfl))
            case neg =>
              by_cases e5 : x.toInt = 5
              case pos =>
                refine Sem.tabIn rfl d131_27 (by omega) (by omega) (off := 68) (by rw [e5]; rfl) (tgt := 95) (by decide) ?_
                refine Sem.seg [(.aload_n 0, 0, 0), (.getfield 61, 5, 20)] ⟨⟨d131_95, trivial⟩, ⟨d131_96, gf5_61⟩, trivial⟩ (lv' := [(0, aR 23 0), (1, aI x)]) (st' := [aN (N 23 0 20)]) (w' := wd (upN N 23 0 0 0) L) (P := [vld NN 23 0]) rfl (vN (t := 23) (i := 0) (by decide)) (pc' := 99) rfl ?_
                refine Sem.ifN (tgt := 106) d131_99 (by decide) (show N 23 0 20 < 2 ^ 31 by omega) (fun b3 => ?_) (fun b3 => ?_)
                · have b3_ : N 23 0 20 = 0 := b3
                  refine Sem.seg [(.iconst 0, 0, 0)] ⟨⟨d131_106, trivial⟩, trivial⟩ (lv' := [(0, aR 23 0), (1, aI x)]) (st' := [aN 0]) (w' := wd (upN N 23 0 0 0) L) (P := []) rfl (trivial) (pc' := 107) rfl ?_
                  refine Sem.topNI rfl ?_
                  refine Sem.iret rfl d131_107 (Or.inl rfl) (by decide) (by decide) hzW ⟨_, _, _, rfl, rfl, ?_⟩
                  have hcode : cCount (N 23 0 20) x = 0 := by unfold cCount; (repeat' split) <;> omega
                  refine ⟨rfl, by rw [hcode], fun _ => ?_⟩
                  first
                  | (exfalso; omega)
                  | (unfold vCountM
                     simp only [*]
                     first | done | rfl | (rw [show N 23 0 20 = 1 by omega]; rfl))
                · have b3_ : ¬ (N 23 0 20 = 0) := b3
                  refine Sem.seg [(.iconst 1, 0, 0)] ⟨⟨d131_102, trivial⟩, trivial⟩ (lv' := [(0, aR 23 0), (1, aI x)]) (st' := [aN 1]) (w' := wd (upN N 23 0 0 0) L) (P := []) rfl (trivial) (pc' := 103) rfl ?_
                  refine Sem.goto (tgt := 107) d131_103 (by decide) ?_
                  refine Sem.topNI rfl ?_
                  refine Sem.iret rfl d131_107 (Or.inl rfl) (by decide) (by decide) hzW ⟨_, _, _, rfl, rfl, ?_⟩
                  have hcode : cCount (N 23 0 20) x = 0 := by unfold cCount; (repeat' split) <;> omega
                  refine ⟨rfl, by rw [hcode], fun _ => ?_⟩
                  first
                  | (exfalso; omega)
                  | (unfold vCountM
                     simp only [*]
                     first | done | rfl | (rw [show N 23 0 20 = 1 by omega]; rfl))
              case neg =>
                refine Sem.tabOut rfl d131_27 (by omega) (tgt := 108) (by decide) ?_
                refine Sem.seg [(.iconst (-1), 0, 0)] ⟨⟨d131_108, trivial⟩, trivial⟩ (lv' := [(0, aR 23 0), (1, aI x)]) (st' := [aI (Int32.ofInt (-1))]) (w' := wd (upN N 23 0 0 0) L) (P := []) rfl (trivial) (pc' := 109) rfl ?_
                refine Sem.iret rfl d131_109 (Or.inl rfl) (by decide) (by decide) hzW ⟨_, _, _, rfl, rfl, ?_⟩
                have hcode : cCount (N 23 0 20) x = 0 := by unfold cCount; (repeat' split) <;> omega
                refine ⟨rfl, by rw [hcode], fun _ => ?_⟩
                first
                | (exfalso; omega)
                | (unfold vCountM
                   simp only [*]
                   first | done | rfl | (rw [show N 23 0 20 = 1 by omega]; rfl))
  · have b1_ : ¬ (¬ x.toInt = 4) := bF rfl (nI_toInt (by decide)) b1
    refine Sem.seg [(.aload_n 0, 0, 0), (.getfield 61, 5, 20)] ⟨⟨d131_6, trivial⟩, ⟨d131_7, gf5_61⟩, trivial⟩ (lv' := [(0, aR 23 0), (1, aI x)]) (st' := [aN (N 23 0 20), aR 23 0]) (w' := wd N L) (P := [vld NN 23 0]) rfl (vN (t := 23) (i := 0) (by decide)) (pc' := 10) rfl ?_
    refine Sem.ifN (tgt := 17) d131_10 (by decide) (show N 23 0 20 < 2 ^ 31 by omega) (fun b4 => ?_) (fun b4 => ?_)
    · have b4_ : N 23 0 20 = 0 := b4
      refine Sem.seg [(.iconst 0, 0, 0)] ⟨⟨d131_17, trivial⟩, trivial⟩ (lv' := [(0, aR 23 0), (1, aI x)]) (st' := [aN 0, aR 23 0]) (w' := wd N L) (P := []) rfl (trivial) (pc' := 18) rfl ?_
      refine Sem.cVp1 (t := 23) (i := 0) (as := [aN 0]) (rst := []) (c' := 0) (s' := 0) d131_18 mk91 rfl co91 lk5_97 im91 se91 rfl (vN (t := 23) (i := 0) (by decide)) (show 2 ≤ mL 91 by decide) rfl (show 0 ≤ 8 by decide) (by decide) (by decide) rfl rfl (by decide) (by decide) (m91 (N) L 0 (by decide)) ?_
      refine Sem.topNN (show (if 0 < 0 then 1 else 0) = 0 from rfl) ?_
      refine Sem.ifN (tgt := 26) d131_21 (by decide) (by decide) (fun b5 => ?_) (fun b5 => ?_)
      rotate_left
      · exact absurd (show 0 = 0 from by decide) b5
      refine Sem.seg [(.iload_n 1, 0, 0)] ⟨⟨d131_26, trivial⟩, trivial⟩ (lv' := [(0, aR 23 0), (1, aI x)]) (st' := [aI x]) (w' := wd (upN N 23 0 0 0) L) (P := []) rfl (trivial) (pc' := 27) rfl ?_
      by_cases e0 : x.toInt = 0
      case pos =>
        refine Sem.tabIn rfl d131_27 (by omega) (by omega) (off := 37) (by rw [e0]; rfl) (tgt := 64) (by decide) ?_
        refine Sem.seg [(.aload_n 0, 0, 0), (.getfield 109, 5, 14)] ⟨⟨d131_64, trivial⟩, ⟨d131_65, gf5_109⟩, trivial⟩ (lv' := [(0, aR 23 0), (1, aI x)]) (st' := [aN (N 23 0 14)]) (w' := wd (upN N 23 0 0 0) L) (P := [vld NN 23 0]) rfl (vN (t := 23) (i := 0) (by decide)) (pc' := 68) rfl ?_
        refine Sem.topNI rfl ?_
        refine Sem.iret rfl d131_68 (Or.inl rfl) (by decide) (by decide) hzW ⟨_, _, _, rfl, rfl, ?_⟩
        have hcode : cCount (N 23 0 20) x = 0 := by unfold cCount; (repeat' split) <;> omega
        refine ⟨rfl, by rw [hcode], fun _ => ?_⟩
        first
        | (exfalso; omega)
        | (unfold vCountM
           simp only [*]
           first | done | rfl | (rw [show N 23 0 20 = 1 by omega]; rfl))
      case neg =>
        by_cases e1 : x.toInt = 1
        case pos =>
          refine Sem.tabIn rfl d131_27 (by omega) (by omega) (off := 42) (by rw [e1]; rfl) (tgt := 69) (by decide) ?_
          refine Sem.seg [(.aload_n 0, 0, 0), (.getfield 49, 5, 15), (.iconst 0, 0, 0), (.iaload, 0, 0)] ⟨⟨d131_69, trivial⟩, ⟨d131_70, gf5_49⟩, ⟨d131_73, trivial⟩, ⟨d131_74, trivial⟩, trivial⟩ (lv' := [(0, aR 23 0), (1, aI x)]) (st' := [aN (N 37 0 0)]) (w' := wd (upN N 23 0 0 0) L) (P := [vld NN 23 0, vld NN 37 0, 0 < 3]) rfl (⟨vN (t := 23) (i := 0) (by decide), vN (t := 37) (i := 0) (by decide), (by decide : (0 : Nat) < 3)⟩) (pc' := 75) rfl ?_
          refine Sem.topNI rfl ?_
          refine Sem.iret rfl d131_75 (Or.inl rfl) (by decide) (by decide) hzW ⟨_, _, _, rfl, rfl, ?_⟩
          have hcode : cCount (N 23 0 20) x = 0 := by unfold cCount; (repeat' split) <;> omega
          refine ⟨rfl, by rw [hcode], fun _ => ?_⟩
          first
          | (exfalso; omega)
          | (unfold vCountM
             simp only [*]
             first | done | rfl | (rw [show N 23 0 20 = 1 by omega]; rfl))
        case neg =>
          by_cases e2 : x.toInt = 2
          case pos =>
            refine Sem.tabIn rfl d131_27 (by omega) (by omega) (off := 49) (by rw [e2]; rfl) (tgt := 76) (by decide) ?_
            refine Sem.seg [(.aload_n 0, 0, 0), (.getfield 49, 5, 15), (.iconst 1, 0, 0), (.iaload, 0, 0)] ⟨⟨d131_76, trivial⟩, ⟨d131_77, gf5_49⟩, ⟨d131_80, trivial⟩, ⟨d131_81, trivial⟩, trivial⟩ (lv' := [(0, aR 23 0), (1, aI x)]) (st' := [aN (N 37 0 1)]) (w' := wd (upN N 23 0 0 0) L) (P := [vld NN 23 0, vld NN 37 0, 1 < 3]) rfl (⟨vN (t := 23) (i := 0) (by decide), vN (t := 37) (i := 0) (by decide), (by decide : (1 : Nat) < 3)⟩) (pc' := 82) rfl ?_
            refine Sem.topNI rfl ?_
            refine Sem.iret rfl d131_82 (Or.inl rfl) (by decide) (by decide) hzW ⟨_, _, _, rfl, rfl, ?_⟩
            have hcode : cCount (N 23 0 20) x = 0 := by unfold cCount; (repeat' split) <;> omega
            refine ⟨rfl, by rw [hcode], fun _ => ?_⟩
            first
            | (exfalso; omega)
            | (unfold vCountM
               simp only [*]
               first | done | rfl | (rw [show N 23 0 20 = 1 by omega]; rfl))
          case neg =>
            by_cases e3 : x.toInt = 3
            case pos =>
              refine Sem.tabIn rfl d131_27 (by omega) (by omega) (off := 56) (by rw [e3]; rfl) (tgt := 83) (by decide) ?_
              refine Sem.seg [(.aload_n 0, 0, 0), (.getfield 49, 5, 15), (.iconst 2, 0, 0), (.iaload, 0, 0)] ⟨⟨d131_83, trivial⟩, ⟨d131_84, gf5_49⟩, ⟨d131_87, trivial⟩, ⟨d131_88, trivial⟩, trivial⟩ (lv' := [(0, aR 23 0), (1, aI x)]) (st' := [aN (N 37 0 2)]) (w' := wd (upN N 23 0 0 0) L) (P := [vld NN 23 0, vld NN 37 0, 2 < 3]) rfl (⟨vN (t := 23) (i := 0) (by decide), vN (t := 37) (i := 0) (by decide), (by decide : (2 : Nat) < 3)⟩) (pc' := 89) rfl ?_
              refine Sem.topNI rfl ?_
              refine Sem.iret rfl d131_89 (Or.inl rfl) (by decide) (by decide) hzW ⟨_, _, _, rfl, rfl, ?_⟩
              have hcode : cCount (N 23 0 20) x = 0 := by unfold cCount; (repeat' split) <;> omega
              refine ⟨rfl, by rw [hcode], fun _ => ?_⟩
              first
              | (exfalso; omega)
              | (unfold vCountM
                 simp only [*]
                 first | done | rfl | (rw [show N 23 0 20 = 1 by omega]; rfl))
            case neg =>
              by_cases e4 : x.toInt = 4
              case pos =>
                refine Sem.tabIn rfl d131_27 (by omega) (by omega) (off := 63) (by rw [e4]; rfl) (tgt := 90) (by decide) ?_
                refine Sem.seg [(.aload_n 0, 0, 0)] ⟨⟨d131_90, trivial⟩, trivial⟩ (lv' := [(0, aR 23 0), (1, aI x)]) (st' := [aR 23 0]) (w' := wd (upN N 23 0 0 0) L) (P := []) rfl (trivial) (pc' := 91) rfl ?_
                refine Sem.cVp1 (t := 23) (i := 0) (as := []) (rst := []) (c' := 0) (s' := 0) d131_91 mk132 rfl co132 lk5_189 im132 se132 rfl (vN (t := 23) (i := 0) (by decide)) (show 1 ≤ mL 132 by decide) rfl (show 0 ≤ 8 by decide) (by decide) (by decide) rfl rfl (by decide) (by decide) (m132 (upN N 23 0 0 0) L hc) ?_
                refine Sem.topNI rfl ?_
                refine Sem.iret rfl d131_94 (Or.inl rfl) (by decide) (by decide) hzW ⟨_, _, _, rfl, rfl, ?_⟩
                have hcode : cCount (N 23 0 20) x = 0 := by unfold cCount; (repeat' split) <;> omega
                refine ⟨rfl, by rw [hcode], fun _ => ?_⟩
                first
                | (exfalso; omega)
                | (unfold vCountM
                   simp only [*]
                   first | done | rfl | (rw [show N 23 0 20 = 1 by omega]; rfl))
              case neg =>
                by_cases e5 : x.toInt = 5
                case pos =>
                  refine Sem.tabIn rfl d131_27 (by omega) (by omega) (off := 68) (by rw [e5]; rfl) (tgt := 95) (by decide) ?_
                  refine Sem.seg [(.aload_n 0, 0, 0), (.getfield 61, 5, 20)] ⟨⟨d131_95, trivial⟩, ⟨d131_96, gf5_61⟩, trivial⟩ (lv' := [(0, aR 23 0), (1, aI x)]) (st' := [aN (N 23 0 20)]) (w' := wd (upN N 23 0 0 0) L) (P := [vld NN 23 0]) rfl (vN (t := 23) (i := 0) (by decide)) (pc' := 99) rfl ?_
                  refine Sem.ifN (tgt := 106) d131_99 (by decide) (show N 23 0 20 < 2 ^ 31 by omega) (fun b6 => ?_) (fun b6 => ?_)
                  · have b6_ : N 23 0 20 = 0 := b6
                    refine Sem.seg [(.iconst 0, 0, 0)] ⟨⟨d131_106, trivial⟩, trivial⟩ (lv' := [(0, aR 23 0), (1, aI x)]) (st' := [aN 0]) (w' := wd (upN N 23 0 0 0) L) (P := []) rfl (trivial) (pc' := 107) rfl ?_
                    refine Sem.topNI rfl ?_
                    refine Sem.iret rfl d131_107 (Or.inl rfl) (by decide) (by decide) hzW ⟨_, _, _, rfl, rfl, ?_⟩
                    have hcode : cCount (N 23 0 20) x = 0 := by unfold cCount; (repeat' split) <;> omega
                    refine ⟨rfl, by rw [hcode], fun _ => ?_⟩
                    first
                    | (exfalso; omega)
                    | (unfold vCountM
                       simp only [*]
                       first | done | rfl | (rw [show N 23 0 20 = 1 by omega]; rfl))
                  · have b6_ : ¬ (N 23 0 20 = 0) := b6
                    refine Sem.seg [(.iconst 1, 0, 0)] ⟨⟨d131_102, trivial⟩, trivial⟩ (lv' := [(0, aR 23 0), (1, aI x)]) (st' := [aN 1]) (w' := wd (upN N 23 0 0 0) L) (P := []) rfl (trivial) (pc' := 103) rfl ?_
                    refine Sem.goto (tgt := 107) d131_103 (by decide) ?_
                    refine Sem.topNI rfl ?_
                    refine Sem.iret rfl d131_107 (Or.inl rfl) (by decide) (by decide) hzW ⟨_, _, _, rfl, rfl, ?_⟩
                    have hcode : cCount (N 23 0 20) x = 0 := by unfold cCount; (repeat' split) <;> omega
                    refine ⟨rfl, by rw [hcode], fun _ => ?_⟩
                    first
                    | (exfalso; omega)
                    | (unfold vCountM
                       simp only [*]
                       first | done | rfl | (rw [show N 23 0 20 = 1 by omega]; rfl))
                case neg =>
                  refine Sem.tabOut rfl d131_27 (by omega) (tgt := 108) (by decide) ?_
                  refine Sem.seg [(.iconst (-1), 0, 0)] ⟨⟨d131_108, trivial⟩, trivial⟩ (lv' := [(0, aR 23 0), (1, aI x)]) (st' := [aI (Int32.ofInt (-1))]) (w' := wd (upN N 23 0 0 0) L) (P := []) rfl (trivial) (pc' := 109) rfl ?_
                  refine Sem.iret rfl d131_109 (Or.inl rfl) (by decide) (by decide) hzW ⟨_, _, _, rfl, rfl, ?_⟩
                  have hcode : cCount (N 23 0 20) x = 0 := by unfold cCount; (repeat' split) <;> omega
                  refine ⟨rfl, by rw [hcode], fun _ => ?_⟩
                  first
                  | (exfalso; omega)
                  | (unfold vCountM
                     simp only [*]
                     first | done | rfl | (rw [show N 23 0 20 = 1 by omega]; rfl))
    · have b4_ : ¬ (N 23 0 20 = 0) := b4
      refine Sem.seg [(.iconst 1, 0, 0)] ⟨⟨d131_13, trivial⟩, trivial⟩ (lv' := [(0, aR 23 0), (1, aI x)]) (st' := [aN 1, aR 23 0]) (w' := wd N L) (P := []) rfl (trivial) (pc' := 14) rfl ?_
      refine Sem.goto (tgt := 18) d131_14 (by decide) ?_
      refine Sem.cVp1 (t := 23) (i := 0) (as := [aN 1]) (rst := []) (c' := 0) (s' := 0) d131_18 mk91 rfl co91 lk5_97 im91 se91 rfl (vN (t := 23) (i := 0) (by decide)) (show 2 ≤ mL 91 by decide) rfl (show 0 ≤ 8 by decide) (by decide) (by decide) rfl rfl (by decide) (by decide) (m91 (N) L 1 (by decide)) ?_
      refine Sem.topNN (show (if 0 < 1 then 1 else 0) = 1 from rfl) ?_
      refine Sem.ifN (tgt := 26) d131_21 (by decide) (by decide) (fun b7 => ?_) (fun b7 => ?_)
      · exact absurd (show 1 = 0 from b7) (by decide)
      refine Sem.seg [(.iconst 0, 0, 0)] ⟨⟨d131_24, trivial⟩, trivial⟩ (lv' := [(0, aR 23 0), (1, aI x)]) (st' := [aN 0]) (w' := wd (upN N 23 0 0 1) L) (P := []) rfl (trivial) (pc' := 25) rfl ?_
      refine Sem.topNI rfl ?_
      refine Sem.iret rfl d131_25 (Or.inl rfl) (by decide) (by decide) hzW ⟨_, _, _, rfl, rfl, ?_⟩
      have hcode : cCount (N 23 0 20) x = 1 := by unfold cCount; (repeat' split) <;> omega
      exact ⟨rfl, by rw [hcode], fun q => absurd (hcode.symm.trans q) (by decide)⟩

