-- the law, cases 10 to 18
theorem c_gross {sc : XT} {Q : QT} (N : TN) (L : TL) (i : Nat) (h : Inv N L) (hi : i + 6 ≤ sc.2.1) (h72 : sc.2.1 ≤ 3072) (kk : ∀ (N' : TN) (L' : TL), Inv N' L' → Sem sc 133 1428 [(4, aN i), (0, aV (.ref sc.1)), (1, aR 0 0), (2, aR 23 0), (3, aR 47 0)] [] (wd N' L') (100 + 17 * (i + 6)) (2524 + 102 * (i + 6)) Q) : Sem sc 133 809 [(4, aN i), (0, aV (.ref sc.1)), (1, aR 0 0), (2, aR 23 0), (3, aR 47 0)] [] (wd N L) (100 + 17 * i) (2524 + 102 * i) Q := by
  refine Sem.seg [(.aload_n 1, 0, 0), (.aload_n 0, 0, 0), (.iload 4, 0, 0), (.iconst 1, 0, 0), (.iadd, 0, 0)] ⟨⟨d133_809, trivial⟩, ⟨d133_810, trivial⟩, ⟨d133_811, trivial⟩, ⟨d133_813, trivial⟩, ⟨d133_814, trivial⟩, trivial⟩ (lv' := [(4, aN i), (0, aV (.ref sc.1)), (1, aR 0 0), (2, aR 23 0), (3, aR 47 0)]) (st' := [aN (i + 1), aV (.ref sc.1), aR 0 0]) (w' := wd N L) (P := []) rfl (trivial) (pc' := 815) rfl ?_
  refine Sem.sld rfl d133_815 (show i + 1 < sc.2.1 by omega) (show sc.2.1 < 2 ^ 31 by omega) ?_
  refine Sem.seg [(.aload_n 0, 0, 0), (.iload 4, 0, 0), (.iconst 2, 0, 0), (.iadd, 0, 0)] ⟨⟨d133_816, trivial⟩, ⟨d133_817, trivial⟩, ⟨d133_819, trivial⟩, ⟨d133_820, trivial⟩, trivial⟩ (lv' := [(4, aN i), (0, aV (.ref sc.1)), (1, aR 0 0), (2, aR 23 0), (3, aR 47 0)]) (st' := [aN (i + 2), aV (.ref sc.1), aI (sc.2.2 (i + 1)), aR 0 0]) (w' := wd N L) (P := []) rfl (trivial) (pc' := 821) rfl ?_
  refine Sem.sld rfl d133_821 (show i + 2 < sc.2.1 by omega) (show sc.2.1 < 2 ^ 31 by omega) ?_
  refine Sem.seg [(.aload_n 3, 0, 0)] ⟨⟨d133_822, trivial⟩, trivial⟩ (lv' := [(4, aN i), (0, aV (.ref sc.1)), (1, aR 0 0), (2, aR 23 0), (3, aR 47 0)]) (st' := [aR 47 0, aI (sc.2.2 (i + 2)), aI (sc.2.2 (i + 1)), aR 0 0]) (w' := wd N L) (P := []) rfl (trivial) (pc' := 823) rfl ?_
  refine Sem.cHmN (as := [aR 0 0, aI (sc.2.2 (i + 1)), aI (sc.2.2 (i + 2)), aR 47 0]) (rst := []) (c' := 100 + 17 * i + 3) (s' := 2524 + 102 * i + 18) d133_823 mk57 co57 lk6_124 ss57 (show 4 ≤ mL 57 by decide) rfl (show 0 ≤ 8 by decide) (by decide) (by decide) rfl rfl (by first | exact lawC (by omega) | exact lawS (by omega)) (by first | exact lawC (by omega) | exact lawS (by omega)) (m57 N L (sc.2.2 (i + 1)) (sc.2.2 (i + 2)) h.t1) ?_
  rintro z N1 L1 h1
  have hF := f_gross h1
  refine Sem.seg [(.istore 5, 0, 0), (.aload_n 2, 0, 0), (.aload_n 0, 0, 0), (.iload 4, 0, 0), (.iconst 1, 0, 0), (.iadd, 0, 0)] ⟨⟨d133_826, trivial⟩, ⟨d133_828, trivial⟩, ⟨d133_829, trivial⟩, ⟨d133_830, trivial⟩, ⟨d133_832, trivial⟩, ⟨d133_833, trivial⟩, trivial⟩ (lv' := [(5, aN z), (4, aN i), (0, aV (.ref sc.1)), (1, aR 0 0), (2, aR 23 0), (3, aR 47 0)]) (st' := [aN (i + 1), aV (.ref sc.1), aR 23 0]) (w' := wd N1 L1) (P := []) rfl (trivial) (pc' := 834) rfl ?_
  refine Sem.sld rfl d133_834 (show i + 1 < sc.2.1 by omega) (show sc.2.1 < 2 ^ 31 by omega) ?_
  refine Sem.seg [(.aload_n 0, 0, 0), (.iload 4, 0, 0), (.iconst 2, 0, 0), (.iadd, 0, 0)] ⟨⟨d133_835, trivial⟩, ⟨d133_836, trivial⟩, ⟨d133_838, trivial⟩, ⟨d133_839, trivial⟩, trivial⟩ (lv' := [(5, aN z), (4, aN i), (0, aV (.ref sc.1)), (1, aR 0 0), (2, aR 23 0), (3, aR 47 0)]) (st' := [aN (i + 2), aV (.ref sc.1), aI (sc.2.2 (i + 1)), aR 23 0]) (w' := wd N1 L1) (P := []) rfl (trivial) (pc' := 840) rfl ?_
  refine Sem.sld rfl d133_840 (show i + 2 < sc.2.1 by omega) (show sc.2.1 < 2 ^ 31 by omega) ?_
  refine Sem.cVmL (t := 23) (i := 0) (as := [aI (sc.2.2 (i + 1)), aI (sc.2.2 (i + 2))]) (rst := []) (c' := 100 + 17 * i + 3) (s' := 2524 + 102 * i + 18) d133_841 mk120 rfl co120 lk6_126 im120 se120 rfl (vN (t := 23) (i := 0) (by decide)) (show 3 ≤ mL 120 by decide) rfl (show 0 ≤ 8 by decide) (by decide) (by decide) (mc0 rfl) (ms0 rfl) (by first | exact lawC (by omega) | exact lawS (by omega)) (by first | exact lawC (by omega) | exact lawS (by omega)) (m120 N1 L1 (sc.2.2 (i + 1)) (sc.2.2 (i + 2)) (by rw [hF 23 0 20 (by omega)]; exact h.h20)) ?_
  rintro b N2 L2 h2
  obtain ⟨e0, hz3, hI2, hv⟩ := k_gross h h1 h2
  refine Sem.seg [(.lstore 6, 0, 0), (.aload_n 2, 0, 0)] ⟨⟨d133_844, trivial⟩, ⟨d133_846, trivial⟩, trivial⟩ (lv' := [(6, aL b), (5, aN z), (4, aN i), (0, aV (.ref sc.1)), (1, aR 0 0), (2, aR 23 0), (3, aR 47 0)]) (st' := [aR 23 0]) (w' := wd N2 L2) (P := []) rfl (trivial) (pc' := 847) rfl ?_
  refine Sem.cVp1 (t := 23) (i := 0) (as := []) (rst := []) (c' := 100 + 17 * i + 3) (s' := 2524 + 102 * i + 18) d133_847 mk87 rfl co87 lk6_87 im87 se87 rfl (vN (t := 23) (i := 0) (by decide)) (show 1 ≤ mL 87 by decide) rfl (show 0 ≤ 8 by decide) (by decide) (by decide) (mc0 rfl) (ms0 rfl) (by first | exact lawC (by omega) | exact lawS (by omega)) (by first | exact lawC (by omega) | exact lawS (by omega)) (m87 N2 L2) ?_
  refine Sem.topNN (show N2 23 0 0 = z from e0) ?_
  refine Sem.seg [(.iload 5, 0, 0)] ⟨⟨d133_850, trivial⟩, trivial⟩ (lv' := [(6, aL b), (5, aN z), (4, aN i), (0, aV (.ref sc.1)), (1, aR 0 0), (2, aR 23 0), (3, aR 47 0)]) (st' := [aN z, aN z]) (w' := wd N2 L2) (P := []) rfl (trivial) (pc' := 852) rfl ?_
  refine Sem.icmpN (tgt := 857) d133_852 (by decide) (show z < 2 ^ 31 by omega) (show z < 2 ^ 31 by omega) (fun b1 => ?_) (fun b1 => ?_)
  · have b1_ : z = z := b1
    refine Sem.seg [(.iload 5, 0, 0)] ⟨⟨d133_857, trivial⟩, trivial⟩ (lv' := [(6, aL b), (5, aN z), (4, aN i), (0, aV (.ref sc.1)), (1, aR 0 0), (2, aR 23 0), (3, aR 47 0)]) (st' := [aN z]) (w' := wd N2 L2) (P := []) rfl (trivial) (pc' := 859) rfl ?_
    refine Sem.ifN (tgt := 873) d133_859 (by decide) (show z < 2 ^ 31 by omega) (fun b2 => ?_) (fun b2 => ?_)
    · have b2_ : ¬ z = 0 := b2
      refine Sem.goto (tgt := 1428) d133_873 (by decide) ?_
      refine Sem.pick [2, 3, 4, 5, 6] (lv' := [(4, aN i), (0, aV (.ref sc.1)), (1, aR 0 0), (2, aR 23 0), (3, aR 47 0)]) rfl ?_
      refine Sem.widen (a := 100 + 17 * (i + 6)) (b := 2524 + 102 * (i + 6)) (by omega) (by omega) hzW ?_
      exact kk _ _ hI2
    · have b2_ : ¬ (¬ z = 0) := b2
      refine Sem.seg [(.aload_n 3, 0, 0), (.iconst 0, 0, 0), (.laload, 0, 0), (.lload 6, 0, 0)] ⟨⟨d133_862, trivial⟩, ⟨d133_863, trivial⟩, ⟨d133_864, trivial⟩, ⟨d133_865, trivial⟩, trivial⟩ (lv' := [(6, aL b), (5, aN z), (4, aN i), (0, aV (.ref sc.1)), (1, aR 0 0), (2, aR 23 0), (3, aR 47 0)]) (st' := [aL b, aL (L2 47 0 0)]) (w' := wd N2 L2) (P := [vld NN 47 0, 0 < 1]) rfl (⟨vN (t := 47) (i := 0) (by decide), (by decide : (0 : Nat) < 1)⟩) (pc' := 867) rfl ?_
      refine Sem.lcmp (tgt := 873) d133_867 d133_868 (by decide) (fun b3 => ?_) (fun b3 => ?_)
      · have b3_ : L2 47 0 0 = b := b3
        refine Sem.goto (tgt := 1428) d133_873 (by decide) ?_
        refine Sem.pick [2, 3, 4, 5, 6] (lv' := [(4, aN i), (0, aV (.ref sc.1)), (1, aR 0 0), (2, aR 23 0), (3, aR 47 0)]) rfl ?_
        refine Sem.widen (a := 100 + 17 * (i + 6)) (b := 2524 + 102 * (i + 6)) (by omega) (by omega) hzW ?_
        exact kk _ _ hI2
      · exfalso; have b3_ : ¬ (L2 47 0 0 = b) := b3; exact b3_ (hv (by omega))
  · exfalso; have b1_ : ¬ (z = z) := b1; omega

theorem c_planned {sc : XT} {Q : QT} (N : TN) (L : TL) (i : Nat) (h : Inv N L) (hi : i + 6 ≤ sc.2.1) (h72 : sc.2.1 ≤ 3072) (kk : ∀ (N' : TN) (L' : TL), Inv N' L' → Sem sc 133 1428 [(4, aN i), (0, aV (.ref sc.1)), (1, aR 0 0), (2, aR 23 0), (3, aR 47 0)] [] (wd N' L') (100 + 17 * (i + 6)) (2524 + 102 * (i + 6)) Q) : Sem sc 133 876 [(4, aN i), (0, aV (.ref sc.1)), (1, aR 0 0), (2, aR 23 0), (3, aR 47 0)] [] (wd N L) (100 + 17 * i) (2524 + 102 * i) Q := by
  refine Sem.seg [(.aload_n 1, 0, 0), (.aload_n 0, 0, 0), (.iload 4, 0, 0), (.iconst 1, 0, 0), (.iadd, 0, 0)] ⟨⟨d133_876, trivial⟩, ⟨d133_877, trivial⟩, ⟨d133_878, trivial⟩, ⟨d133_880, trivial⟩, ⟨d133_881, trivial⟩, trivial⟩ (lv' := [(4, aN i), (0, aV (.ref sc.1)), (1, aR 0 0), (2, aR 23 0), (3, aR 47 0)]) (st' := [aN (i + 1), aV (.ref sc.1), aR 0 0]) (w' := wd N L) (P := []) rfl (trivial) (pc' := 882) rfl ?_
  refine Sem.sld rfl d133_882 (show i + 1 < sc.2.1 by omega) (show sc.2.1 < 2 ^ 31 by omega) ?_
  refine Sem.seg [(.aload_n 0, 0, 0), (.iload 4, 0, 0), (.iconst 2, 0, 0), (.iadd, 0, 0)] ⟨⟨d133_883, trivial⟩, ⟨d133_884, trivial⟩, ⟨d133_886, trivial⟩, ⟨d133_887, trivial⟩, trivial⟩ (lv' := [(4, aN i), (0, aV (.ref sc.1)), (1, aR 0 0), (2, aR 23 0), (3, aR 47 0)]) (st' := [aN (i + 2), aV (.ref sc.1), aI (sc.2.2 (i + 1)), aR 0 0]) (w' := wd N L) (P := []) rfl (trivial) (pc' := 888) rfl ?_
  refine Sem.sld rfl d133_888 (show i + 2 < sc.2.1 by omega) (show sc.2.1 < 2 ^ 31 by omega) ?_
  refine Sem.seg [(.aload_n 3, 0, 0)] ⟨⟨d133_889, trivial⟩, trivial⟩ (lv' := [(4, aN i), (0, aV (.ref sc.1)), (1, aR 0 0), (2, aR 23 0), (3, aR 47 0)]) (st' := [aR 47 0, aI (sc.2.2 (i + 2)), aI (sc.2.2 (i + 1)), aR 0 0]) (w' := wd N L) (P := []) rfl (trivial) (pc' := 890) rfl ?_
  refine Sem.cHmN (as := [aR 0 0, aI (sc.2.2 (i + 1)), aI (sc.2.2 (i + 2)), aR 47 0]) (rst := []) (c' := 100 + 17 * i + 3) (s' := 2524 + 102 * i + 18) d133_890 mk61 co61 lk6_127 ss61 (show 4 ≤ mL 61 by decide) rfl (show 0 ≤ 8 by decide) (by decide) (by decide) rfl rfl (by first | exact lawC (by omega) | exact lawS (by omega)) (by first | exact lawC (by omega) | exact lawS (by omega)) (m61 N L (sc.2.2 (i + 1)) (sc.2.2 (i + 2)) h.t1) ?_
  rintro z N1 L1 h1
  have hF := f_planned h1
  refine Sem.seg [(.istore 5, 0, 0), (.aload_n 2, 0, 0), (.aload_n 0, 0, 0), (.iload 4, 0, 0), (.iconst 1, 0, 0), (.iadd, 0, 0)] ⟨⟨d133_893, trivial⟩, ⟨d133_895, trivial⟩, ⟨d133_896, trivial⟩, ⟨d133_897, trivial⟩, ⟨d133_899, trivial⟩, ⟨d133_900, trivial⟩, trivial⟩ (lv' := [(5, aN z), (4, aN i), (0, aV (.ref sc.1)), (1, aR 0 0), (2, aR 23 0), (3, aR 47 0)]) (st' := [aN (i + 1), aV (.ref sc.1), aR 23 0]) (w' := wd N1 L1) (P := []) rfl (trivial) (pc' := 901) rfl ?_
  refine Sem.sld rfl d133_901 (show i + 1 < sc.2.1 by omega) (show sc.2.1 < 2 ^ 31 by omega) ?_
  refine Sem.seg [(.aload_n 0, 0, 0), (.iload 4, 0, 0), (.iconst 2, 0, 0), (.iadd, 0, 0)] ⟨⟨d133_902, trivial⟩, ⟨d133_903, trivial⟩, ⟨d133_905, trivial⟩, ⟨d133_906, trivial⟩, trivial⟩ (lv' := [(5, aN z), (4, aN i), (0, aV (.ref sc.1)), (1, aR 0 0), (2, aR 23 0), (3, aR 47 0)]) (st' := [aN (i + 2), aV (.ref sc.1), aI (sc.2.2 (i + 1)), aR 23 0]) (w' := wd N1 L1) (P := []) rfl (trivial) (pc' := 907) rfl ?_
  refine Sem.sld rfl d133_907 (show i + 2 < sc.2.1 by omega) (show sc.2.1 < 2 ^ 31 by omega) ?_
  refine Sem.cVmL (t := 23) (i := 0) (as := [aI (sc.2.2 (i + 1)), aI (sc.2.2 (i + 2))]) (rst := []) (c' := 100 + 17 * i + 3) (s' := 2524 + 102 * i + 18) d133_908 mk122 rfl co122 lk6_129 im122 se122 rfl (vN (t := 23) (i := 0) (by decide)) (show 3 ≤ mL 122 by decide) rfl (show 0 ≤ 8 by decide) (by decide) (by decide) (mc0 rfl) (ms0 rfl) (by first | exact lawC (by omega) | exact lawS (by omega)) (by first | exact lawC (by omega) | exact lawS (by omega)) (m122 N1 L1 (sc.2.2 (i + 1)) (sc.2.2 (i + 2)) (by rw [hF 23 0 20 (by omega)]; exact h.h20)) ?_
  rintro b N2 L2 h2
  obtain ⟨e0, hz3, hI2, hv⟩ := k_planned h h1 h2
  refine Sem.seg [(.lstore 6, 0, 0), (.aload_n 2, 0, 0)] ⟨⟨d133_911, trivial⟩, ⟨d133_913, trivial⟩, trivial⟩ (lv' := [(6, aL b), (5, aN z), (4, aN i), (0, aV (.ref sc.1)), (1, aR 0 0), (2, aR 23 0), (3, aR 47 0)]) (st' := [aR 23 0]) (w' := wd N2 L2) (P := []) rfl (trivial) (pc' := 914) rfl ?_
  refine Sem.cVp1 (t := 23) (i := 0) (as := []) (rst := []) (c' := 100 + 17 * i + 3) (s' := 2524 + 102 * i + 18) d133_914 mk87 rfl co87 lk6_87 im87 se87 rfl (vN (t := 23) (i := 0) (by decide)) (show 1 ≤ mL 87 by decide) rfl (show 0 ≤ 8 by decide) (by decide) (by decide) (mc0 rfl) (ms0 rfl) (by first | exact lawC (by omega) | exact lawS (by omega)) (by first | exact lawC (by omega) | exact lawS (by omega)) (m87 N2 L2) ?_
  refine Sem.topNN (show N2 23 0 0 = z from e0) ?_
  refine Sem.seg [(.iload 5, 0, 0)] ⟨⟨d133_917, trivial⟩, trivial⟩ (lv' := [(6, aL b), (5, aN z), (4, aN i), (0, aV (.ref sc.1)), (1, aR 0 0), (2, aR 23 0), (3, aR 47 0)]) (st' := [aN z, aN z]) (w' := wd N2 L2) (P := []) rfl (trivial) (pc' := 919) rfl ?_
  refine Sem.icmpN (tgt := 924) d133_919 (by decide) (show z < 2 ^ 31 by omega) (show z < 2 ^ 31 by omega) (fun b1 => ?_) (fun b1 => ?_)
  · have b1_ : z = z := b1
    refine Sem.seg [(.iload 5, 0, 0)] ⟨⟨d133_924, trivial⟩, trivial⟩ (lv' := [(6, aL b), (5, aN z), (4, aN i), (0, aV (.ref sc.1)), (1, aR 0 0), (2, aR 23 0), (3, aR 47 0)]) (st' := [aN z]) (w' := wd N2 L2) (P := []) rfl (trivial) (pc' := 926) rfl ?_
    refine Sem.ifN (tgt := 940) d133_926 (by decide) (show z < 2 ^ 31 by omega) (fun b2 => ?_) (fun b2 => ?_)
    · have b2_ : ¬ z = 0 := b2
      refine Sem.goto (tgt := 1428) d133_940 (by decide) ?_
      refine Sem.pick [2, 3, 4, 5, 6] (lv' := [(4, aN i), (0, aV (.ref sc.1)), (1, aR 0 0), (2, aR 23 0), (3, aR 47 0)]) rfl ?_
      refine Sem.widen (a := 100 + 17 * (i + 6)) (b := 2524 + 102 * (i + 6)) (by omega) (by omega) hzW ?_
      exact kk _ _ hI2
    · have b2_ : ¬ (¬ z = 0) := b2
      refine Sem.seg [(.aload_n 3, 0, 0), (.iconst 0, 0, 0), (.laload, 0, 0), (.lload 6, 0, 0)] ⟨⟨d133_929, trivial⟩, ⟨d133_930, trivial⟩, ⟨d133_931, trivial⟩, ⟨d133_932, trivial⟩, trivial⟩ (lv' := [(6, aL b), (5, aN z), (4, aN i), (0, aV (.ref sc.1)), (1, aR 0 0), (2, aR 23 0), (3, aR 47 0)]) (st' := [aL b, aL (L2 47 0 0)]) (w' := wd N2 L2) (P := [vld NN 47 0, 0 < 1]) rfl (⟨vN (t := 47) (i := 0) (by decide), (by decide : (0 : Nat) < 1)⟩) (pc' := 934) rfl ?_
      refine Sem.lcmp (tgt := 940) d133_934 d133_935 (by decide) (fun b3 => ?_) (fun b3 => ?_)
      · have b3_ : L2 47 0 0 = b := b3
        refine Sem.goto (tgt := 1428) d133_940 (by decide) ?_
        refine Sem.pick [2, 3, 4, 5, 6] (lv' := [(4, aN i), (0, aV (.ref sc.1)), (1, aR 0 0), (2, aR 23 0), (3, aR 47 0)]) rfl ?_
        refine Sem.widen (a := 100 + 17 * (i + 6)) (b := 2524 + 102 * (i + 6)) (by omega) (by omega) hzW ?_
        exact kk _ _ hI2
      · exfalso; have b3_ : ¬ (L2 47 0 0 = b) := b3; exact b3_ (hv (by omega))
  · exfalso; have b1_ : ¬ (z = z) := b1; omega

theorem c_balance {sc : XT} {Q : QT} (N : TN) (L : TL) (i : Nat) (h : Inv N L) (hi : i + 6 ≤ sc.2.1) (h72 : sc.2.1 ≤ 3072) (kk : ∀ (N' : TN) (L' : TL), Inv N' L' → Sem sc 133 1428 [(4, aN i), (0, aV (.ref sc.1)), (1, aR 0 0), (2, aR 23 0), (3, aR 47 0)] [] (wd N' L') (100 + 17 * (i + 6)) (2524 + 102 * (i + 6)) Q) : Sem sc 133 943 [(4, aN i), (0, aV (.ref sc.1)), (1, aR 0 0), (2, aR 23 0), (3, aR 47 0)] [] (wd N L) (100 + 17 * i) (2524 + 102 * i) Q := by
  refine Sem.seg [(.aload_n 1, 0, 0), (.aload_n 0, 0, 0), (.iload 4, 0, 0), (.iconst 1, 0, 0), (.iadd, 0, 0)] ⟨⟨d133_943, trivial⟩, ⟨d133_944, trivial⟩, ⟨d133_945, trivial⟩, ⟨d133_947, trivial⟩, ⟨d133_948, trivial⟩, trivial⟩ (lv' := [(4, aN i), (0, aV (.ref sc.1)), (1, aR 0 0), (2, aR 23 0), (3, aR 47 0)]) (st' := [aN (i + 1), aV (.ref sc.1), aR 0 0]) (w' := wd N L) (P := []) rfl (trivial) (pc' := 949) rfl ?_
  refine Sem.sld rfl d133_949 (show i + 1 < sc.2.1 by omega) (show sc.2.1 < 2 ^ 31 by omega) ?_
  refine Sem.seg [(.aload_n 0, 0, 0), (.iload 4, 0, 0), (.iconst 2, 0, 0), (.iadd, 0, 0)] ⟨⟨d133_950, trivial⟩, ⟨d133_951, trivial⟩, ⟨d133_953, trivial⟩, ⟨d133_954, trivial⟩, trivial⟩ (lv' := [(4, aN i), (0, aV (.ref sc.1)), (1, aR 0 0), (2, aR 23 0), (3, aR 47 0)]) (st' := [aN (i + 2), aV (.ref sc.1), aI (sc.2.2 (i + 1)), aR 0 0]) (w' := wd N L) (P := []) rfl (trivial) (pc' := 955) rfl ?_
  refine Sem.sld rfl d133_955 (show i + 2 < sc.2.1 by omega) (show sc.2.1 < 2 ^ 31 by omega) ?_
  refine Sem.seg [(.aload_n 3, 0, 0)] ⟨⟨d133_956, trivial⟩, trivial⟩ (lv' := [(4, aN i), (0, aV (.ref sc.1)), (1, aR 0 0), (2, aR 23 0), (3, aR 47 0)]) (st' := [aR 47 0, aI (sc.2.2 (i + 2)), aI (sc.2.2 (i + 1)), aR 0 0]) (w' := wd N L) (P := []) rfl (trivial) (pc' := 957) rfl ?_
  refine Sem.cHmN (as := [aR 0 0, aI (sc.2.2 (i + 1)), aI (sc.2.2 (i + 2)), aR 47 0]) (rst := []) (c' := 100 + 17 * i + 3) (s' := 2524 + 102 * i + 18) d133_957 mk63 co63 lk6_130 ss63 (show 4 ≤ mL 63 by decide) rfl (show 0 ≤ 8 by decide) (by decide) (by decide) rfl rfl (by first | exact lawC (by omega) | exact lawS (by omega)) (by first | exact lawC (by omega) | exact lawS (by omega)) (m63 N L (sc.2.2 (i + 1)) (sc.2.2 (i + 2)) h.t1) ?_
  rintro z N1 L1 h1
  have hF := f_balance h1
  have hG := g_balance h1
  refine Sem.seg [(.istore 5, 0, 0), (.aload_n 2, 0, 0), (.aload_n 0, 0, 0), (.iload 4, 0, 0), (.iconst 1, 0, 0), (.iadd, 0, 0)] ⟨⟨d133_960, trivial⟩, ⟨d133_962, trivial⟩, ⟨d133_963, trivial⟩, ⟨d133_964, trivial⟩, ⟨d133_966, trivial⟩, ⟨d133_967, trivial⟩, trivial⟩ (lv' := [(5, aN z), (4, aN i), (0, aV (.ref sc.1)), (1, aR 0 0), (2, aR 23 0), (3, aR 47 0)]) (st' := [aN (i + 1), aV (.ref sc.1), aR 23 0]) (w' := wd N1 L1) (P := []) rfl (trivial) (pc' := 968) rfl ?_
  refine Sem.sld rfl d133_968 (show i + 1 < sc.2.1 by omega) (show sc.2.1 < 2 ^ 31 by omega) ?_
  refine Sem.seg [(.aload_n 0, 0, 0), (.iload 4, 0, 0), (.iconst 2, 0, 0), (.iadd, 0, 0)] ⟨⟨d133_969, trivial⟩, ⟨d133_970, trivial⟩, ⟨d133_972, trivial⟩, ⟨d133_973, trivial⟩, trivial⟩ (lv' := [(5, aN z), (4, aN i), (0, aV (.ref sc.1)), (1, aR 0 0), (2, aR 23 0), (3, aR 47 0)]) (st' := [aN (i + 2), aV (.ref sc.1), aI (sc.2.2 (i + 1)), aR 23 0]) (w' := wd N1 L1) (P := []) rfl (trivial) (pc' := 974) rfl ?_
  refine Sem.sld rfl d133_974 (show i + 2 < sc.2.1 by omega) (show sc.2.1 < 2 ^ 31 by omega) ?_
  refine Sem.cVmL (t := 23) (i := 0) (as := [aI (sc.2.2 (i + 1)), aI (sc.2.2 (i + 2))]) (rst := []) (c' := 100 + 17 * i + 3) (s' := 2524 + 102 * i + 18) d133_975 mk123 rfl co123 lk6_132 im123 se123 rfl (vN (t := 23) (i := 0) (by decide)) (show 3 ≤ mL 123 by decide) rfl (show 0 ≤ 8 by decide) (by decide) (by decide) (mc0 rfl) (ms0 rfl) (by first | exact lawC (by omega) | exact lawS (by omega)) (by first | exact lawC (by omega) | exact lawS (by omega)) (m123 N1 L1 (sc.2.2 (i + 1)) (sc.2.2 (i + 2)) (by rw [hF 23 0 20 (by omega)]; exact h.h20) (h.cd1 hF hG)) ?_
  rintro b N2 L2 h2
  obtain ⟨e0, hz3, hI2, hv⟩ := k_balance h h1 h2
  refine Sem.seg [(.lstore 6, 0, 0), (.aload_n 2, 0, 0)] ⟨⟨d133_978, trivial⟩, ⟨d133_980, trivial⟩, trivial⟩ (lv' := [(6, aL b), (5, aN z), (4, aN i), (0, aV (.ref sc.1)), (1, aR 0 0), (2, aR 23 0), (3, aR 47 0)]) (st' := [aR 23 0]) (w' := wd N2 L2) (P := []) rfl (trivial) (pc' := 981) rfl ?_
  refine Sem.cVp1 (t := 23) (i := 0) (as := []) (rst := []) (c' := 100 + 17 * i + 3) (s' := 2524 + 102 * i + 18) d133_981 mk87 rfl co87 lk6_87 im87 se87 rfl (vN (t := 23) (i := 0) (by decide)) (show 1 ≤ mL 87 by decide) rfl (show 0 ≤ 8 by decide) (by decide) (by decide) (mc0 rfl) (ms0 rfl) (by first | exact lawC (by omega) | exact lawS (by omega)) (by first | exact lawC (by omega) | exact lawS (by omega)) (m87 N2 L2) ?_
  refine Sem.topNN (show N2 23 0 0 = z from e0) ?_
  refine Sem.seg [(.iload 5, 0, 0)] ⟨⟨d133_984, trivial⟩, trivial⟩ (lv' := [(6, aL b), (5, aN z), (4, aN i), (0, aV (.ref sc.1)), (1, aR 0 0), (2, aR 23 0), (3, aR 47 0)]) (st' := [aN z, aN z]) (w' := wd N2 L2) (P := []) rfl (trivial) (pc' := 986) rfl ?_
  refine Sem.icmpN (tgt := 991) d133_986 (by decide) (show z < 2 ^ 31 by omega) (show z < 2 ^ 31 by omega) (fun b1 => ?_) (fun b1 => ?_)
  · have b1_ : z = z := b1
    refine Sem.seg [(.iload 5, 0, 0)] ⟨⟨d133_991, trivial⟩, trivial⟩ (lv' := [(6, aL b), (5, aN z), (4, aN i), (0, aV (.ref sc.1)), (1, aR 0 0), (2, aR 23 0), (3, aR 47 0)]) (st' := [aN z]) (w' := wd N2 L2) (P := []) rfl (trivial) (pc' := 993) rfl ?_
    refine Sem.ifN (tgt := 1007) d133_993 (by decide) (show z < 2 ^ 31 by omega) (fun b2 => ?_) (fun b2 => ?_)
    · have b2_ : ¬ z = 0 := b2
      refine Sem.goto (tgt := 1428) d133_1007 (by decide) ?_
      refine Sem.pick [2, 3, 4, 5, 6] (lv' := [(4, aN i), (0, aV (.ref sc.1)), (1, aR 0 0), (2, aR 23 0), (3, aR 47 0)]) rfl ?_
      refine Sem.widen (a := 100 + 17 * (i + 6)) (b := 2524 + 102 * (i + 6)) (by omega) (by omega) hzW ?_
      exact kk _ _ hI2
    · have b2_ : ¬ (¬ z = 0) := b2
      refine Sem.seg [(.aload_n 3, 0, 0), (.iconst 0, 0, 0), (.laload, 0, 0), (.lload 6, 0, 0)] ⟨⟨d133_996, trivial⟩, ⟨d133_997, trivial⟩, ⟨d133_998, trivial⟩, ⟨d133_999, trivial⟩, trivial⟩ (lv' := [(6, aL b), (5, aN z), (4, aN i), (0, aV (.ref sc.1)), (1, aR 0 0), (2, aR 23 0), (3, aR 47 0)]) (st' := [aL b, aL (L2 47 0 0)]) (w' := wd N2 L2) (P := [vld NN 47 0, 0 < 1]) rfl (⟨vN (t := 47) (i := 0) (by decide), (by decide : (0 : Nat) < 1)⟩) (pc' := 1001) rfl ?_
      refine Sem.lcmp (tgt := 1007) d133_1001 d133_1002 (by decide) (fun b3 => ?_) (fun b3 => ?_)
      · have b3_ : L2 47 0 0 = b := b3
        refine Sem.goto (tgt := 1428) d133_1007 (by decide) ?_
        refine Sem.pick [2, 3, 4, 5, 6] (lv' := [(4, aN i), (0, aV (.ref sc.1)), (1, aR 0 0), (2, aR 23 0), (3, aR 47 0)]) rfl ?_
        refine Sem.widen (a := 100 + 17 * (i + 6)) (b := 2524 + 102 * (i + 6)) (by omega) (by omega) hzW ?_
        exact kk _ _ hI2
      · exfalso; have b3_ : ¬ (L2 47 0 0 = b) := b3; exact b3_ (hv (by omega))
  · exfalso; have b1_ : ¬ (z = z) := b1; omega

theorem c_peg {sc : XT} {Q : QT} (N : TN) (L : TL) (i : Nat) (h : Inv N L) (hi : i + 6 ≤ sc.2.1) (h72 : sc.2.1 ≤ 3072) (kk : ∀ (N' : TN) (L' : TL), Inv N' L' → Sem sc 133 1428 [(4, aN i), (0, aV (.ref sc.1)), (1, aR 0 0), (2, aR 23 0), (3, aR 47 0)] [] (wd N' L') (100 + 17 * (i + 6)) (2524 + 102 * (i + 6)) Q) : Sem sc 133 1010 [(4, aN i), (0, aV (.ref sc.1)), (1, aR 0 0), (2, aR 23 0), (3, aR 47 0)] [] (wd N L) (100 + 17 * i) (2524 + 102 * i) Q := by
  refine Sem.seg [(.aload_n 1, 0, 0), (.aload_n 0, 0, 0), (.iload 4, 0, 0), (.iconst 1, 0, 0), (.iadd, 0, 0)] ⟨⟨d133_1010, trivial⟩, ⟨d133_1011, trivial⟩, ⟨d133_1012, trivial⟩, ⟨d133_1014, trivial⟩, ⟨d133_1015, trivial⟩, trivial⟩ (lv' := [(4, aN i), (0, aV (.ref sc.1)), (1, aR 0 0), (2, aR 23 0), (3, aR 47 0)]) (st' := [aN (i + 1), aV (.ref sc.1), aR 0 0]) (w' := wd N L) (P := []) rfl (trivial) (pc' := 1016) rfl ?_
  refine Sem.sld rfl d133_1016 (show i + 1 < sc.2.1 by omega) (show sc.2.1 < 2 ^ 31 by omega) ?_
  refine Sem.seg [(.aload_n 0, 0, 0), (.iload 4, 0, 0), (.iconst 2, 0, 0), (.iadd, 0, 0)] ⟨⟨d133_1017, trivial⟩, ⟨d133_1018, trivial⟩, ⟨d133_1020, trivial⟩, ⟨d133_1021, trivial⟩, trivial⟩ (lv' := [(4, aN i), (0, aV (.ref sc.1)), (1, aR 0 0), (2, aR 23 0), (3, aR 47 0)]) (st' := [aN (i + 2), aV (.ref sc.1), aI (sc.2.2 (i + 1)), aR 0 0]) (w' := wd N L) (P := []) rfl (trivial) (pc' := 1022) rfl ?_
  refine Sem.sld rfl d133_1022 (show i + 2 < sc.2.1 by omega) (show sc.2.1 < 2 ^ 31 by omega) ?_
  refine Sem.seg [(.aload_n 0, 0, 0), (.iload 4, 0, 0), (.iconst 3, 0, 0), (.iadd, 0, 0)] ⟨⟨d133_1023, trivial⟩, ⟨d133_1024, trivial⟩, ⟨d133_1026, trivial⟩, ⟨d133_1027, trivial⟩, trivial⟩ (lv' := [(4, aN i), (0, aV (.ref sc.1)), (1, aR 0 0), (2, aR 23 0), (3, aR 47 0)]) (st' := [aN (i + 3), aV (.ref sc.1), aI (sc.2.2 (i + 2)), aI (sc.2.2 (i + 1)), aR 0 0]) (w' := wd N L) (P := []) rfl (trivial) (pc' := 1028) rfl ?_
  refine Sem.sld rfl d133_1028 (show i + 3 < sc.2.1 by omega) (show sc.2.1 < 2 ^ 31 by omega) ?_
  refine Sem.seg [(.aload_n 3, 0, 0)] ⟨⟨d133_1029, trivial⟩, trivial⟩ (lv' := [(4, aN i), (0, aV (.ref sc.1)), (1, aR 0 0), (2, aR 23 0), (3, aR 47 0)]) (st' := [aR 47 0, aI (sc.2.2 (i + 3)), aI (sc.2.2 (i + 2)), aI (sc.2.2 (i + 1)), aR 0 0]) (w' := wd N L) (P := []) rfl (trivial) (pc' := 1030) rfl ?_
  refine Sem.cHmN (as := [aR 0 0, aI (sc.2.2 (i + 1)), aI (sc.2.2 (i + 2)), aI (sc.2.2 (i + 3)), aR 47 0]) (rst := []) (c' := 100 + 17 * i + 11) (s' := 2524 + 102 * i + 66) d133_1030 mk65 co65 lk6_133 ss65 (show 5 ≤ mL 65 by decide) rfl (show 0 ≤ 8 by decide) (by decide) (by decide) rfl rfl (by first | exact lawC (by omega) | exact lawS (by omega)) (by first | exact lawC (by omega) | exact lawS (by omega)) (m65 N L (sc.2.2 (i + 1)) (sc.2.2 (i + 2)) (sc.2.2 (i + 3)) h.1) ?_
  rintro z N1 L1 h1
  have hF := f_peg h1
  have hG := g_peg h1
  refine Sem.seg [(.istore 5, 0, 0), (.aload_n 2, 0, 0), (.aload_n 0, 0, 0), (.iload 4, 0, 0), (.iconst 1, 0, 0), (.iadd, 0, 0)] ⟨⟨d133_1033, trivial⟩, ⟨d133_1035, trivial⟩, ⟨d133_1036, trivial⟩, ⟨d133_1037, trivial⟩, ⟨d133_1039, trivial⟩, ⟨d133_1040, trivial⟩, trivial⟩ (lv' := [(5, aN z), (4, aN i), (0, aV (.ref sc.1)), (1, aR 0 0), (2, aR 23 0), (3, aR 47 0)]) (st' := [aN (i + 1), aV (.ref sc.1), aR 23 0]) (w' := wd N1 L1) (P := []) rfl (trivial) (pc' := 1041) rfl ?_
  refine Sem.sld rfl d133_1041 (show i + 1 < sc.2.1 by omega) (show sc.2.1 < 2 ^ 31 by omega) ?_
  refine Sem.seg [(.aload_n 0, 0, 0), (.iload 4, 0, 0), (.iconst 2, 0, 0), (.iadd, 0, 0)] ⟨⟨d133_1042, trivial⟩, ⟨d133_1043, trivial⟩, ⟨d133_1045, trivial⟩, ⟨d133_1046, trivial⟩, trivial⟩ (lv' := [(5, aN z), (4, aN i), (0, aV (.ref sc.1)), (1, aR 0 0), (2, aR 23 0), (3, aR 47 0)]) (st' := [aN (i + 2), aV (.ref sc.1), aI (sc.2.2 (i + 1)), aR 23 0]) (w' := wd N1 L1) (P := []) rfl (trivial) (pc' := 1047) rfl ?_
  refine Sem.sld rfl d133_1047 (show i + 2 < sc.2.1 by omega) (show sc.2.1 < 2 ^ 31 by omega) ?_
  refine Sem.seg [(.aload_n 0, 0, 0), (.iload 4, 0, 0), (.iconst 3, 0, 0), (.iadd, 0, 0)] ⟨⟨d133_1048, trivial⟩, ⟨d133_1049, trivial⟩, ⟨d133_1051, trivial⟩, ⟨d133_1052, trivial⟩, trivial⟩ (lv' := [(5, aN z), (4, aN i), (0, aV (.ref sc.1)), (1, aR 0 0), (2, aR 23 0), (3, aR 47 0)]) (st' := [aN (i + 3), aV (.ref sc.1), aI (sc.2.2 (i + 2)), aI (sc.2.2 (i + 1)), aR 23 0]) (w' := wd N1 L1) (P := []) rfl (trivial) (pc' := 1053) rfl ?_
  refine Sem.sld rfl d133_1053 (show i + 3 < sc.2.1 by omega) (show sc.2.1 < 2 ^ 31 by omega) ?_
  refine Sem.cVmL (t := 23) (i := 0) (as := [aI (sc.2.2 (i + 1)), aI (sc.2.2 (i + 2)), aI (sc.2.2 (i + 3))]) (rst := []) (c' := 100 + 17 * i + 11) (s' := 2524 + 102 * i + 66) d133_1054 mk124 rfl co124 lk6_135 im124 se124 rfl (vN (t := 23) (i := 0) (by decide)) (show 4 ≤ mL 124 by decide) rfl (show 0 ≤ 8 by decide) (by decide) (by decide) (mc0 rfl) (ms0 rfl) (by first | exact lawC (by omega) | exact lawS (by omega)) (by first | exact lawC (by omega) | exact lawS (by omega)) (m124 N1 L1 (sc.2.2 (i + 1)) (sc.2.2 (i + 2)) (sc.2.2 (i + 3)) (by rw [hF 23 0 20 (by omega)]; exact h.h20) (h.cd1 hF hG)) ?_
  rintro b N2 L2 h2
  obtain ⟨e0, hz3, hI2, hv⟩ := k_peg h h1 h2
  refine Sem.seg [(.lstore 6, 0, 0), (.aload_n 2, 0, 0)] ⟨⟨d133_1057, trivial⟩, ⟨d133_1059, trivial⟩, trivial⟩ (lv' := [(6, aL b), (5, aN z), (4, aN i), (0, aV (.ref sc.1)), (1, aR 0 0), (2, aR 23 0), (3, aR 47 0)]) (st' := [aR 23 0]) (w' := wd N2 L2) (P := []) rfl (trivial) (pc' := 1060) rfl ?_
  refine Sem.cVp1 (t := 23) (i := 0) (as := []) (rst := []) (c' := 100 + 17 * i + 11) (s' := 2524 + 102 * i + 66) d133_1060 mk87 rfl co87 lk6_87 im87 se87 rfl (vN (t := 23) (i := 0) (by decide)) (show 1 ≤ mL 87 by decide) rfl (show 0 ≤ 8 by decide) (by decide) (by decide) (mc0 rfl) (ms0 rfl) (by first | exact lawC (by omega) | exact lawS (by omega)) (by first | exact lawC (by omega) | exact lawS (by omega)) (m87 N2 L2) ?_
  refine Sem.topNN (show N2 23 0 0 = z from e0) ?_
  refine Sem.seg [(.iload 5, 0, 0)] ⟨⟨d133_1063, trivial⟩, trivial⟩ (lv' := [(6, aL b), (5, aN z), (4, aN i), (0, aV (.ref sc.1)), (1, aR 0 0), (2, aR 23 0), (3, aR 47 0)]) (st' := [aN z, aN z]) (w' := wd N2 L2) (P := []) rfl (trivial) (pc' := 1065) rfl ?_
  refine Sem.icmpN (tgt := 1070) d133_1065 (by decide) (show z < 2 ^ 31 by omega) (show z < 2 ^ 31 by omega) (fun b1 => ?_) (fun b1 => ?_)
  · have b1_ : z = z := b1
    refine Sem.seg [(.iload 5, 0, 0)] ⟨⟨d133_1070, trivial⟩, trivial⟩ (lv' := [(6, aL b), (5, aN z), (4, aN i), (0, aV (.ref sc.1)), (1, aR 0 0), (2, aR 23 0), (3, aR 47 0)]) (st' := [aN z]) (w' := wd N2 L2) (P := []) rfl (trivial) (pc' := 1072) rfl ?_
    refine Sem.ifN (tgt := 1086) d133_1072 (by decide) (show z < 2 ^ 31 by omega) (fun b2 => ?_) (fun b2 => ?_)
    · have b2_ : ¬ z = 0 := b2
      refine Sem.goto (tgt := 1428) d133_1086 (by decide) ?_
      refine Sem.pick [2, 3, 4, 5, 6] (lv' := [(4, aN i), (0, aV (.ref sc.1)), (1, aR 0 0), (2, aR 23 0), (3, aR 47 0)]) rfl ?_
      refine Sem.widen (a := 100 + 17 * (i + 6)) (b := 2524 + 102 * (i + 6)) (by omega) (by omega) hzW ?_
      exact kk _ _ hI2
    · have b2_ : ¬ (¬ z = 0) := b2
      refine Sem.seg [(.aload_n 3, 0, 0), (.iconst 0, 0, 0), (.laload, 0, 0), (.lload 6, 0, 0)] ⟨⟨d133_1075, trivial⟩, ⟨d133_1076, trivial⟩, ⟨d133_1077, trivial⟩, ⟨d133_1078, trivial⟩, trivial⟩ (lv' := [(6, aL b), (5, aN z), (4, aN i), (0, aV (.ref sc.1)), (1, aR 0 0), (2, aR 23 0), (3, aR 47 0)]) (st' := [aL b, aL (L2 47 0 0)]) (w' := wd N2 L2) (P := [vld NN 47 0, 0 < 1]) rfl (⟨vN (t := 47) (i := 0) (by decide), (by decide : (0 : Nat) < 1)⟩) (pc' := 1080) rfl ?_
      refine Sem.lcmp (tgt := 1086) d133_1080 d133_1081 (by decide) (fun b3 => ?_) (fun b3 => ?_)
      · have b3_ : L2 47 0 0 = b := b3
        refine Sem.goto (tgt := 1428) d133_1086 (by decide) ?_
        refine Sem.pick [2, 3, 4, 5, 6] (lv' := [(4, aN i), (0, aV (.ref sc.1)), (1, aR 0 0), (2, aR 23 0), (3, aR 47 0)]) rfl ?_
        refine Sem.widen (a := 100 + 17 * (i + 6)) (b := 2524 + 102 * (i + 6)) (by omega) (by omega) hzW ?_
        exact kk _ _ hI2
      · exfalso; have b3_ : ¬ (L2 47 0 0 = b) := b3; exact b3_ (hv (by omega))
  · exfalso; have b1_ : ¬ (z = z) := b1; omega

theorem c_promise {sc : XT} {Q : QT} (N : TN) (L : TL) (i : Nat) (h : Inv N L) (hi : i + 6 ≤ sc.2.1) (h72 : sc.2.1 ≤ 3072) (kk : ∀ (N' : TN) (L' : TL), Inv N' L' → Sem sc 133 1428 [(4, aN i), (0, aV (.ref sc.1)), (1, aR 0 0), (2, aR 23 0), (3, aR 47 0)] [] (wd N' L') (100 + 17 * (i + 6)) (2524 + 102 * (i + 6)) Q) : Sem sc 133 1089 [(4, aN i), (0, aV (.ref sc.1)), (1, aR 0 0), (2, aR 23 0), (3, aR 47 0)] [] (wd N L) (100 + 17 * i) (2524 + 102 * i) Q := by
  refine Sem.seg [(.aload_n 1, 0, 0), (.aload_n 0, 0, 0), (.iload 4, 0, 0), (.iconst 1, 0, 0), (.iadd, 0, 0)] ⟨⟨d133_1089, trivial⟩, ⟨d133_1090, trivial⟩, ⟨d133_1091, trivial⟩, ⟨d133_1093, trivial⟩, ⟨d133_1094, trivial⟩, trivial⟩ (lv' := [(4, aN i), (0, aV (.ref sc.1)), (1, aR 0 0), (2, aR 23 0), (3, aR 47 0)]) (st' := [aN (i + 1), aV (.ref sc.1), aR 0 0]) (w' := wd N L) (P := []) rfl (trivial) (pc' := 1095) rfl ?_
  refine Sem.sld rfl d133_1095 (show i + 1 < sc.2.1 by omega) (show sc.2.1 < 2 ^ 31 by omega) ?_
  refine Sem.seg [(.aload_n 0, 0, 0), (.iload 4, 0, 0), (.iconst 2, 0, 0), (.iadd, 0, 0)] ⟨⟨d133_1096, trivial⟩, ⟨d133_1097, trivial⟩, ⟨d133_1099, trivial⟩, ⟨d133_1100, trivial⟩, trivial⟩ (lv' := [(4, aN i), (0, aV (.ref sc.1)), (1, aR 0 0), (2, aR 23 0), (3, aR 47 0)]) (st' := [aN (i + 2), aV (.ref sc.1), aI (sc.2.2 (i + 1)), aR 0 0]) (w' := wd N L) (P := []) rfl (trivial) (pc' := 1101) rfl ?_
  refine Sem.sld rfl d133_1101 (show i + 2 < sc.2.1 by omega) (show sc.2.1 < 2 ^ 31 by omega) ?_
  refine Sem.seg [(.aload_n 0, 0, 0), (.iload 4, 0, 0), (.iconst 3, 0, 0), (.iadd, 0, 0)] ⟨⟨d133_1102, trivial⟩, ⟨d133_1103, trivial⟩, ⟨d133_1105, trivial⟩, ⟨d133_1106, trivial⟩, trivial⟩ (lv' := [(4, aN i), (0, aV (.ref sc.1)), (1, aR 0 0), (2, aR 23 0), (3, aR 47 0)]) (st' := [aN (i + 3), aV (.ref sc.1), aI (sc.2.2 (i + 2)), aI (sc.2.2 (i + 1)), aR 0 0]) (w' := wd N L) (P := []) rfl (trivial) (pc' := 1107) rfl ?_
  refine Sem.sld rfl d133_1107 (show i + 3 < sc.2.1 by omega) (show sc.2.1 < 2 ^ 31 by omega) ?_
  refine Sem.seg [(.aload_n 3, 0, 0)] ⟨⟨d133_1108, trivial⟩, trivial⟩ (lv' := [(4, aN i), (0, aV (.ref sc.1)), (1, aR 0 0), (2, aR 23 0), (3, aR 47 0)]) (st' := [aR 47 0, aI (sc.2.2 (i + 3)), aI (sc.2.2 (i + 2)), aI (sc.2.2 (i + 1)), aR 0 0]) (w' := wd N L) (P := []) rfl (trivial) (pc' := 1109) rfl ?_
  refine Sem.cHmN (as := [aR 0 0, aI (sc.2.2 (i + 1)), aI (sc.2.2 (i + 2)), aI (sc.2.2 (i + 3)), aR 47 0]) (rst := []) (c' := 100 + 17 * i + 16) (s' := 2524 + 102 * i + 96) d133_1109 mk73 co73 lk6_136 ss73 (show 5 ≤ mL 73 by decide) rfl (show 0 ≤ 8 by decide) (by decide) (by decide) rfl rfl (by first | exact lawC (by omega) | exact lawS (by omega)) (by first | exact lawC (by omega) | exact lawS (by omega)) (m73 N L (sc.2.2 (i + 1)) (sc.2.2 (i + 2)) (sc.2.2 (i + 3)) h.1) ?_
  rintro z N1 L1 h1
  have hF := f_promise h1
  have hG := g_promise h1
  refine Sem.seg [(.istore 5, 0, 0), (.aload_n 2, 0, 0), (.aload_n 0, 0, 0), (.iload 4, 0, 0), (.iconst 1, 0, 0), (.iadd, 0, 0)] ⟨⟨d133_1112, trivial⟩, ⟨d133_1114, trivial⟩, ⟨d133_1115, trivial⟩, ⟨d133_1116, trivial⟩, ⟨d133_1118, trivial⟩, ⟨d133_1119, trivial⟩, trivial⟩ (lv' := [(5, aN z), (4, aN i), (0, aV (.ref sc.1)), (1, aR 0 0), (2, aR 23 0), (3, aR 47 0)]) (st' := [aN (i + 1), aV (.ref sc.1), aR 23 0]) (w' := wd N1 L1) (P := []) rfl (trivial) (pc' := 1120) rfl ?_
  refine Sem.sld rfl d133_1120 (show i + 1 < sc.2.1 by omega) (show sc.2.1 < 2 ^ 31 by omega) ?_
  refine Sem.seg [(.aload_n 0, 0, 0), (.iload 4, 0, 0), (.iconst 2, 0, 0), (.iadd, 0, 0)] ⟨⟨d133_1121, trivial⟩, ⟨d133_1122, trivial⟩, ⟨d133_1124, trivial⟩, ⟨d133_1125, trivial⟩, trivial⟩ (lv' := [(5, aN z), (4, aN i), (0, aV (.ref sc.1)), (1, aR 0 0), (2, aR 23 0), (3, aR 47 0)]) (st' := [aN (i + 2), aV (.ref sc.1), aI (sc.2.2 (i + 1)), aR 23 0]) (w' := wd N1 L1) (P := []) rfl (trivial) (pc' := 1126) rfl ?_
  refine Sem.sld rfl d133_1126 (show i + 2 < sc.2.1 by omega) (show sc.2.1 < 2 ^ 31 by omega) ?_
  refine Sem.seg [(.aload_n 0, 0, 0), (.iload 4, 0, 0), (.iconst 3, 0, 0), (.iadd, 0, 0)] ⟨⟨d133_1127, trivial⟩, ⟨d133_1128, trivial⟩, ⟨d133_1130, trivial⟩, ⟨d133_1131, trivial⟩, trivial⟩ (lv' := [(5, aN z), (4, aN i), (0, aV (.ref sc.1)), (1, aR 0 0), (2, aR 23 0), (3, aR 47 0)]) (st' := [aN (i + 3), aV (.ref sc.1), aI (sc.2.2 (i + 2)), aI (sc.2.2 (i + 1)), aR 23 0]) (w' := wd N1 L1) (P := []) rfl (trivial) (pc' := 1132) rfl ?_
  refine Sem.sld rfl d133_1132 (show i + 3 < sc.2.1 by omega) (show sc.2.1 < 2 ^ 31 by omega) ?_
  refine Sem.cVmI (t := 23) (i := 0) (as := [aI (sc.2.2 (i + 1)), aI (sc.2.2 (i + 2)), aI (sc.2.2 (i + 3))]) (rst := []) (c' := 100 + 17 * i + 16) (s' := 2524 + 102 * i + 96) d133_1133 mk126 rfl co126 lk6_138 im126 se126 rfl (vN (t := 23) (i := 0) (by decide)) (show 4 ≤ mL 126 by decide) rfl (show 0 ≤ 8 by decide) (by decide) (by decide) (mc0 rfl) (ms0 rfl) (by first | exact lawC (by omega) | exact lawS (by omega)) (by first | exact lawC (by omega) | exact lawS (by omega)) (m126 N1 L1 (sc.2.2 (i + 1)) (sc.2.2 (i + 2)) (sc.2.2 (i + 3)) (by rw [hF 23 0 20 (by omega)]; exact h.h20) (h.cd1 hF hG)) ?_
  rintro b N2 L2 h2
  obtain ⟨e0, hz3, hI2, hv⟩ := k_promise h h1 h2
  refine Sem.seg [(.istore 6, 0, 0), (.aload_n 2, 0, 0)] ⟨⟨d133_1136, trivial⟩, ⟨d133_1138, trivial⟩, trivial⟩ (lv' := [(6, aI b), (5, aN z), (4, aN i), (0, aV (.ref sc.1)), (1, aR 0 0), (2, aR 23 0), (3, aR 47 0)]) (st' := [aR 23 0]) (w' := wd N2 L2) (P := []) rfl (trivial) (pc' := 1139) rfl ?_
  refine Sem.cVp1 (t := 23) (i := 0) (as := []) (rst := []) (c' := 100 + 17 * i + 16) (s' := 2524 + 102 * i + 96) d133_1139 mk87 rfl co87 lk6_87 im87 se87 rfl (vN (t := 23) (i := 0) (by decide)) (show 1 ≤ mL 87 by decide) rfl (show 0 ≤ 8 by decide) (by decide) (by decide) (mc0 rfl) (ms0 rfl) (by first | exact lawC (by omega) | exact lawS (by omega)) (by first | exact lawC (by omega) | exact lawS (by omega)) (m87 N2 L2) ?_
  refine Sem.topNN (show N2 23 0 0 = z from e0) ?_
  refine Sem.seg [(.iload 5, 0, 0)] ⟨⟨d133_1142, trivial⟩, trivial⟩ (lv' := [(6, aI b), (5, aN z), (4, aN i), (0, aV (.ref sc.1)), (1, aR 0 0), (2, aR 23 0), (3, aR 47 0)]) (st' := [aN z, aN z]) (w' := wd N2 L2) (P := []) rfl (trivial) (pc' := 1144) rfl ?_
  refine Sem.icmpN (tgt := 1149) d133_1144 (by decide) (show z < 2 ^ 31 by omega) (show z < 2 ^ 31 by omega) (fun b1 => ?_) (fun b1 => ?_)
  · have b1_ : z = z := b1
    refine Sem.seg [(.iload 5, 0, 0)] ⟨⟨d133_1149, trivial⟩, trivial⟩ (lv' := [(6, aI b), (5, aN z), (4, aN i), (0, aV (.ref sc.1)), (1, aR 0 0), (2, aR 23 0), (3, aR 47 0)]) (st' := [aN z]) (w' := wd N2 L2) (P := []) rfl (trivial) (pc' := 1151) rfl ?_
    refine Sem.ifN (tgt := 1166) d133_1151 (by decide) (show z < 2 ^ 31 by omega) (fun b2 => ?_) (fun b2 => ?_)
    · have b2_ : ¬ z = 0 := b2
      refine Sem.goto (tgt := 1428) d133_1166 (by decide) ?_
      refine Sem.pick [2, 3, 4, 5, 6] (lv' := [(4, aN i), (0, aV (.ref sc.1)), (1, aR 0 0), (2, aR 23 0), (3, aR 47 0)]) rfl ?_
      refine Sem.widen (a := 100 + 17 * (i + 6)) (b := 2524 + 102 * (i + 6)) (by omega) (by omega) hzW ?_
      exact kk _ _ hI2
    · have b2_ : ¬ (¬ z = 0) := b2
      refine Sem.seg [(.aload_n 3, 0, 0), (.iconst 0, 0, 0), (.laload, 0, 0), (.iload 6, 0, 0), (.i2l, 0, 0)] ⟨⟨d133_1154, trivial⟩, ⟨d133_1155, trivial⟩, ⟨d133_1156, trivial⟩, ⟨d133_1157, trivial⟩, ⟨d133_1159, trivial⟩, trivial⟩ (lv' := [(6, aI b), (5, aN z), (4, aN i), (0, aV (.ref sc.1)), (1, aR 0 0), (2, aR 23 0), (3, aR 47 0)]) (st' := [aL b.toInt64, aL (L2 47 0 0)]) (w' := wd N2 L2) (P := [vld NN 47 0, 0 < 1]) rfl (⟨vN (t := 47) (i := 0) (by decide), (by decide : (0 : Nat) < 1)⟩) (pc' := 1160) rfl ?_
      refine Sem.lcmp (tgt := 1166) d133_1160 d133_1161 (by decide) (fun b3 => ?_) (fun b3 => ?_)
      · have b3_ : L2 47 0 0 = b.toInt64 := b3
        refine Sem.goto (tgt := 1428) d133_1166 (by decide) ?_
        refine Sem.pick [2, 3, 4, 5, 6] (lv' := [(4, aN i), (0, aV (.ref sc.1)), (1, aR 0 0), (2, aR 23 0), (3, aR 47 0)]) rfl ?_
        refine Sem.widen (a := 100 + 17 * (i + 6)) (b := 2524 + 102 * (i + 6)) (by omega) (by omega) hzW ?_
        exact kk _ _ hI2
      · exfalso; have b3_ : ¬ (L2 47 0 0 = b.toInt64) := b3; exact b3_ (hv (by omega))
  · exfalso; have b1_ : ¬ (z = z) := b1; omega

theorem c_reserve {sc : XT} {Q : QT} (N : TN) (L : TL) (i : Nat) (h : Inv N L) (hi : i + 6 ≤ sc.2.1) (h72 : sc.2.1 ≤ 3072) (kk : ∀ (N' : TN) (L' : TL), Inv N' L' → Sem sc 133 1428 [(4, aN i), (0, aV (.ref sc.1)), (1, aR 0 0), (2, aR 23 0), (3, aR 47 0)] [] (wd N' L') (100 + 17 * (i + 6)) (2524 + 102 * (i + 6)) Q) : Sem sc 133 1169 [(4, aN i), (0, aV (.ref sc.1)), (1, aR 0 0), (2, aR 23 0), (3, aR 47 0)] [] (wd N L) (100 + 17 * i) (2524 + 102 * i) Q := by
  refine Sem.seg [(.aload_n 1, 0, 0), (.aload_n 0, 0, 0), (.iload 4, 0, 0), (.iconst 1, 0, 0), (.iadd, 0, 0)] ⟨⟨d133_1169, trivial⟩, ⟨d133_1170, trivial⟩, ⟨d133_1171, trivial⟩, ⟨d133_1173, trivial⟩, ⟨d133_1174, trivial⟩, trivial⟩ (lv' := [(4, aN i), (0, aV (.ref sc.1)), (1, aR 0 0), (2, aR 23 0), (3, aR 47 0)]) (st' := [aN (i + 1), aV (.ref sc.1), aR 0 0]) (w' := wd N L) (P := []) rfl (trivial) (pc' := 1175) rfl ?_
  refine Sem.sld rfl d133_1175 (show i + 1 < sc.2.1 by omega) (show sc.2.1 < 2 ^ 31 by omega) ?_
  refine Sem.seg [(.aload_n 0, 0, 0), (.iload 4, 0, 0), (.iconst 2, 0, 0), (.iadd, 0, 0)] ⟨⟨d133_1176, trivial⟩, ⟨d133_1177, trivial⟩, ⟨d133_1179, trivial⟩, ⟨d133_1180, trivial⟩, trivial⟩ (lv' := [(4, aN i), (0, aV (.ref sc.1)), (1, aR 0 0), (2, aR 23 0), (3, aR 47 0)]) (st' := [aN (i + 2), aV (.ref sc.1), aI (sc.2.2 (i + 1)), aR 0 0]) (w' := wd N L) (P := []) rfl (trivial) (pc' := 1181) rfl ?_
  refine Sem.sld rfl d133_1181 (show i + 2 < sc.2.1 by omega) (show sc.2.1 < 2 ^ 31 by omega) ?_
  refine Sem.seg [(.aload_n 0, 0, 0), (.iload 4, 0, 0), (.iconst 3, 0, 0), (.iadd, 0, 0)] ⟨⟨d133_1182, trivial⟩, ⟨d133_1183, trivial⟩, ⟨d133_1185, trivial⟩, ⟨d133_1186, trivial⟩, trivial⟩ (lv' := [(4, aN i), (0, aV (.ref sc.1)), (1, aR 0 0), (2, aR 23 0), (3, aR 47 0)]) (st' := [aN (i + 3), aV (.ref sc.1), aI (sc.2.2 (i + 2)), aI (sc.2.2 (i + 1)), aR 0 0]) (w' := wd N L) (P := []) rfl (trivial) (pc' := 1187) rfl ?_
  refine Sem.sld rfl d133_1187 (show i + 3 < sc.2.1 by omega) (show sc.2.1 < 2 ^ 31 by omega) ?_
  refine Sem.seg [(.aload_n 3, 0, 0)] ⟨⟨d133_1188, trivial⟩, trivial⟩ (lv' := [(4, aN i), (0, aV (.ref sc.1)), (1, aR 0 0), (2, aR 23 0), (3, aR 47 0)]) (st' := [aR 47 0, aI (sc.2.2 (i + 3)), aI (sc.2.2 (i + 2)), aI (sc.2.2 (i + 1)), aR 0 0]) (w' := wd N L) (P := []) rfl (trivial) (pc' := 1189) rfl ?_
  refine Sem.cHmN (as := [aR 0 0, aI (sc.2.2 (i + 1)), aI (sc.2.2 (i + 2)), aI (sc.2.2 (i + 3)), aR 47 0]) (rst := []) (c' := 100 + 17 * i + 17) (s' := 2524 + 102 * i + 102) d133_1189 mk76 co76 lk6_139 ss76 (show 5 ≤ mL 76 by decide) rfl (show 0 ≤ 8 by decide) (by decide) (by decide) rfl rfl (by first | exact lawC (by omega) | exact lawS (by omega)) (by first | exact lawC (by omega) | exact lawS (by omega)) (m76 N L (sc.2.2 (i + 1)) (sc.2.2 (i + 2)) (sc.2.2 (i + 3)) h.1) ?_
  rintro z N1 L1 h1
  have hF := f_reserve h1
  have hG := g_reserve h1
  refine Sem.seg [(.istore 5, 0, 0), (.aload_n 2, 0, 0), (.aload_n 0, 0, 0), (.iload 4, 0, 0), (.iconst 1, 0, 0), (.iadd, 0, 0)] ⟨⟨d133_1192, trivial⟩, ⟨d133_1194, trivial⟩, ⟨d133_1195, trivial⟩, ⟨d133_1196, trivial⟩, ⟨d133_1198, trivial⟩, ⟨d133_1199, trivial⟩, trivial⟩ (lv' := [(5, aN z), (4, aN i), (0, aV (.ref sc.1)), (1, aR 0 0), (2, aR 23 0), (3, aR 47 0)]) (st' := [aN (i + 1), aV (.ref sc.1), aR 23 0]) (w' := wd N1 L1) (P := []) rfl (trivial) (pc' := 1200) rfl ?_
  refine Sem.sld rfl d133_1200 (show i + 1 < sc.2.1 by omega) (show sc.2.1 < 2 ^ 31 by omega) ?_
  refine Sem.seg [(.aload_n 0, 0, 0), (.iload 4, 0, 0), (.iconst 2, 0, 0), (.iadd, 0, 0)] ⟨⟨d133_1201, trivial⟩, ⟨d133_1202, trivial⟩, ⟨d133_1204, trivial⟩, ⟨d133_1205, trivial⟩, trivial⟩ (lv' := [(5, aN z), (4, aN i), (0, aV (.ref sc.1)), (1, aR 0 0), (2, aR 23 0), (3, aR 47 0)]) (st' := [aN (i + 2), aV (.ref sc.1), aI (sc.2.2 (i + 1)), aR 23 0]) (w' := wd N1 L1) (P := []) rfl (trivial) (pc' := 1206) rfl ?_
  refine Sem.sld rfl d133_1206 (show i + 2 < sc.2.1 by omega) (show sc.2.1 < 2 ^ 31 by omega) ?_
  refine Sem.seg [(.aload_n 0, 0, 0), (.iload 4, 0, 0), (.iconst 3, 0, 0), (.iadd, 0, 0)] ⟨⟨d133_1207, trivial⟩, ⟨d133_1208, trivial⟩, ⟨d133_1210, trivial⟩, ⟨d133_1211, trivial⟩, trivial⟩ (lv' := [(5, aN z), (4, aN i), (0, aV (.ref sc.1)), (1, aR 0 0), (2, aR 23 0), (3, aR 47 0)]) (st' := [aN (i + 3), aV (.ref sc.1), aI (sc.2.2 (i + 2)), aI (sc.2.2 (i + 1)), aR 23 0]) (w' := wd N1 L1) (P := []) rfl (trivial) (pc' := 1212) rfl ?_
  refine Sem.sld rfl d133_1212 (show i + 3 < sc.2.1 by omega) (show sc.2.1 < 2 ^ 31 by omega) ?_
  refine Sem.cVmI (t := 23) (i := 0) (as := [aI (sc.2.2 (i + 1)), aI (sc.2.2 (i + 2)), aI (sc.2.2 (i + 3))]) (rst := []) (c' := 100 + 17 * i + 17) (s' := 2524 + 102 * i + 102) d133_1213 mk128 rfl co128 lk6_141 im128 se128 rfl (vN (t := 23) (i := 0) (by decide)) (show 4 ≤ mL 128 by decide) rfl (show 0 ≤ 8 by decide) (by decide) (by decide) (mc0 rfl) (ms0 rfl) (by first | exact lawC (by omega) | exact lawS (by omega)) (by first | exact lawC (by omega) | exact lawS (by omega)) (m128 N1 L1 (sc.2.2 (i + 1)) (sc.2.2 (i + 2)) (sc.2.2 (i + 3)) (by rw [hF 23 0 20 (by omega)]; exact h.h20) (h.cd1 hF hG)) ?_
  rintro b N2 L2 h2
  obtain ⟨e0, hz3, hI2, hv⟩ := k_reserve h h1 h2
  refine Sem.seg [(.istore 6, 0, 0), (.aload_n 2, 0, 0)] ⟨⟨d133_1216, trivial⟩, ⟨d133_1218, trivial⟩, trivial⟩ (lv' := [(6, aI b), (5, aN z), (4, aN i), (0, aV (.ref sc.1)), (1, aR 0 0), (2, aR 23 0), (3, aR 47 0)]) (st' := [aR 23 0]) (w' := wd N2 L2) (P := []) rfl (trivial) (pc' := 1219) rfl ?_
  refine Sem.cVp1 (t := 23) (i := 0) (as := []) (rst := []) (c' := 100 + 17 * i + 17) (s' := 2524 + 102 * i + 102) d133_1219 mk87 rfl co87 lk6_87 im87 se87 rfl (vN (t := 23) (i := 0) (by decide)) (show 1 ≤ mL 87 by decide) rfl (show 0 ≤ 8 by decide) (by decide) (by decide) (mc0 rfl) (ms0 rfl) (by first | exact lawC (by omega) | exact lawS (by omega)) (by first | exact lawC (by omega) | exact lawS (by omega)) (m87 N2 L2) ?_
  refine Sem.topNN (show N2 23 0 0 = z from e0) ?_
  refine Sem.seg [(.iload 5, 0, 0)] ⟨⟨d133_1222, trivial⟩, trivial⟩ (lv' := [(6, aI b), (5, aN z), (4, aN i), (0, aV (.ref sc.1)), (1, aR 0 0), (2, aR 23 0), (3, aR 47 0)]) (st' := [aN z, aN z]) (w' := wd N2 L2) (P := []) rfl (trivial) (pc' := 1224) rfl ?_
  refine Sem.icmpN (tgt := 1229) d133_1224 (by decide) (show z < 2 ^ 31 by omega) (show z < 2 ^ 31 by omega) (fun b1 => ?_) (fun b1 => ?_)
  · have b1_ : z = z := b1
    refine Sem.seg [(.iload 5, 0, 0)] ⟨⟨d133_1229, trivial⟩, trivial⟩ (lv' := [(6, aI b), (5, aN z), (4, aN i), (0, aV (.ref sc.1)), (1, aR 0 0), (2, aR 23 0), (3, aR 47 0)]) (st' := [aN z]) (w' := wd N2 L2) (P := []) rfl (trivial) (pc' := 1231) rfl ?_
    refine Sem.ifN (tgt := 1246) d133_1231 (by decide) (show z < 2 ^ 31 by omega) (fun b2 => ?_) (fun b2 => ?_)
    · have b2_ : ¬ z = 0 := b2
      refine Sem.goto (tgt := 1428) d133_1246 (by decide) ?_
      refine Sem.pick [2, 3, 4, 5, 6] (lv' := [(4, aN i), (0, aV (.ref sc.1)), (1, aR 0 0), (2, aR 23 0), (3, aR 47 0)]) rfl ?_
      refine Sem.widen (a := 100 + 17 * (i + 6)) (b := 2524 + 102 * (i + 6)) (by omega) (by omega) hzW ?_
      exact kk _ _ hI2
    · have b2_ : ¬ (¬ z = 0) := b2
      refine Sem.seg [(.aload_n 3, 0, 0), (.iconst 0, 0, 0), (.laload, 0, 0), (.iload 6, 0, 0), (.i2l, 0, 0)] ⟨⟨d133_1234, trivial⟩, ⟨d133_1235, trivial⟩, ⟨d133_1236, trivial⟩, ⟨d133_1237, trivial⟩, ⟨d133_1239, trivial⟩, trivial⟩ (lv' := [(6, aI b), (5, aN z), (4, aN i), (0, aV (.ref sc.1)), (1, aR 0 0), (2, aR 23 0), (3, aR 47 0)]) (st' := [aL b.toInt64, aL (L2 47 0 0)]) (w' := wd N2 L2) (P := [vld NN 47 0, 0 < 1]) rfl (⟨vN (t := 47) (i := 0) (by decide), (by decide : (0 : Nat) < 1)⟩) (pc' := 1240) rfl ?_
      refine Sem.lcmp (tgt := 1246) d133_1240 d133_1241 (by decide) (fun b3 => ?_) (fun b3 => ?_)
      · have b3_ : L2 47 0 0 = b.toInt64 := b3
        refine Sem.goto (tgt := 1428) d133_1246 (by decide) ?_
        refine Sem.pick [2, 3, 4, 5, 6] (lv' := [(4, aN i), (0, aV (.ref sc.1)), (1, aR 0 0), (2, aR 23 0), (3, aR 47 0)]) rfl ?_
        refine Sem.widen (a := 100 + 17 * (i + 6)) (b := 2524 + 102 * (i + 6)) (by omega) (by omega) hzW ?_
        exact kk _ _ hI2
      · exfalso; have b3_ : ¬ (L2 47 0 0 = b.toInt64) := b3; exact b3_ (hv (by omega))
  · exfalso; have b1_ : ¬ (z = z) := b1; omega

theorem c_giveBack {sc : XT} {Q : QT} (N : TN) (L : TL) (i : Nat) (h : Inv N L) (hi : i + 6 ≤ sc.2.1) (h72 : sc.2.1 ≤ 3072) (kk : ∀ (N' : TN) (L' : TL), Inv N' L' → Sem sc 133 1428 [(4, aN i), (0, aV (.ref sc.1)), (1, aR 0 0), (2, aR 23 0), (3, aR 47 0)] [] (wd N' L') (100 + 17 * (i + 6)) (2524 + 102 * (i + 6)) Q) : Sem sc 133 1249 [(4, aN i), (0, aV (.ref sc.1)), (1, aR 0 0), (2, aR 23 0), (3, aR 47 0)] [] (wd N L) (100 + 17 * i) (2524 + 102 * i) Q := by
  refine Sem.seg [(.aload_n 1, 0, 0), (.aload_n 0, 0, 0), (.iload 4, 0, 0), (.iconst 1, 0, 0), (.iadd, 0, 0)] ⟨⟨d133_1249, trivial⟩, ⟨d133_1250, trivial⟩, ⟨d133_1251, trivial⟩, ⟨d133_1253, trivial⟩, ⟨d133_1254, trivial⟩, trivial⟩ (lv' := [(4, aN i), (0, aV (.ref sc.1)), (1, aR 0 0), (2, aR 23 0), (3, aR 47 0)]) (st' := [aN (i + 1), aV (.ref sc.1), aR 0 0]) (w' := wd N L) (P := []) rfl (trivial) (pc' := 1255) rfl ?_
  refine Sem.sld rfl d133_1255 (show i + 1 < sc.2.1 by omega) (show sc.2.1 < 2 ^ 31 by omega) ?_
  refine Sem.seg [(.aload_n 3, 0, 0)] ⟨⟨d133_1256, trivial⟩, trivial⟩ (lv' := [(4, aN i), (0, aV (.ref sc.1)), (1, aR 0 0), (2, aR 23 0), (3, aR 47 0)]) (st' := [aR 47 0, aI (sc.2.2 (i + 1)), aR 0 0]) (w' := wd N L) (P := []) rfl (trivial) (pc' := 1257) rfl ?_
  refine Sem.cHmN (as := [aR 0 0, aI (sc.2.2 (i + 1)), aR 47 0]) (rst := []) (c' := 100 + 17 * i + 1) (s' := 2524 + 102 * i + 6) d133_1257 mk78 co78 lk6_142 ss78 (show 3 ≤ mL 78 by decide) rfl (show 0 ≤ 8 by decide) (by decide) (by decide) rfl rfl (by first | exact lawC (by omega) | exact lawS (by omega)) (by first | exact lawC (by omega) | exact lawS (by omega)) (m78 N L (sc.2.2 (i + 1)) (h.1.2.1 2 (by omega)).1) ?_
  rintro z N1 L1 h1
  have hF := f_giveBack h1
  refine Sem.seg [(.istore 5, 0, 0), (.aload_n 2, 0, 0), (.aload_n 0, 0, 0), (.iload 4, 0, 0), (.iconst 1, 0, 0), (.iadd, 0, 0)] ⟨⟨d133_1260, trivial⟩, ⟨d133_1262, trivial⟩, ⟨d133_1263, trivial⟩, ⟨d133_1264, trivial⟩, ⟨d133_1266, trivial⟩, ⟨d133_1267, trivial⟩, trivial⟩ (lv' := [(5, aN z), (4, aN i), (0, aV (.ref sc.1)), (1, aR 0 0), (2, aR 23 0), (3, aR 47 0)]) (st' := [aN (i + 1), aV (.ref sc.1), aR 23 0]) (w' := wd N1 L1) (P := []) rfl (trivial) (pc' := 1268) rfl ?_
  refine Sem.sld rfl d133_1268 (show i + 1 < sc.2.1 by omega) (show sc.2.1 < 2 ^ 31 by omega) ?_
  refine Sem.cVmN (t := 23) (i := 0) (as := [aI (sc.2.2 (i + 1))]) (rst := []) (c' := 100 + 17 * i + 1) (s' := 2524 + 102 * i + 6) d133_1269 mk129 rfl co129 lk6_144 im129 se129 rfl (vN (t := 23) (i := 0) (by decide)) (show 2 ≤ mL 129 by decide) rfl (show 0 ≤ 8 by decide) (by decide) (by decide) (mc0 rfl) (ms0 rfl) (by first | exact lawC (by omega) | exact lawS (by omega)) (by first | exact lawC (by omega) | exact lawS (by omega)) (m129 N1 L1 (sc.2.2 (i + 1)) (by rw [hF 37 0 2 (by omega), h.z (by omega)]; exact (h.1.2.1 2 (by omega)).1)) ?_
  rintro b N2 L2 h2
  obtain ⟨e0, hz3, hI2, hv⟩ := k_giveBack h h1 h2
  refine Sem.seg [(.istore 6, 0, 0), (.aload_n 2, 0, 0)] ⟨⟨d133_1272, trivial⟩, ⟨d133_1274, trivial⟩, trivial⟩ (lv' := [(6, aN b), (5, aN z), (4, aN i), (0, aV (.ref sc.1)), (1, aR 0 0), (2, aR 23 0), (3, aR 47 0)]) (st' := [aR 23 0]) (w' := wd N2 L2) (P := []) rfl (trivial) (pc' := 1275) rfl ?_
  refine Sem.cVp1 (t := 23) (i := 0) (as := []) (rst := []) (c' := 100 + 17 * i + 1) (s' := 2524 + 102 * i + 6) d133_1275 mk87 rfl co87 lk6_87 im87 se87 rfl (vN (t := 23) (i := 0) (by decide)) (show 1 ≤ mL 87 by decide) rfl (show 0 ≤ 8 by decide) (by decide) (by decide) (mc0 rfl) (ms0 rfl) (by first | exact lawC (by omega) | exact lawS (by omega)) (by first | exact lawC (by omega) | exact lawS (by omega)) (m87 N2 L2) ?_
  refine Sem.topNN (show N2 23 0 0 = z from e0) ?_
  refine Sem.seg [(.iload 5, 0, 0)] ⟨⟨d133_1278, trivial⟩, trivial⟩ (lv' := [(6, aN b), (5, aN z), (4, aN i), (0, aV (.ref sc.1)), (1, aR 0 0), (2, aR 23 0), (3, aR 47 0)]) (st' := [aN z, aN z]) (w' := wd N2 L2) (P := []) rfl (trivial) (pc' := 1280) rfl ?_
  refine Sem.icmpN (tgt := 1285) d133_1280 (by decide) (show z < 2 ^ 31 by omega) (show z < 2 ^ 31 by omega) (fun b1 => ?_) (fun b1 => ?_)
  · have b1_ : z = z := b1
    refine Sem.seg [(.iload 5, 0, 0)] ⟨⟨d133_1285, trivial⟩, trivial⟩ (lv' := [(6, aN b), (5, aN z), (4, aN i), (0, aV (.ref sc.1)), (1, aR 0 0), (2, aR 23 0), (3, aR 47 0)]) (st' := [aN z]) (w' := wd N2 L2) (P := []) rfl (trivial) (pc' := 1287) rfl ?_
    refine Sem.ifN (tgt := 1302) d133_1287 (by decide) (show z < 2 ^ 31 by omega) (fun b2 => ?_) (fun b2 => ?_)
    · have b2_ : ¬ z = 0 := b2
      refine Sem.goto (tgt := 1428) d133_1302 (by decide) ?_
      refine Sem.pick [2, 3, 4, 5, 6] (lv' := [(4, aN i), (0, aV (.ref sc.1)), (1, aR 0 0), (2, aR 23 0), (3, aR 47 0)]) rfl ?_
      refine Sem.widen (a := 100 + 17 * (i + 6)) (b := 2524 + 102 * (i + 6)) (by omega) (by omega) hzW ?_
      exact kk _ _ hI2
    · have b2_ : ¬ (¬ z = 0) := b2
      refine Sem.seg [(.aload_n 3, 0, 0), (.iconst 0, 0, 0), (.laload, 0, 0), (.iload 6, 0, 0), (.i2l, 0, 0)] ⟨⟨d133_1290, trivial⟩, ⟨d133_1291, trivial⟩, ⟨d133_1292, trivial⟩, ⟨d133_1293, trivial⟩, ⟨d133_1295, trivial⟩, trivial⟩ (lv' := [(6, aN b), (5, aN z), (4, aN i), (0, aV (.ref sc.1)), (1, aR 0 0), (2, aR 23 0), (3, aR 47 0)]) (st' := [aL ((nI b).toInt64), aL (L2 47 0 0)]) (w' := wd N2 L2) (P := [vld NN 47 0, 0 < 1]) rfl (⟨vN (t := 47) (i := 0) (by decide), (by decide : (0 : Nat) < 1)⟩) (pc' := 1296) rfl ?_
      refine Sem.lcmp (tgt := 1302) d133_1296 d133_1297 (by decide) (fun b3 => ?_) (fun b3 => ?_)
      · have b3_ : L2 47 0 0 = (nI b).toInt64 := b3
        refine Sem.goto (tgt := 1428) d133_1302 (by decide) ?_
        refine Sem.pick [2, 3, 4, 5, 6] (lv' := [(4, aN i), (0, aV (.ref sc.1)), (1, aR 0 0), (2, aR 23 0), (3, aR 47 0)]) rfl ?_
        refine Sem.widen (a := 100 + 17 * (i + 6)) (b := 2524 + 102 * (i + 6)) (by omega) (by omega) hzW ?_
        exact kk _ _ hI2
      · exfalso; have b3_ : ¬ (L2 47 0 0 = (nI b).toInt64) := b3; exact b3_ (hv (by omega))
  · exfalso; have b1_ : ¬ (z = z) := b1; omega

theorem c_load {sc : XT} {Q : QT} (N : TN) (L : TL) (i : Nat) (h : Inv N L) (hi : i + 6 ≤ sc.2.1) (h72 : sc.2.1 ≤ 3072) (kk : ∀ (N' : TN) (L' : TL), Inv N' L' → Sem sc 133 1428 [(4, aN i), (0, aV (.ref sc.1)), (1, aR 0 0), (2, aR 23 0), (3, aR 47 0)] [] (wd N' L') (100 + 17 * (i + 6)) (2524 + 102 * (i + 6)) Q) : Sem sc 133 1305 [(4, aN i), (0, aV (.ref sc.1)), (1, aR 0 0), (2, aR 23 0), (3, aR 47 0)] [] (wd N L) (100 + 17 * i) (2524 + 102 * i) Q := by
  refine Sem.seg [(.aload_n 1, 0, 0), (.aload_n 0, 0, 0), (.iload 4, 0, 0), (.iconst 1, 0, 0), (.iadd, 0, 0)] ⟨⟨d133_1305, trivial⟩, ⟨d133_1306, trivial⟩, ⟨d133_1307, trivial⟩, ⟨d133_1309, trivial⟩, ⟨d133_1310, trivial⟩, trivial⟩ (lv' := [(4, aN i), (0, aV (.ref sc.1)), (1, aR 0 0), (2, aR 23 0), (3, aR 47 0)]) (st' := [aN (i + 1), aV (.ref sc.1), aR 0 0]) (w' := wd N L) (P := []) rfl (trivial) (pc' := 1311) rfl ?_
  refine Sem.sld rfl d133_1311 (show i + 1 < sc.2.1 by omega) (show sc.2.1 < 2 ^ 31 by omega) ?_
  refine Sem.seg [(.aload_n 0, 0, 0), (.iload 4, 0, 0), (.iconst 2, 0, 0), (.iadd, 0, 0)] ⟨⟨d133_1312, trivial⟩, ⟨d133_1313, trivial⟩, ⟨d133_1315, trivial⟩, ⟨d133_1316, trivial⟩, trivial⟩ (lv' := [(4, aN i), (0, aV (.ref sc.1)), (1, aR 0 0), (2, aR 23 0), (3, aR 47 0)]) (st' := [aN (i + 2), aV (.ref sc.1), aI (sc.2.2 (i + 1)), aR 0 0]) (w' := wd N L) (P := []) rfl (trivial) (pc' := 1317) rfl ?_
  refine Sem.sld rfl d133_1317 (show i + 2 < sc.2.1 by omega) (show sc.2.1 < 2 ^ 31 by omega) ?_
  refine Sem.seg [(.aload_n 3, 0, 0)] ⟨⟨d133_1318, trivial⟩, trivial⟩ (lv' := [(4, aN i), (0, aV (.ref sc.1)), (1, aR 0 0), (2, aR 23 0), (3, aR 47 0)]) (st' := [aR 47 0, aI (sc.2.2 (i + 2)), aI (sc.2.2 (i + 1)), aR 0 0]) (w' := wd N L) (P := []) rfl (trivial) (pc' := 1319) rfl ?_
  refine Sem.cHmN (as := [aR 0 0, aI (sc.2.2 (i + 1)), aI (sc.2.2 (i + 2)), aR 47 0]) (rst := []) (c' := 100 + 17 * i + 3) (s' := 2524 + 102 * i + 18) d133_1319 mk80 co80 lk6_145 ss80 (show 4 ≤ mL 80 by decide) rfl (show 0 ≤ 8 by decide) (by decide) (by decide) rfl rfl (by first | exact lawC (by omega) | exact lawS (by omega)) (by first | exact lawC (by omega) | exact lawS (by omega)) (m80 N L (sc.2.2 (i + 1)) (sc.2.2 (i + 2)) h.1) ?_
  rintro z N1 L1 h1
  have hF := f_load h1
  have hG := g_load h1
  refine Sem.seg [(.istore 5, 0, 0), (.aload_n 2, 0, 0), (.aload_n 0, 0, 0), (.iload 4, 0, 0), (.iconst 1, 0, 0), (.iadd, 0, 0)] ⟨⟨d133_1322, trivial⟩, ⟨d133_1324, trivial⟩, ⟨d133_1325, trivial⟩, ⟨d133_1326, trivial⟩, ⟨d133_1328, trivial⟩, ⟨d133_1329, trivial⟩, trivial⟩ (lv' := [(5, aN z), (4, aN i), (0, aV (.ref sc.1)), (1, aR 0 0), (2, aR 23 0), (3, aR 47 0)]) (st' := [aN (i + 1), aV (.ref sc.1), aR 23 0]) (w' := wd N1 L1) (P := []) rfl (trivial) (pc' := 1330) rfl ?_
  refine Sem.sld rfl d133_1330 (show i + 1 < sc.2.1 by omega) (show sc.2.1 < 2 ^ 31 by omega) ?_
  refine Sem.seg [(.aload_n 0, 0, 0), (.iload 4, 0, 0), (.iconst 2, 0, 0), (.iadd, 0, 0)] ⟨⟨d133_1331, trivial⟩, ⟨d133_1332, trivial⟩, ⟨d133_1334, trivial⟩, ⟨d133_1335, trivial⟩, trivial⟩ (lv' := [(5, aN z), (4, aN i), (0, aV (.ref sc.1)), (1, aR 0 0), (2, aR 23 0), (3, aR 47 0)]) (st' := [aN (i + 2), aV (.ref sc.1), aI (sc.2.2 (i + 1)), aR 23 0]) (w' := wd N1 L1) (P := []) rfl (trivial) (pc' := 1336) rfl ?_
  refine Sem.sld rfl d133_1336 (show i + 2 < sc.2.1 by omega) (show sc.2.1 < 2 ^ 31 by omega) ?_
  refine Sem.cVmL (t := 23) (i := 0) (as := [aI (sc.2.2 (i + 1)), aI (sc.2.2 (i + 2))]) (rst := []) (c' := 100 + 17 * i + 3) (s' := 2524 + 102 * i + 18) d133_1337 mk130 rfl co130 lk6_147 im130 se130 rfl (vN (t := 23) (i := 0) (by decide)) (show 3 ≤ mL 130 by decide) rfl (show 0 ≤ 8 by decide) (by decide) (by decide) (mc0 rfl) (ms0 rfl) (by first | exact lawC (by omega) | exact lawS (by omega)) (by first | exact lawC (by omega) | exact lawS (by omega)) (m130 N1 L1 (sc.2.2 (i + 1)) (sc.2.2 (i + 2)) (by rw [hF 23 0 20 (by omega)]; exact h.h20) (h.cd1 hF hG)) ?_
  rintro b N2 L2 h2
  obtain ⟨e0, hz3, hI2, hv⟩ := k_load h h1 h2
  refine Sem.seg [(.lstore 6, 0, 0), (.aload_n 2, 0, 0)] ⟨⟨d133_1340, trivial⟩, ⟨d133_1342, trivial⟩, trivial⟩ (lv' := [(6, aL b), (5, aN z), (4, aN i), (0, aV (.ref sc.1)), (1, aR 0 0), (2, aR 23 0), (3, aR 47 0)]) (st' := [aR 23 0]) (w' := wd N2 L2) (P := []) rfl (trivial) (pc' := 1343) rfl ?_
  refine Sem.cVp1 (t := 23) (i := 0) (as := []) (rst := []) (c' := 100 + 17 * i + 3) (s' := 2524 + 102 * i + 18) d133_1343 mk87 rfl co87 lk6_87 im87 se87 rfl (vN (t := 23) (i := 0) (by decide)) (show 1 ≤ mL 87 by decide) rfl (show 0 ≤ 8 by decide) (by decide) (by decide) (mc0 rfl) (ms0 rfl) (by first | exact lawC (by omega) | exact lawS (by omega)) (by first | exact lawC (by omega) | exact lawS (by omega)) (m87 N2 L2) ?_
  refine Sem.topNN (show N2 23 0 0 = z from e0) ?_
  refine Sem.seg [(.iload 5, 0, 0)] ⟨⟨d133_1346, trivial⟩, trivial⟩ (lv' := [(6, aL b), (5, aN z), (4, aN i), (0, aV (.ref sc.1)), (1, aR 0 0), (2, aR 23 0), (3, aR 47 0)]) (st' := [aN z, aN z]) (w' := wd N2 L2) (P := []) rfl (trivial) (pc' := 1348) rfl ?_
  refine Sem.icmpN (tgt := 1353) d133_1348 (by decide) (show z < 2 ^ 31 by omega) (show z < 2 ^ 31 by omega) (fun b1 => ?_) (fun b1 => ?_)
  · have b1_ : z = z := b1
    refine Sem.seg [(.iload 5, 0, 0)] ⟨⟨d133_1353, trivial⟩, trivial⟩ (lv' := [(6, aL b), (5, aN z), (4, aN i), (0, aV (.ref sc.1)), (1, aR 0 0), (2, aR 23 0), (3, aR 47 0)]) (st' := [aN z]) (w' := wd N2 L2) (P := []) rfl (trivial) (pc' := 1355) rfl ?_
    refine Sem.ifN (tgt := 1369) d133_1355 (by decide) (show z < 2 ^ 31 by omega) (fun b2 => ?_) (fun b2 => ?_)
    · have b2_ : ¬ z = 0 := b2
      refine Sem.goto (tgt := 1428) d133_1369 (by decide) ?_
      refine Sem.pick [2, 3, 4, 5, 6] (lv' := [(4, aN i), (0, aV (.ref sc.1)), (1, aR 0 0), (2, aR 23 0), (3, aR 47 0)]) rfl ?_
      refine Sem.widen (a := 100 + 17 * (i + 6)) (b := 2524 + 102 * (i + 6)) (by omega) (by omega) hzW ?_
      exact kk _ _ hI2
    · have b2_ : ¬ (¬ z = 0) := b2
      refine Sem.seg [(.aload_n 3, 0, 0), (.iconst 0, 0, 0), (.laload, 0, 0), (.lload 6, 0, 0)] ⟨⟨d133_1358, trivial⟩, ⟨d133_1359, trivial⟩, ⟨d133_1360, trivial⟩, ⟨d133_1361, trivial⟩, trivial⟩ (lv' := [(6, aL b), (5, aN z), (4, aN i), (0, aV (.ref sc.1)), (1, aR 0 0), (2, aR 23 0), (3, aR 47 0)]) (st' := [aL b, aL (L2 47 0 0)]) (w' := wd N2 L2) (P := [vld NN 47 0, 0 < 1]) rfl (⟨vN (t := 47) (i := 0) (by decide), (by decide : (0 : Nat) < 1)⟩) (pc' := 1363) rfl ?_
      refine Sem.lcmp (tgt := 1369) d133_1363 d133_1364 (by decide) (fun b3 => ?_) (fun b3 => ?_)
      · have b3_ : L2 47 0 0 = b := b3
        refine Sem.goto (tgt := 1428) d133_1369 (by decide) ?_
        refine Sem.pick [2, 3, 4, 5, 6] (lv' := [(4, aN i), (0, aV (.ref sc.1)), (1, aR 0 0), (2, aR 23 0), (3, aR 47 0)]) rfl ?_
        refine Sem.widen (a := 100 + 17 * (i + 6)) (b := 2524 + 102 * (i + 6)) (by omega) (by omega) hzW ?_
        exact kk _ _ hI2
      · exfalso; have b3_ : ¬ (L2 47 0 0 = b) := b3; exact b3_ (hv (by omega))
  · exfalso; have b1_ : ¬ (z = z) := b1; omega

theorem c_count {sc : XT} {Q : QT} (N : TN) (L : TL) (i : Nat) (h : Inv N L) (hi : i + 6 ≤ sc.2.1) (h72 : sc.2.1 ≤ 3072) (kk : ∀ (N' : TN) (L' : TL), Inv N' L' → Sem sc 133 1428 [(4, aN i), (0, aV (.ref sc.1)), (1, aR 0 0), (2, aR 23 0), (3, aR 47 0)] [] (wd N' L') (100 + 17 * (i + 6)) (2524 + 102 * (i + 6)) Q) : Sem sc 133 1372 [(4, aN i), (0, aV (.ref sc.1)), (1, aR 0 0), (2, aR 23 0), (3, aR 47 0)] [] (wd N L) (100 + 17 * i) (2524 + 102 * i) Q := by
  refine Sem.seg [(.aload_n 1, 0, 0), (.aload_n 0, 0, 0), (.iload 4, 0, 0), (.iconst 1, 0, 0), (.iadd, 0, 0)] ⟨⟨d133_1372, trivial⟩, ⟨d133_1373, trivial⟩, ⟨d133_1374, trivial⟩, ⟨d133_1376, trivial⟩, ⟨d133_1377, trivial⟩, trivial⟩ (lv' := [(4, aN i), (0, aV (.ref sc.1)), (1, aR 0 0), (2, aR 23 0), (3, aR 47 0)]) (st' := [aN (i + 1), aV (.ref sc.1), aR 0 0]) (w' := wd N L) (P := []) rfl (trivial) (pc' := 1378) rfl ?_
  refine Sem.sld rfl d133_1378 (show i + 1 < sc.2.1 by omega) (show sc.2.1 < 2 ^ 31 by omega) ?_
  refine Sem.seg [(.aload_n 3, 0, 0)] ⟨⟨d133_1379, trivial⟩, trivial⟩ (lv' := [(4, aN i), (0, aV (.ref sc.1)), (1, aR 0 0), (2, aR 23 0), (3, aR 47 0)]) (st' := [aR 47 0, aI (sc.2.2 (i + 1)), aR 0 0]) (w' := wd N L) (P := []) rfl (trivial) (pc' := 1380) rfl ?_
  refine Sem.cHmN (as := [aR 0 0, aI (sc.2.2 (i + 1)), aR 47 0]) (rst := []) (c' := 100 + 17 * i + 1) (s' := 2524 + 102 * i + 6) d133_1380 mk82 co82 lk6_148 ss82 (show 3 ≤ mL 82 by decide) rfl (show 0 ≤ 8 by decide) (by decide) (by decide) rfl rfl (by first | exact lawC (by omega) | exact lawS (by omega)) (by first | exact lawC (by omega) | exact lawS (by omega)) (m82 N L (sc.2.2 (i + 1)) h.t1) ?_
  rintro z N1 L1 h1
  have hF := f_count h1
  have hG := g_count h1
  refine Sem.seg [(.istore 5, 0, 0), (.aload_n 2, 0, 0), (.aload_n 0, 0, 0), (.iload 4, 0, 0), (.iconst 1, 0, 0), (.iadd, 0, 0)] ⟨⟨d133_1383, trivial⟩, ⟨d133_1385, trivial⟩, ⟨d133_1386, trivial⟩, ⟨d133_1387, trivial⟩, ⟨d133_1389, trivial⟩, ⟨d133_1390, trivial⟩, trivial⟩ (lv' := [(5, aN z), (4, aN i), (0, aV (.ref sc.1)), (1, aR 0 0), (2, aR 23 0), (3, aR 47 0)]) (st' := [aN (i + 1), aV (.ref sc.1), aR 23 0]) (w' := wd N1 L1) (P := []) rfl (trivial) (pc' := 1391) rfl ?_
  refine Sem.sld rfl d133_1391 (show i + 1 < sc.2.1 by omega) (show sc.2.1 < 2 ^ 31 by omega) ?_
  refine Sem.cVmI (t := 23) (i := 0) (as := [aI (sc.2.2 (i + 1))]) (rst := []) (c' := 100 + 17 * i + 1) (s' := 2524 + 102 * i + 6) d133_1392 mk131 rfl co131 lk6_150 im131 se131 rfl (vN (t := 23) (i := 0) (by decide)) (show 2 ≤ mL 131 by decide) rfl (show 0 ≤ 8 by decide) (by decide) (by decide) (mc0 rfl) (ms0 rfl) (by first | exact lawC (by omega) | exact lawS (by omega)) (by first | exact lawC (by omega) | exact lawS (by omega)) (m131 N1 L1 (sc.2.2 (i + 1)) (by rw [hF 23 0 20 (by omega)]; exact h.h20) (h.cd1 hF hG)) ?_
  rintro b N2 L2 h2
  obtain ⟨e0, hz3, hI2, hv⟩ := k_count h h1 h2
  refine Sem.seg [(.istore 6, 0, 0), (.aload_n 2, 0, 0)] ⟨⟨d133_1395, trivial⟩, ⟨d133_1397, trivial⟩, trivial⟩ (lv' := [(6, aI b), (5, aN z), (4, aN i), (0, aV (.ref sc.1)), (1, aR 0 0), (2, aR 23 0), (3, aR 47 0)]) (st' := [aR 23 0]) (w' := wd N2 L2) (P := []) rfl (trivial) (pc' := 1398) rfl ?_
  refine Sem.cVp1 (t := 23) (i := 0) (as := []) (rst := []) (c' := 100 + 17 * i + 1) (s' := 2524 + 102 * i + 6) d133_1398 mk87 rfl co87 lk6_87 im87 se87 rfl (vN (t := 23) (i := 0) (by decide)) (show 1 ≤ mL 87 by decide) rfl (show 0 ≤ 8 by decide) (by decide) (by decide) (mc0 rfl) (ms0 rfl) (by first | exact lawC (by omega) | exact lawS (by omega)) (by first | exact lawC (by omega) | exact lawS (by omega)) (m87 N2 L2) ?_
  refine Sem.topNN (show N2 23 0 0 = z from e0) ?_
  refine Sem.seg [(.iload 5, 0, 0)] ⟨⟨d133_1401, trivial⟩, trivial⟩ (lv' := [(6, aI b), (5, aN z), (4, aN i), (0, aV (.ref sc.1)), (1, aR 0 0), (2, aR 23 0), (3, aR 47 0)]) (st' := [aN z, aN z]) (w' := wd N2 L2) (P := []) rfl (trivial) (pc' := 1403) rfl ?_
  refine Sem.icmpN (tgt := 1408) d133_1403 (by decide) (show z < 2 ^ 31 by omega) (show z < 2 ^ 31 by omega) (fun b1 => ?_) (fun b1 => ?_)
  · have b1_ : z = z := b1
    refine Sem.seg [(.iload 5, 0, 0)] ⟨⟨d133_1408, trivial⟩, trivial⟩ (lv' := [(6, aI b), (5, aN z), (4, aN i), (0, aV (.ref sc.1)), (1, aR 0 0), (2, aR 23 0), (3, aR 47 0)]) (st' := [aN z]) (w' := wd N2 L2) (P := []) rfl (trivial) (pc' := 1410) rfl ?_
    refine Sem.ifN (tgt := 1425) d133_1410 (by decide) (show z < 2 ^ 31 by omega) (fun b2 => ?_) (fun b2 => ?_)
    · have b2_ : ¬ z = 0 := b2
      refine Sem.goto (tgt := 1428) d133_1425 (by decide) ?_
      refine Sem.pick [2, 3, 4, 5, 6] (lv' := [(4, aN i), (0, aV (.ref sc.1)), (1, aR 0 0), (2, aR 23 0), (3, aR 47 0)]) rfl ?_
      refine Sem.widen (a := 100 + 17 * (i + 6)) (b := 2524 + 102 * (i + 6)) (by omega) (by omega) hzW ?_
      exact kk _ _ hI2
    · have b2_ : ¬ (¬ z = 0) := b2
      refine Sem.seg [(.aload_n 3, 0, 0), (.iconst 0, 0, 0), (.laload, 0, 0), (.iload 6, 0, 0), (.i2l, 0, 0)] ⟨⟨d133_1413, trivial⟩, ⟨d133_1414, trivial⟩, ⟨d133_1415, trivial⟩, ⟨d133_1416, trivial⟩, ⟨d133_1418, trivial⟩, trivial⟩ (lv' := [(6, aI b), (5, aN z), (4, aN i), (0, aV (.ref sc.1)), (1, aR 0 0), (2, aR 23 0), (3, aR 47 0)]) (st' := [aL b.toInt64, aL (L2 47 0 0)]) (w' := wd N2 L2) (P := [vld NN 47 0, 0 < 1]) rfl (⟨vN (t := 47) (i := 0) (by decide), (by decide : (0 : Nat) < 1)⟩) (pc' := 1419) rfl ?_
      refine Sem.lcmp (tgt := 1425) d133_1419 d133_1420 (by decide) (fun b3 => ?_) (fun b3 => ?_)
      · have b3_ : L2 47 0 0 = b.toInt64 := b3
        refine Sem.goto (tgt := 1428) d133_1425 (by decide) ?_
        refine Sem.pick [2, 3, 4, 5, 6] (lv' := [(4, aN i), (0, aV (.ref sc.1)), (1, aR 0 0), (2, aR 23 0), (3, aR 47 0)]) rfl ?_
        refine Sem.widen (a := 100 + 17 * (i + 6)) (b := 2524 + 102 * (i + 6)) (by omega) (by omega) hzW ?_
        exact kk _ _ hI2
      · exfalso; have b3_ : ¬ (L2 47 0 0 = b.toInt64) := b3; exact b3_ (hv (by omega))
  · exfalso; have b1_ : ¬ (z = z) := b1; omega

