-- the law, cases 4 to 9
theorem c_stock {sc : XT} {Q : QT} (N : TN) (L : TL) (i : Nat) (h : Inv N L) (hi : i + 6 ≤ sc.2.1) (h72 : sc.2.1 ≤ 3072) (kk : ∀ (N' : TN) (L' : TL), Inv N' L' → Sem sc 133 1428 [(4, aN i), (0, aV (.ref sc.1)), (1, aR 0 0), (2, aR 23 0), (3, aR 47 0)] [] (wd N' L') (100 + 17 * (i + 6)) (2524 + 102 * (i + 6)) Q) : Sem sc 133 432 [(4, aN i), (0, aV (.ref sc.1)), (1, aR 0 0), (2, aR 23 0), (3, aR 47 0)] [] (wd N L) (100 + 17 * i) (2524 + 102 * i) Q := by
  refine Sem.seg [(.aload_n 1, 0, 0), (.aload_n 0, 0, 0), (.iload 4, 0, 0), (.iconst 1, 0, 0), (.iadd, 0, 0)] ⟨⟨d133_432, trivial⟩, ⟨d133_433, trivial⟩, ⟨d133_434, trivial⟩, ⟨d133_436, trivial⟩, ⟨d133_437, trivial⟩, trivial⟩ (lv' := [(4, aN i), (0, aV (.ref sc.1)), (1, aR 0 0), (2, aR 23 0), (3, aR 47 0)]) (st' := [aN (i + 1), aV (.ref sc.1), aR 0 0]) (w' := wd N L) (P := []) rfl (trivial) (pc' := 438) rfl ?_
  refine Sem.sld rfl d133_438 (show i + 1 < sc.2.1 by omega) (show sc.2.1 < 2 ^ 31 by omega) ?_
  refine Sem.seg [(.aload_n 0, 0, 0), (.iload 4, 0, 0), (.iconst 2, 0, 0), (.iadd, 0, 0)] ⟨⟨d133_439, trivial⟩, ⟨d133_440, trivial⟩, ⟨d133_442, trivial⟩, ⟨d133_443, trivial⟩, trivial⟩ (lv' := [(4, aN i), (0, aV (.ref sc.1)), (1, aR 0 0), (2, aR 23 0), (3, aR 47 0)]) (st' := [aN (i + 2), aV (.ref sc.1), aI (sc.2.2 (i + 1)), aR 0 0]) (w' := wd N L) (P := []) rfl (trivial) (pc' := 444) rfl ?_
  refine Sem.sld rfl d133_444 (show i + 2 < sc.2.1 by omega) (show sc.2.1 < 2 ^ 31 by omega) ?_
  refine Sem.seg [(.aload_n 3, 0, 0)] ⟨⟨d133_445, trivial⟩, trivial⟩ (lv' := [(4, aN i), (0, aV (.ref sc.1)), (1, aR 0 0), (2, aR 23 0), (3, aR 47 0)]) (st' := [aR 47 0, aI (sc.2.2 (i + 2)), aI (sc.2.2 (i + 1)), aR 0 0]) (w' := wd N L) (P := []) rfl (trivial) (pc' := 446) rfl ?_
  refine Sem.cHmN (as := [aR 0 0, aI (sc.2.2 (i + 1)), aI (sc.2.2 (i + 2)), aR 47 0]) (rst := []) (c' := 100 + 17 * i + 2) (s' := 2524 + 102 * i + 12) d133_446 mk40 co40 lk6_102 ss40 (show 4 ≤ mL 40 by decide) rfl (show 0 ≤ 8 by decide) (by decide) (by decide) rfl rfl (by first | exact lawC (by omega) | exact lawS (by omega)) (by first | exact lawC (by omega) | exact lawS (by omega)) (m40 N L (sc.2.2 (i + 1)) (sc.2.2 (i + 2))) ?_
  rintro z N1 L1 h1
  have hF := f_stock h1
  refine Sem.seg [(.istore 5, 0, 0), (.aload_n 2, 0, 0), (.aload_n 0, 0, 0), (.iload 4, 0, 0), (.iconst 1, 0, 0), (.iadd, 0, 0)] ⟨⟨d133_449, trivial⟩, ⟨d133_451, trivial⟩, ⟨d133_452, trivial⟩, ⟨d133_453, trivial⟩, ⟨d133_455, trivial⟩, ⟨d133_456, trivial⟩, trivial⟩ (lv' := [(5, aN z), (4, aN i), (0, aV (.ref sc.1)), (1, aR 0 0), (2, aR 23 0), (3, aR 47 0)]) (st' := [aN (i + 1), aV (.ref sc.1), aR 23 0]) (w' := wd N1 L1) (P := []) rfl (trivial) (pc' := 457) rfl ?_
  refine Sem.sld rfl d133_457 (show i + 1 < sc.2.1 by omega) (show sc.2.1 < 2 ^ 31 by omega) ?_
  refine Sem.seg [(.aload_n 0, 0, 0), (.iload 4, 0, 0), (.iconst 2, 0, 0), (.iadd, 0, 0)] ⟨⟨d133_458, trivial⟩, ⟨d133_459, trivial⟩, ⟨d133_461, trivial⟩, ⟨d133_462, trivial⟩, trivial⟩ (lv' := [(5, aN z), (4, aN i), (0, aV (.ref sc.1)), (1, aR 0 0), (2, aR 23 0), (3, aR 47 0)]) (st' := [aN (i + 2), aV (.ref sc.1), aI (sc.2.2 (i + 1)), aR 23 0]) (w' := wd N1 L1) (P := []) rfl (trivial) (pc' := 463) rfl ?_
  refine Sem.sld rfl d133_463 (show i + 2 < sc.2.1 by omega) (show sc.2.1 < 2 ^ 31 by omega) ?_
  refine Sem.cVmN (t := 23) (i := 0) (as := [aI (sc.2.2 (i + 1)), aI (sc.2.2 (i + 2))]) (rst := []) (c' := 100 + 17 * i + 2) (s' := 2524 + 102 * i + 12) d133_464 mk99 rfl co99 lk6_105 im99 se99 rfl (vN (t := 23) (i := 0) (by decide)) (show 3 ≤ mL 99 by decide) rfl (show 0 ≤ 8 by decide) (by decide) (by decide) (mc0 rfl) (ms0 rfl) (by first | exact lawC (by omega) | exact lawS (by omega)) (by first | exact lawC (by omega) | exact lawS (by omega)) (m99 N1 L1 (sc.2.2 (i + 1)) (sc.2.2 (i + 2))) ?_
  rintro b N2 L2 h2
  obtain ⟨e0, hz3, hI2, hv⟩ := k_stock h h1 h2
  refine Sem.seg [(.istore 6, 0, 0), (.aload_n 2, 0, 0)] ⟨⟨d133_467, trivial⟩, ⟨d133_469, trivial⟩, trivial⟩ (lv' := [(6, aN b), (5, aN z), (4, aN i), (0, aV (.ref sc.1)), (1, aR 0 0), (2, aR 23 0), (3, aR 47 0)]) (st' := [aR 23 0]) (w' := wd N2 L2) (P := []) rfl (trivial) (pc' := 470) rfl ?_
  refine Sem.cVp1 (t := 23) (i := 0) (as := []) (rst := []) (c' := 100 + 17 * i + 2) (s' := 2524 + 102 * i + 12) d133_470 mk87 rfl co87 lk6_87 im87 se87 rfl (vN (t := 23) (i := 0) (by decide)) (show 1 ≤ mL 87 by decide) rfl (show 0 ≤ 8 by decide) (by decide) (by decide) (mc0 rfl) (ms0 rfl) (by first | exact lawC (by omega) | exact lawS (by omega)) (by first | exact lawC (by omega) | exact lawS (by omega)) (m87 N2 L2) ?_
  refine Sem.topNN (show N2 23 0 0 = z from e0) ?_
  refine Sem.seg [(.iload 5, 0, 0)] ⟨⟨d133_473, trivial⟩, trivial⟩ (lv' := [(6, aN b), (5, aN z), (4, aN i), (0, aV (.ref sc.1)), (1, aR 0 0), (2, aR 23 0), (3, aR 47 0)]) (st' := [aN z, aN z]) (w' := wd N2 L2) (P := []) rfl (trivial) (pc' := 475) rfl ?_
  refine Sem.icmpN (tgt := 480) d133_475 (by decide) (show z < 2 ^ 31 by omega) (show z < 2 ^ 31 by omega) (fun b1 => ?_) (fun b1 => ?_)
  · have b1_ : z = z := b1
    refine Sem.seg [(.iload 5, 0, 0)] ⟨⟨d133_480, trivial⟩, trivial⟩ (lv' := [(6, aN b), (5, aN z), (4, aN i), (0, aV (.ref sc.1)), (1, aR 0 0), (2, aR 23 0), (3, aR 47 0)]) (st' := [aN z]) (w' := wd N2 L2) (P := []) rfl (trivial) (pc' := 482) rfl ?_
    refine Sem.ifN (tgt := 497) d133_482 (by decide) (show z < 2 ^ 31 by omega) (fun b2 => ?_) (fun b2 => ?_)
    · have b2_ : ¬ z = 0 := b2
      refine Sem.goto (tgt := 1428) d133_497 (by decide) ?_
      refine Sem.pick [2, 3, 4, 5, 6] (lv' := [(4, aN i), (0, aV (.ref sc.1)), (1, aR 0 0), (2, aR 23 0), (3, aR 47 0)]) rfl ?_
      refine Sem.widen (a := 100 + 17 * (i + 6)) (b := 2524 + 102 * (i + 6)) (by omega) (by omega) hzW ?_
      exact kk _ _ hI2
    · have b2_ : ¬ (¬ z = 0) := b2
      refine Sem.seg [(.aload_n 3, 0, 0), (.iconst 0, 0, 0), (.laload, 0, 0), (.iload 6, 0, 0), (.i2l, 0, 0)] ⟨⟨d133_485, trivial⟩, ⟨d133_486, trivial⟩, ⟨d133_487, trivial⟩, ⟨d133_488, trivial⟩, ⟨d133_490, trivial⟩, trivial⟩ (lv' := [(6, aN b), (5, aN z), (4, aN i), (0, aV (.ref sc.1)), (1, aR 0 0), (2, aR 23 0), (3, aR 47 0)]) (st' := [aL ((nI b).toInt64), aL (L2 47 0 0)]) (w' := wd N2 L2) (P := [vld NN 47 0, 0 < 1]) rfl (⟨vN (t := 47) (i := 0) (by decide), (by decide : (0 : Nat) < 1)⟩) (pc' := 491) rfl ?_
      refine Sem.lcmp (tgt := 497) d133_491 d133_492 (by decide) (fun b3 => ?_) (fun b3 => ?_)
      · have b3_ : L2 47 0 0 = (nI b).toInt64 := b3
        refine Sem.goto (tgt := 1428) d133_497 (by decide) ?_
        refine Sem.pick [2, 3, 4, 5, 6] (lv' := [(4, aN i), (0, aV (.ref sc.1)), (1, aR 0 0), (2, aR 23 0), (3, aR 47 0)]) rfl ?_
        refine Sem.widen (a := 100 + 17 * (i + 6)) (b := 2524 + 102 * (i + 6)) (by omega) (by omega) hzW ?_
        exact kk _ _ hI2
      · exfalso; have b3_ : ¬ (L2 47 0 0 = (nI b).toInt64) := b3; exact b3_ (hv (by omega))
  · exfalso; have b1_ : ¬ (z = z) := b1; omega

theorem c_demand {sc : XT} {Q : QT} (N : TN) (L : TL) (i : Nat) (h : Inv N L) (hi : i + 6 ≤ sc.2.1) (h72 : sc.2.1 ≤ 3072) (kk : ∀ (N' : TN) (L' : TL), Inv N' L' → Sem sc 133 1428 [(4, aN i), (0, aV (.ref sc.1)), (1, aR 0 0), (2, aR 23 0), (3, aR 47 0)] [] (wd N' L') (100 + 17 * (i + 6)) (2524 + 102 * (i + 6)) Q) : Sem sc 133 500 [(4, aN i), (0, aV (.ref sc.1)), (1, aR 0 0), (2, aR 23 0), (3, aR 47 0)] [] (wd N L) (100 + 17 * i) (2524 + 102 * i) Q := by
  refine Sem.seg [(.aload_n 1, 0, 0), (.aload_n 0, 0, 0), (.iload 4, 0, 0), (.iconst 1, 0, 0), (.iadd, 0, 0)] ⟨⟨d133_500, trivial⟩, ⟨d133_501, trivial⟩, ⟨d133_502, trivial⟩, ⟨d133_504, trivial⟩, ⟨d133_505, trivial⟩, trivial⟩ (lv' := [(4, aN i), (0, aV (.ref sc.1)), (1, aR 0 0), (2, aR 23 0), (3, aR 47 0)]) (st' := [aN (i + 1), aV (.ref sc.1), aR 0 0]) (w' := wd N L) (P := []) rfl (trivial) (pc' := 506) rfl ?_
  refine Sem.sld rfl d133_506 (show i + 1 < sc.2.1 by omega) (show sc.2.1 < 2 ^ 31 by omega) ?_
  refine Sem.seg [(.aload_n 0, 0, 0), (.iload 4, 0, 0), (.iconst 2, 0, 0), (.iadd, 0, 0)] ⟨⟨d133_507, trivial⟩, ⟨d133_508, trivial⟩, ⟨d133_510, trivial⟩, ⟨d133_511, trivial⟩, trivial⟩ (lv' := [(4, aN i), (0, aV (.ref sc.1)), (1, aR 0 0), (2, aR 23 0), (3, aR 47 0)]) (st' := [aN (i + 2), aV (.ref sc.1), aI (sc.2.2 (i + 1)), aR 0 0]) (w' := wd N L) (P := []) rfl (trivial) (pc' := 512) rfl ?_
  refine Sem.sld rfl d133_512 (show i + 2 < sc.2.1 by omega) (show sc.2.1 < 2 ^ 31 by omega) ?_
  refine Sem.seg [(.aload_n 0, 0, 0), (.iload 4, 0, 0), (.iconst 3, 0, 0), (.iadd, 0, 0)] ⟨⟨d133_513, trivial⟩, ⟨d133_514, trivial⟩, ⟨d133_516, trivial⟩, ⟨d133_517, trivial⟩, trivial⟩ (lv' := [(4, aN i), (0, aV (.ref sc.1)), (1, aR 0 0), (2, aR 23 0), (3, aR 47 0)]) (st' := [aN (i + 3), aV (.ref sc.1), aI (sc.2.2 (i + 2)), aI (sc.2.2 (i + 1)), aR 0 0]) (w' := wd N L) (P := []) rfl (trivial) (pc' := 518) rfl ?_
  refine Sem.sld rfl d133_518 (show i + 3 < sc.2.1 by omega) (show sc.2.1 < 2 ^ 31 by omega) ?_
  refine Sem.seg [(.aload_n 3, 0, 0)] ⟨⟨d133_519, trivial⟩, trivial⟩ (lv' := [(4, aN i), (0, aV (.ref sc.1)), (1, aR 0 0), (2, aR 23 0), (3, aR 47 0)]) (st' := [aR 47 0, aI (sc.2.2 (i + 3)), aI (sc.2.2 (i + 2)), aI (sc.2.2 (i + 1)), aR 0 0]) (w' := wd N L) (P := []) rfl (trivial) (pc' := 520) rfl ?_
  refine Sem.cHmN (as := [aR 0 0, aI (sc.2.2 (i + 1)), aI (sc.2.2 (i + 2)), aI (sc.2.2 (i + 3)), aR 47 0]) (rst := []) (c' := 100 + 17 * i + 4) (s' := 2524 + 102 * i + 24) d133_520 mk42 co42 lk6_106 ss42 (show 5 ≤ mL 42 by decide) rfl (show 0 ≤ 8 by decide) (by decide) (by decide) rfl rfl (by first | exact lawC (by omega) | exact lawS (by omega)) (by first | exact lawC (by omega) | exact lawS (by omega)) (m42 N L (sc.2.2 (i + 1)) (sc.2.2 (i + 2)) (sc.2.2 (i + 3)) (h.1.2.1 0 (by omega)).1) ?_
  rintro z N1 L1 h1
  have hF := f_demand h1
  refine Sem.seg [(.istore 5, 0, 0), (.aload_n 2, 0, 0), (.aload_n 0, 0, 0), (.iload 4, 0, 0), (.iconst 1, 0, 0), (.iadd, 0, 0)] ⟨⟨d133_523, trivial⟩, ⟨d133_525, trivial⟩, ⟨d133_526, trivial⟩, ⟨d133_527, trivial⟩, ⟨d133_529, trivial⟩, ⟨d133_530, trivial⟩, trivial⟩ (lv' := [(5, aN z), (4, aN i), (0, aV (.ref sc.1)), (1, aR 0 0), (2, aR 23 0), (3, aR 47 0)]) (st' := [aN (i + 1), aV (.ref sc.1), aR 23 0]) (w' := wd N1 L1) (P := []) rfl (trivial) (pc' := 531) rfl ?_
  refine Sem.sld rfl d133_531 (show i + 1 < sc.2.1 by omega) (show sc.2.1 < 2 ^ 31 by omega) ?_
  refine Sem.seg [(.aload_n 0, 0, 0), (.iload 4, 0, 0), (.iconst 2, 0, 0), (.iadd, 0, 0)] ⟨⟨d133_532, trivial⟩, ⟨d133_533, trivial⟩, ⟨d133_535, trivial⟩, ⟨d133_536, trivial⟩, trivial⟩ (lv' := [(5, aN z), (4, aN i), (0, aV (.ref sc.1)), (1, aR 0 0), (2, aR 23 0), (3, aR 47 0)]) (st' := [aN (i + 2), aV (.ref sc.1), aI (sc.2.2 (i + 1)), aR 23 0]) (w' := wd N1 L1) (P := []) rfl (trivial) (pc' := 537) rfl ?_
  refine Sem.sld rfl d133_537 (show i + 2 < sc.2.1 by omega) (show sc.2.1 < 2 ^ 31 by omega) ?_
  refine Sem.seg [(.aload_n 0, 0, 0), (.iload 4, 0, 0), (.iconst 3, 0, 0), (.iadd, 0, 0)] ⟨⟨d133_538, trivial⟩, ⟨d133_539, trivial⟩, ⟨d133_541, trivial⟩, ⟨d133_542, trivial⟩, trivial⟩ (lv' := [(5, aN z), (4, aN i), (0, aV (.ref sc.1)), (1, aR 0 0), (2, aR 23 0), (3, aR 47 0)]) (st' := [aN (i + 3), aV (.ref sc.1), aI (sc.2.2 (i + 2)), aI (sc.2.2 (i + 1)), aR 23 0]) (w' := wd N1 L1) (P := []) rfl (trivial) (pc' := 543) rfl ?_
  refine Sem.sld rfl d133_543 (show i + 3 < sc.2.1 by omega) (show sc.2.1 < 2 ^ 31 by omega) ?_
  refine Sem.cVmN (t := 23) (i := 0) (as := [aI (sc.2.2 (i + 1)), aI (sc.2.2 (i + 2)), aI (sc.2.2 (i + 3))]) (rst := []) (c' := 100 + 17 * i + 4) (s' := 2524 + 102 * i + 24) d133_544 mk100 rfl co100 lk6_109 im100 se100 rfl (vN (t := 23) (i := 0) (by decide)) (show 4 ≤ mL 100 by decide) rfl (show 0 ≤ 8 by decide) (by decide) (by decide) (mc0 rfl) (ms0 rfl) (by first | exact lawC (by omega) | exact lawS (by omega)) (by first | exact lawC (by omega) | exact lawS (by omega)) (m100 N1 L1 (sc.2.2 (i + 1)) (sc.2.2 (i + 2)) (sc.2.2 (i + 3)) (by rw [hF 37 0 0 (by omega), h.z (by omega)]; exact (h.1.2.1 0 (by omega)).1)) ?_
  rintro b N2 L2 h2
  obtain ⟨e0, hz3, hI2, hv⟩ := k_demand h h1 h2
  refine Sem.seg [(.istore 6, 0, 0), (.aload_n 2, 0, 0)] ⟨⟨d133_547, trivial⟩, ⟨d133_549, trivial⟩, trivial⟩ (lv' := [(6, aN b), (5, aN z), (4, aN i), (0, aV (.ref sc.1)), (1, aR 0 0), (2, aR 23 0), (3, aR 47 0)]) (st' := [aR 23 0]) (w' := wd N2 L2) (P := []) rfl (trivial) (pc' := 550) rfl ?_
  refine Sem.cVp1 (t := 23) (i := 0) (as := []) (rst := []) (c' := 100 + 17 * i + 4) (s' := 2524 + 102 * i + 24) d133_550 mk87 rfl co87 lk6_87 im87 se87 rfl (vN (t := 23) (i := 0) (by decide)) (show 1 ≤ mL 87 by decide) rfl (show 0 ≤ 8 by decide) (by decide) (by decide) (mc0 rfl) (ms0 rfl) (by first | exact lawC (by omega) | exact lawS (by omega)) (by first | exact lawC (by omega) | exact lawS (by omega)) (m87 N2 L2) ?_
  refine Sem.topNN (show N2 23 0 0 = z from e0) ?_
  refine Sem.seg [(.iload 5, 0, 0)] ⟨⟨d133_553, trivial⟩, trivial⟩ (lv' := [(6, aN b), (5, aN z), (4, aN i), (0, aV (.ref sc.1)), (1, aR 0 0), (2, aR 23 0), (3, aR 47 0)]) (st' := [aN z, aN z]) (w' := wd N2 L2) (P := []) rfl (trivial) (pc' := 555) rfl ?_
  refine Sem.icmpN (tgt := 560) d133_555 (by decide) (show z < 2 ^ 31 by omega) (show z < 2 ^ 31 by omega) (fun b1 => ?_) (fun b1 => ?_)
  · have b1_ : z = z := b1
    refine Sem.seg [(.iload 5, 0, 0)] ⟨⟨d133_560, trivial⟩, trivial⟩ (lv' := [(6, aN b), (5, aN z), (4, aN i), (0, aV (.ref sc.1)), (1, aR 0 0), (2, aR 23 0), (3, aR 47 0)]) (st' := [aN z]) (w' := wd N2 L2) (P := []) rfl (trivial) (pc' := 562) rfl ?_
    refine Sem.ifN (tgt := 577) d133_562 (by decide) (show z < 2 ^ 31 by omega) (fun b2 => ?_) (fun b2 => ?_)
    · have b2_ : ¬ z = 0 := b2
      refine Sem.goto (tgt := 1428) d133_577 (by decide) ?_
      refine Sem.pick [2, 3, 4, 5, 6] (lv' := [(4, aN i), (0, aV (.ref sc.1)), (1, aR 0 0), (2, aR 23 0), (3, aR 47 0)]) rfl ?_
      refine Sem.widen (a := 100 + 17 * (i + 6)) (b := 2524 + 102 * (i + 6)) (by omega) (by omega) hzW ?_
      exact kk _ _ hI2
    · have b2_ : ¬ (¬ z = 0) := b2
      refine Sem.seg [(.aload_n 3, 0, 0), (.iconst 0, 0, 0), (.laload, 0, 0), (.iload 6, 0, 0), (.i2l, 0, 0)] ⟨⟨d133_565, trivial⟩, ⟨d133_566, trivial⟩, ⟨d133_567, trivial⟩, ⟨d133_568, trivial⟩, ⟨d133_570, trivial⟩, trivial⟩ (lv' := [(6, aN b), (5, aN z), (4, aN i), (0, aV (.ref sc.1)), (1, aR 0 0), (2, aR 23 0), (3, aR 47 0)]) (st' := [aL ((nI b).toInt64), aL (L2 47 0 0)]) (w' := wd N2 L2) (P := [vld NN 47 0, 0 < 1]) rfl (⟨vN (t := 47) (i := 0) (by decide), (by decide : (0 : Nat) < 1)⟩) (pc' := 571) rfl ?_
      refine Sem.lcmp (tgt := 577) d133_571 d133_572 (by decide) (fun b3 => ?_) (fun b3 => ?_)
      · have b3_ : L2 47 0 0 = (nI b).toInt64 := b3
        refine Sem.goto (tgt := 1428) d133_577 (by decide) ?_
        refine Sem.pick [2, 3, 4, 5, 6] (lv' := [(4, aN i), (0, aV (.ref sc.1)), (1, aR 0 0), (2, aR 23 0), (3, aR 47 0)]) rfl ?_
        refine Sem.widen (a := 100 + 17 * (i + 6)) (b := 2524 + 102 * (i + 6)) (by omega) (by omega) hzW ?_
        exact kk _ _ hI2
      · exfalso; have b3_ : ¬ (L2 47 0 0 = (nI b).toInt64) := b3; exact b3_ (hv (by omega))
  · exfalso; have b1_ : ¬ (z = z) := b1; omega

theorem c_change {sc : XT} {Q : QT} (N : TN) (L : TL) (i : Nat) (h : Inv N L) (hi : i + 6 ≤ sc.2.1) (h72 : sc.2.1 ≤ 3072) (kk : ∀ (N' : TN) (L' : TL), Inv N' L' → Sem sc 133 1428 [(4, aN i), (0, aV (.ref sc.1)), (1, aR 0 0), (2, aR 23 0), (3, aR 47 0)] [] (wd N' L') (100 + 17 * (i + 6)) (2524 + 102 * (i + 6)) Q) : Sem sc 133 580 [(4, aN i), (0, aV (.ref sc.1)), (1, aR 0 0), (2, aR 23 0), (3, aR 47 0)] [] (wd N L) (100 + 17 * i) (2524 + 102 * i) Q := by
  refine Sem.seg [(.aload_n 1, 0, 0), (.aload_n 0, 0, 0), (.iload 4, 0, 0), (.iconst 1, 0, 0), (.iadd, 0, 0)] ⟨⟨d133_580, trivial⟩, ⟨d133_581, trivial⟩, ⟨d133_582, trivial⟩, ⟨d133_584, trivial⟩, ⟨d133_585, trivial⟩, trivial⟩ (lv' := [(4, aN i), (0, aV (.ref sc.1)), (1, aR 0 0), (2, aR 23 0), (3, aR 47 0)]) (st' := [aN (i + 1), aV (.ref sc.1), aR 0 0]) (w' := wd N L) (P := []) rfl (trivial) (pc' := 586) rfl ?_
  refine Sem.sld rfl d133_586 (show i + 1 < sc.2.1 by omega) (show sc.2.1 < 2 ^ 31 by omega) ?_
  refine Sem.seg [(.aload_n 0, 0, 0), (.iload 4, 0, 0), (.iconst 2, 0, 0), (.iadd, 0, 0)] ⟨⟨d133_587, trivial⟩, ⟨d133_588, trivial⟩, ⟨d133_590, trivial⟩, ⟨d133_591, trivial⟩, trivial⟩ (lv' := [(4, aN i), (0, aV (.ref sc.1)), (1, aR 0 0), (2, aR 23 0), (3, aR 47 0)]) (st' := [aN (i + 2), aV (.ref sc.1), aI (sc.2.2 (i + 1)), aR 0 0]) (w' := wd N L) (P := []) rfl (trivial) (pc' := 592) rfl ?_
  refine Sem.sld rfl d133_592 (show i + 2 < sc.2.1 by omega) (show sc.2.1 < 2 ^ 31 by omega) ?_
  refine Sem.seg [(.aload_n 0, 0, 0), (.iload 4, 0, 0), (.iconst 3, 0, 0), (.iadd, 0, 0)] ⟨⟨d133_593, trivial⟩, ⟨d133_594, trivial⟩, ⟨d133_596, trivial⟩, ⟨d133_597, trivial⟩, trivial⟩ (lv' := [(4, aN i), (0, aV (.ref sc.1)), (1, aR 0 0), (2, aR 23 0), (3, aR 47 0)]) (st' := [aN (i + 3), aV (.ref sc.1), aI (sc.2.2 (i + 2)), aI (sc.2.2 (i + 1)), aR 0 0]) (w' := wd N L) (P := []) rfl (trivial) (pc' := 598) rfl ?_
  refine Sem.sld rfl d133_598 (show i + 3 < sc.2.1 by omega) (show sc.2.1 < 2 ^ 31 by omega) ?_
  refine Sem.seg [(.aload_n 3, 0, 0)] ⟨⟨d133_599, trivial⟩, trivial⟩ (lv' := [(4, aN i), (0, aV (.ref sc.1)), (1, aR 0 0), (2, aR 23 0), (3, aR 47 0)]) (st' := [aR 47 0, aI (sc.2.2 (i + 3)), aI (sc.2.2 (i + 2)), aI (sc.2.2 (i + 1)), aR 0 0]) (w' := wd N L) (P := []) rfl (trivial) (pc' := 600) rfl ?_
  refine Sem.cHmN (as := [aR 0 0, aI (sc.2.2 (i + 1)), aI (sc.2.2 (i + 2)), aI (sc.2.2 (i + 3)), aR 47 0]) (rst := []) (c' := 100 + 17 * i + 4) (s' := 2524 + 102 * i + 24) d133_600 mk49 co49 lk6_110 ss49 (show 5 ≤ mL 49 by decide) rfl (show 0 ≤ 8 by decide) (by decide) (by decide) rfl rfl (by first | exact lawC (by omega) | exact lawS (by omega)) (by first | exact lawC (by omega) | exact lawS (by omega)) (m49 N L (sc.2.2 (i + 1)) (sc.2.2 (i + 2)) (sc.2.2 (i + 3)) h.1) ?_
  rintro z N1 L1 h1
  have hF := f_change h1
  refine Sem.seg [(.istore 5, 0, 0), (.aload_n 2, 0, 0), (.aload_n 0, 0, 0), (.iload 4, 0, 0), (.iconst 1, 0, 0), (.iadd, 0, 0)] ⟨⟨d133_603, trivial⟩, ⟨d133_605, trivial⟩, ⟨d133_606, trivial⟩, ⟨d133_607, trivial⟩, ⟨d133_609, trivial⟩, ⟨d133_610, trivial⟩, trivial⟩ (lv' := [(5, aN z), (4, aN i), (0, aV (.ref sc.1)), (1, aR 0 0), (2, aR 23 0), (3, aR 47 0)]) (st' := [aN (i + 1), aV (.ref sc.1), aR 23 0]) (w' := wd N1 L1) (P := []) rfl (trivial) (pc' := 611) rfl ?_
  refine Sem.sld rfl d133_611 (show i + 1 < sc.2.1 by omega) (show sc.2.1 < 2 ^ 31 by omega) ?_
  refine Sem.seg [(.aload_n 0, 0, 0), (.iload 4, 0, 0), (.iconst 2, 0, 0), (.iadd, 0, 0)] ⟨⟨d133_612, trivial⟩, ⟨d133_613, trivial⟩, ⟨d133_615, trivial⟩, ⟨d133_616, trivial⟩, trivial⟩ (lv' := [(5, aN z), (4, aN i), (0, aV (.ref sc.1)), (1, aR 0 0), (2, aR 23 0), (3, aR 47 0)]) (st' := [aN (i + 2), aV (.ref sc.1), aI (sc.2.2 (i + 1)), aR 23 0]) (w' := wd N1 L1) (P := []) rfl (trivial) (pc' := 617) rfl ?_
  refine Sem.sld rfl d133_617 (show i + 2 < sc.2.1 by omega) (show sc.2.1 < 2 ^ 31 by omega) ?_
  refine Sem.seg [(.aload_n 0, 0, 0), (.iload 4, 0, 0), (.iconst 3, 0, 0), (.iadd, 0, 0)] ⟨⟨d133_618, trivial⟩, ⟨d133_619, trivial⟩, ⟨d133_621, trivial⟩, ⟨d133_622, trivial⟩, trivial⟩ (lv' := [(5, aN z), (4, aN i), (0, aV (.ref sc.1)), (1, aR 0 0), (2, aR 23 0), (3, aR 47 0)]) (st' := [aN (i + 3), aV (.ref sc.1), aI (sc.2.2 (i + 2)), aI (sc.2.2 (i + 1)), aR 23 0]) (w' := wd N1 L1) (P := []) rfl (trivial) (pc' := 623) rfl ?_
  refine Sem.sld rfl d133_623 (show i + 3 < sc.2.1 by omega) (show sc.2.1 < 2 ^ 31 by omega) ?_
  refine Sem.cVmN (t := 23) (i := 0) (as := [aI (sc.2.2 (i + 1)), aI (sc.2.2 (i + 2)), aI (sc.2.2 (i + 3))]) (rst := []) (c' := 100 + 17 * i + 4) (s' := 2524 + 102 * i + 24) d133_624 mk104 rfl co104 lk6_112 im104 se104 rfl (vN (t := 23) (i := 0) (by decide)) (show 4 ≤ mL 104 by decide) rfl (show 0 ≤ 8 by decide) (by decide) (by decide) (mc0 rfl) (ms0 rfl) (by first | exact lawC (by omega) | exact lawS (by omega)) (by first | exact lawC (by omega) | exact lawS (by omega)) (m104 N1 L1 (sc.2.2 (i + 1)) (sc.2.2 (i + 2)) (sc.2.2 (i + 3)) (by rw [hF 37 0 0 (by omega), h.z (by omega)]; exact (h.1.2.1 0 (by omega)).1) (by rw [hF 37 0 1 (by omega), h.z (by omega)]; exact (h.1.2.1 1 (by omega)).1) (fun q hq => by rw [hF 37 0 0 (by omega), h.z (by omega)] at hq; rw [hF 38 0 _ (by omega), (h.bk (by omega) hq).1]; exact (h.1.2.1 0 (by omega)).2.1 q hq) (fun q hq => by rw [hF 37 0 1 (by omega), h.z (by omega)] at hq; rw [hF 38 0 _ (by omega), (h.bk (by omega) hq).1]; exact (h.1.2.1 1 (by omega)).2.1 q hq)) ?_
  rintro b N2 L2 h2
  obtain ⟨e0, hz3, hI2, hv⟩ := k_change h h1 h2
  refine Sem.seg [(.istore 6, 0, 0), (.aload_n 2, 0, 0)] ⟨⟨d133_627, trivial⟩, ⟨d133_629, trivial⟩, trivial⟩ (lv' := [(6, aN b), (5, aN z), (4, aN i), (0, aV (.ref sc.1)), (1, aR 0 0), (2, aR 23 0), (3, aR 47 0)]) (st' := [aR 23 0]) (w' := wd N2 L2) (P := []) rfl (trivial) (pc' := 630) rfl ?_
  refine Sem.cVp1 (t := 23) (i := 0) (as := []) (rst := []) (c' := 100 + 17 * i + 4) (s' := 2524 + 102 * i + 24) d133_630 mk87 rfl co87 lk6_87 im87 se87 rfl (vN (t := 23) (i := 0) (by decide)) (show 1 ≤ mL 87 by decide) rfl (show 0 ≤ 8 by decide) (by decide) (by decide) (mc0 rfl) (ms0 rfl) (by first | exact lawC (by omega) | exact lawS (by omega)) (by first | exact lawC (by omega) | exact lawS (by omega)) (m87 N2 L2) ?_
  refine Sem.topNN (show N2 23 0 0 = z from e0) ?_
  refine Sem.seg [(.iload 5, 0, 0)] ⟨⟨d133_633, trivial⟩, trivial⟩ (lv' := [(6, aN b), (5, aN z), (4, aN i), (0, aV (.ref sc.1)), (1, aR 0 0), (2, aR 23 0), (3, aR 47 0)]) (st' := [aN z, aN z]) (w' := wd N2 L2) (P := []) rfl (trivial) (pc' := 635) rfl ?_
  refine Sem.icmpN (tgt := 640) d133_635 (by decide) (show z < 2 ^ 31 by omega) (show z < 2 ^ 31 by omega) (fun b1 => ?_) (fun b1 => ?_)
  · have b1_ : z = z := b1
    refine Sem.seg [(.iload 5, 0, 0)] ⟨⟨d133_640, trivial⟩, trivial⟩ (lv' := [(6, aN b), (5, aN z), (4, aN i), (0, aV (.ref sc.1)), (1, aR 0 0), (2, aR 23 0), (3, aR 47 0)]) (st' := [aN z]) (w' := wd N2 L2) (P := []) rfl (trivial) (pc' := 642) rfl ?_
    refine Sem.ifN (tgt := 657) d133_642 (by decide) (show z < 2 ^ 31 by omega) (fun b2 => ?_) (fun b2 => ?_)
    · have b2_ : ¬ z = 0 := b2
      refine Sem.goto (tgt := 1428) d133_657 (by decide) ?_
      refine Sem.pick [2, 3, 4, 5, 6] (lv' := [(4, aN i), (0, aV (.ref sc.1)), (1, aR 0 0), (2, aR 23 0), (3, aR 47 0)]) rfl ?_
      refine Sem.widen (a := 100 + 17 * (i + 6)) (b := 2524 + 102 * (i + 6)) (by omega) (by omega) hzW ?_
      exact kk _ _ hI2
    · have b2_ : ¬ (¬ z = 0) := b2
      refine Sem.seg [(.aload_n 3, 0, 0), (.iconst 0, 0, 0), (.laload, 0, 0), (.iload 6, 0, 0), (.i2l, 0, 0)] ⟨⟨d133_645, trivial⟩, ⟨d133_646, trivial⟩, ⟨d133_647, trivial⟩, ⟨d133_648, trivial⟩, ⟨d133_650, trivial⟩, trivial⟩ (lv' := [(6, aN b), (5, aN z), (4, aN i), (0, aV (.ref sc.1)), (1, aR 0 0), (2, aR 23 0), (3, aR 47 0)]) (st' := [aL ((nI b).toInt64), aL (L2 47 0 0)]) (w' := wd N2 L2) (P := [vld NN 47 0, 0 < 1]) rfl (⟨vN (t := 47) (i := 0) (by decide), (by decide : (0 : Nat) < 1)⟩) (pc' := 651) rfl ?_
      refine Sem.lcmp (tgt := 657) d133_651 d133_652 (by decide) (fun b3 => ?_) (fun b3 => ?_)
      · have b3_ : L2 47 0 0 = (nI b).toInt64 := b3
        refine Sem.goto (tgt := 1428) d133_657 (by decide) ?_
        refine Sem.pick [2, 3, 4, 5, 6] (lv' := [(4, aN i), (0, aV (.ref sc.1)), (1, aR 0 0), (2, aR 23 0), (3, aR 47 0)]) rfl ?_
        refine Sem.widen (a := 100 + 17 * (i + 6)) (b := 2524 + 102 * (i + 6)) (by omega) (by omega) hzW ?_
        exact kk _ _ hI2
      · exfalso; have b3_ : ¬ (L2 47 0 0 = (nI b).toInt64) := b3; exact b3_ (hv (by omega))
  · exfalso; have b1_ : ¬ (z = z) := b1; omega

theorem c_order {sc : XT} {Q : QT} (N : TN) (L : TL) (i : Nat) (h : Inv N L) (hi : i + 6 ≤ sc.2.1) (h72 : sc.2.1 ≤ 3072) (kk : ∀ (N' : TN) (L' : TL), Inv N' L' → Sem sc 133 1428 [(4, aN i), (0, aV (.ref sc.1)), (1, aR 0 0), (2, aR 23 0), (3, aR 47 0)] [] (wd N' L') (100 + 17 * (i + 6)) (2524 + 102 * (i + 6)) Q) : Sem sc 133 660 [(4, aN i), (0, aV (.ref sc.1)), (1, aR 0 0), (2, aR 23 0), (3, aR 47 0)] [] (wd N L) (100 + 17 * i) (2524 + 102 * i) Q := by
  refine Sem.seg [(.aload_n 1, 0, 0), (.aload_n 0, 0, 0), (.iload 4, 0, 0), (.iconst 1, 0, 0), (.iadd, 0, 0)] ⟨⟨d133_660, trivial⟩, ⟨d133_661, trivial⟩, ⟨d133_662, trivial⟩, ⟨d133_664, trivial⟩, ⟨d133_665, trivial⟩, trivial⟩ (lv' := [(4, aN i), (0, aV (.ref sc.1)), (1, aR 0 0), (2, aR 23 0), (3, aR 47 0)]) (st' := [aN (i + 1), aV (.ref sc.1), aR 0 0]) (w' := wd N L) (P := []) rfl (trivial) (pc' := 666) rfl ?_
  refine Sem.sld rfl d133_666 (show i + 1 < sc.2.1 by omega) (show sc.2.1 < 2 ^ 31 by omega) ?_
  refine Sem.seg [(.aload_n 0, 0, 0), (.iload 4, 0, 0), (.iconst 2, 0, 0), (.iadd, 0, 0)] ⟨⟨d133_667, trivial⟩, ⟨d133_668, trivial⟩, ⟨d133_670, trivial⟩, ⟨d133_671, trivial⟩, trivial⟩ (lv' := [(4, aN i), (0, aV (.ref sc.1)), (1, aR 0 0), (2, aR 23 0), (3, aR 47 0)]) (st' := [aN (i + 2), aV (.ref sc.1), aI (sc.2.2 (i + 1)), aR 0 0]) (w' := wd N L) (P := []) rfl (trivial) (pc' := 672) rfl ?_
  refine Sem.sld rfl d133_672 (show i + 2 < sc.2.1 by omega) (show sc.2.1 < 2 ^ 31 by omega) ?_
  refine Sem.seg [(.aload_n 0, 0, 0), (.iload 4, 0, 0), (.iconst 3, 0, 0), (.iadd, 0, 0)] ⟨⟨d133_673, trivial⟩, ⟨d133_674, trivial⟩, ⟨d133_676, trivial⟩, ⟨d133_677, trivial⟩, trivial⟩ (lv' := [(4, aN i), (0, aV (.ref sc.1)), (1, aR 0 0), (2, aR 23 0), (3, aR 47 0)]) (st' := [aN (i + 3), aV (.ref sc.1), aI (sc.2.2 (i + 2)), aI (sc.2.2 (i + 1)), aR 0 0]) (w' := wd N L) (P := []) rfl (trivial) (pc' := 678) rfl ?_
  refine Sem.sld rfl d133_678 (show i + 3 < sc.2.1 by omega) (show sc.2.1 < 2 ^ 31 by omega) ?_
  refine Sem.seg [(.aload_n 3, 0, 0)] ⟨⟨d133_679, trivial⟩, trivial⟩ (lv' := [(4, aN i), (0, aV (.ref sc.1)), (1, aR 0 0), (2, aR 23 0), (3, aR 47 0)]) (st' := [aR 47 0, aI (sc.2.2 (i + 3)), aI (sc.2.2 (i + 2)), aI (sc.2.2 (i + 1)), aR 0 0]) (w' := wd N L) (P := []) rfl (trivial) (pc' := 680) rfl ?_
  refine Sem.cHmN (as := [aR 0 0, aI (sc.2.2 (i + 1)), aI (sc.2.2 (i + 2)), aI (sc.2.2 (i + 3)), aR 47 0]) (rst := []) (c' := 100 + 17 * i + 4) (s' := 2524 + 102 * i + 24) d133_680 mk53 co53 lk6_113 ss53 (show 5 ≤ mL 53 by decide) rfl (show 0 ≤ 8 by decide) (by decide) (by decide) rfl rfl (by first | exact lawC (by omega) | exact lawS (by omega)) (by first | exact lawC (by omega) | exact lawS (by omega)) (m53 N L (sc.2.2 (i + 1)) (sc.2.2 (i + 2)) (sc.2.2 (i + 3)) (h.1.2.1 1 (by omega)).1) ?_
  rintro z N1 L1 h1
  have hF := f_order h1
  refine Sem.seg [(.istore 5, 0, 0), (.aload_n 2, 0, 0), (.aload_n 0, 0, 0), (.iload 4, 0, 0), (.iconst 1, 0, 0), (.iadd, 0, 0)] ⟨⟨d133_683, trivial⟩, ⟨d133_685, trivial⟩, ⟨d133_686, trivial⟩, ⟨d133_687, trivial⟩, ⟨d133_689, trivial⟩, ⟨d133_690, trivial⟩, trivial⟩ (lv' := [(5, aN z), (4, aN i), (0, aV (.ref sc.1)), (1, aR 0 0), (2, aR 23 0), (3, aR 47 0)]) (st' := [aN (i + 1), aV (.ref sc.1), aR 23 0]) (w' := wd N1 L1) (P := []) rfl (trivial) (pc' := 691) rfl ?_
  refine Sem.sld rfl d133_691 (show i + 1 < sc.2.1 by omega) (show sc.2.1 < 2 ^ 31 by omega) ?_
  refine Sem.seg [(.aload_n 0, 0, 0), (.iload 4, 0, 0), (.iconst 2, 0, 0), (.iadd, 0, 0)] ⟨⟨d133_692, trivial⟩, ⟨d133_693, trivial⟩, ⟨d133_695, trivial⟩, ⟨d133_696, trivial⟩, trivial⟩ (lv' := [(5, aN z), (4, aN i), (0, aV (.ref sc.1)), (1, aR 0 0), (2, aR 23 0), (3, aR 47 0)]) (st' := [aN (i + 2), aV (.ref sc.1), aI (sc.2.2 (i + 1)), aR 23 0]) (w' := wd N1 L1) (P := []) rfl (trivial) (pc' := 697) rfl ?_
  refine Sem.sld rfl d133_697 (show i + 2 < sc.2.1 by omega) (show sc.2.1 < 2 ^ 31 by omega) ?_
  refine Sem.seg [(.aload_n 0, 0, 0), (.iload 4, 0, 0), (.iconst 3, 0, 0), (.iadd, 0, 0)] ⟨⟨d133_698, trivial⟩, ⟨d133_699, trivial⟩, ⟨d133_701, trivial⟩, ⟨d133_702, trivial⟩, trivial⟩ (lv' := [(5, aN z), (4, aN i), (0, aV (.ref sc.1)), (1, aR 0 0), (2, aR 23 0), (3, aR 47 0)]) (st' := [aN (i + 3), aV (.ref sc.1), aI (sc.2.2 (i + 2)), aI (sc.2.2 (i + 1)), aR 23 0]) (w' := wd N1 L1) (P := []) rfl (trivial) (pc' := 703) rfl ?_
  refine Sem.sld rfl d133_703 (show i + 3 < sc.2.1 by omega) (show sc.2.1 < 2 ^ 31 by omega) ?_
  refine Sem.cVmN (t := 23) (i := 0) (as := [aI (sc.2.2 (i + 1)), aI (sc.2.2 (i + 2)), aI (sc.2.2 (i + 3))]) (rst := []) (c' := 100 + 17 * i + 4) (s' := 2524 + 102 * i + 24) d133_704 mk103 rfl co103 lk6_115 im103 se103 rfl (vN (t := 23) (i := 0) (by decide)) (show 4 ≤ mL 103 by decide) rfl (show 0 ≤ 8 by decide) (by decide) (by decide) (mc0 rfl) (ms0 rfl) (by first | exact lawC (by omega) | exact lawS (by omega)) (by first | exact lawC (by omega) | exact lawS (by omega)) (m103 N1 L1 (sc.2.2 (i + 1)) (sc.2.2 (i + 2)) (sc.2.2 (i + 3)) (by rw [hF 37 0 1 (by omega), h.z (by omega)]; exact (h.1.2.1 1 (by omega)).1)) ?_
  rintro b N2 L2 h2
  obtain ⟨e0, hz3, hI2, hv⟩ := k_order h h1 h2
  refine Sem.seg [(.istore 6, 0, 0), (.aload_n 2, 0, 0)] ⟨⟨d133_707, trivial⟩, ⟨d133_709, trivial⟩, trivial⟩ (lv' := [(6, aN b), (5, aN z), (4, aN i), (0, aV (.ref sc.1)), (1, aR 0 0), (2, aR 23 0), (3, aR 47 0)]) (st' := [aR 23 0]) (w' := wd N2 L2) (P := []) rfl (trivial) (pc' := 710) rfl ?_
  refine Sem.cVp1 (t := 23) (i := 0) (as := []) (rst := []) (c' := 100 + 17 * i + 4) (s' := 2524 + 102 * i + 24) d133_710 mk87 rfl co87 lk6_87 im87 se87 rfl (vN (t := 23) (i := 0) (by decide)) (show 1 ≤ mL 87 by decide) rfl (show 0 ≤ 8 by decide) (by decide) (by decide) (mc0 rfl) (ms0 rfl) (by first | exact lawC (by omega) | exact lawS (by omega)) (by first | exact lawC (by omega) | exact lawS (by omega)) (m87 N2 L2) ?_
  refine Sem.topNN (show N2 23 0 0 = z from e0) ?_
  refine Sem.seg [(.iload 5, 0, 0)] ⟨⟨d133_713, trivial⟩, trivial⟩ (lv' := [(6, aN b), (5, aN z), (4, aN i), (0, aV (.ref sc.1)), (1, aR 0 0), (2, aR 23 0), (3, aR 47 0)]) (st' := [aN z, aN z]) (w' := wd N2 L2) (P := []) rfl (trivial) (pc' := 715) rfl ?_
  refine Sem.icmpN (tgt := 720) d133_715 (by decide) (show z < 2 ^ 31 by omega) (show z < 2 ^ 31 by omega) (fun b1 => ?_) (fun b1 => ?_)
  · have b1_ : z = z := b1
    refine Sem.seg [(.iload 5, 0, 0)] ⟨⟨d133_720, trivial⟩, trivial⟩ (lv' := [(6, aN b), (5, aN z), (4, aN i), (0, aV (.ref sc.1)), (1, aR 0 0), (2, aR 23 0), (3, aR 47 0)]) (st' := [aN z]) (w' := wd N2 L2) (P := []) rfl (trivial) (pc' := 722) rfl ?_
    refine Sem.ifN (tgt := 737) d133_722 (by decide) (show z < 2 ^ 31 by omega) (fun b2 => ?_) (fun b2 => ?_)
    · have b2_ : ¬ z = 0 := b2
      refine Sem.goto (tgt := 1428) d133_737 (by decide) ?_
      refine Sem.pick [2, 3, 4, 5, 6] (lv' := [(4, aN i), (0, aV (.ref sc.1)), (1, aR 0 0), (2, aR 23 0), (3, aR 47 0)]) rfl ?_
      refine Sem.widen (a := 100 + 17 * (i + 6)) (b := 2524 + 102 * (i + 6)) (by omega) (by omega) hzW ?_
      exact kk _ _ hI2
    · have b2_ : ¬ (¬ z = 0) := b2
      refine Sem.seg [(.aload_n 3, 0, 0), (.iconst 0, 0, 0), (.laload, 0, 0), (.iload 6, 0, 0), (.i2l, 0, 0)] ⟨⟨d133_725, trivial⟩, ⟨d133_726, trivial⟩, ⟨d133_727, trivial⟩, ⟨d133_728, trivial⟩, ⟨d133_730, trivial⟩, trivial⟩ (lv' := [(6, aN b), (5, aN z), (4, aN i), (0, aV (.ref sc.1)), (1, aR 0 0), (2, aR 23 0), (3, aR 47 0)]) (st' := [aL ((nI b).toInt64), aL (L2 47 0 0)]) (w' := wd N2 L2) (P := [vld NN 47 0, 0 < 1]) rfl (⟨vN (t := 47) (i := 0) (by decide), (by decide : (0 : Nat) < 1)⟩) (pc' := 731) rfl ?_
      refine Sem.lcmp (tgt := 737) d133_731 d133_732 (by decide) (fun b3 => ?_) (fun b3 => ?_)
      · have b3_ : L2 47 0 0 = (nI b).toInt64 := b3
        refine Sem.goto (tgt := 1428) d133_737 (by decide) ?_
        refine Sem.pick [2, 3, 4, 5, 6] (lv' := [(4, aN i), (0, aV (.ref sc.1)), (1, aR 0 0), (2, aR 23 0), (3, aR 47 0)]) rfl ?_
        refine Sem.widen (a := 100 + 17 * (i + 6)) (b := 2524 + 102 * (i + 6)) (by omega) (by omega) hzW ?_
        exact kk _ _ hI2
      · exfalso; have b3_ : ¬ (L2 47 0 0 = (nI b).toInt64) := b3; exact b3_ (hv (by omega))
  · exfalso; have b1_ : ¬ (z = z) := b1; omega

theorem c_replan {sc : XT} {Q : QT} (N : TN) (L : TL) (i : Nat) (h : Inv N L) (hi : i + 6 ≤ sc.2.1) (h72 : sc.2.1 ≤ 3072) (kk : ∀ (N' : TN) (L' : TL), Inv N' L' → Sem sc 133 1428 [(4, aN i), (0, aV (.ref sc.1)), (1, aR 0 0), (2, aR 23 0), (3, aR 47 0)] [] (wd N' L') (100 + 17 * (i + 6)) (2524 + 102 * (i + 6)) Q) : Sem sc 133 740 [(4, aN i), (0, aV (.ref sc.1)), (1, aR 0 0), (2, aR 23 0), (3, aR 47 0)] [] (wd N L) (100 + 17 * i) (2524 + 102 * i) Q := by
  refine Sem.seg [(.aload_n 1, 0, 0)] ⟨⟨d133_740, trivial⟩, trivial⟩ (lv' := [(4, aN i), (0, aV (.ref sc.1)), (1, aR 0 0), (2, aR 23 0), (3, aR 47 0)]) (st' := [aR 0 0]) (w' := wd N L) (P := []) rfl (trivial) (pc' := 741) rfl ?_
  refine Sem.cVmN (t := 0) (i := 0) (as := []) (rst := []) (c' := 100 + 17 * i) (s' := 2524 + 102 * i) d133_741 mk5 rfl co5 lk6_116 im5 se5 rfl (vN (t := 0) (i := 0) (by decide)) (show 1 ≤ mL 5 by decide) rfl (show 0 ≤ 8 by decide) (by decide) (by decide) (mc0 rfl) (ms0 rfl) (by first | exact lawC (by omega) | exact lawS (by omega)) (by first | exact lawC (by omega) | exact lawS (by omega)) (m5 N L h.1 h.2.2.2.2.1) ?_
  rintro z1 N1 L1 h1
  have hF : ∀ t a_ b_, 23 ≤ t → N1 t a_ b_ = N t a_ b_ := fun t a_ b_ ht => h1.2.2.2.1 t a_ b_ (by omega) (by omega)
  have hG : ∀ b_, N1 6 0 b_ = N 6 0 b_ := fun b_ => h1.2.2.2.1 6 0 b_ (by omega) (by omega)
  refine Sem.seg [(.aload_n 2, 0, 0)] ⟨⟨d133_744, trivial⟩, trivial⟩ (lv' := [(4, aN i), (0, aV (.ref sc.1)), (1, aR 0 0), (2, aR 23 0), (3, aR 47 0)]) (st' := [aR 23 0, aN z1]) (w' := wd N1 L1) (P := []) rfl (trivial) (pc' := 745) rfl ?_
  refine Sem.cVmN (t := 23) (i := 0) (as := []) (rst := [aN z1]) (c' := 100 + 17 * i) (s' := 2524 + 102 * i) d133_745 mk105 rfl co105 lk6_119 im105 se105 rfl (vN (t := 23) (i := 0) (by decide)) (show 1 ≤ mL 105 by decide) rfl (show 1 ≤ 8 by decide) (by decide) (by decide) (mc0 rfl) (ms0 rfl) (by first | exact lawC (by omega) | exact lawS (by omega)) (by first | exact lawC (by omega) | exact lawS (by omega)) (m105 N1 L1 (h.cd1 hF hG) (h.lv1 hF hG) (by rw [hF 23 0 19 (by omega)]; exact h.2.2.2.1.2.2.1) (fun i_ hi_ => by rw [hF 41 0 i_ (by omega)]; exact h.2.2.2.1.2.2.2 i_ hi_)) ?_
  rintro z2 N2 L2 h2
  obtain ⟨e0, hI2⟩ := iv_replan h h1 h2
  subst e0
  refine Sem.icmp (tgt := 1428) d133_748 (by decide) rfl rfl (fun b1 => ?_) (fun b1 => ?_)
  · skip
    refine Sem.pick [0, 1, 2, 3, 4] (lv' := [(4, aN i), (0, aV (.ref sc.1)), (1, aR 0 0), (2, aR 23 0), (3, aR 47 0)]) rfl ?_
    refine Sem.widen (a := 100 + 17 * (i + 6)) (b := 2524 + 102 * (i + 6)) (by omega) (by omega) hzW ?_
    exact kk _ _ hI2
  · exact absurd rfl b1

theorem c_level {sc : XT} {Q : QT} (N : TN) (L : TL) (i : Nat) (h : Inv N L) (hi : i + 6 ≤ sc.2.1) (h72 : sc.2.1 ≤ 3072) (kk : ∀ (N' : TN) (L' : TL), Inv N' L' → Sem sc 133 1428 [(4, aN i), (0, aV (.ref sc.1)), (1, aR 0 0), (2, aR 23 0), (3, aR 47 0)] [] (wd N' L') (100 + 17 * (i + 6)) (2524 + 102 * (i + 6)) Q) : Sem sc 133 753 [(4, aN i), (0, aV (.ref sc.1)), (1, aR 0 0), (2, aR 23 0), (3, aR 47 0)] [] (wd N L) (100 + 17 * i) (2524 + 102 * i) Q := by
  refine Sem.seg [(.aload_n 1, 0, 0), (.aload_n 0, 0, 0), (.iload 4, 0, 0), (.iconst 1, 0, 0), (.iadd, 0, 0)] ⟨⟨d133_753, trivial⟩, ⟨d133_754, trivial⟩, ⟨d133_755, trivial⟩, ⟨d133_757, trivial⟩, ⟨d133_758, trivial⟩, trivial⟩ (lv' := [(4, aN i), (0, aV (.ref sc.1)), (1, aR 0 0), (2, aR 23 0), (3, aR 47 0)]) (st' := [aN (i + 1), aV (.ref sc.1), aR 0 0]) (w' := wd N L) (P := []) rfl (trivial) (pc' := 759) rfl ?_
  refine Sem.sld rfl d133_759 (show i + 1 < sc.2.1 by omega) (show sc.2.1 < 2 ^ 31 by omega) ?_
  refine Sem.seg [(.aload_n 3, 0, 0)] ⟨⟨d133_760, trivial⟩, trivial⟩ (lv' := [(4, aN i), (0, aV (.ref sc.1)), (1, aR 0 0), (2, aR 23 0), (3, aR 47 0)]) (st' := [aR 47 0, aI (sc.2.2 (i + 1)), aR 0 0]) (w' := wd N L) (P := []) rfl (trivial) (pc' := 761) rfl ?_
  refine Sem.cHmN (as := [aR 0 0, aI (sc.2.2 (i + 1)), aR 47 0]) (rst := []) (c' := 100 + 17 * i + 1) (s' := 2524 + 102 * i + 6) d133_761 mk55 co55 lk6_120 ss55 (show 3 ≤ mL 55 by decide) rfl (show 0 ≤ 8 by decide) (by decide) (by decide) rfl rfl (by first | exact lawC (by omega) | exact lawS (by omega)) (by first | exact lawC (by omega) | exact lawS (by omega)) (m55 N L (sc.2.2 (i + 1))) ?_
  rintro z N1 L1 h1
  have hF := f_level h1
  refine Sem.seg [(.istore 5, 0, 0), (.aload_n 2, 0, 0), (.aload_n 0, 0, 0), (.iload 4, 0, 0), (.iconst 1, 0, 0), (.iadd, 0, 0)] ⟨⟨d133_764, trivial⟩, ⟨d133_766, trivial⟩, ⟨d133_767, trivial⟩, ⟨d133_768, trivial⟩, ⟨d133_770, trivial⟩, ⟨d133_771, trivial⟩, trivial⟩ (lv' := [(5, aN z), (4, aN i), (0, aV (.ref sc.1)), (1, aR 0 0), (2, aR 23 0), (3, aR 47 0)]) (st' := [aN (i + 1), aV (.ref sc.1), aR 23 0]) (w' := wd N1 L1) (P := []) rfl (trivial) (pc' := 772) rfl ?_
  refine Sem.sld rfl d133_772 (show i + 1 < sc.2.1 by omega) (show sc.2.1 < 2 ^ 31 by omega) ?_
  refine Sem.cVmN (t := 23) (i := 0) (as := [aI (sc.2.2 (i + 1))]) (rst := []) (c' := 100 + 17 * i + 1) (s' := 2524 + 102 * i + 6) d133_773 mk119 rfl co119 lk6_123 im119 se119 rfl (vN (t := 23) (i := 0) (by decide)) (show 2 ≤ mL 119 by decide) rfl (show 0 ≤ 8 by decide) (by decide) (by decide) (mc0 rfl) (ms0 rfl) (by first | exact lawC (by omega) | exact lawS (by omega)) (by first | exact lawC (by omega) | exact lawS (by omega)) (m119 N1 L1 (sc.2.2 (i + 1)) (fun q hq => by rw [hF 34 0 q (by omega)]; exact h.h9 q hq)) ?_
  rintro b N2 L2 h2
  obtain ⟨e0, hz3, hI2, hv⟩ := k_level h h1 h2
  refine Sem.seg [(.istore 6, 0, 0), (.aload_n 2, 0, 0)] ⟨⟨d133_776, trivial⟩, ⟨d133_778, trivial⟩, trivial⟩ (lv' := [(6, aN b), (5, aN z), (4, aN i), (0, aV (.ref sc.1)), (1, aR 0 0), (2, aR 23 0), (3, aR 47 0)]) (st' := [aR 23 0]) (w' := wd N2 L2) (P := []) rfl (trivial) (pc' := 779) rfl ?_
  refine Sem.cVp1 (t := 23) (i := 0) (as := []) (rst := []) (c' := 100 + 17 * i + 1) (s' := 2524 + 102 * i + 6) d133_779 mk87 rfl co87 lk6_87 im87 se87 rfl (vN (t := 23) (i := 0) (by decide)) (show 1 ≤ mL 87 by decide) rfl (show 0 ≤ 8 by decide) (by decide) (by decide) (mc0 rfl) (ms0 rfl) (by first | exact lawC (by omega) | exact lawS (by omega)) (by first | exact lawC (by omega) | exact lawS (by omega)) (m87 N2 L2) ?_
  refine Sem.topNN (show N2 23 0 0 = z from e0) ?_
  refine Sem.seg [(.iload 5, 0, 0)] ⟨⟨d133_782, trivial⟩, trivial⟩ (lv' := [(6, aN b), (5, aN z), (4, aN i), (0, aV (.ref sc.1)), (1, aR 0 0), (2, aR 23 0), (3, aR 47 0)]) (st' := [aN z, aN z]) (w' := wd N2 L2) (P := []) rfl (trivial) (pc' := 784) rfl ?_
  refine Sem.icmpN (tgt := 789) d133_784 (by decide) (show z < 2 ^ 31 by omega) (show z < 2 ^ 31 by omega) (fun b1 => ?_) (fun b1 => ?_)
  · have b1_ : z = z := b1
    refine Sem.seg [(.iload 5, 0, 0)] ⟨⟨d133_789, trivial⟩, trivial⟩ (lv' := [(6, aN b), (5, aN z), (4, aN i), (0, aV (.ref sc.1)), (1, aR 0 0), (2, aR 23 0), (3, aR 47 0)]) (st' := [aN z]) (w' := wd N2 L2) (P := []) rfl (trivial) (pc' := 791) rfl ?_
    refine Sem.ifN (tgt := 806) d133_791 (by decide) (show z < 2 ^ 31 by omega) (fun b2 => ?_) (fun b2 => ?_)
    · have b2_ : ¬ z = 0 := b2
      refine Sem.goto (tgt := 1428) d133_806 (by decide) ?_
      refine Sem.pick [2, 3, 4, 5, 6] (lv' := [(4, aN i), (0, aV (.ref sc.1)), (1, aR 0 0), (2, aR 23 0), (3, aR 47 0)]) rfl ?_
      refine Sem.widen (a := 100 + 17 * (i + 6)) (b := 2524 + 102 * (i + 6)) (by omega) (by omega) hzW ?_
      exact kk _ _ hI2
    · have b2_ : ¬ (¬ z = 0) := b2
      refine Sem.seg [(.aload_n 3, 0, 0), (.iconst 0, 0, 0), (.laload, 0, 0), (.iload 6, 0, 0), (.i2l, 0, 0)] ⟨⟨d133_794, trivial⟩, ⟨d133_795, trivial⟩, ⟨d133_796, trivial⟩, ⟨d133_797, trivial⟩, ⟨d133_799, trivial⟩, trivial⟩ (lv' := [(6, aN b), (5, aN z), (4, aN i), (0, aV (.ref sc.1)), (1, aR 0 0), (2, aR 23 0), (3, aR 47 0)]) (st' := [aL ((nI b).toInt64), aL (L2 47 0 0)]) (w' := wd N2 L2) (P := [vld NN 47 0, 0 < 1]) rfl (⟨vN (t := 47) (i := 0) (by decide), (by decide : (0 : Nat) < 1)⟩) (pc' := 800) rfl ?_
      refine Sem.lcmp (tgt := 806) d133_800 d133_801 (by decide) (fun b3 => ?_) (fun b3 => ?_)
      · have b3_ : L2 47 0 0 = (nI b).toInt64 := b3
        refine Sem.goto (tgt := 1428) d133_806 (by decide) ?_
        refine Sem.pick [2, 3, 4, 5, 6] (lv' := [(4, aN i), (0, aV (.ref sc.1)), (1, aR 0 0), (2, aR 23 0), (3, aR 47 0)]) rfl ?_
        refine Sem.widen (a := 100 + 17 * (i + 6)) (b := 2524 + 102 * (i + 6)) (by omega) (by omega) hzW ?_
        exact kk _ _ hI2
      · exfalso; have b3_ : ¬ (L2 47 0 0 = (nI b).toInt64) := b3; exact b3_ (hv (by omega))
  · exfalso; have b1_ : ¬ (z = z) := b1; omega

