-- ===== the law's cases over its bytecode =====
theorem lawC {x : Nat} (h : x ≤ 601024) : x ≤ mc 133 := h
theorem lawS {x : Nat} (h : x ≤ 7293034) : x ≤ ms 133 := h
theorem mc0 {a k : Nat} (h : mc k = 0) : a + mc k = a := by rw [h]; rfl
theorem ms0 {a k : Nat} (h : ms k = 0) : a + ms k = a := by rw [h]; rfl
theorem egm_fr {N N1 : TN} (hF : ∀ t a b, 23 ≤ t → N1 t a b = N t a b) : eg (mN N1) = eg (mN N) := by
  funext p c
  show (0 < N1 34 0 (p * 12 + c)) = (0 < N 34 0 (p * 12 + c))
  rw [hF 34 0 _ (by omega)]
theorem Inv.l1 {N : TN} {L : TL} (h : Inv N L) : ∀ c, c < 144 → 0 < N 34 0 c → 1 ≤ N 23 0 14 := by
  intro c hc hp
  have e : N 34 0 c = N 3 0 c := (h.2.1.2.2.1 c hc).1
  rw [h.2.2.1.2.1, h.2.2.1.1]
  have := smN_ge (f := fun c => if N 3 0 c = 0 then 0 else 1) hc
  have e2 : (if N 3 0 c = 0 then 0 else 1) = 1 := if_neg (by omega)
  unfold lineS
  omega
theorem Inv.cd1 {N N1 : TN} {L : TL} (h : Inv N L) (hF : ∀ t a b, 23 ≤ t → N1 t a b = N t a b) (hG : ∀ b, N1 6 0 b = N 6 0 b) : CD (mN N1) := by
  refine h.cdm.of ⟨fun i f hi hf => ?_, fun b hb => ⟨hF 37 0 b (by omega), fun k hk => ⟨hF 38 0 _ (by omega), hF 39 0 _ (by omega), hF 40 0 _ (by omega)⟩⟩, fun c hc => ⟨hF 34 0 c (by omega), fun _ => ⟨hF 35 0 c (by omega), hF 36 0 c (by omega)⟩⟩, fun i hi => hG i⟩ (fun i hi => ?_) ?_
  · rw [mN_19 hf, mN_19 hf]; exact hF _ 0 i (by omega)
  · rw [mN_fr hF (t := 19) (by omega)]
    exact (h.cdm.1 i hi).2.2.2.2.2.2.2.2.2.2.2
  · show N1 23 0 14 ≤ 24
    rw [hF 23 0 14 (by omega)]
    exact h.cdm.2.2.1
theorem Inv.lv1 {N N1 : TN} {L : TL} (h : Inv N L) (hF : ∀ t a b, 23 ≤ t → N1 t a b = N t a b) (hG : ∀ b, N1 6 0 b = N 6 0 b) : LvOk (mN N1) (N1 6 0) := by
  intro i hi
  rw [egm_fr hF, hG i]
  exact h.lvm i hi
theorem c_item {sc : XT} {Q : QT} (N : TN) (L : TL) (i : Nat) (h : Inv N L) (hi : i + 6 ≤ sc.2.1) (h72 : sc.2.1 ≤ 3072) (kk : ∀ (N' : TN) (L' : TL), Inv N' L' → Sem sc 133 1428 [(4, aN i), (0, aV (.ref sc.1)), (1, aR 0 0), (2, aR 23 0), (3, aR 47 0)] [] (wd N' L') (100 + 17 * (i + 6)) (2524 + 102 * (i + 6)) Q) : Sem sc 133 132 [(4, aN i), (0, aV (.ref sc.1)), (1, aR 0 0), (2, aR 23 0), (3, aR 47 0)] [] (wd N L) (100 + 17 * i) (2524 + 102 * i) Q := by
  refine Sem.seg [(.aload_n 1, 0, 0), (.aload_n 0, 0, 0), (.iload 4, 0, 0), (.iconst 1, 0, 0), (.iadd, 0, 0)] ⟨⟨d133_132, trivial⟩, ⟨d133_133, trivial⟩, ⟨d133_134, trivial⟩, ⟨d133_136, trivial⟩, ⟨d133_137, trivial⟩, trivial⟩ (lv' := [(4, aN i), (0, aV (.ref sc.1)), (1, aR 0 0), (2, aR 23 0), (3, aR 47 0)]) (st' := [aN (i + 1), aV (.ref sc.1), aR 0 0]) (w' := wd N L) (P := []) rfl (trivial) (pc' := 138) rfl ?_
  refine Sem.sld rfl d133_138 (show i + 1 < sc.2.1 by omega) (show sc.2.1 < 2 ^ 31 by omega) ?_
  refine Sem.seg [(.aload_n 0, 0, 0), (.iload 4, 0, 0), (.iconst 2, 0, 0), (.iadd, 0, 0)] ⟨⟨d133_139, trivial⟩, ⟨d133_140, trivial⟩, ⟨d133_142, trivial⟩, ⟨d133_143, trivial⟩, trivial⟩ (lv' := [(4, aN i), (0, aV (.ref sc.1)), (1, aR 0 0), (2, aR 23 0), (3, aR 47 0)]) (st' := [aN (i + 2), aV (.ref sc.1), aI (sc.2.2 (i + 1)), aR 0 0]) (w' := wd N L) (P := []) rfl (trivial) (pc' := 144) rfl ?_
  refine Sem.sld rfl d133_144 (show i + 2 < sc.2.1 by omega) (show sc.2.1 < 2 ^ 31 by omega) ?_
  refine Sem.seg [(.aload_n 0, 0, 0), (.iload 4, 0, 0), (.iconst 3, 0, 0), (.iadd, 0, 0)] ⟨⟨d133_145, trivial⟩, ⟨d133_146, trivial⟩, ⟨d133_148, trivial⟩, ⟨d133_149, trivial⟩, trivial⟩ (lv' := [(4, aN i), (0, aV (.ref sc.1)), (1, aR 0 0), (2, aR 23 0), (3, aR 47 0)]) (st' := [aN (i + 3), aV (.ref sc.1), aI (sc.2.2 (i + 2)), aI (sc.2.2 (i + 1)), aR 0 0]) (w' := wd N L) (P := []) rfl (trivial) (pc' := 150) rfl ?_
  refine Sem.sld rfl d133_150 (show i + 3 < sc.2.1 by omega) (show sc.2.1 < 2 ^ 31 by omega) ?_
  refine Sem.seg [(.aload_n 0, 0, 0), (.iload 4, 0, 0), (.iconst 4, 0, 0), (.iadd, 0, 0)] ⟨⟨d133_151, trivial⟩, ⟨d133_152, trivial⟩, ⟨d133_154, trivial⟩, ⟨d133_155, trivial⟩, trivial⟩ (lv' := [(4, aN i), (0, aV (.ref sc.1)), (1, aR 0 0), (2, aR 23 0), (3, aR 47 0)]) (st' := [aN (i + 4), aV (.ref sc.1), aI (sc.2.2 (i + 3)), aI (sc.2.2 (i + 2)), aI (sc.2.2 (i + 1)), aR 0 0]) (w' := wd N L) (P := []) rfl (trivial) (pc' := 156) rfl ?_
  refine Sem.sld rfl d133_156 (show i + 4 < sc.2.1 by omega) (show sc.2.1 < 2 ^ 31 by omega) ?_
  refine Sem.seg [(.aload_n 0, 0, 0), (.iload 4, 0, 0), (.iconst 5, 0, 0), (.iadd, 0, 0)] ⟨⟨d133_157, trivial⟩, ⟨d133_158, trivial⟩, ⟨d133_160, trivial⟩, ⟨d133_161, trivial⟩, trivial⟩ (lv' := [(4, aN i), (0, aV (.ref sc.1)), (1, aR 0 0), (2, aR 23 0), (3, aR 47 0)]) (st' := [aN (i + 5), aV (.ref sc.1), aI (sc.2.2 (i + 4)), aI (sc.2.2 (i + 3)), aI (sc.2.2 (i + 2)), aI (sc.2.2 (i + 1)), aR 0 0]) (w' := wd N L) (P := []) rfl (trivial) (pc' := 162) rfl ?_
  refine Sem.sld rfl d133_162 (show i + 5 < sc.2.1 by omega) (show sc.2.1 < 2 ^ 31 by omega) ?_
  refine Sem.cHmN (as := [aR 0 0, aI (sc.2.2 (i + 1)), aI (sc.2.2 (i + 2)), aI (sc.2.2 (i + 3)), aI (sc.2.2 (i + 4)), aI (sc.2.2 (i + 5))]) (rst := []) (c' := 100 + 17 * i + 5) (s' := 2524 + 102 * i + 30) d133_163 mk22 co22 lk6_81 ss22 (show 6 ≤ mL 22 by decide) rfl (show 0 ≤ 8 by decide) (by decide) (by decide) rfl rfl (by first | exact lawC (by omega) | exact lawS (by omega)) (by first | exact lawC (by omega) | exact lawS (by omega)) (m22 N L (sc.2.2 (i + 1)) (sc.2.2 (i + 2)) (sc.2.2 (i + 3)) (sc.2.2 (i + 4)) (sc.2.2 (i + 5))) ?_
  rintro z N1 L1 h1
  have hF := f_item h1
  refine Sem.seg [(.istore 5, 0, 0), (.aload_n 2, 0, 0), (.aload_n 0, 0, 0), (.iload 4, 0, 0), (.iconst 1, 0, 0), (.iadd, 0, 0)] ⟨⟨d133_166, trivial⟩, ⟨d133_168, trivial⟩, ⟨d133_169, trivial⟩, ⟨d133_170, trivial⟩, ⟨d133_172, trivial⟩, ⟨d133_173, trivial⟩, trivial⟩ (lv' := [(5, aN z), (4, aN i), (0, aV (.ref sc.1)), (1, aR 0 0), (2, aR 23 0), (3, aR 47 0)]) (st' := [aN (i + 1), aV (.ref sc.1), aR 23 0]) (w' := wd N1 L1) (P := []) rfl (trivial) (pc' := 174) rfl ?_
  refine Sem.sld rfl d133_174 (show i + 1 < sc.2.1 by omega) (show sc.2.1 < 2 ^ 31 by omega) ?_
  refine Sem.seg [(.aload_n 0, 0, 0), (.iload 4, 0, 0), (.iconst 2, 0, 0), (.iadd, 0, 0)] ⟨⟨d133_175, trivial⟩, ⟨d133_176, trivial⟩, ⟨d133_178, trivial⟩, ⟨d133_179, trivial⟩, trivial⟩ (lv' := [(5, aN z), (4, aN i), (0, aV (.ref sc.1)), (1, aR 0 0), (2, aR 23 0), (3, aR 47 0)]) (st' := [aN (i + 2), aV (.ref sc.1), aI (sc.2.2 (i + 1)), aR 23 0]) (w' := wd N1 L1) (P := []) rfl (trivial) (pc' := 180) rfl ?_
  refine Sem.sld rfl d133_180 (show i + 2 < sc.2.1 by omega) (show sc.2.1 < 2 ^ 31 by omega) ?_
  refine Sem.seg [(.aload_n 0, 0, 0), (.iload 4, 0, 0), (.iconst 3, 0, 0), (.iadd, 0, 0)] ⟨⟨d133_181, trivial⟩, ⟨d133_182, trivial⟩, ⟨d133_184, trivial⟩, ⟨d133_185, trivial⟩, trivial⟩ (lv' := [(5, aN z), (4, aN i), (0, aV (.ref sc.1)), (1, aR 0 0), (2, aR 23 0), (3, aR 47 0)]) (st' := [aN (i + 3), aV (.ref sc.1), aI (sc.2.2 (i + 2)), aI (sc.2.2 (i + 1)), aR 23 0]) (w' := wd N1 L1) (P := []) rfl (trivial) (pc' := 186) rfl ?_
  refine Sem.sld rfl d133_186 (show i + 3 < sc.2.1 by omega) (show sc.2.1 < 2 ^ 31 by omega) ?_
  refine Sem.seg [(.aload_n 0, 0, 0), (.iload 4, 0, 0), (.iconst 4, 0, 0), (.iadd, 0, 0)] ⟨⟨d133_187, trivial⟩, ⟨d133_188, trivial⟩, ⟨d133_190, trivial⟩, ⟨d133_191, trivial⟩, trivial⟩ (lv' := [(5, aN z), (4, aN i), (0, aV (.ref sc.1)), (1, aR 0 0), (2, aR 23 0), (3, aR 47 0)]) (st' := [aN (i + 4), aV (.ref sc.1), aI (sc.2.2 (i + 3)), aI (sc.2.2 (i + 2)), aI (sc.2.2 (i + 1)), aR 23 0]) (w' := wd N1 L1) (P := []) rfl (trivial) (pc' := 192) rfl ?_
  refine Sem.sld rfl d133_192 (show i + 4 < sc.2.1 by omega) (show sc.2.1 < 2 ^ 31 by omega) ?_
  refine Sem.seg [(.aload_n 0, 0, 0), (.iload 4, 0, 0), (.iconst 5, 0, 0), (.iadd, 0, 0)] ⟨⟨d133_193, trivial⟩, ⟨d133_194, trivial⟩, ⟨d133_196, trivial⟩, ⟨d133_197, trivial⟩, trivial⟩ (lv' := [(5, aN z), (4, aN i), (0, aV (.ref sc.1)), (1, aR 0 0), (2, aR 23 0), (3, aR 47 0)]) (st' := [aN (i + 5), aV (.ref sc.1), aI (sc.2.2 (i + 4)), aI (sc.2.2 (i + 3)), aI (sc.2.2 (i + 2)), aI (sc.2.2 (i + 1)), aR 23 0]) (w' := wd N1 L1) (P := []) rfl (trivial) (pc' := 198) rfl ?_
  refine Sem.sld rfl d133_198 (show i + 5 < sc.2.1 by omega) (show sc.2.1 < 2 ^ 31 by omega) ?_
  refine Sem.cVm0 (t := 23) (i := 0) (as := [aI (sc.2.2 (i + 1)), aI (sc.2.2 (i + 2)), aI (sc.2.2 (i + 3)), aI (sc.2.2 (i + 4)), aI (sc.2.2 (i + 5))]) (rst := []) (c' := 100 + 17 * i + 5) (s' := 2524 + 102 * i + 30) d133_199 mk88 rfl co88 lk6_86 im88 se88 rfl (vN (t := 23) (i := 0) (by decide)) (show 6 ≤ mL 88 by decide) rfl (show 0 ≤ 8 by decide) (by decide) (by decide) (mc0 rfl) (ms0 rfl) (by first | exact lawC (by omega) | exact lawS (by omega)) (by first | exact lawC (by omega) | exact lawS (by omega)) (m88 N1 L1 (sc.2.2 (i + 1)) (sc.2.2 (i + 2)) (sc.2.2 (i + 3)) (sc.2.2 (i + 4)) (sc.2.2 (i + 5))) ?_
  rintro N2 L2 h2
  obtain ⟨e0, hz3, hI2⟩ := k_item h h1 h2
  refine Sem.seg [(.aload_n 2, 0, 0)] ⟨⟨d133_202, trivial⟩, trivial⟩ (lv' := [(5, aN z), (4, aN i), (0, aV (.ref sc.1)), (1, aR 0 0), (2, aR 23 0), (3, aR 47 0)]) (st' := [aR 23 0]) (w' := wd N2 L2) (P := []) rfl (trivial) (pc' := 203) rfl ?_
  refine Sem.cVp1 (t := 23) (i := 0) (as := []) (rst := []) (c' := 100 + 17 * i + 5) (s' := 2524 + 102 * i + 30) d133_203 mk87 rfl co87 lk6_87 im87 se87 rfl (vN (t := 23) (i := 0) (by decide)) (show 1 ≤ mL 87 by decide) rfl (show 0 ≤ 8 by decide) (by decide) (by decide) (mc0 rfl) (ms0 rfl) (by first | exact lawC (by omega) | exact lawS (by omega)) (by first | exact lawC (by omega) | exact lawS (by omega)) (m87 N2 L2) ?_
  refine Sem.topNN (show N2 23 0 0 = z from e0) ?_
  refine Sem.seg [(.iload 5, 0, 0)] ⟨⟨d133_206, trivial⟩, trivial⟩ (lv' := [(5, aN z), (4, aN i), (0, aV (.ref sc.1)), (1, aR 0 0), (2, aR 23 0), (3, aR 47 0)]) (st' := [aN z, aN z]) (w' := wd N2 L2) (P := []) rfl (trivial) (pc' := 208) rfl ?_
  refine Sem.icmpN (tgt := 213) d133_208 (by decide) (show z < 2 ^ 31 by omega) (show z < 2 ^ 31 by omega) (fun b1 => ?_) (fun b1 => ?_)
  · have b1_ : z = z := b1
    refine Sem.goto (tgt := 1428) d133_213 (by decide) ?_
    refine Sem.pick [1, 2, 3, 4, 5] (lv' := [(4, aN i), (0, aV (.ref sc.1)), (1, aR 0 0), (2, aR 23 0), (3, aR 47 0)]) rfl ?_
    refine Sem.widen (a := 100 + 17 * (i + 6)) (b := 2524 + 102 * (i + 6)) (by omega) (by omega) hzW ?_
    exact kk _ _ hI2
  · exfalso; have b1_ : ¬ (z = z) := b1; omega

theorem c_costs {sc : XT} {Q : QT} (N : TN) (L : TL) (i : Nat) (h : Inv N L) (hi : i + 6 ≤ sc.2.1) (h72 : sc.2.1 ≤ 3072) (kk : ∀ (N' : TN) (L' : TL), Inv N' L' → Sem sc 133 1428 [(4, aN i), (0, aV (.ref sc.1)), (1, aR 0 0), (2, aR 23 0), (3, aR 47 0)] [] (wd N' L') (100 + 17 * (i + 6)) (2524 + 102 * (i + 6)) Q) : Sem sc 133 216 [(4, aN i), (0, aV (.ref sc.1)), (1, aR 0 0), (2, aR 23 0), (3, aR 47 0)] [] (wd N L) (100 + 17 * i) (2524 + 102 * i) Q := by
  refine Sem.seg [(.aload_n 1, 0, 0), (.aload_n 0, 0, 0), (.iload 4, 0, 0), (.iconst 1, 0, 0), (.iadd, 0, 0)] ⟨⟨d133_216, trivial⟩, ⟨d133_217, trivial⟩, ⟨d133_218, trivial⟩, ⟨d133_220, trivial⟩, ⟨d133_221, trivial⟩, trivial⟩ (lv' := [(4, aN i), (0, aV (.ref sc.1)), (1, aR 0 0), (2, aR 23 0), (3, aR 47 0)]) (st' := [aN (i + 1), aV (.ref sc.1), aR 0 0]) (w' := wd N L) (P := []) rfl (trivial) (pc' := 222) rfl ?_
  refine Sem.sld rfl d133_222 (show i + 1 < sc.2.1 by omega) (show sc.2.1 < 2 ^ 31 by omega) ?_
  refine Sem.seg [(.aload_n 0, 0, 0), (.iload 4, 0, 0), (.iconst 2, 0, 0), (.iadd, 0, 0)] ⟨⟨d133_223, trivial⟩, ⟨d133_224, trivial⟩, ⟨d133_226, trivial⟩, ⟨d133_227, trivial⟩, trivial⟩ (lv' := [(4, aN i), (0, aV (.ref sc.1)), (1, aR 0 0), (2, aR 23 0), (3, aR 47 0)]) (st' := [aN (i + 2), aV (.ref sc.1), aI (sc.2.2 (i + 1)), aR 0 0]) (w' := wd N L) (P := []) rfl (trivial) (pc' := 228) rfl ?_
  refine Sem.sld rfl d133_228 (show i + 2 < sc.2.1 by omega) (show sc.2.1 < 2 ^ 31 by omega) ?_
  refine Sem.seg [(.aload_n 0, 0, 0), (.iload 4, 0, 0), (.iconst 3, 0, 0), (.iadd, 0, 0)] ⟨⟨d133_229, trivial⟩, ⟨d133_230, trivial⟩, ⟨d133_232, trivial⟩, ⟨d133_233, trivial⟩, trivial⟩ (lv' := [(4, aN i), (0, aV (.ref sc.1)), (1, aR 0 0), (2, aR 23 0), (3, aR 47 0)]) (st' := [aN (i + 3), aV (.ref sc.1), aI (sc.2.2 (i + 2)), aI (sc.2.2 (i + 1)), aR 0 0]) (w' := wd N L) (P := []) rfl (trivial) (pc' := 234) rfl ?_
  refine Sem.sld rfl d133_234 (show i + 3 < sc.2.1 by omega) (show sc.2.1 < 2 ^ 31 by omega) ?_
  refine Sem.seg [(.aload_n 0, 0, 0), (.iload 4, 0, 0), (.iconst 4, 0, 0), (.iadd, 0, 0)] ⟨⟨d133_235, trivial⟩, ⟨d133_236, trivial⟩, ⟨d133_238, trivial⟩, ⟨d133_239, trivial⟩, trivial⟩ (lv' := [(4, aN i), (0, aV (.ref sc.1)), (1, aR 0 0), (2, aR 23 0), (3, aR 47 0)]) (st' := [aN (i + 4), aV (.ref sc.1), aI (sc.2.2 (i + 3)), aI (sc.2.2 (i + 2)), aI (sc.2.2 (i + 1)), aR 0 0]) (w' := wd N L) (P := []) rfl (trivial) (pc' := 240) rfl ?_
  refine Sem.sld rfl d133_240 (show i + 4 < sc.2.1 by omega) (show sc.2.1 < 2 ^ 31 by omega) ?_
  refine Sem.cHmN (as := [aR 0 0, aI (sc.2.2 (i + 1)), aI (sc.2.2 (i + 2)), aI (sc.2.2 (i + 3)), aI (sc.2.2 (i + 4))]) (rst := []) (c' := 100 + 17 * i + 4) (s' := 2524 + 102 * i + 24) d133_241 mk27 co27 lk6_91 ss27 (show 5 ≤ mL 27 by decide) rfl (show 0 ≤ 8 by decide) (by decide) (by decide) rfl rfl (by first | exact lawC (by omega) | exact lawS (by omega)) (by first | exact lawC (by omega) | exact lawS (by omega)) (m27 N L (sc.2.2 (i + 1)) (sc.2.2 (i + 2)) (sc.2.2 (i + 3)) (sc.2.2 (i + 4))) ?_
  rintro z N1 L1 h1
  have hF := f_costs h1
  refine Sem.seg [(.istore 5, 0, 0), (.aload_n 2, 0, 0), (.aload_n 0, 0, 0), (.iload 4, 0, 0), (.iconst 1, 0, 0), (.iadd, 0, 0)] ⟨⟨d133_244, trivial⟩, ⟨d133_246, trivial⟩, ⟨d133_247, trivial⟩, ⟨d133_248, trivial⟩, ⟨d133_250, trivial⟩, ⟨d133_251, trivial⟩, trivial⟩ (lv' := [(5, aN z), (4, aN i), (0, aV (.ref sc.1)), (1, aR 0 0), (2, aR 23 0), (3, aR 47 0)]) (st' := [aN (i + 1), aV (.ref sc.1), aR 23 0]) (w' := wd N1 L1) (P := []) rfl (trivial) (pc' := 252) rfl ?_
  refine Sem.sld rfl d133_252 (show i + 1 < sc.2.1 by omega) (show sc.2.1 < 2 ^ 31 by omega) ?_
  refine Sem.seg [(.aload_n 0, 0, 0), (.iload 4, 0, 0), (.iconst 2, 0, 0), (.iadd, 0, 0)] ⟨⟨d133_253, trivial⟩, ⟨d133_254, trivial⟩, ⟨d133_256, trivial⟩, ⟨d133_257, trivial⟩, trivial⟩ (lv' := [(5, aN z), (4, aN i), (0, aV (.ref sc.1)), (1, aR 0 0), (2, aR 23 0), (3, aR 47 0)]) (st' := [aN (i + 2), aV (.ref sc.1), aI (sc.2.2 (i + 1)), aR 23 0]) (w' := wd N1 L1) (P := []) rfl (trivial) (pc' := 258) rfl ?_
  refine Sem.sld rfl d133_258 (show i + 2 < sc.2.1 by omega) (show sc.2.1 < 2 ^ 31 by omega) ?_
  refine Sem.seg [(.aload_n 0, 0, 0), (.iload 4, 0, 0), (.iconst 3, 0, 0), (.iadd, 0, 0)] ⟨⟨d133_259, trivial⟩, ⟨d133_260, trivial⟩, ⟨d133_262, trivial⟩, ⟨d133_263, trivial⟩, trivial⟩ (lv' := [(5, aN z), (4, aN i), (0, aV (.ref sc.1)), (1, aR 0 0), (2, aR 23 0), (3, aR 47 0)]) (st' := [aN (i + 3), aV (.ref sc.1), aI (sc.2.2 (i + 2)), aI (sc.2.2 (i + 1)), aR 23 0]) (w' := wd N1 L1) (P := []) rfl (trivial) (pc' := 264) rfl ?_
  refine Sem.sld rfl d133_264 (show i + 3 < sc.2.1 by omega) (show sc.2.1 < 2 ^ 31 by omega) ?_
  refine Sem.seg [(.aload_n 0, 0, 0), (.iload 4, 0, 0), (.iconst 4, 0, 0), (.iadd, 0, 0)] ⟨⟨d133_265, trivial⟩, ⟨d133_266, trivial⟩, ⟨d133_268, trivial⟩, ⟨d133_269, trivial⟩, trivial⟩ (lv' := [(5, aN z), (4, aN i), (0, aV (.ref sc.1)), (1, aR 0 0), (2, aR 23 0), (3, aR 47 0)]) (st' := [aN (i + 4), aV (.ref sc.1), aI (sc.2.2 (i + 3)), aI (sc.2.2 (i + 2)), aI (sc.2.2 (i + 1)), aR 23 0]) (w' := wd N1 L1) (P := []) rfl (trivial) (pc' := 270) rfl ?_
  refine Sem.sld rfl d133_270 (show i + 4 < sc.2.1 by omega) (show sc.2.1 < 2 ^ 31 by omega) ?_
  refine Sem.cVm0 (t := 23) (i := 0) (as := [aI (sc.2.2 (i + 1)), aI (sc.2.2 (i + 2)), aI (sc.2.2 (i + 3)), aI (sc.2.2 (i + 4))]) (rst := []) (c' := 100 + 17 * i + 4) (s' := 2524 + 102 * i + 24) d133_271 mk93 rfl co93 lk6_94 im93 se93 rfl (vN (t := 23) (i := 0) (by decide)) (show 5 ≤ mL 93 by decide) rfl (show 0 ≤ 8 by decide) (by decide) (by decide) (mc0 rfl) (ms0 rfl) (by first | exact lawC (by omega) | exact lawS (by omega)) (by first | exact lawC (by omega) | exact lawS (by omega)) (m93 N1 L1 (sc.2.2 (i + 1)) (sc.2.2 (i + 2)) (sc.2.2 (i + 3)) (sc.2.2 (i + 4))) ?_
  rintro N2 L2 h2
  obtain ⟨e0, hz3, hI2⟩ := k_costs h h1 h2
  refine Sem.seg [(.aload_n 2, 0, 0)] ⟨⟨d133_274, trivial⟩, trivial⟩ (lv' := [(5, aN z), (4, aN i), (0, aV (.ref sc.1)), (1, aR 0 0), (2, aR 23 0), (3, aR 47 0)]) (st' := [aR 23 0]) (w' := wd N2 L2) (P := []) rfl (trivial) (pc' := 275) rfl ?_
  refine Sem.cVp1 (t := 23) (i := 0) (as := []) (rst := []) (c' := 100 + 17 * i + 4) (s' := 2524 + 102 * i + 24) d133_275 mk87 rfl co87 lk6_87 im87 se87 rfl (vN (t := 23) (i := 0) (by decide)) (show 1 ≤ mL 87 by decide) rfl (show 0 ≤ 8 by decide) (by decide) (by decide) (mc0 rfl) (ms0 rfl) (by first | exact lawC (by omega) | exact lawS (by omega)) (by first | exact lawC (by omega) | exact lawS (by omega)) (m87 N2 L2) ?_
  refine Sem.topNN (show N2 23 0 0 = z from e0) ?_
  refine Sem.seg [(.iload 5, 0, 0)] ⟨⟨d133_278, trivial⟩, trivial⟩ (lv' := [(5, aN z), (4, aN i), (0, aV (.ref sc.1)), (1, aR 0 0), (2, aR 23 0), (3, aR 47 0)]) (st' := [aN z, aN z]) (w' := wd N2 L2) (P := []) rfl (trivial) (pc' := 280) rfl ?_
  refine Sem.icmpN (tgt := 285) d133_280 (by decide) (show z < 2 ^ 31 by omega) (show z < 2 ^ 31 by omega) (fun b1 => ?_) (fun b1 => ?_)
  · have b1_ : z = z := b1
    refine Sem.goto (tgt := 1428) d133_285 (by decide) ?_
    refine Sem.pick [1, 2, 3, 4, 5] (lv' := [(4, aN i), (0, aV (.ref sc.1)), (1, aR 0 0), (2, aR 23 0), (3, aR 47 0)]) rfl ?_
    refine Sem.widen (a := 100 + 17 * (i + 6)) (b := 2524 + 102 * (i + 6)) (by omega) (by omega) hzW ?_
    exact kk _ _ hI2
  · exfalso; have b1_ : ¬ (z = z) := b1; omega

theorem c_made {sc : XT} {Q : QT} (N : TN) (L : TL) (i : Nat) (h : Inv N L) (hi : i + 6 ≤ sc.2.1) (h72 : sc.2.1 ≤ 3072) (kk : ∀ (N' : TN) (L' : TL), Inv N' L' → Sem sc 133 1428 [(4, aN i), (0, aV (.ref sc.1)), (1, aR 0 0), (2, aR 23 0), (3, aR 47 0)] [] (wd N' L') (100 + 17 * (i + 6)) (2524 + 102 * (i + 6)) Q) : Sem sc 133 288 [(4, aN i), (0, aV (.ref sc.1)), (1, aR 0 0), (2, aR 23 0), (3, aR 47 0)] [] (wd N L) (100 + 17 * i) (2524 + 102 * i) Q := by
  refine Sem.seg [(.aload_n 1, 0, 0), (.aload_n 0, 0, 0), (.iload 4, 0, 0), (.iconst 1, 0, 0), (.iadd, 0, 0)] ⟨⟨d133_288, trivial⟩, ⟨d133_289, trivial⟩, ⟨d133_290, trivial⟩, ⟨d133_292, trivial⟩, ⟨d133_293, trivial⟩, trivial⟩ (lv' := [(4, aN i), (0, aV (.ref sc.1)), (1, aR 0 0), (2, aR 23 0), (3, aR 47 0)]) (st' := [aN (i + 1), aV (.ref sc.1), aR 0 0]) (w' := wd N L) (P := []) rfl (trivial) (pc' := 294) rfl ?_
  refine Sem.sld rfl d133_294 (show i + 1 < sc.2.1 by omega) (show sc.2.1 < 2 ^ 31 by omega) ?_
  refine Sem.seg [(.aload_n 0, 0, 0), (.iload 4, 0, 0), (.iconst 2, 0, 0), (.iadd, 0, 0)] ⟨⟨d133_295, trivial⟩, ⟨d133_296, trivial⟩, ⟨d133_298, trivial⟩, ⟨d133_299, trivial⟩, trivial⟩ (lv' := [(4, aN i), (0, aV (.ref sc.1)), (1, aR 0 0), (2, aR 23 0), (3, aR 47 0)]) (st' := [aN (i + 2), aV (.ref sc.1), aI (sc.2.2 (i + 1)), aR 0 0]) (w' := wd N L) (P := []) rfl (trivial) (pc' := 300) rfl ?_
  refine Sem.sld rfl d133_300 (show i + 2 < sc.2.1 by omega) (show sc.2.1 < 2 ^ 31 by omega) ?_
  refine Sem.seg [(.aload_n 0, 0, 0), (.iload 4, 0, 0), (.iconst 3, 0, 0), (.iadd, 0, 0)] ⟨⟨d133_301, trivial⟩, ⟨d133_302, trivial⟩, ⟨d133_304, trivial⟩, ⟨d133_305, trivial⟩, trivial⟩ (lv' := [(4, aN i), (0, aV (.ref sc.1)), (1, aR 0 0), (2, aR 23 0), (3, aR 47 0)]) (st' := [aN (i + 3), aV (.ref sc.1), aI (sc.2.2 (i + 2)), aI (sc.2.2 (i + 1)), aR 0 0]) (w' := wd N L) (P := []) rfl (trivial) (pc' := 306) rfl ?_
  refine Sem.sld rfl d133_306 (show i + 3 < sc.2.1 by omega) (show sc.2.1 < 2 ^ 31 by omega) ?_
  refine Sem.cHmN (as := [aR 0 0, aI (sc.2.2 (i + 1)), aI (sc.2.2 (i + 2)), aI (sc.2.2 (i + 3))]) (rst := []) (c' := 100 + 17 * i + 3) (s' := 2524 + 102 * i + 18) d133_307 mk29 co29 lk6_95 ss29 (show 4 ≤ mL 29 by decide) rfl (show 0 ≤ 8 by decide) (by decide) (by decide) rfl rfl (by first | exact lawC (by omega) | exact lawS (by omega)) (by first | exact lawC (by omega) | exact lawS (by omega)) (m29 N L (sc.2.2 (i + 1)) (sc.2.2 (i + 2)) (sc.2.2 (i + 3))) ?_
  rintro z N1 L1 h1
  have hF := f_made h1
  refine Sem.seg [(.istore 5, 0, 0), (.aload_n 2, 0, 0), (.aload_n 0, 0, 0), (.iload 4, 0, 0), (.iconst 1, 0, 0), (.iadd, 0, 0)] ⟨⟨d133_310, trivial⟩, ⟨d133_312, trivial⟩, ⟨d133_313, trivial⟩, ⟨d133_314, trivial⟩, ⟨d133_316, trivial⟩, ⟨d133_317, trivial⟩, trivial⟩ (lv' := [(5, aN z), (4, aN i), (0, aV (.ref sc.1)), (1, aR 0 0), (2, aR 23 0), (3, aR 47 0)]) (st' := [aN (i + 1), aV (.ref sc.1), aR 23 0]) (w' := wd N1 L1) (P := []) rfl (trivial) (pc' := 318) rfl ?_
  refine Sem.sld rfl d133_318 (show i + 1 < sc.2.1 by omega) (show sc.2.1 < 2 ^ 31 by omega) ?_
  refine Sem.seg [(.aload_n 0, 0, 0), (.iload 4, 0, 0), (.iconst 2, 0, 0), (.iadd, 0, 0)] ⟨⟨d133_319, trivial⟩, ⟨d133_320, trivial⟩, ⟨d133_322, trivial⟩, ⟨d133_323, trivial⟩, trivial⟩ (lv' := [(5, aN z), (4, aN i), (0, aV (.ref sc.1)), (1, aR 0 0), (2, aR 23 0), (3, aR 47 0)]) (st' := [aN (i + 2), aV (.ref sc.1), aI (sc.2.2 (i + 1)), aR 23 0]) (w' := wd N1 L1) (P := []) rfl (trivial) (pc' := 324) rfl ?_
  refine Sem.sld rfl d133_324 (show i + 2 < sc.2.1 by omega) (show sc.2.1 < 2 ^ 31 by omega) ?_
  refine Sem.seg [(.aload_n 0, 0, 0), (.iload 4, 0, 0), (.iconst 3, 0, 0), (.iadd, 0, 0)] ⟨⟨d133_325, trivial⟩, ⟨d133_326, trivial⟩, ⟨d133_328, trivial⟩, ⟨d133_329, trivial⟩, trivial⟩ (lv' := [(5, aN z), (4, aN i), (0, aV (.ref sc.1)), (1, aR 0 0), (2, aR 23 0), (3, aR 47 0)]) (st' := [aN (i + 3), aV (.ref sc.1), aI (sc.2.2 (i + 2)), aI (sc.2.2 (i + 1)), aR 23 0]) (w' := wd N1 L1) (P := []) rfl (trivial) (pc' := 330) rfl ?_
  refine Sem.sld rfl d133_330 (show i + 3 < sc.2.1 by omega) (show sc.2.1 < 2 ^ 31 by omega) ?_
  refine Sem.cVm0 (t := 23) (i := 0) (as := [aI (sc.2.2 (i + 1)), aI (sc.2.2 (i + 2)), aI (sc.2.2 (i + 3))]) (rst := []) (c' := 100 + 17 * i + 3) (s' := 2524 + 102 * i + 18) d133_331 mk94 rfl co94 lk6_98 im94 se94 rfl (vN (t := 23) (i := 0) (by decide)) (show 4 ≤ mL 94 by decide) rfl (show 0 ≤ 8 by decide) (by decide) (by decide) (mc0 rfl) (ms0 rfl) (by first | exact lawC (by omega) | exact lawS (by omega)) (by first | exact lawC (by omega) | exact lawS (by omega)) (m94 N1 L1 (sc.2.2 (i + 1)) (sc.2.2 (i + 2)) (sc.2.2 (i + 3))) ?_
  rintro N2 L2 h2
  obtain ⟨e0, hz3, hI2⟩ := k_made h h1 h2
  refine Sem.seg [(.aload_n 2, 0, 0)] ⟨⟨d133_334, trivial⟩, trivial⟩ (lv' := [(5, aN z), (4, aN i), (0, aV (.ref sc.1)), (1, aR 0 0), (2, aR 23 0), (3, aR 47 0)]) (st' := [aR 23 0]) (w' := wd N2 L2) (P := []) rfl (trivial) (pc' := 335) rfl ?_
  refine Sem.cVp1 (t := 23) (i := 0) (as := []) (rst := []) (c' := 100 + 17 * i + 3) (s' := 2524 + 102 * i + 18) d133_335 mk87 rfl co87 lk6_87 im87 se87 rfl (vN (t := 23) (i := 0) (by decide)) (show 1 ≤ mL 87 by decide) rfl (show 0 ≤ 8 by decide) (by decide) (by decide) (mc0 rfl) (ms0 rfl) (by first | exact lawC (by omega) | exact lawS (by omega)) (by first | exact lawC (by omega) | exact lawS (by omega)) (m87 N2 L2) ?_
  refine Sem.topNN (show N2 23 0 0 = z from e0) ?_
  refine Sem.seg [(.iload 5, 0, 0)] ⟨⟨d133_338, trivial⟩, trivial⟩ (lv' := [(5, aN z), (4, aN i), (0, aV (.ref sc.1)), (1, aR 0 0), (2, aR 23 0), (3, aR 47 0)]) (st' := [aN z, aN z]) (w' := wd N2 L2) (P := []) rfl (trivial) (pc' := 340) rfl ?_
  refine Sem.icmpN (tgt := 345) d133_340 (by decide) (show z < 2 ^ 31 by omega) (show z < 2 ^ 31 by omega) (fun b1 => ?_) (fun b1 => ?_)
  · have b1_ : z = z := b1
    refine Sem.goto (tgt := 1428) d133_345 (by decide) ?_
    refine Sem.pick [1, 2, 3, 4, 5] (lv' := [(4, aN i), (0, aV (.ref sc.1)), (1, aR 0 0), (2, aR 23 0), (3, aR 47 0)]) rfl ?_
    refine Sem.widen (a := 100 + 17 * (i + 6)) (b := 2524 + 102 * (i + 6)) (by omega) (by omega) hzW ?_
    exact kk _ _ hI2
  · exfalso; have b1_ : ¬ (z = z) := b1; omega

theorem c_line {sc : XT} {Q : QT} (N : TN) (L : TL) (i : Nat) (h : Inv N L) (hi : i + 6 ≤ sc.2.1) (h72 : sc.2.1 ≤ 3072) (kk : ∀ (N' : TN) (L' : TL), Inv N' L' → Sem sc 133 1428 [(4, aN i), (0, aV (.ref sc.1)), (1, aR 0 0), (2, aR 23 0), (3, aR 47 0)] [] (wd N' L') (100 + 17 * (i + 6)) (2524 + 102 * (i + 6)) Q) : Sem sc 133 348 [(4, aN i), (0, aV (.ref sc.1)), (1, aR 0 0), (2, aR 23 0), (3, aR 47 0)] [] (wd N L) (100 + 17 * i) (2524 + 102 * i) Q := by
  refine Sem.seg [(.aload_n 1, 0, 0), (.aload_n 0, 0, 0), (.iload 4, 0, 0), (.iconst 1, 0, 0), (.iadd, 0, 0)] ⟨⟨d133_348, trivial⟩, ⟨d133_349, trivial⟩, ⟨d133_350, trivial⟩, ⟨d133_352, trivial⟩, ⟨d133_353, trivial⟩, trivial⟩ (lv' := [(4, aN i), (0, aV (.ref sc.1)), (1, aR 0 0), (2, aR 23 0), (3, aR 47 0)]) (st' := [aN (i + 1), aV (.ref sc.1), aR 0 0]) (w' := wd N L) (P := []) rfl (trivial) (pc' := 354) rfl ?_
  refine Sem.sld rfl d133_354 (show i + 1 < sc.2.1 by omega) (show sc.2.1 < 2 ^ 31 by omega) ?_
  refine Sem.seg [(.aload_n 0, 0, 0), (.iload 4, 0, 0), (.iconst 2, 0, 0), (.iadd, 0, 0)] ⟨⟨d133_355, trivial⟩, ⟨d133_356, trivial⟩, ⟨d133_358, trivial⟩, ⟨d133_359, trivial⟩, trivial⟩ (lv' := [(4, aN i), (0, aV (.ref sc.1)), (1, aR 0 0), (2, aR 23 0), (3, aR 47 0)]) (st' := [aN (i + 2), aV (.ref sc.1), aI (sc.2.2 (i + 1)), aR 0 0]) (w' := wd N L) (P := []) rfl (trivial) (pc' := 360) rfl ?_
  refine Sem.sld rfl d133_360 (show i + 2 < sc.2.1 by omega) (show sc.2.1 < 2 ^ 31 by omega) ?_
  refine Sem.seg [(.aload_n 0, 0, 0), (.iload 4, 0, 0), (.iconst 3, 0, 0), (.iadd, 0, 0)] ⟨⟨d133_361, trivial⟩, ⟨d133_362, trivial⟩, ⟨d133_364, trivial⟩, ⟨d133_365, trivial⟩, trivial⟩ (lv' := [(4, aN i), (0, aV (.ref sc.1)), (1, aR 0 0), (2, aR 23 0), (3, aR 47 0)]) (st' := [aN (i + 3), aV (.ref sc.1), aI (sc.2.2 (i + 2)), aI (sc.2.2 (i + 1)), aR 0 0]) (w' := wd N L) (P := []) rfl (trivial) (pc' := 366) rfl ?_
  refine Sem.sld rfl d133_366 (show i + 3 < sc.2.1 by omega) (show sc.2.1 < 2 ^ 31 by omega) ?_
  refine Sem.seg [(.aload_n 0, 0, 0), (.iload 4, 0, 0), (.iconst 4, 0, 0), (.iadd, 0, 0)] ⟨⟨d133_367, trivial⟩, ⟨d133_368, trivial⟩, ⟨d133_370, trivial⟩, ⟨d133_371, trivial⟩, trivial⟩ (lv' := [(4, aN i), (0, aV (.ref sc.1)), (1, aR 0 0), (2, aR 23 0), (3, aR 47 0)]) (st' := [aN (i + 4), aV (.ref sc.1), aI (sc.2.2 (i + 3)), aI (sc.2.2 (i + 2)), aI (sc.2.2 (i + 1)), aR 0 0]) (w' := wd N L) (P := []) rfl (trivial) (pc' := 372) rfl ?_
  refine Sem.sld rfl d133_372 (show i + 4 < sc.2.1 by omega) (show sc.2.1 < 2 ^ 31 by omega) ?_
  refine Sem.seg [(.aload_n 0, 0, 0), (.iload 4, 0, 0), (.iconst 5, 0, 0), (.iadd, 0, 0)] ⟨⟨d133_373, trivial⟩, ⟨d133_374, trivial⟩, ⟨d133_376, trivial⟩, ⟨d133_377, trivial⟩, trivial⟩ (lv' := [(4, aN i), (0, aV (.ref sc.1)), (1, aR 0 0), (2, aR 23 0), (3, aR 47 0)]) (st' := [aN (i + 5), aV (.ref sc.1), aI (sc.2.2 (i + 4)), aI (sc.2.2 (i + 3)), aI (sc.2.2 (i + 2)), aI (sc.2.2 (i + 1)), aR 0 0]) (w' := wd N L) (P := []) rfl (trivial) (pc' := 378) rfl ?_
  refine Sem.sld rfl d133_378 (show i + 5 < sc.2.1 by omega) (show sc.2.1 < 2 ^ 31 by omega) ?_
  refine Sem.cHmN (as := [aR 0 0, aI (sc.2.2 (i + 1)), aI (sc.2.2 (i + 2)), aI (sc.2.2 (i + 3)), aI (sc.2.2 (i + 4)), aI (sc.2.2 (i + 5))]) (rst := []) (c' := 100 + 17 * i + 6) (s' := 2524 + 102 * i + 36) d133_379 mk32 co32 lk6_99 ss32 (show 6 ≤ mL 32 by decide) rfl (show 0 ≤ 8 by decide) (by decide) (by decide) rfl rfl (by first | exact lawC (by omega) | exact lawS (by omega)) (by first | exact lawC (by omega) | exact lawS (by omega)) (m32 N L (sc.2.2 (i + 1)) (sc.2.2 (i + 2)) (sc.2.2 (i + 3)) (sc.2.2 (i + 4)) (sc.2.2 (i + 5)) h.1 h.2.2.1.1) ?_
  rintro z N1 L1 h1
  have hF := f_line h1
  refine Sem.seg [(.istore 5, 0, 0), (.aload_n 2, 0, 0), (.aload_n 0, 0, 0), (.iload 4, 0, 0), (.iconst 1, 0, 0), (.iadd, 0, 0)] ⟨⟨d133_382, trivial⟩, ⟨d133_384, trivial⟩, ⟨d133_385, trivial⟩, ⟨d133_386, trivial⟩, ⟨d133_388, trivial⟩, ⟨d133_389, trivial⟩, trivial⟩ (lv' := [(5, aN z), (4, aN i), (0, aV (.ref sc.1)), (1, aR 0 0), (2, aR 23 0), (3, aR 47 0)]) (st' := [aN (i + 1), aV (.ref sc.1), aR 23 0]) (w' := wd N1 L1) (P := []) rfl (trivial) (pc' := 390) rfl ?_
  refine Sem.sld rfl d133_390 (show i + 1 < sc.2.1 by omega) (show sc.2.1 < 2 ^ 31 by omega) ?_
  refine Sem.seg [(.aload_n 0, 0, 0), (.iload 4, 0, 0), (.iconst 2, 0, 0), (.iadd, 0, 0)] ⟨⟨d133_391, trivial⟩, ⟨d133_392, trivial⟩, ⟨d133_394, trivial⟩, ⟨d133_395, trivial⟩, trivial⟩ (lv' := [(5, aN z), (4, aN i), (0, aV (.ref sc.1)), (1, aR 0 0), (2, aR 23 0), (3, aR 47 0)]) (st' := [aN (i + 2), aV (.ref sc.1), aI (sc.2.2 (i + 1)), aR 23 0]) (w' := wd N1 L1) (P := []) rfl (trivial) (pc' := 396) rfl ?_
  refine Sem.sld rfl d133_396 (show i + 2 < sc.2.1 by omega) (show sc.2.1 < 2 ^ 31 by omega) ?_
  refine Sem.seg [(.aload_n 0, 0, 0), (.iload 4, 0, 0), (.iconst 3, 0, 0), (.iadd, 0, 0)] ⟨⟨d133_397, trivial⟩, ⟨d133_398, trivial⟩, ⟨d133_400, trivial⟩, ⟨d133_401, trivial⟩, trivial⟩ (lv' := [(5, aN z), (4, aN i), (0, aV (.ref sc.1)), (1, aR 0 0), (2, aR 23 0), (3, aR 47 0)]) (st' := [aN (i + 3), aV (.ref sc.1), aI (sc.2.2 (i + 2)), aI (sc.2.2 (i + 1)), aR 23 0]) (w' := wd N1 L1) (P := []) rfl (trivial) (pc' := 402) rfl ?_
  refine Sem.sld rfl d133_402 (show i + 3 < sc.2.1 by omega) (show sc.2.1 < 2 ^ 31 by omega) ?_
  refine Sem.seg [(.aload_n 0, 0, 0), (.iload 4, 0, 0), (.iconst 4, 0, 0), (.iadd, 0, 0)] ⟨⟨d133_403, trivial⟩, ⟨d133_404, trivial⟩, ⟨d133_406, trivial⟩, ⟨d133_407, trivial⟩, trivial⟩ (lv' := [(5, aN z), (4, aN i), (0, aV (.ref sc.1)), (1, aR 0 0), (2, aR 23 0), (3, aR 47 0)]) (st' := [aN (i + 4), aV (.ref sc.1), aI (sc.2.2 (i + 3)), aI (sc.2.2 (i + 2)), aI (sc.2.2 (i + 1)), aR 23 0]) (w' := wd N1 L1) (P := []) rfl (trivial) (pc' := 408) rfl ?_
  refine Sem.sld rfl d133_408 (show i + 4 < sc.2.1 by omega) (show sc.2.1 < 2 ^ 31 by omega) ?_
  refine Sem.seg [(.aload_n 0, 0, 0), (.iload 4, 0, 0), (.iconst 5, 0, 0), (.iadd, 0, 0)] ⟨⟨d133_409, trivial⟩, ⟨d133_410, trivial⟩, ⟨d133_412, trivial⟩, ⟨d133_413, trivial⟩, trivial⟩ (lv' := [(5, aN z), (4, aN i), (0, aV (.ref sc.1)), (1, aR 0 0), (2, aR 23 0), (3, aR 47 0)]) (st' := [aN (i + 5), aV (.ref sc.1), aI (sc.2.2 (i + 4)), aI (sc.2.2 (i + 3)), aI (sc.2.2 (i + 2)), aI (sc.2.2 (i + 1)), aR 23 0]) (w' := wd N1 L1) (P := []) rfl (trivial) (pc' := 414) rfl ?_
  refine Sem.sld rfl d133_414 (show i + 5 < sc.2.1 by omega) (show sc.2.1 < 2 ^ 31 by omega) ?_
  refine Sem.cVm0 (t := 23) (i := 0) (as := [aI (sc.2.2 (i + 1)), aI (sc.2.2 (i + 2)), aI (sc.2.2 (i + 3)), aI (sc.2.2 (i + 4)), aI (sc.2.2 (i + 5))]) (rst := []) (c' := 100 + 17 * i + 6) (s' := 2524 + 102 * i + 36) d133_415 mk95 rfl co95 lk6_101 im95 se95 rfl (vN (t := 23) (i := 0) (by decide)) (show 6 ≤ mL 95 by decide) rfl (show 0 ≤ 8 by decide) (by decide) (by decide) (mc0 rfl) (ms0 rfl) (by first | exact lawC (by omega) | exact lawS (by omega)) (by first | exact lawC (by omega) | exact lawS (by omega)) (m95 N1 L1 (sc.2.2 (i + 1)) (sc.2.2 (i + 2)) (sc.2.2 (i + 3)) (sc.2.2 (i + 4)) (sc.2.2 (i + 5)) (fun q hq => by rw [hF 34 0 q (by omega)]; exact h.h9 q hq) (by rw [hF 23 0 14 (by omega), h.2.2.1.2.1]; exact h.1.2.2.1) (fun q hq => by rw [hF 34 0 q (by omega), hF 23 0 14 (by omega)]; exact h.l1 q hq) (by rw [egm_fr hF]; exact h.snm)) ?_
  rintro N2 L2 h2
  obtain ⟨e0, hz3, hI2⟩ := k_line h h1 h2
  refine Sem.seg [(.aload_n 2, 0, 0)] ⟨⟨d133_418, trivial⟩, trivial⟩ (lv' := [(5, aN z), (4, aN i), (0, aV (.ref sc.1)), (1, aR 0 0), (2, aR 23 0), (3, aR 47 0)]) (st' := [aR 23 0]) (w' := wd N2 L2) (P := []) rfl (trivial) (pc' := 419) rfl ?_
  refine Sem.cVp1 (t := 23) (i := 0) (as := []) (rst := []) (c' := 100 + 17 * i + 6) (s' := 2524 + 102 * i + 36) d133_419 mk87 rfl co87 lk6_87 im87 se87 rfl (vN (t := 23) (i := 0) (by decide)) (show 1 ≤ mL 87 by decide) rfl (show 0 ≤ 8 by decide) (by decide) (by decide) (mc0 rfl) (ms0 rfl) (by first | exact lawC (by omega) | exact lawS (by omega)) (by first | exact lawC (by omega) | exact lawS (by omega)) (m87 N2 L2) ?_
  refine Sem.topNN (show N2 23 0 0 = z from e0) ?_
  refine Sem.seg [(.iload 5, 0, 0)] ⟨⟨d133_422, trivial⟩, trivial⟩ (lv' := [(5, aN z), (4, aN i), (0, aV (.ref sc.1)), (1, aR 0 0), (2, aR 23 0), (3, aR 47 0)]) (st' := [aN z, aN z]) (w' := wd N2 L2) (P := []) rfl (trivial) (pc' := 424) rfl ?_
  refine Sem.icmpN (tgt := 429) d133_424 (by decide) (show z < 2 ^ 31 by omega) (show z < 2 ^ 31 by omega) (fun b1 => ?_) (fun b1 => ?_)
  · have b1_ : z = z := b1
    refine Sem.goto (tgt := 1428) d133_429 (by decide) ?_
    refine Sem.pick [1, 2, 3, 4, 5] (lv' := [(4, aN i), (0, aV (.ref sc.1)), (1, aR 0 0), (2, aR 23 0), (3, aR 47 0)]) rfl ?_
    refine Sem.widen (a := 100 + 17 * (i + 6)) (b := 2524 + 102 * (i + 6)) (by omega) (by omega) hzW ?_
    exact kk _ _ hI2
  · exfalso; have b1_ : ¬ (z = z) := b1; omega

