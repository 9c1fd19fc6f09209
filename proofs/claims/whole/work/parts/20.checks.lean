-- ===== the class: checks =====
theorem m11 {sc : XT} (N : TN) (L : TL) (p c : Nat) : Sem sc 11 0 [(0, aN p), (1, aN c)] [] (wd N L) 0 0 (QP (some (aN (p * 12 + c))) N L) := by
  refine Sem.seg [(.iload_n 0, 0, 0), (.bipush 12, 0, 0), (.imul, 0, 0), (.iload_n 1, 0, 0), (.iadd, 0, 0)] ⟨⟨d11_0, trivial⟩, ⟨d11_1, trivial⟩, ⟨d11_3, trivial⟩, ⟨d11_4, trivial⟩, ⟨d11_5, trivial⟩, trivial⟩ (lv' := [(0, aN p), (1, aN c)]) (st' := [aN ((p * 12) + c)]) (w' := wd N L) (P := []) rfl (trivial) (pc' := 6) rfl ?_
  exact Sem.iret rfl d11_6 (Or.inl rfl) (by decide) (by decide) hzW ⟨rfl, rfl⟩

theorem m25o {sc : XT} (N : TN) (L : TL) (x : Int32) (h0 : 0 ≤ x.toInt) (h1 : x.toInt < 12) : Sem sc 25 0 [(0, aI x)] [] (wd N L) 0 0 (QP none N L) := by
  refine Sem.seg [(.iload_n 0, 0, 0)] ⟨⟨d25_0, trivial⟩, trivial⟩ (lv' := [(0, aI x)]) (st' := [aI x]) (w' := wd N L) (P := []) rfl (trivial) (pc' := 1) rfl ?_
  refine Sem.ifc (tgt := 10) d25_1 (by decide) rfl (fun b1 => ?_) (fun b1 => ?_)
  · exfalso; have b1_ : x.toInt < 0 := bT rfl rfl b1; omega
  · have b1_ : ¬ (x.toInt < 0) := bF rfl rfl b1
    refine Sem.seg [(.iload_n 0, 0, 0), (.bipush 12, 0, 0)] ⟨⟨d25_4, trivial⟩, ⟨d25_5, trivial⟩, trivial⟩ (lv' := [(0, aI x)]) (st' := [aN 12, aI x]) (w' := wd N L) (P := []) rfl (trivial) (pc' := 7) rfl ?_
    refine Sem.icmp (tgt := 20) d25_7 (by decide) rfl rfl (fun b2 => ?_) (fun b2 => ?_)
    · have b2_ : x.toInt < 12 := bT rfl (nI_toInt (by decide)) b2
      exact Sem.vret d25_20 rfl (by decide) (by decide) hzW ⟨rfl, rfl⟩
    · exfalso; have b2_ : ¬ (x.toInt < 12) := bF rfl (nI_toInt (by decide)) b2; omega

theorem m25x {sc : XT} (N : TN) (L : TL) (x : Int32) (h : x.toInt < 0 ∨ 12 ≤ x.toInt) : Sem sc 25 0 [(0, aI x)] [] (wd N L) 0 0 (QE (EX 0) (fun N' L' => N' = N ∧ L' = L)) := by
  refine Sem.seg [(.iload_n 0, 0, 0)] ⟨⟨d25_0, trivial⟩, trivial⟩ (lv' := [(0, aI x)]) (st' := [aI x]) (w' := wd N L) (P := []) rfl (trivial) (pc' := 1) rfl ?_
  refine Sem.ifc (tgt := 10) d25_1 (by decide) rfl (fun b1 => ?_) (fun b1 => ?_)
  · have b1_ : x.toInt < 0 := bT rfl rfl b1
    exact Sem.thr 0 (by decide) (text := "no such item") rfl d25_10 d25_13 d25_14 d25_16 d25_19 cl4_196 inE0 itE0 (List.mem_of_getElem? (i := 0) rfl) lk4_200 rfl (by decide) (by decide) (by decide) (by decide) rfl ⟨rfl, _, _, rfl, by exact ⟨rfl, rfl⟩⟩
  · have b1_ : ¬ (x.toInt < 0) := bF rfl rfl b1
    refine Sem.seg [(.iload_n 0, 0, 0), (.bipush 12, 0, 0)] ⟨⟨d25_4, trivial⟩, ⟨d25_5, trivial⟩, trivial⟩ (lv' := [(0, aI x)]) (st' := [aN 12, aI x]) (w' := wd N L) (P := []) rfl (trivial) (pc' := 7) rfl ?_
    refine Sem.icmp (tgt := 20) d25_7 (by decide) rfl rfl (fun b2 => ?_) (fun b2 => ?_)
    · exfalso; have b2_ : x.toInt < 12 := bT rfl (nI_toInt (by decide)) b2; omega
    · have b2_ : ¬ (x.toInt < 12) := bF rfl (nI_toInt (by decide)) b2
      exact Sem.thr 0 (by decide) (text := "no such item") rfl d25_10 d25_13 d25_14 d25_16 d25_19 cl4_196 inE0 itE0 (List.mem_of_getElem? (i := 0) rfl) lk4_200 rfl (by decide) (by decide) (by decide) (by decide) rfl ⟨rfl, _, _, rfl, by exact ⟨rfl, rfl⟩⟩

theorem m45o {sc : XT} (N : TN) (L : TL) (x : Int32) (h0 : 0 ≤ x.toInt) (h1 : x.toInt < 12) : Sem sc 45 0 [(0, aI x)] [] (wd N L) 0 0 (QP none N L) := by
  refine Sem.seg [(.iload_n 0, 0, 0)] ⟨⟨d45_0, trivial⟩, trivial⟩ (lv' := [(0, aI x)]) (st' := [aI x]) (w' := wd N L) (P := []) rfl (trivial) (pc' := 1) rfl ?_
  refine Sem.ifc (tgt := 10) d45_1 (by decide) rfl (fun b1 => ?_) (fun b1 => ?_)
  · exfalso; have b1_ : x.toInt < 0 := bT rfl rfl b1; omega
  · have b1_ : ¬ (x.toInt < 0) := bF rfl rfl b1
    refine Sem.seg [(.iload_n 0, 0, 0), (.bipush 12, 0, 0)] ⟨⟨d45_4, trivial⟩, ⟨d45_5, trivial⟩, trivial⟩ (lv' := [(0, aI x)]) (st' := [aN 12, aI x]) (w' := wd N L) (P := []) rfl (trivial) (pc' := 7) rfl ?_
    refine Sem.icmp (tgt := 20) d45_7 (by decide) rfl rfl (fun b2 => ?_) (fun b2 => ?_)
    · have b2_ : x.toInt < 12 := bT rfl (nI_toInt (by decide)) b2
      exact Sem.vret d45_20 rfl (by decide) (by decide) hzW ⟨rfl, rfl⟩
    · exfalso; have b2_ : ¬ (x.toInt < 12) := bF rfl (nI_toInt (by decide)) b2; omega

theorem m45x {sc : XT} (N : TN) (L : TL) (x : Int32) (h : x.toInt < 0 ∨ 12 ≤ x.toInt) : Sem sc 45 0 [(0, aI x)] [] (wd N L) 0 0 (QE (EX 0) (fun N' L' => N' = N ∧ L' = L)) := by
  refine Sem.seg [(.iload_n 0, 0, 0)] ⟨⟨d45_0, trivial⟩, trivial⟩ (lv' := [(0, aI x)]) (st' := [aI x]) (w' := wd N L) (P := []) rfl (trivial) (pc' := 1) rfl ?_
  refine Sem.ifc (tgt := 10) d45_1 (by decide) rfl (fun b1 => ?_) (fun b1 => ?_)
  · have b1_ : x.toInt < 0 := bT rfl rfl b1
    exact Sem.thr 0 (by decide) (text := "no such week") rfl d45_10 d45_13 d45_14 d45_16 d45_19 cl4_196 inE0 itE0 (List.mem_of_getElem? (i := 4) rfl) lk4_200 rfl (by decide) (by decide) (by decide) (by decide) rfl ⟨rfl, _, _, rfl, by exact ⟨rfl, rfl⟩⟩
  · have b1_ : ¬ (x.toInt < 0) := bF rfl rfl b1
    refine Sem.seg [(.iload_n 0, 0, 0), (.bipush 12, 0, 0)] ⟨⟨d45_4, trivial⟩, ⟨d45_5, trivial⟩, trivial⟩ (lv' := [(0, aI x)]) (st' := [aN 12, aI x]) (w' := wd N L) (P := []) rfl (trivial) (pc' := 7) rfl ?_
    refine Sem.icmp (tgt := 20) d45_7 (by decide) rfl rfl (fun b2 => ?_) (fun b2 => ?_)
    · exfalso; have b2_ : x.toInt < 12 := bT rfl (nI_toInt (by decide)) b2; omega
    · have b2_ : ¬ (x.toInt < 12) := bF rfl (nI_toInt (by decide)) b2
      exact Sem.thr 0 (by decide) (text := "no such week") rfl d45_10 d45_13 d45_14 d45_16 d45_19 cl4_196 inE0 itE0 (List.mem_of_getElem? (i := 4) rfl) lk4_200 rfl (by decide) (by decide) (by decide) (by decide) rfl ⟨rfl, _, _, rfl, by exact ⟨rfl, rfl⟩⟩

theorem m31o {sc : XT} (N : TN) (L : TL) (x : Int32) (h0 : 0 ≤ x.toInt) (h1 : x.toInt < 3) : Sem sc 31 0 [(0, aI x)] [] (wd N L) 0 0 (QP none N L) := by
  refine Sem.seg [(.iload_n 0, 0, 0)] ⟨⟨d31_0, trivial⟩, trivial⟩ (lv' := [(0, aI x)]) (st' := [aI x]) (w' := wd N L) (P := []) rfl (trivial) (pc' := 1) rfl ?_
  refine Sem.ifc (tgt := 9) d31_1 (by decide) rfl (fun b1 => ?_) (fun b1 => ?_)
  · exfalso; have b1_ : x.toInt < 0 := bT rfl rfl b1; omega
  · have b1_ : ¬ (x.toInt < 0) := bF rfl rfl b1
    refine Sem.seg [(.iload_n 0, 0, 0), (.iconst 3, 0, 0)] ⟨⟨d31_4, trivial⟩, ⟨d31_5, trivial⟩, trivial⟩ (lv' := [(0, aI x)]) (st' := [aN 3, aI x]) (w' := wd N L) (P := []) rfl (trivial) (pc' := 6) rfl ?_
    refine Sem.icmp (tgt := 19) d31_6 (by decide) rfl rfl (fun b2 => ?_) (fun b2 => ?_)
    · have b2_ : x.toInt < 3 := bT rfl (nI_toInt (by decide)) b2
      exact Sem.vret d31_19 rfl (by decide) (by decide) hzW ⟨rfl, rfl⟩
    · exfalso; have b2_ : ¬ (x.toInt < 3) := bF rfl (nI_toInt (by decide)) b2; omega

theorem m31x {sc : XT} (N : TN) (L : TL) (x : Int32) (h : x.toInt < 0 ∨ 3 ≤ x.toInt) : Sem sc 31 0 [(0, aI x)] [] (wd N L) 0 0 (QE (EX 0) (fun N' L' => N' = N ∧ L' = L)) := by
  refine Sem.seg [(.iload_n 0, 0, 0)] ⟨⟨d31_0, trivial⟩, trivial⟩ (lv' := [(0, aI x)]) (st' := [aI x]) (w' := wd N L) (P := []) rfl (trivial) (pc' := 1) rfl ?_
  refine Sem.ifc (tgt := 9) d31_1 (by decide) rfl (fun b1 => ?_) (fun b1 => ?_)
  · have b1_ : x.toInt < 0 := bT rfl rfl b1
    exact Sem.thr 0 (by decide) (text := "no such centre") rfl d31_9 d31_12 d31_13 d31_15 d31_18 cl4_196 inE0 itE0 (List.mem_of_getElem? (i := 2) rfl) lk4_200 rfl (by decide) (by decide) (by decide) (by decide) rfl ⟨rfl, _, _, rfl, by exact ⟨rfl, rfl⟩⟩
  · have b1_ : ¬ (x.toInt < 0) := bF rfl rfl b1
    refine Sem.seg [(.iload_n 0, 0, 0), (.iconst 3, 0, 0)] ⟨⟨d31_4, trivial⟩, ⟨d31_5, trivial⟩, trivial⟩ (lv' := [(0, aI x)]) (st' := [aN 3, aI x]) (w' := wd N L) (P := []) rfl (trivial) (pc' := 6) rfl ?_
    refine Sem.icmp (tgt := 19) d31_6 (by decide) rfl rfl (fun b2 => ?_) (fun b2 => ?_)
    · exfalso; have b2_ : x.toInt < 3 := bT rfl (nI_toInt (by decide)) b2; omega
    · have b2_ : ¬ (x.toInt < 3) := bF rfl (nI_toInt (by decide)) b2
      exact Sem.thr 0 (by decide) (text := "no such centre") rfl d31_9 d31_12 d31_13 d31_15 d31_18 cl4_196 inE0 itE0 (List.mem_of_getElem? (i := 2) rfl) lk4_200 rfl (by decide) (by decide) (by decide) (by decide) rfl ⟨rfl, _, _, rfl, by exact ⟨rfl, rfl⟩⟩

theorem m26o {sc : XT} (N : TN) (L : TL) (x : Int32) (a b : Nat) (ha : a < 2 ^ 31) (hb : b < 2 ^ 31) (h0 : (a : Int) ≤ x.toInt) (h1 : x.toInt ≤ (b : Int)) : Sem sc 26 0 [(0, aI x), (1, aN a), (2, aN b)] [] (wd N L) 0 0 (QP none N L) := by
  refine Sem.seg [(.iload_n 0, 0, 0), (.iload_n 1, 0, 0)] ⟨⟨d26_0, trivial⟩, ⟨d26_1, trivial⟩, trivial⟩ (lv' := [(0, aI x), (1, aN a), (2, aN b)]) (st' := [aN a, aI x]) (w' := wd N L) (P := []) rfl (trivial) (pc' := 2) rfl ?_
  refine Sem.icmp (tgt := 10) d26_2 (by decide) rfl rfl (fun b1 => ?_) (fun b1 => ?_)
  · exfalso; have b1_ : x.toInt < ((a : Nat) : Int) := bT rfl (nI_toInt (show a < 2 ^ 31 by omega)) b1; omega
  · have b1_ : ¬ (x.toInt < ((a : Nat) : Int)) := bF rfl (nI_toInt (show a < 2 ^ 31 by omega)) b1
    refine Sem.seg [(.iload_n 0, 0, 0), (.iload_n 2, 0, 0)] ⟨⟨d26_5, trivial⟩, ⟨d26_6, trivial⟩, trivial⟩ (lv' := [(0, aI x), (1, aN a), (2, aN b)]) (st' := [aN b, aI x]) (w' := wd N L) (P := []) rfl (trivial) (pc' := 7) rfl ?_
    refine Sem.icmp (tgt := 20) d26_7 (by decide) rfl rfl (fun b2 => ?_) (fun b2 => ?_)
    · have b2_ : x.toInt ≤ ((b : Nat) : Int) := bT rfl (nI_toInt (show b < 2 ^ 31 by omega)) b2
      exact Sem.vret d26_20 rfl (by decide) (by decide) hzW ⟨rfl, rfl⟩
    · exfalso; have b2_ : ¬ (x.toInt ≤ ((b : Nat) : Int)) := bF rfl (nI_toInt (show b < 2 ^ 31 by omega)) b2; omega

theorem m26x {sc : XT} (N : TN) (L : TL) (x : Int32) (a b : Nat) (ha : a < 2 ^ 31) (hb : b < 2 ^ 31) (h : x.toInt < (a : Int) ∨ (b : Int) < x.toInt) : Sem sc 26 0 [(0, aI x), (1, aN a), (2, aN b)] [] (wd N L) 0 0 (QE (EX 1) (fun N' L' => N' = N ∧ L' = L)) := by
  refine Sem.seg [(.iload_n 0, 0, 0), (.iload_n 1, 0, 0)] ⟨⟨d26_0, trivial⟩, ⟨d26_1, trivial⟩, trivial⟩ (lv' := [(0, aI x), (1, aN a), (2, aN b)]) (st' := [aN a, aI x]) (w' := wd N L) (P := []) rfl (trivial) (pc' := 2) rfl ?_
  refine Sem.icmp (tgt := 10) d26_2 (by decide) rfl rfl (fun b1 => ?_) (fun b1 => ?_)
  · have b1_ : x.toInt < ((a : Nat) : Int) := bT rfl (nI_toInt (show a < 2 ^ 31 by omega)) b1
    exact Sem.thr 1 (by decide) (text := "a value out of its range") rfl d26_10 d26_13 d26_14 d26_16 d26_19 cl4_207 inE1 itE1 (List.mem_of_getElem? (i := 1) rfl) lk4_211 rfl (by decide) (by decide) (by decide) (by decide) rfl ⟨rfl, _, _, rfl, by exact ⟨rfl, rfl⟩⟩
  · have b1_ : ¬ (x.toInt < ((a : Nat) : Int)) := bF rfl (nI_toInt (show a < 2 ^ 31 by omega)) b1
    refine Sem.seg [(.iload_n 0, 0, 0), (.iload_n 2, 0, 0)] ⟨⟨d26_5, trivial⟩, ⟨d26_6, trivial⟩, trivial⟩ (lv' := [(0, aI x), (1, aN a), (2, aN b)]) (st' := [aN b, aI x]) (w' := wd N L) (P := []) rfl (trivial) (pc' := 7) rfl ?_
    refine Sem.icmp (tgt := 20) d26_7 (by decide) rfl rfl (fun b2 => ?_) (fun b2 => ?_)
    · exfalso; have b2_ : x.toInt ≤ ((b : Nat) : Int) := bT rfl (nI_toInt (show b < 2 ^ 31 by omega)) b2; omega
    · have b2_ : ¬ (x.toInt ≤ ((b : Nat) : Int)) := bF rfl (nI_toInt (show b < 2 ^ 31 by omega)) b2
      exact Sem.thr 1 (by decide) (text := "a value out of its range") rfl d26_10 d26_13 d26_14 d26_16 d26_19 cl4_207 inE1 itE1 (List.mem_of_getElem? (i := 1) rfl) lk4_211 rfl (by decide) (by decide) (by decide) (by decide) rfl ⟨rfl, _, _, rfl, by exact ⟨rfl, rfl⟩⟩

theorem m51o {sc : XT} (N : TN) (L : TL) (b : Nat) (hb : b < 3) (x : Int32) (hs : N 8 b 3 < 2 ^ 31) (h0 : 0 ≤ x.toInt) (h1 : x.toInt < (N 8 b 3 : Int)) : Sem sc 51 0 [(0, aR 8 b), (1, aI x)] [] (wd N L) 0 0 (QP none N L) := by
  refine Sem.seg [(.iload_n 1, 0, 0)] ⟨⟨d51_0, trivial⟩, trivial⟩ (lv' := [(0, aR 8 b), (1, aI x)]) (st' := [aI x]) (w' := wd N L) (P := []) rfl (trivial) (pc' := 1) rfl ?_
  refine Sem.ifc (tgt := 12) d51_1 (by decide) rfl (fun b1 => ?_) (fun b1 => ?_)
  · exfalso; have b1_ : x.toInt < 0 := bT rfl rfl b1; omega
  · have b1_ : ¬ (x.toInt < 0) := bF rfl rfl b1
    refine Sem.seg [(.iload_n 1, 0, 0), (.aload_n 0, 0, 0), (.getfield 187, 1, 3)] ⟨⟨d51_4, trivial⟩, ⟨d51_5, trivial⟩, ⟨d51_6, gf4_187⟩, trivial⟩ (lv' := [(0, aR 8 b), (1, aI x)]) (st' := [aN (N 8 b 3), aI x]) (w' := wd N L) (P := [vld NN 8 b]) rfl (vN (t := 8) (i := b) (show b < 3 by omega)) (pc' := 9) rfl ?_
    refine Sem.icmp (tgt := 22) d51_9 (by decide) rfl rfl (fun b2 => ?_) (fun b2 => ?_)
    · have b2_ : x.toInt < ((N 8 b 3 : Nat) : Int) := bT rfl (nI_toInt (show N 8 b 3 < 2 ^ 31 by omega)) b2
      exact Sem.vret d51_22 rfl (by decide) (by decide) hzW ⟨rfl, rfl⟩
    · exfalso; have b2_ : ¬ (x.toInt < ((N 8 b 3 : Nat) : Int)) := bF rfl (nI_toInt (show N 8 b 3 < 2 ^ 31 by omega)) b2; omega

theorem m51x {sc : XT} (N : TN) (L : TL) (b : Nat) (hb : b < 3) (x : Int32) (hs : N 8 b 3 < 2 ^ 31) (h : x.toInt < 0 ∨ (N 8 b 3 : Int) ≤ x.toInt) : Sem sc 51 0 [(0, aR 8 b), (1, aI x)] [] (wd N L) 0 0 (QE (EX 0) (fun N' L' => N' = N ∧ L' = L)) := by
  refine Sem.seg [(.iload_n 1, 0, 0)] ⟨⟨d51_0, trivial⟩, trivial⟩ (lv' := [(0, aR 8 b), (1, aI x)]) (st' := [aI x]) (w' := wd N L) (P := []) rfl (trivial) (pc' := 1) rfl ?_
  refine Sem.ifc (tgt := 12) d51_1 (by decide) rfl (fun b1 => ?_) (fun b1 => ?_)
  · have b1_ : x.toInt < 0 := bT rfl rfl b1
    exact Sem.thr 0 (by decide) (text := "no such number") rfl d51_12 d51_15 d51_16 d51_18 d51_21 cl4_196 inE0 itE0 (List.mem_of_getElem? (i := 6) rfl) lk4_200 rfl (by decide) (by decide) (by decide) (by decide) rfl ⟨rfl, _, _, rfl, by exact ⟨rfl, rfl⟩⟩
  · have b1_ : ¬ (x.toInt < 0) := bF rfl rfl b1
    refine Sem.seg [(.iload_n 1, 0, 0), (.aload_n 0, 0, 0), (.getfield 187, 1, 3)] ⟨⟨d51_4, trivial⟩, ⟨d51_5, trivial⟩, ⟨d51_6, gf4_187⟩, trivial⟩ (lv' := [(0, aR 8 b), (1, aI x)]) (st' := [aN (N 8 b 3), aI x]) (w' := wd N L) (P := [vld NN 8 b]) rfl (vN (t := 8) (i := b) (show b < 3 by omega)) (pc' := 9) rfl ?_
    refine Sem.icmp (tgt := 22) d51_9 (by decide) rfl rfl (fun b2 => ?_) (fun b2 => ?_)
    · exfalso; have b2_ : x.toInt < ((N 8 b 3 : Nat) : Int) := bT rfl (nI_toInt (show N 8 b 3 < 2 ^ 31 by omega)) b2; omega
    · have b2_ : ¬ (x.toInt < ((N 8 b 3 : Nat) : Int)) := bF rfl (nI_toInt (show N 8 b 3 < 2 ^ 31 by omega)) b2
      exact Sem.thr 0 (by decide) (text := "no such number") rfl d51_12 d51_15 d51_16 d51_18 d51_21 cl4_196 inE0 itE0 (List.mem_of_getElem? (i := 6) rfl) lk4_200 rfl (by decide) (by decide) (by decide) (by decide) rfl ⟨rfl, _, _, rfl, by exact ⟨rfl, rfl⟩⟩

theorem m47 {sc : XT} (N : TN) (L : TL) (b : Nat) (hb : b < 3) (hs : N 8 b 3 < 2 ^ 31) : Sem sc 47 0 [(0, aR 8 b)] [] (wd N L) 0 0 (QP (some (aN (if N 8 b 3 < 24 then 0 else 1))) N L) := by
  refine Sem.seg [(.aload_n 0, 0, 0), (.getfield 21, 1, 3), (.bipush 24, 0, 0)] ⟨⟨d47_0, trivial⟩, ⟨d47_1, gf1_21⟩, ⟨d47_4, trivial⟩, trivial⟩ (lv' := [(0, aR 8 b)]) (st' := [aN 24, aN (N 8 b 3)]) (w' := wd N L) (P := [vld NN 8 b]) rfl (vN (t := 8) (i := b) (show b < 3 by omega)) (pc' := 6) rfl ?_
  refine Sem.icmpN (tgt := 13) d47_6 (by decide) (show N 8 b 3 < 2 ^ 31 by omega) (by decide) (fun b1 => ?_) (fun b1 => ?_)
  · have b1_ : N 8 b 3 < 24 := b1
    refine Sem.seg [(.iconst 0, 0, 0)] ⟨⟨d47_13, trivial⟩, trivial⟩ (lv' := [(0, aR 8 b)]) (st' := [aN 0]) (w' := wd N L) (P := []) rfl (trivial) (pc' := 14) rfl ?_
    exact Sem.iret rfl d47_14 (Or.inr ⟨rfl, by decide⟩) (by decide) (by decide) hzW ⟨congrArg (fun z => Sum.inl (some (aN z))) (show 0 = (if N 8 b 3 < 24 then 0 else 1) by first | rw [if_pos (by omega)] | rw [if_neg (by omega)]), rfl⟩
  · have b1_ : ¬ (N 8 b 3 < 24) := b1
    refine Sem.seg [(.iconst 1, 0, 0)] ⟨⟨d47_9, trivial⟩, trivial⟩ (lv' := [(0, aR 8 b)]) (st' := [aN 1]) (w' := wd N L) (P := []) rfl (trivial) (pc' := 10) rfl ?_
    refine Sem.goto (tgt := 14) d47_10 (by decide) ?_
    exact Sem.iret rfl d47_14 (Or.inr ⟨rfl, by decide⟩) (by decide) (by decide) hzW ⟨congrArg (fun z => Sum.inl (some (aN z))) (show 1 = (if N 8 b 3 < 24 then 0 else 1) by first | rw [if_pos (by omega)] | rw [if_neg (by omega)]), rfl⟩

theorem m46o {sc : XT} (N : TN) (L : TL) (b : Nat) (hb : b < 3) (hs : N 8 b 3 < 24) : Sem sc 46 0 [(0, aR 8 b)] [] (wd N L) 0 0 (QP none N L) := by
  refine Sem.seg [(.aload_n 0, 0, 0)] ⟨⟨d46_0, trivial⟩, trivial⟩ (lv' := [(0, aR 8 b)]) (st' := [aR 8 b]) (w' := wd N L) (P := []) rfl (trivial) (pc' := 1) rfl ?_
  refine Sem.cVp1 (t := 8) (i := b) (as := []) (rst := []) (c' := 0) (s' := 0) d46_1 mk47 rfl co47 lk4_212 im47 se47 rfl (vN (t := 8) (i := b) (show b < 3 by omega)) (show 1 ≤ mL 47 by decide) rfl (show 0 ≤ 8 by decide) (by decide) (by decide) rfl rfl (by decide) (by decide) (m47 N L b hb (by omega)) ?_
  refine Sem.topNN (show (if N 8 b 3 < 24 then 0 else 1) = 0 from if_pos hs) ?_
  refine Sem.ifN (tgt := 17) d46_4 (by decide) (by decide) (fun b1 => ?_) (fun b1 => ?_)
  rotate_left
  · exact absurd (show 0 = 0 from by decide) b1
  exact Sem.vret d46_17 rfl (by decide) (by decide) hzW ⟨rfl, rfl⟩

theorem m46x {sc : XT} (N : TN) (L : TL) (b : Nat) (hb : b < 3) (hs : N 8 b 3 < 2 ^ 31) (h : 24 ≤ N 8 b 3) : Sem sc 46 0 [(0, aR 8 b)] [] (wd N L) 0 0 (QE (EX 2) (fun N' L' => N' = N ∧ L' = L)) := by
  refine Sem.seg [(.aload_n 0, 0, 0)] ⟨⟨d46_0, trivial⟩, trivial⟩ (lv' := [(0, aR 8 b)]) (st' := [aR 8 b]) (w' := wd N L) (P := []) rfl (trivial) (pc' := 1) rfl ?_
  refine Sem.cVp1 (t := 8) (i := b) (as := []) (rst := []) (c' := 0) (s' := 0) d46_1 mk47 rfl co47 lk4_212 im47 se47 rfl (vN (t := 8) (i := b) (show b < 3 by omega)) (show 1 ≤ mL 47 by decide) rfl (show 0 ≤ 8 by decide) (by decide) (by decide) rfl rfl (by decide) (by decide) (m47 N L b hb hs) ?_
  refine Sem.topNN (show (if N 8 b 3 < 24 then 0 else 1) = 1 from if_neg (by omega)) ?_
  refine Sem.ifN (tgt := 17) d46_4 (by decide) (by decide) (fun b1 => ?_) (fun b1 => ?_)
  · exact absurd (show 1 = 0 from b1) (by decide)
  exact Sem.thr 2 (by decide) (text := "the book is full") rfl d46_7 d46_10 d46_11 d46_13 d46_16 cl4_109 inE2 itE2 (List.mem_of_getElem? (i := 5) rfl) lk4_113 rfl (by decide) (by decide) (by decide) (by decide) rfl ⟨rfl, _, _, rfl, by exact ⟨rfl, rfl⟩⟩

theorem m24n {sc : XT} (N : TN) (L : TL) (n : Nat) (h : n < 12) : Sem sc 24 0 [(0, aR 0 0), (1, aN n)] [] (wd N L) 0 0 (QP (some (aR 19 n)) N L) := by
  refine Sem.seg [(.iload_n 1, 0, 0)] ⟨⟨d24_0, trivial⟩, trivial⟩ (lv' := [(0, aR 0 0), (1, aN n)]) (st' := [aN n]) (w' := wd N L) (P := []) rfl (trivial) (pc' := 1) rfl ?_
  refine Sem.cSp0 (as := [aN n]) (rst := []) (c' := 1) (s' := 6) d24_1 mk25 rfl co25 lk4_95 ss25 (show 1 ≤ mL 25 by decide) rfl (show 0 ≤ 8 by decide) (by decide) (by decide) rfl rfl (by decide) (by decide) (Sem.eqv (lv' := [(0, aI (nI n))]) (st' := []) (fun _ _ h => h) (fun _ => rfl) (m25o N L (nI n) (by rw [nI_toInt (by omega)]; omega) (by rw [nI_toInt (by omega)]; omega))) ?_
  refine Sem.seg [(.aload_n 0, 0, 0), (.getfield 11, 4, 0), (.iload_n 1, 0, 0), (.aaload, 0, 0)] ⟨⟨d24_4, trivial⟩, ⟨d24_5, gf4_11⟩, ⟨d24_8, trivial⟩, ⟨d24_9, trivial⟩, trivial⟩ (lv' := [(0, aR 0 0), (1, aN n)]) (st' := [aR 19 n]) (w' := wd N L) (P := [vld NN 0 0, vld NN 1 0, n < 12]) rfl (⟨vN (t := 0) (i := 0) (by decide), vN (t := 1) (i := 0) (by decide), (show n < 12 by omega)⟩) (pc' := 10) rfl ?_
  exact Sem.aret rfl d24_10 rfl (Or.inl ⟨_, rfl⟩) (by decide) (by decide) hzW ⟨rfl, rfl⟩

theorem m24o {sc : XT} (N : TN) (L : TL) (n : Nat) (x : Int32) (hx : x = nI n) (h : n < 12) : Sem sc 24 0 [(0, aR 0 0), (1, aI x)] [] (wd N L) 0 0 (QP (some (aR 19 n)) N L) := by
  subst hx
  exact Sem.eqv (lv' := [(0, aR 0 0), (1, aN n)]) (st' := []) (fun _ _ h => h) (fun _ => rfl) (m24n N L n h)

theorem m24x {sc : XT} (N : TN) (L : TL) (x : Int32) (h : x.toInt < 0 ∨ 12 ≤ x.toInt) : Sem sc 24 0 [(0, aR 0 0), (1, aI x)] [] (wd N L) 0 0 (QE (EX 0) (fun N' L' => N' = N ∧ L' = L)) := by
  refine Sem.seg [(.iload_n 1, 0, 0)] ⟨⟨d24_0, trivial⟩, trivial⟩ (lv' := [(0, aR 0 0), (1, aI x)]) (st' := [aI x]) (w' := wd N L) (P := []) rfl (trivial) (pc' := 1) rfl ?_
  refine Sem.cSx (as := [aI x]) (rst := []) (c' := 1) (s' := 6) d24_1 mk25 rfl co25 lk4_95 ss25 (show 1 ≤ mL 25 by decide) rfl (show 0 ≤ 8 by decide) (by decide) (by decide) rfl rfl (by decide) (by decide) (m25x N L x h) ?_
  intro N_ L_ hq_
  exact SemX.up rfl (by decide) (by decide) ⟨rfl, _, _, rfl, by obtain ⟨rfl, rfl⟩ := hq_; exact ⟨rfl, rfl⟩⟩

