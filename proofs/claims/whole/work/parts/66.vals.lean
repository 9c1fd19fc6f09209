-- ===== the answers are alike =====
theorem mW_20 {L : TL} {v : Int64} : mW (upL L 47 0 0 v) 20 = mW L 20 := by
  funext a b; simp [mW, upL]
theorem mW_21 {L : TL} {v : Int64} : mW (upL L 47 0 0 v) 21 = mW L 21 := by
  funext a b; simp [mW, upL]
theorem Inv.r20 {N : TN} {L : TL} (h : Inv N L) {i w : Nat} (hi : i < 12) (hw : w < 12) : mW L 20 i w = L 20 i w := (h.2.2.2.2.2.1 i w hi hw).1
theorem Inv.r21 {N : TN} {L : TL} (h : Inv N L) {i w : Nat} (hi : i < 12) (hw : w < 12) : mW L 21 i w = L 21 i w := (h.2.2.2.2.2.1 i w hi hw).2
theorem TD_0 {N : TN} (h : bo (TD N) = 0) : ∀ i, i < 12 → N 19 i 10 = 0 := by
  rcases Classical.em (∀ i, i < 12 → N 19 i 10 = 0) with q | q
  · exact q
  · rw [bo_t (P := TD N) q] at h; omega
theorem Inv.bal {N : TN} {L : TL} (h : Inv N L) {i w : Nat} (hi : i < 12) (hw : w < 12) (h0 : N 19 i 10 = 0) : L 22 i w = bareF (mN N 19 i) (brF (mN N) i) (mW L 20 i) w + sm (mW L 21 i) (w + 1) := by
  rw [(h.2.2.2.2.1 i hi h0 w hw).2]
  unfold balF
  congr 1
  · exact barA_cg (fun f hf => (h.2.1.1 i f hi (by omega)).symm) (fun q _ => (h.2.1.br i q).symm) (fun q hq => (h.r20 hi hq).symm) (by omega)
  · rw [sm_congr (f := mW L 21 i) (g := planF (N 19 i) (brF N i) (L 20 i)) (fun k hk => by rw [h.r21 hi (by omega)]; exact (h.2.2.2.2.1 i hi h0 k (by omega)).1), sm_plan]
theorem Inv.bs2 {N : TN} {L : TL} (h : Inv N L) (i w : Nat) : bsm (mN N 9 2) (mN N 10 2) (mN N 11 2) i w (N 37 0 2) = bsm (N 9 2) (N 10 2) (N 11 2) i w (N 8 2 3) := by
  rw [h.z (by omega)]
  exact bsm_cg (fun k hk => (h.2.1.2.1 2 (by omega)).2 k hk)
theorem Inv.bs1 {N : TN} {L : TL} (h : Inv N L) (i w : Nat) : bsm (mN N 9 1) (mN N 10 1) (mN N 11 1) i w (N 37 0 1) = bsm (N 9 1) (N 10 1) (N 11 1) i w (N 8 1 3) := by
  rw [h.z (by omega)]
  exact bsm_cg (fun k hk => (h.2.1.2.1 1 (by omega)).2 k hk)
theorem Inv.bt {N : TN} {L : TL} (h : Inv N L) {b : Nat} (hb : b < 3) (i w : Nat) {n : Nat} (hn : n ≤ N 8 b 3) : bat (mN N 9 b) (mN N 10 b) (mN N 11 b) i w n = bat (N 9 b) (N 10 b) (N 11 b) i w n :=
  bat_cg (fun k hk => (h.2.1.2.1 b hb).2 k (by omega))
theorem Inv.ok {N : TN} {L : TL} (h : Inv N L) (u : Int64) {i n v : Nat} (hi : i < 12) (hv : v < 12) (h0 : N 19 i 10 = 0) : okW N L i n v ↔ okM N (upL L 47 0 0 u) i n v := by
  unfold okW okM
  rw [mW_20, mW_21, h.bs2, h.bal hi hv h0]
theorem Inv.ld {N : TN} {L : TL} (h : Inv N L) (u : Int64) {c w : Nat} : ldF N L c w = ldF (mN N) (mW (upL L 47 0 0 u)) c w := by
  unfold ldF
  rw [mW_21]
  apply sm_congr
  intro i hi
  rw [h.2.1.1 i 8 hi (by omega), h.2.1.1 i 9 hi (by omega), h.2.1.1 i 2 hi (by omega)]
  by_cases e : w + N 19 i 2 < 12
  · rw [if_pos e, if_pos e, h.r21 hi e]
  · rw [if_neg e, if_neg e]
theorem Inv.sh {N : TN} {L : TL} (h : Inv N L) (u : Int64) {i : Nat} (hi : i < 12) (h0 : N 19 i 10 = 0) : shF L i = shM N (upL L 47 0 0 u) i := by
  unfold shF shM
  rw [mW_20, mW_21]
  apply bo_cg
  constructor
  · intro q r; exact q (fun w hw => by rw [h.bal hi hw h0]; exact r w hw)
  · intro q r; exact q (fun w hw => by rw [← h.bal hi hw h0]; exact r w hw)
theorem Inv.cnt {N : TN} {L : TL} (h : Inv N L) (u : Int64) {x : Int32} (h0 : cCount (bo (TD N)) x = 0) : vCount N L x = vCountM N (upL L 47 0 0 u) x := by
  unfold vCount vCountM
  rw [h.2.2.1.2.1, h.z (b := 0) (by omega), h.z (b := 1) (by omega), h.z (b := 2) (by omega), h.2.2.2.1.2.1]
  by_cases e : x.toInt = 4
  · have hz : ¬ bo (TD N) = 1 := fun q => by
      unfold cCount at h0
      rw [if_pos ⟨e, q⟩] at h0; omega
    have ht := TD_0 (N := N) (by have := bo_le (TD N); omega)
    rw [if_neg (by omega), if_neg (by omega), if_neg (by omega), if_neg (by omega), if_pos e, if_neg (by omega), if_neg (by omega), if_neg (by omega), if_neg (by omega), if_pos e]
    rw [smN_cg (fun i hi => h.sh u hi (ht i hi))]
  · rw [if_neg e, if_neg e]
theorem Inv.lev {N : TN} {L : TL} (h : Inv N L) {i z : Nat} (hi : i < 12) (g : LVv (eg (mN N)) i z) : z = N 6 0 i := by
  obtain ⟨a, b, c⟩ := h.lvm i hi
  exact LVv_lv g a b c
-- pegs
theorem mx_gt' {a b : Int64} (h : a ≤ b) : mx a b = b := by
  unfold mx
  rw [if_neg (Int64.not_lt.mpr h)]
theorem pg_eq {c q s n : Int64} (hc0 : 0 ≤ c.toInt) (hc : c.toInt ≤ 1000000000000000) (hq0 : 0 ≤ q.toInt) (hq : q.toInt ≤ 1000000000000000) (hs0 : 0 ≤ s.toInt) (hs : s.toInt ≤ 1000000000000000) (hn0 : 0 ≤ n.toInt) (hn : n.toInt ≤ 1000000000000000) : mx (mn (s + n) (c + q) - mx s c) 0 = pgV c q s n := by
  have e1 : (s + n).toInt = s.toInt + n.toInt := toInt_add' (by omega) (by omega)
  have e2 : (c + q).toInt = c.toInt + q.toInt := toInt_add' (by omega) (by omega)
  have f1 : (if s + n ≤ c + q then s + n else c + q) = mn (s + n) (c + q) := by
    unfold mn
    by_cases z : c + q < s + n
    · rw [if_pos z, if_neg (Int64.not_le.mpr z)]
    · rw [if_neg z, if_pos (Int64.not_lt.mp z)]
  have f2 : (if c ≤ s then s else c) = mx s c := by
    by_cases z : c ≤ s
    · rw [if_pos z, mx_le z]
    · rw [if_neg z, mx_gt z]
  have g1 : 0 ≤ (mn (s + n) (c + q)).toInt ∧ (mn (s + n) (c + q)).toInt ≤ 2000000000000000 := by
    unfold mn
    split
    · rw [e2]; omega
    · rw [e1]; omega
  have g2 : 0 ≤ (mx s c).toInt ∧ (mx s c).toInt ≤ 2000000000000000 := by
    rcases mx_toInt s c with ⟨z, _⟩ | ⟨z, _⟩ <;> rw [z] <;> omega
  unfold pgV
  rw [f1, f2]
  generalize mn (s + n) (c + q) = E at g1
  generalize mx s c = A at g2
  have e3 : (E - A).toInt = E.toInt - A.toInt := toInt_sub' (by omega) (by omega)
  by_cases z : E ≤ A
  · rw [if_pos z]
    have z' := Int64.le_iff_toInt_le.mp z
    exact mx_gt' (Int64.le_iff_toInt_le.mpr (by rw [e3, show (0 : Int64).toInt = 0 from rfl]; omega))
  · rw [if_neg z]
    have z' : ¬ E.toInt ≤ A.toInt := fun r => z (Int64.le_iff_toInt_le.mpr r)
    exact mx_le (Int64.le_iff_toInt_le.mpr (by rw [e3, show (0 : Int64).toInt = 0 from rfl]; omega))
theorem Inv.cl {N : TN} {L : TL} (h : Inv N L) (u : Int64) {d : Nat} (hd : d < N 8 0 3) : clM N (upL L 47 0 0 u) d = clF N L d ∧ 0 ≤ (clF N L d).toInt ∧ (clF N L d).toInt ≤ 500000000000000 := by
  obtain ⟨q1, q2, q3⟩ := h.bk (b := 0) (by omega) hd
  obtain ⟨c1, c2, c3, c4⟩ := h.1.2.1 0 (by omega)
  have hi := c2 d hd
  have hw := c3 d hd
  simp only [Nat.mul_zero, Nat.zero_add] at q1 q2 q3
  constructor
  · unfold clM clF
    rw [mW_20, q1, q2, h.bt (b := 0) (by omega) _ _ (by omega), sm_congr (f := mW L 20 (N 9 0 d)) (g := L 20 (N 9 0 d)) (fun k hk => h.r20 hi (by omega))]
  · obtain ⟨a1, a2, _⟩ := ((h.2.2.2.2.2.2 (N 9 0 d) hi).1).smb (by omega) (w := N 10 0 d) (by omega)
    obtain ⟨b1, b2⟩ := bat_toInt (I := N 9 0) (W := N 10 0) (M := N 11 0) (i := N 9 0 d) (w := N 10 0 d) (n := d) (by omega) (fun k hk => c4 k (by omega))
    unfold clF
    rw [toInt_add' (by omega) (by omega)]
    omega
theorem Inv.qd {N : TN} {L : TL} (h : Inv N L) {b d : Nat} (hb : b < 3) (hd : d < N 8 b 3) : 0 ≤ (q64 (N 11 b d)).toInt ∧ (q64 (N 11 b d)).toInt ≤ 1000 := by
  have := (h.1.2.1 b hb).2.2.2 d hd
  rw [q64_toInt (by omega)]; omega
theorem Inv.st {N : TN} {L : TL} (h : Inv N L) {i : Nat} (hi : i < 12) : 0 ≤ (q64 (N 19 i 7)).toInt ∧ (q64 (N 19 i 7)).toInt ≤ 10000 := by
  have := (h.1.1 i hi).2.2.2.2.2.2.2.2.1
  rw [q64_toInt (by omega)]; omega
theorem Inv.peg {N : TN} {L : TL} (h : Inv N L) (u : Int64) {d k m : Nat} (hd : d < N 8 0 3) (h1 : k = 1 → m < N 8 1 3) (h2 : k = 2 → m < 12) : pgF N L d k m = pgM N (upL L 47 0 0 u) d k m := by
  obtain ⟨q1, q2, q3⟩ := h.bk (b := 0) (by omega) hd
  obtain ⟨c1, c2, c3, c4⟩ := h.1.2.1 0 (by omega)
  obtain ⟨k1, k2, k3⟩ := h.cl u hd
  obtain ⟨d1, d2⟩ := h.qd (b := 0) (by omega) hd
  have hi := c2 d hd
  obtain ⟨s1, s2⟩ := h.st hi
  simp only [Nat.mul_zero, Nat.zero_add] at q1 q2 q3
  have e31 : N 31 0 (N 9 0 d) = N 19 (N 9 0 d) 7 := h.d (f := 7) hi (by omega)
  unfold pgF pgM
  rw [k1, q1, q3]
  by_cases e1 : k = 1
  · rw [if_pos e1, if_pos e1]
    have hm := h1 e1
    obtain ⟨r1, r2, r3⟩ := h.bk (b := 1) (by omega) hm
    obtain ⟨o1, o2, o3, o4⟩ := h.1.2.1 1 (by omega)
    have hwm := o3 m hm
    rw [Nat.mul_one] at r1 r2 r3
    unfold pgO
    rw [r1, r3]
    by_cases e2 : N 9 1 m = N 9 0 d
    · rw [if_pos e2, if_pos e2]
      have es : suO N (upL L 47 0 0 u) (N 9 0 d) m = q64 (N 19 (N 9 1 m) 7) + bsm (N 9 1) (N 10 1) (N 11 1) (N 9 1 m) (N 10 1 m) (N 8 1 3) + bat (N 9 1) (N 10 1) (N 11 1) (N 9 1 m) (N 10 1 m) m + sm (L 21 (N 9 1 m)) (N 10 1 m) := by
        unfold suO
        rw [mW_21, r2, h.bs1, h.bt (b := 1) (by omega) _ _ (by omega), e31, e2, sm_congr (f := mW L 21 (N 9 0 d)) (g := L 21 (N 9 0 d)) (fun j hj => h.r21 hi (by omega))]
      rw [es, e2]
      obtain ⟨x1, x2⟩ := h.qd (b := 1) (by omega) hm
      obtain ⟨y1, y2⟩ := bsm_toInt (I := N 9 1) (W := N 10 1) (M := N 11 1) (i := N 9 0 d) (w := N 10 1 m) o1 o4
      obtain ⟨z1, z2⟩ := bat_toInt (I := N 9 1) (W := N 10 1) (M := N 11 1) (i := N 9 0 d) (w := N 10 1 m) (n := m) (by omega) (fun j hj => o4 j (by omega))
      obtain ⟨a1, a2, _⟩ := ((h.2.2.2.2.2.2 (N 9 0 d) hi).2).smb (by omega) (w := N 10 1 m) (by omega)
      have t1 : (q64 (N 19 (N 9 0 d) 7) + bsm (N 9 1) (N 10 1) (N 11 1) (N 9 0 d) (N 10 1 m) (N 8 1 3)).toInt = (q64 (N 19 (N 9 0 d) 7)).toInt + (bsm (N 9 1) (N 10 1) (N 11 1) (N 9 0 d) (N 10 1 m) (N 8 1 3)).toInt := toInt_add' (by omega) (by omega)
      have t2 : (q64 (N 19 (N 9 0 d) 7) + bsm (N 9 1) (N 10 1) (N 11 1) (N 9 0 d) (N 10 1 m) (N 8 1 3) + bat (N 9 1) (N 10 1) (N 11 1) (N 9 0 d) (N 10 1 m) m).toInt = (q64 (N 19 (N 9 0 d) 7) + bsm (N 9 1) (N 10 1) (N 11 1) (N 9 0 d) (N 10 1 m) (N 8 1 3)).toInt + (bat (N 9 1) (N 10 1) (N 11 1) (N 9 0 d) (N 10 1 m) m).toInt := toInt_add' (by omega) (by omega)
      have t3 : (q64 (N 19 (N 9 0 d) 7) + bsm (N 9 1) (N 10 1) (N 11 1) (N 9 0 d) (N 10 1 m) (N 8 1 3) + bat (N 9 1) (N 10 1) (N 11 1) (N 9 0 d) (N 10 1 m) m + sm (L 21 (N 9 0 d)) (N 10 1 m)).toInt = (q64 (N 19 (N 9 0 d) 7) + bsm (N 9 1) (N 10 1) (N 11 1) (N 9 0 d) (N 10 1 m) (N 8 1 3) + bat (N 9 1) (N 10 1) (N 11 1) (N 9 0 d) (N 10 1 m) m).toInt + (sm (L 21 (N 9 0 d)) (N 10 1 m)).toInt := toInt_add' (by omega) (by omega)
      unfold pgU
      exact pg_eq (by omega) (by omega) (by omega) (by omega) (by omega) (by omega) (by omega) (by omega)
    · rw [if_neg e2, if_neg e2]
  · rw [if_neg e1, if_neg e1]
    by_cases e2 : k = 2
    · rw [if_pos e2, if_pos e2]
      have hm := h2 e2
      obtain ⟨o1, o2, o3, o4⟩ := h.1.2.1 1 (by omega)
      have es : suR N (upL L 47 0 0 u) (N 9 0 d) m = q64 (N 19 (N 9 0 d) 7) + bsm (N 9 1) (N 10 1) (N 11 1) (N 9 0 d) (m + 1) (N 8 1 3) + sm (L 21 (N 9 0 d)) m := by
        unfold suR
        rw [mW_21, h.bs1, e31, sm_congr (f := mW L 21 (N 9 0 d)) (g := L 21 (N 9 0 d)) (fun j hj => h.r21 hi (by omega))]
      have e43 : (upL L 47 0 0 u) 43 0 (12 * N 9 0 d + m) = L 21 (N 9 0 d) m := by
        rw [upL_ne (by omega)]; exact h.r21 hi hm
      rw [es, e43]
      obtain ⟨y1, y2⟩ := bsm_toInt (I := N 9 1) (W := N 10 1) (M := N 11 1) (i := N 9 0 d) (w := m + 1) o1 o4
      obtain ⟨a1, a2, _⟩ := ((h.2.2.2.2.2.2 (N 9 0 d) hi).2).smb (by omega) (w := m) (by omega)
      obtain ⟨b1, b2⟩ := ((h.2.2.2.2.2.2 (N 9 0 d) hi).2).at hm
      have t1 : (q64 (N 19 (N 9 0 d) 7) + bsm (N 9 1) (N 10 1) (N 11 1) (N 9 0 d) (m + 1) (N 8 1 3)).toInt = (q64 (N 19 (N 9 0 d) 7)).toInt + (bsm (N 9 1) (N 10 1) (N 11 1) (N 9 0 d) (m + 1) (N 8 1 3)).toInt := toInt_add' (by omega) (by omega)
      have t2 : (q64 (N 19 (N 9 0 d) 7) + bsm (N 9 1) (N 10 1) (N 11 1) (N 9 0 d) (m + 1) (N 8 1 3) + sm (L 21 (N 9 0 d)) m).toInt = (q64 (N 19 (N 9 0 d) 7) + bsm (N 9 1) (N 10 1) (N 11 1) (N 9 0 d) (m + 1) (N 8 1 3)).toInt + (sm (L 21 (N 9 0 d)) m).toInt := toInt_add' (by omega) (by omega)
      unfold pgR pgU
      exact pg_eq (by omega) (by omega) (by omega) (by omega) (by omega) (by omega) (by omega) (by omega)
    · rw [if_neg e2, if_neg e2, e31]
      unfold pgU
      have z0 : (0 : Int64).toInt = 0 := rfl
      exact pg_eq (by omega) (by omega) (by omega) (by omega) (by omega) (by omega) (by omega) (by omega)
