-- ===== class and model beside each other =====
/-- the rows' bounds: nothing below nought, sums below 10^14 -/
def smI (f : Nat → Int) : Nat → Int
  | 0 => 0
  | n + 1 => smI f n + f n
def Bd1 (f : Nat → Int64) (S : Int) : Prop := (∀ w, w < 12 → 0 ≤ (f w).toInt) ∧ smI (fun w => (f w).toInt) 12 ≤ S
def Bds (L : TL) : Prop := ∀ i, i < 12 → Bd1 (L 20 i) 100000000000000 ∧ Bd1 (L 21 i) 100000000000000
/-- told, as the class and as the model have it -/
def Tl (N : TN) : Prop := (∀ i, i < 12 → N 19 i 10 = mN N 19 i 10) ∧ N 23 0 20 = bo (TD N) ∧ N 23 0 19 ≤ 1 ∧ ∀ i, i < 12 → N 41 0 i ≤ 1
def Ln (N : TN) : Prop := N 2 0 5 = lineS N ∧ N 23 0 14 = N 2 0 5 ∧ LvOk N (N 6 0)
def Rw (L : TL) : Prop := ∀ i w, i < 12 → w < 12 → L 42 0 (12 * i + w) = L 20 i w ∧ L 43 0 (12 * i + w) = L 21 i w
def Inv (N : TN) (L : TL) : Prop := CD N ∧ SD N (mN N) ∧ Ln N ∧ Tl N ∧ PC N L ∧ Rw L ∧ Bds L
theorem mN_19 {N : TN} {i f : Nat} (h : f < 10) : mN N 19 i f = N (24 + f) 0 i := by
  show (if f = 10 then _ else N (24 + f) 0 i) = _
  rw [if_neg (by omega)]
theorem mN_t {N : TN} {i : Nat} : mN N 19 i 10 = if N 23 0 19 = 0 then 1 else N 41 0 i := rfl
theorem Inv.cdm {N : TN} {L : TL} (h : Inv N L) : CD (mN N) := by
  obtain ⟨h1, h2, h3, h4, h5, h6, h7⟩ := h
  refine h1.of h2 (fun i hi => ?_) ?_
  · rw [← h4.1 i hi]; exact (h1.1 i hi).2.2.2.2.2.2.2.2.2.2.2
  · show N 23 0 14 ≤ 24
    rw [h3.2.1]; exact h1.2.2.1
theorem Inv.egm {N : TN} {L : TL} (h : Inv N L) {p i : Nat} (hp : p < 12) (hi : i < 12) : eg (mN N) p i ↔ eg N p i := by
  unfold eg
  rw [(h.2.1.2.2.1 (p * 12 + i) (by omega)).1]
theorem Inv.wkm {N : TN} {L : TL} (h : Inv N L) {n i : Nat} (hi : i < 12) : wk (eg (mN N)) n i ↔ wk (eg N) n i :=
  ⟨wk_mono (fun p i hp hi => (h.egm hp hi).mp) hi, wk_mono (fun p i hp hi => (h.egm hp hi).mpr) hi⟩
theorem Inv.lvm {N : TN} {L : TL} (h : Inv N L) : LvOk (mN N) (N 6 0) := by
  intro i hi
  obtain ⟨a, b, c⟩ := h.2.2.1.2.2 i hi
  exact ⟨a, (h.wkm hi).mpr b, fun q => c ((h.wkm hi).mp q)⟩
theorem LvOk.sn {N : TN} {T : Nat → Nat} (h : LvOk N T) : SN (eg N) := by
  intro i hi w
  obtain ⟨a, b, c⟩ := h i hi
  exact c (wk_le (by omega) w)
theorem Inv.snm {N : TN} {L : TL} (h : Inv N L) : SN (eg (mN N)) := h.lvm.sn
theorem Inv.t1 {N : TN} {L : TL} (h : Inv N L) : ∀ i, i < 12 → N 19 i 10 ≤ 1 := fun i hi => (h.1.1 i hi).2.2.2.2.2.2.2.2.2.2.2
theorem Inv.h20 {N : TN} {L : TL} (h : Inv N L) : N 23 0 20 ≤ 1 := by rw [h.2.2.2.1.2.1]; exact bo_le _
theorem Inv.z {N : TN} {L : TL} (h : Inv N L) {b : Nat} (hb : b < 3) : N 37 0 b = N 8 b 3 := (h.2.1.2.1 b hb).1
theorem Inv.bk {N : TN} {L : TL} (h : Inv N L) {b k : Nat} (hb : b < 3) (hk : k < N 8 b 3) : N 38 0 (24 * b + k) = N 9 b k ∧ N 39 0 (24 * b + k) = N 10 b k ∧ N 40 0 (24 * b + k) = N 11 b k := (h.2.1.2.1 b hb).2 k hk
theorem Inv.d {N : TN} {L : TL} (h : Inv N L) {i f : Nat} (hi : i < 12) (hf : f < 10) : N (24 + f) 0 i = N 19 i f := by
  exact (mN_19 hf).symm.trans (h.2.1.1 i f hi hf)
theorem Inv.h9 {N : TN} {L : TL} (h : Inv N L) : ∀ c, c < 144 → N 34 0 c ≤ 9 := h.cdm.2.2.2.1
/-- only the numbers that Inv looks at matter -/
theorem Inv.of {N N2 : TN} {L L2 : TL} (h : Inv N L) (hN : ∀ t a b, t ≠ 7 → ¬ (t = 23 ∧ b = 0) → N2 t a b = N t a b) (hL : ∀ t a b, t ≠ 47 → L2 t a b = L t a b) : Inv N2 L2 := by
  have e0 : ∀ t a b, t ≠ 7 → t ≠ 23 → N2 t a b = N t a b := fun t a b h1 h2 => hN t a b h1 (by omega)
  have em : ∀ t a b, t ≠ 7 → t ≠ 23 → mN N2 t a b = mN N t a b := by
    intro t a b h7 h23
    unfold mN
    rw [hN 23 0 19 (by omega) (by omega), hN 23 0 14 (by omega) (by omega), e0 41 0 a (by omega) (by omega), e0 34 0 b (by omega) (by omega), e0 35 0 b (by omega) (by omega), e0 36 0 b (by omega) (by omega), e0 37 0 a (by omega) (by omega), e0 38 0 _ (by omega) (by omega), e0 39 0 _ (by omega) (by omega), e0 40 0 _ (by omega) (by omega), e0 t a b h7 h23, e0 (24 + b) 0 a (by omega) (by omega)]
  have hs : SD N N2 := ⟨fun i f _ _ => e0 _ _ _ (by omega) (by omega), fun b _ => ⟨e0 _ _ _ (by omega) (by omega), fun k _ => ⟨e0 _ _ _ (by omega) (by omega), e0 _ _ _ (by omega) (by omega), e0 _ _ _ (by omega) (by omega)⟩⟩, fun c _ => ⟨e0 _ _ _ (by omega) (by omega), fun _ => ⟨e0 _ _ _ (by omega) (by omega), e0 _ _ _ (by omega) (by omega)⟩⟩, fun i _ => e0 _ _ _ (by omega) (by omega)⟩
  have hm : SD (mN N) (mN N2) := ⟨fun i f _ _ => em _ _ _ (by omega) (by omega), fun b _ => ⟨em _ _ _ (by omega) (by omega), fun k _ => ⟨em _ _ _ (by omega) (by omega), em _ _ _ (by omega) (by omega), em _ _ _ (by omega) (by omega)⟩⟩, fun c _ => ⟨em _ _ _ (by omega) (by omega), fun _ => ⟨em _ _ _ (by omega) (by omega), em _ _ _ (by omega) (by omega)⟩⟩, fun i _ => em _ _ _ (by omega) (by omega)⟩
  obtain ⟨h1, h2, ⟨h3, h3b, h3c⟩, ⟨h4, h4b, h4c, h4d⟩, h5, h6, h7⟩ := h
  have eg9 : eg N2 = eg N := eg_cg (fun j => e0 3 0 j (by omega) (by omega))
  refine ⟨h1.of hs (fun i hi => ?_) ?_, (hs.symm.trans h2).trans hm, ⟨?_, ?_, ?_⟩, ⟨fun i hi => ?_, ?_, ?_, fun i hi => ?_⟩, fun i hi h0 w hw => ?_, fun i w hi hw => ?_, fun i hi => ?_⟩
  · rw [e0 19 i 10 (by omega) (by omega)]; exact (h1.1 i hi).2.2.2.2.2.2.2.2.2.2.2
  · rw [e0 2 0 5 (by omega) (by omega)]; exact h1.2.2.1
  · rw [e0 2 0 5 (by omega) (by omega), h3]
    exact smN_cg (fun k _ => by rw [e0 3 0 k (by omega) (by omega)])
  · rw [e0 2 0 5 (by omega) (by omega), hN 23 0 14 (by omega) (by omega), h3b]
  · intro i hi
    rw [eg9, e0 6 0 i (by omega) (by omega)]
    exact h3c i hi
  · rw [e0 19 i 10 (by omega) (by omega), em 19 i 10 (by omega) (by omega)]; exact h4 i hi
  · rw [hN 23 0 20 (by omega) (by omega), h4b]
    apply bo_cg
    constructor
    · intro q r; exact q (fun i hi => by rw [← e0 19 i 10 (by omega) (by omega)]; exact r i hi)
    · intro q r; exact q (fun i hi => by rw [e0 19 i 10 (by omega) (by omega)]; exact r i hi)
  · rw [hN 23 0 19 (by omega) (by omega)]; exact h4c
  · rw [e0 41 0 i (by omega) (by omega)]; exact h4d i hi
  · rw [e0 19 i 10 (by omega) (by omega)] at h0
    rw [hL 21 i w (by omega), hL 22 i w (by omega), hs.pl hi (fun q _ => hL 20 i q (by omega)) hw, hs.bl hi (fun q _ => hL 20 i q (by omega)) hw]
    exact h5 i hi h0 w hw
  · rw [hL 42 _ _ (by omega), hL 43 _ _ (by omega), hL 20 _ _ (by omega), hL 21 _ _ (by omega)]
    exact h6 i w hi hw
  · have e1 : L2 20 i = L 20 i := funext (fun w => hL 20 i w (by omega))
    have e2 : L2 21 i = L 21 i := funext (fun w => hL 21 i w (by omega))
    rw [e1, e2]; exact h7 i hi
/-- something is told of item x -/
theorem Inv.tell {N N2 : TN} {L L2 : TL} (h : Inv N L) {x : Nat} (hx : x < 12) (hc : CD N2) (hs : SD N2 (mN N2)) (hl : Ln N2)
    (hd : ∀ i f, i < 12 → i ≠ x → f ≤ 10 → N2 19 i f = N 19 i f) (hb : ∀ i w, i < 12 → i ≠ x → brF N2 i w = brF N i w) (ht : N2 19 x 10 = 1) (ht2 : N2 41 0 x = 1) (ht3 : ∀ i, i < 12 → i ≠ x → N2 41 0 i = N 41 0 i) (h19 : N2 23 0 19 = N 23 0 19) (h20 : N2 23 0 20 = 1)
    (hL : ∀ t a b, t ≠ 47 → L2 t a b = L t a b) : Inv N2 L2 := by
  obtain ⟨h1, h2, ⟨h3, h3b, h3c⟩, ⟨h4, h4b, h4c, h4d⟩, h5, h6, h7⟩ := h
  refine ⟨hc, hs, hl, ⟨fun i hi => ?_, ?_, ?_, fun i hi => ?_⟩, fun i hi h0 w hw => ?_, fun i w hi hw => ?_, fun i hi => ?_⟩
  · rw [mN_t, h19]
    by_cases e : i = x
    · subst e
      rw [ht, ht2]; split <;> rfl
    · rw [hd i 10 hi e (by omega), ht3 i hi e, h4 i hi, mN_t]
  · rw [h20, bo_t]
    intro q
    have := q x hx
    omega
  · rw [h19]; exact h4c
  · by_cases e : i = x
    · subst e; rw [ht2]; omega
    · rw [ht3 i hi e]; exact h4d i hi
  · by_cases e : i = x
    · subst e; omega
    · rw [hd i 10 hi e (by omega)] at h0
      obtain ⟨q1, q2⟩ := h5 i hi h0 w hw
      rw [hL 21 i w (by omega), hL 22 i w (by omega)]
      exact ⟨q1.trans (planF_cg (fun f hf => (hd i f hi e (by omega)).symm) (fun q _ => (hb i q hi e).symm) (fun q _ => (hL 20 i q (by omega)).symm) hw), q2.trans (balF_cg (fun f hf => (hd i f hi e (by omega)).symm) (fun q _ => (hb i q hi e).symm) (fun q _ => (hL 20 i q (by omega)).symm) hw)⟩
  · rw [hL 42 _ _ (by omega), hL 43 _ _ (by omega), hL 20 _ _ (by omega), hL 21 _ _ (by omega)]
    exact h6 i w hi hw
  · have e1 : L2 20 i = L 20 i := funext (fun w => hL 20 i w (by omega))
    have e2 : L2 21 i = L 21 i := funext (fun w => hL 21 i w (by omega))
    rw [e1, e2]; exact h7 i hi
/-- nothing is told: data change that no plan looks at -/
theorem Inv.keep {N N2 : TN} {L L2 : TL} (h : Inv N L) (hc : CD N2) (hs : SD N2 (mN N2)) (hl : Ln N2)
    (hd : ∀ i f, i < 12 → f ≤ 10 → f ≠ 8 → f ≠ 9 → N2 19 i f = N 19 i f) (hb : ∀ i w, i < 12 → brF N2 i w = brF N i w) (ht3 : ∀ i, i < 12 → N2 41 0 i = N 41 0 i) (h19 : N2 23 0 19 = N 23 0 19) (h20 : N2 23 0 20 = N 23 0 20)
    (hL : ∀ t a b, t ≠ 47 → L2 t a b = L t a b) : Inv N2 L2 := by
  obtain ⟨h1, h2, ⟨h3, h3b, h3c⟩, ⟨h4, h4b, h4c, h4d⟩, h5, h6, h7⟩ := h
  refine ⟨hc, hs, hl, ⟨fun i hi => ?_, ?_, ?_, fun i hi => ?_⟩, fun i hi h0 w hw => ?_, fun i w hi hw => ?_, fun i hi => ?_⟩
  · rw [mN_t, h19, hd i 10 hi (by omega) (by omega) (by omega), ht3 i hi, h4 i hi, mN_t]
  · rw [h20, h4b]
    apply bo_cg
    constructor
    · intro q r; exact q (fun i hi => by rw [← hd i 10 hi (by omega) (by omega) (by omega)]; exact r i hi)
    · intro q r; exact q (fun i hi => by rw [hd i 10 hi (by omega) (by omega) (by omega)]; exact r i hi)
  · rw [h19]; exact h4c
  · rw [ht3 i hi]; exact h4d i hi
  · rw [hd i 10 hi (by omega) (by omega) (by omega)] at h0
    obtain ⟨q1, q2⟩ := h5 i hi h0 w hw
    rw [hL 21 i w (by omega), hL 22 i w (by omega)]
    exact ⟨q1.trans (planF_cg (fun f hf => (hd i f hi (by omega) (by omega) (by omega)).symm) (fun q _ => (hb i q hi).symm) (fun q _ => (hL 20 i q (by omega)).symm) hw), q2.trans (balF_cg (fun f hf => (hd i f hi (by omega) (by omega) (by omega)).symm) (fun q _ => (hb i q hi).symm) (fun q _ => (hL 20 i q (by omega)).symm) hw)⟩
  · rw [hL 42 _ _ (by omega), hL 43 _ _ (by omega), hL 20 _ _ (by omega), hL 21 _ _ (by omega)]
    exact h6 i w hi hw
  · have e1 : L2 20 i = L 20 i := funext (fun w => hL 20 i w (by omega))
    have e2 : L2 21 i = L 21 i := funext (fun w => hL 21 i w (by omega))
    rw [e1, e2]; exact h7 i hi
