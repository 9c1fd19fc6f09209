-- ===== what a book's new row, or a changed one, leaves =====
/-- the books, number by number -/
def Bks (N N2 : TN) : Prop := (∀ t a b, t ≤ 7 → N2 t a b = N t a b) ∧ (∀ i f, f < 10 → N2 19 i f = N 19 i f ∧ N2 (24 + f) 0 i = N (24 + f) 0 i) ∧ (∀ t a b, 34 ≤ t → t ≤ 36 → N2 t a b = N t a b) ∧ N2 23 0 14 = N 23 0 14
theorem Inv.book {N N2 : TN} {L : TL} (h : Inv N L) (hb : Bks N N2) (ht : ∀ i, i < 12 → N2 19 i 10 ≤ 1) (hcb : ∀ b, b < 3 → CB N2 b) (hs : ∀ b, b < 3 → N2 37 0 b = N2 8 b 3 ∧ ∀ k, k < N2 8 b 3 → N2 38 0 (24 * b + k) = N2 9 b k ∧ N2 39 0 (24 * b + k) = N2 10 b k ∧ N2 40 0 (24 * b + k) = N2 11 b k) : CD N2 ∧ SD N2 (mN N2) ∧ Ln N2 := by
  obtain ⟨b1, b2, b3, b4⟩ := hb
  obtain ⟨h1, h2, h3, -⟩ := id h
  refine ⟨⟨fun i hi => ?_, hcb, CL_eq h1.2.2 (fun t a c _ _ => b1 t a c (by omega))⟩, SD_of (fun i f hi hf => ?_) hs (fun c hc => ?_), Ln_eq h3 (fun t a c _ _ => b1 t a c (by omega)) b4⟩
  · obtain ⟨a0, a1, a2, a3, a4, a5, a6, a7, a8, a9, a10, a11⟩ := h1.1 i hi
    unfold CI
    rw [(b2 i 0 (by omega)).1, (b2 i 1 (by omega)).1, (b2 i 2 (by omega)).1, (b2 i 3 (by omega)).1, (b2 i 4 (by omega)).1, (b2 i 5 (by omega)).1, (b2 i 6 (by omega)).1, (b2 i 7 (by omega)).1, (b2 i 8 (by omega)).1, (b2 i 9 (by omega)).1]
    exact ⟨a0, a1, a2, a3, a4, a5, a6, a7, a8, a9, a10, ht i hi⟩
  · rw [(b2 i f hf).1, (b2 i f hf).2]; exact h.d hi hf
  · rw [b3 34 0 c (by omega) (by omega), b3 35 0 c (by omega) (by omega), b3 36 0 c (by omega) (by omega), b1 3 0 c (by omega), b1 4 0 c (by omega), b1 5 0 c (by omega)]
    exact h2.2.2.1 c hc
/-- a new row of book b -/
def Nr (N N2 : TN) (b x w n : Nat) : Prop := (∀ a c, N2 8 a c = if a = b ∧ c = 3 then N 8 b 3 + 1 else N 8 a c) ∧ (∀ a c, N2 9 a c = if a = b ∧ c = N 8 b 3 then x else N 9 a c) ∧ (∀ a c, N2 10 a c = if a = b ∧ c = N 8 b 3 then w else N 10 a c) ∧ (∀ a c, N2 11 a c = if a = b ∧ c = N 8 b 3 then n else N 11 a c) ∧
  (∀ a, N2 37 0 a = if a = b then N 8 b 3 + 1 else N 37 0 a) ∧ (∀ q, N2 38 0 q = if q = 24 * b + N 8 b 3 then x else N 38 0 q) ∧ (∀ q, N2 39 0 q = if q = 24 * b + N 8 b 3 then w else N 39 0 q) ∧ (∀ q, N2 40 0 q = if q = 24 * b + N 8 b 3 then n else N 40 0 q)
theorem Inv.row {N N2 : TN} {L : TL} (h : Inv N L) (hb : Bks N N2) (ht : ∀ i, i < 12 → N2 19 i 10 ≤ 1) {b x w n : Nat} (hb3 : b < 3) (hz : N 8 b 3 < 24) (hx : x < 12) (hw : w < 12) (hn : n ≤ 1000) (hr : Nr N N2 b x w n) : (CD N2 ∧ SD N2 (mN N2) ∧ Ln N2) ∧ ∀ i v, (i ≠ x ∨ b ≠ 1) → brF N2 i v = brF N i v := by
  obtain ⟨r1, r2, r3, r4, r5, r6, r7, r8⟩ := hr
  obtain ⟨h1, h2, h3, -⟩ := id h
  refine ⟨h.book hb ht (fun a ha => ?_) (fun a ha => ?_), fun i v hi => ?_⟩
  · obtain ⟨c1, c2, c3, c4⟩ := h1.2.1 a ha
    unfold CB
    rw [r1]
    by_cases e : a = b
    · subst e
      rw [if_pos ⟨rfl, rfl⟩]
      refine ⟨by omega, fun k hk => ?_, fun k hk => ?_, fun k hk => ?_⟩
      · rw [r2]; split
        · exact hx
        · exact c2 k (by omega)
      · rw [r3]; split
        · exact hw
        · exact c3 k (by omega)
      · rw [r4]; split
        · exact hn
        · exact c4 k (by omega)
    · rw [if_neg (by omega)]
      refine ⟨c1, fun k hk => ?_, fun k hk => ?_, fun k hk => ?_⟩
      · rw [r2, if_neg (by omega)]; exact c2 k hk
      · rw [r3, if_neg (by omega)]; exact c3 k hk
      · rw [r4, if_neg (by omega)]; exact c4 k hk
  · obtain ⟨c1, -⟩ := h1.2.1 a ha
    rw [r5, r1]
    by_cases e : a = b
    · subst e
      rw [if_pos rfl, if_pos ⟨rfl, rfl⟩]
      refine ⟨rfl, fun k hk => ?_⟩
      rw [r6, r7, r8, r2, r3, r4]
      by_cases ek : k = N 8 a 3
      · subst ek
        rw [if_pos rfl, if_pos rfl, if_pos rfl, if_pos ⟨rfl, rfl⟩, if_pos ⟨rfl, rfl⟩, if_pos ⟨rfl, rfl⟩]
        exact ⟨rfl, rfl, rfl⟩
      · rw [if_neg (by omega), if_neg (by omega), if_neg (by omega), if_neg (by omega), if_neg (by omega), if_neg (by omega)]
        exact h.bk ha (by omega)
    · rw [if_neg e, if_neg (by omega)]
      refine ⟨h.z ha, fun k hk => ?_⟩
      rw [r6, r7, r8, r2, r3, r4, if_neg (by omega), if_neg (by omega), if_neg (by omega), if_neg (by omega), if_neg (by omega), if_neg (by omega)]
      exact h.bk ha hk
  · unfold brF
    rw [r1]
    by_cases e : b = 1
    · subst e
      rw [if_pos ⟨rfl, rfl⟩]
      have e9 : (if N2 9 1 (N 8 1 3) = i ∧ N2 10 1 (N 8 1 3) = v then q64 (N2 11 1 (N 8 1 3)) else 0) = 0 := by
        have e8 : N2 9 1 (N 8 1 3) = x := by rw [r2, if_pos ⟨rfl, rfl⟩]
        rw [e8, if_neg (by omega)]
      show bat (N2 9 1) (N2 10 1) (N2 11 1) i v (N 8 1 3) + (if N2 9 1 (N 8 1 3) = i ∧ N2 10 1 (N 8 1 3) = v then q64 (N2 11 1 (N 8 1 3)) else 0) = _
      rw [e9, Int64.add_zero]
      exact bat_cg (fun k hk => ⟨by rw [r2, if_neg (by omega)], by rw [r3, if_neg (by omega)], by rw [r4, if_neg (by omega)]⟩)
    · rw [if_neg (by omega)]
      exact bat_cg (fun k hk => ⟨by rw [r2, if_neg (by omega)], by rw [r3, if_neg (by omega)], by rw [r4, if_neg (by omega)]⟩)
/-- another quantity in row m of book b -/
def Qr (N N2 : TN) (b m n : Nat) : Prop := (∀ t a c, 8 ≤ t → t ≤ 10 → N2 t a c = N t a c) ∧ (∀ a c, N2 11 a c = if a = b ∧ c = m then n else N 11 a c) ∧ (∀ t a c, 37 ≤ t → t ≤ 39 → N2 t a c = N t a c) ∧ (∀ q, N2 40 0 q = if q = 24 * b + m then n else N 40 0 q)
theorem Inv.qty {N N2 : TN} {L : TL} (h : Inv N L) (hb : Bks N N2) (ht : ∀ i, i < 12 → N2 19 i 10 ≤ 1) {b m n : Nat} (hb3 : b < 3) (hm : m < N 8 b 3) (hn : n ≤ 1000) (hr : Qr N N2 b m n) : (CD N2 ∧ SD N2 (mN N2) ∧ Ln N2) ∧ ∀ i v, (i ≠ N 9 b m ∨ b ≠ 1) → brF N2 i v = brF N i v := by
  obtain ⟨r1, r2, r3, r4⟩ := hr
  obtain ⟨h1, h2, h3, -⟩ := id h
  have hz := (h1.2.1 b hb3).1
  refine ⟨h.book hb ht (fun a ha => ?_) (fun a ha => ?_), fun i v hi => ?_⟩
  · obtain ⟨c1, c2, c3, c4⟩ := h1.2.1 a ha
    unfold CB
    rw [r1 8 a 3 (by omega) (by omega)]
    refine ⟨c1, fun k hk => ?_, fun k hk => ?_, fun k hk => ?_⟩
    · rw [r1 9 _ _ (by omega) (by omega)]; exact c2 k hk
    · rw [r1 10 _ _ (by omega) (by omega)]; exact c3 k hk
    · rw [r2]; split
      · exact hn
      · exact c4 k hk
  · obtain ⟨c1, -⟩ := h1.2.1 a ha
    rw [r3 37 _ _ (by omega) (by omega), r1 8 _ _ (by omega) (by omega)]
    refine ⟨h.z ha, fun k hk => ?_⟩
    obtain ⟨q1, q2, q3⟩ := h.bk ha hk
    rw [r3 38 _ _ (by omega) (by omega), r3 39 _ _ (by omega) (by omega), r1 9 _ _ (by omega) (by omega), r1 10 _ _ (by omega) (by omega), r4, r2]
    refine ⟨q1, q2, ?_⟩
    by_cases e : a = b ∧ k = m
    · rw [if_pos e, if_pos (by omega)]
    · rw [if_neg e, if_neg (by omega)]; exact q3
  · unfold brF
    rw [r1 8 1 3 (by omega) (by omega)]
    apply sm_congr
    intro k hk
    rw [r1 9 _ _ (by omega) (by omega), r1 10 _ _ (by omega) (by omega), r2]
    by_cases e : 1 = b ∧ k = m
    · obtain ⟨rfl, rfl⟩ := e
      rw [if_neg (by omega), if_neg (by omega)]
    · rw [if_neg e]
theorem cTell_0 {z : Nat} {x w n : Int32} (h : cTell z x w n = 0) : x.toInt.toNat < 12 ∧ w.toInt.toNat < 12 ∧ n.toInt.toNat ≤ 1000 ∧ z < 24 := by
  unfold cTell at h
  by_cases h1 : ¬ (0 ≤ x.toInt ∧ x.toInt < 12) ∨ ¬ (0 ≤ w.toInt ∧ w.toInt < 12)
  · rw [if_pos h1] at h; omega
  · rw [if_neg h1] at h
    by_cases h2 : 0 ≤ n.toInt ∧ n.toInt ≤ 1000
    · rw [if_neg (by omega)] at h
      by_cases h3 : 24 ≤ z
      · rw [if_pos h3] at h; omega
      · omega
    · rw [if_pos h2] at h; omega
theorem iv_row {N N1 N2 : TN} {L : TL} {b x w n : Nat} (v : Int64) (h : Inv N L) (hb : b < 2) (hz : N 8 b 3 < 24) (hx : x < 12) (hw : w < 12) (hn : n ≤ 1000) (h1 : N1 = upN (upN (upN (upN (upN N 19 x 10 1) 9 b (N 8 b 3) x) 10 b (N 8 b 3) w) 11 b (N 8 b 3) n) 8 b 3 (N 8 b 3 + 1))
    (h2 : N2 = upN (upN (upN (upN (upN (upN (upN N1 23 0 0 0) 41 0 x 1) 23 0 20 1) 38 0 (24 * b + N 8 b 3) x) 39 0 (24 * b + N 8 b 3) w) 40 0 (24 * b + N 8 b 3) n) 37 0 b (N 8 b 3 + 1)) : Inv N2 (upL L 47 0 0 v) ∧ N2 23 0 0 = 0 := by
  subst h1 h2
  refine ⟨?_, by simp [upN]⟩
  have key := h.row (N2 := upN (upN (upN (upN (upN (upN (upN (upN (upN (upN (upN (upN N 19 x 10 1) 9 b (N 8 b 3) x) 10 b (N 8 b 3) w) 11 b (N 8 b 3) n) 8 b 3 (N 8 b 3 + 1)) 23 0 0 0) 41 0 x 1) 23 0 20 1) 38 0 (24 * b + N 8 b 3) x) 39 0 (24 * b + N 8 b 3) w) 40 0 (24 * b + N 8 b 3) n) 37 0 b (N 8 b 3 + 1)) (b := b) (x := x) (w := w) (n := n) ⟨fun t a c ht => ?_, fun i f hf => ⟨?_, ?_⟩, fun t a c q1 q2 => ?_, ?_⟩ (fun i hi => ?_) (by omega) hz hx hw hn ⟨fun a c => ?_, fun a c => ?_, fun a c => ?_, fun a c => ?_, fun a => ?_, fun a => ?_, fun a => ?_, fun a => ?_⟩
  · obtain ⟨⟨k1, k2, k3⟩, k4⟩ := key
    exact h.tell hx k1 k2 k3 (fun i g hi hn hg => by simp only [upN]; repeat rw [if_neg (by omega)]) (fun i w hi hn => k4 i w (Or.inl hn)) (by simp [upN]) (by simp [upN]) (fun i hi hn => by simp only [upN]; repeat rw [if_neg (by omega)]) (by simp [upN]) (by simp [upN]) (fun t a b q => upL_ne (by omega))
  · simp only [upN]; repeat rw [if_neg (by omega)]
  · simp only [upN]; repeat rw [if_neg (by omega)]
  · simp only [upN]; repeat rw [if_neg (by omega)]
  · simp only [upN]; repeat rw [if_neg (by omega)]
  · simp only [upN]; repeat rw [if_neg (by omega)]
  · have := h.t1 i hi
    by_cases e : i = x
    · subst e; simp [upN]
    · simp only [upN]; repeat rw [if_neg (by omega)]
      exact this
  · simp [upN]
  · simp [upN]
  · simp [upN]
  · simp [upN]
  · simp [upN]
  · simp [upN]
  · simp [upN]
  · simp [upN]
theorem iv_res {N N1 N2 : TN} {L : TL} {x w n : Nat} (v : Int64) (h : Inv N L) (hz : N 8 2 3 < 24) (hx : x < 12) (hw : w < 12) (hn : n ≤ 1000) (h1 : N1 = upN (upN (upN (upN N 9 2 (N 8 2 3) x) 10 2 (N 8 2 3) w) 11 2 (N 8 2 3) n) 8 2 3 (N 8 2 3 + 1))
    (h2 : N2 = upN (upN (upN (upN (upN N1 23 0 0 0) 38 0 (24 * 2 + N 8 2 3) x) 39 0 (24 * 2 + N 8 2 3) w) 40 0 (24 * 2 + N 8 2 3) n) 37 0 2 (N 8 2 3 + 1)) : Inv N2 (upL L 47 0 0 v) ∧ N2 23 0 0 = 0 := by
  subst h1 h2
  refine ⟨?_, by simp [upN]⟩
  have key := h.row (N2 := upN (upN (upN (upN (upN (upN (upN (upN (upN N 9 2 (N 8 2 3) x) 10 2 (N 8 2 3) w) 11 2 (N 8 2 3) n) 8 2 3 (N 8 2 3 + 1)) 23 0 0 0) 38 0 (24 * 2 + N 8 2 3) x) 39 0 (24 * 2 + N 8 2 3) w) 40 0 (24 * 2 + N 8 2 3) n) 37 0 2 (N 8 2 3 + 1)) (b := 2) (x := x) (w := w) (n := n) ⟨fun t a c ht => ?_, fun i f hf => ⟨?_, ?_⟩, fun t a c q1 q2 => ?_, ?_⟩ (fun i hi => ?_) (by omega) hz hx hw hn ⟨fun a c => ?_, fun a c => ?_, fun a c => ?_, fun a c => ?_, fun a => ?_, fun a => ?_, fun a => ?_, fun a => ?_⟩
  · obtain ⟨⟨k1, k2, k3⟩, k4⟩ := key
    exact h.keep k1 k2 k3 (fun i g hi hg h8 h9 => by simp only [upN]; repeat rw [if_neg (by omega)]) (fun i w hi => k4 i w (Or.inr (by omega))) (fun i hi => by simp only [upN]; repeat rw [if_neg (by omega)]) (by simp [upN]) (by simp [upN]) (fun t a b q => upL_ne (by omega))
  · simp only [upN]; repeat rw [if_neg (by omega)]
  · simp only [upN]; repeat rw [if_neg (by omega)]
  · simp only [upN]; repeat rw [if_neg (by omega)]
  · simp only [upN]; repeat rw [if_neg (by omega)]
  · simp only [upN]; repeat rw [if_neg (by omega)]
  · have := h.t1 i hi
    simp only [upN]; repeat rw [if_neg (by omega)]
    exact this
  · simp [upN]
  · simp [upN]
  · simp [upN]
  · simp [upN]
  · simp [upN]
  · simp [upN]
  · simp [upN]
  · simp [upN]
theorem iv_change {N N1 N2 : TN} {L : TL} {b m n n2 : Nat} (v : Int64) (h : Inv N L) (hb : b < 2) (hm : m < N 8 b 3) (hn : n ≤ 1000) (hn2 : n2 = n) (h1 : N1 = upN (upN N 19 (N 9 b m) 10 1) 11 b m n)
    (h2 : N2 = upN (upN (upN (upN N1 23 0 0 0) 40 0 (24 * b + m) n2) 41 0 (N1 38 0 (24 * b + m)) 1) 23 0 20 1) : Inv N2 (upL L 47 0 0 v) ∧ N2 23 0 0 = 0 ∧ N1 40 0 (24 * b + m) = N 11 b m := by
  subst hn2
  obtain ⟨q1, q2, q3⟩ := h.bk (b := b) (by omega) hm
  have hx := (h.1.2.1 b (by omega)).2.1 m hm
  have e38 : N1 38 0 (24 * b + m) = N 9 b m := by rw [h1]; simp only [upN]; repeat rw [if_neg (by omega)]
                                                  exact q1
  have e40 : N1 40 0 (24 * b + m) = N 11 b m := by rw [h1]; simp only [upN]; repeat rw [if_neg (by omega)]
                                                   exact q3
  rw [e38] at h2
  revert h1 h2 hx
  generalize hy : N 9 b m = y
  intro h1 h2 hx
  subst h1 h2
  refine ⟨?_, by simp [upN], e40⟩
  have key := h.qty (N2 := upN (upN (upN (upN (upN (upN N 19 y 10 1) 11 b m n2) 23 0 0 0) 40 0 (24 * b + m) n2) 41 0 y 1) 23 0 20 1) (b := b) (m := m) (n := n2) ⟨fun t a c ht => ?_, fun i f hf => ⟨?_, ?_⟩, fun t a c q1 q2 => ?_, ?_⟩ (fun i hi => ?_) (by omega) hm hn ⟨fun t a c q1 q2 => ?_, fun a c => ?_, fun t a c q1 q2 => ?_, fun q => ?_⟩
  · obtain ⟨⟨k1, k2, k3⟩, k4⟩ := key
    rw [hy] at k4
    exact h.tell hx k1 k2 k3 (fun i g hi hn hg => by simp only [upN]; repeat rw [if_neg (by omega)]) (fun i w hi hn => k4 i w (Or.inl hn)) (by simp [upN]) (by simp [upN]) (fun i hi hn => by simp only [upN]; repeat rw [if_neg (by omega)]) (by simp [upN]) (by simp [upN]) (fun t a b q => upL_ne (by omega))
  · simp only [upN]; repeat rw [if_neg (by omega)]
  · simp only [upN]; repeat rw [if_neg (by omega)]
  · simp only [upN]; repeat rw [if_neg (by omega)]
  · simp only [upN]; repeat rw [if_neg (by omega)]
  · simp only [upN]; repeat rw [if_neg (by omega)]
  · have := h.t1 i hi
    by_cases e : i = y
    · subst e; simp [upN]
    · simp only [upN]; repeat rw [if_neg (by omega)]
      exact this
  · simp only [upN]; repeat rw [if_neg (by omega)]
  · simp [upN]
  · simp only [upN]; repeat rw [if_neg (by omega)]
  · simp [upN]
theorem iv_give {N N1 N2 : TN} {L : TL} {m : Nat} (v : Int64) (h : Inv N L) (hm : m < N 8 2 3) (h1 : N1 = upN N 11 2 m 0) (h2 : N2 = upN (upN N1 23 0 0 0) 40 0 (48 + m) 0) : Inv N2 (upL L 47 0 0 v) ∧ N2 23 0 0 = 0 ∧ N1 40 0 (48 + m) = N 11 2 m := by
  obtain ⟨q1, q2, q3⟩ := h.bk (b := 2) (by omega) hm
  have e40 : N1 40 0 (48 + m) = N 11 2 m := by rw [h1]; simp only [upN]; repeat rw [if_neg (by omega)]
                                               exact q3
  subst h1 h2
  refine ⟨?_, by simp [upN], e40⟩
  have key := h.qty (N2 := upN (upN (upN N 11 2 m 0) 23 0 0 0) 40 0 (48 + m) 0) (b := 2) (m := m) (n := 0) ⟨fun t a c ht => ?_, fun i f hf => ⟨?_, ?_⟩, fun t a c q1 q2 => ?_, ?_⟩ (fun i hi => ?_) (by omega) hm (by omega) ⟨fun t a c q1 q2 => ?_, fun a c => ?_, fun t a c q1 q2 => ?_, fun q => ?_⟩
  · obtain ⟨⟨k1, k2, k3⟩, k4⟩ := key
    exact h.keep k1 k2 k3 (fun i g hi hg h8 h9 => by simp only [upN]; repeat rw [if_neg (by omega)]) (fun i w hi => k4 i w (Or.inr (by omega))) (fun i hi => by simp only [upN]; repeat rw [if_neg (by omega)]) (by simp [upN]) (by simp [upN]) (fun t a b q => upL_ne (by omega))
  · simp only [upN]; repeat rw [if_neg (by omega)]
  · simp only [upN]; repeat rw [if_neg (by omega)]
  · simp only [upN]; repeat rw [if_neg (by omega)]
  · simp only [upN]; repeat rw [if_neg (by omega)]
  · simp only [upN]; repeat rw [if_neg (by omega)]
  · have := h.t1 i hi
    simp only [upN]; repeat rw [if_neg (by omega)]
    exact this
  · simp only [upN]; repeat rw [if_neg (by omega)]
  · simp [upN]
  · simp only [upN]; repeat rw [if_neg (by omega)]
  · simp [upN]
