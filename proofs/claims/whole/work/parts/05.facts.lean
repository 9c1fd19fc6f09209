-- ===== facts of the tables =====
theorem aw {w : Cond} (h : w ∈ lw_tbl) (g : goodWord w = true) : w ∈ AW_ := List.mem_filter.mpr ⟨h, g⟩
theorem awT {w : Cond} (i : Nat) (h : tables_1[i]? = some w) (g : goodWord w = true) : w ∈ AW_ := aw (List.mem_append_right _ (List.mem_of_getElem? h)) g
theorem awP {w : Cond} (i : Nat) (h : (k2_sels lw_privs)[i]? = some w) (g : goodWord w = true) : w ∈ AW_ := aw (List.mem_append_left _ (List.mem_of_getElem? h)) g
theorem awA {ws : List Cond} (h : ∀ w ∈ ws, w ∈ lw_tbl) (g : ∀ w ∈ ws, goodWord w = true) : ∀ w ∈ ws, w ∈ AW_ := fun w hw => aw (h w hw) (g w hw)
def tyOK (f : Nat) (ty : FieldType) : Prop := match f with
  | 0 => ty = .int
  | 3 => ty = .boolean
  | 1 => ty = .long
  | _ => (∃ n, ty = .object n) ∨ ∃ t, ty = .array t
def CK (ci : Nat) : Prop := ∃ (C : String) (T : u_T) (ty : Nat → FieldType), vwCl[ci]? = some (C, T, fn ci) ∧ (∀ w ∈ u_ws C T (fn ci), w ∈ AW_) ∧ (∀ k, k < fn ci → parseFieldDescriptor (T k).2.2.1 = some (ty k)) ∧ (∀ a, a < fn ci → ∀ b, b < fn ci → a ≠ b → (T a).2.1 ≠ (T b).2.1) ∧ (∀ k, k < fn ci → tyOK (ftk ci k) (ty k))
def tyB (f : Nat) (ty : FieldType) : Bool := match f, ty with
  | 0, .int => true
  | 3, .boolean => true
  | 1, .long => true
  | 2, .object _ => true
  | 2, .array _ => true
  | _, _ => false
theorem tyB_ok {f : Nat} {ty : FieldType} (h : tyB f ty = true) : tyOK f ty := by
  unfold tyB at h
  split at h
  · rfl
  · rfl
  · rfl
  · exact Or.inl ⟨_, rfl⟩
  · exact Or.inr ⟨_, rfl⟩
  · cases h
set_option maxRecDepth 100000 in
theorem ck0 : CK 0 := ⟨RN 0, TT0, ty0, rfl, awA (by decide +kernel) (by decide +kernel), by decide +kernel, by decide +kernel, fun k hk => tyB_ok ((show ∀ k, k < fn 0 → tyB (ftk 0 k) (ty0 k) = true by decide +kernel) k hk)⟩
set_option maxRecDepth 100000 in
theorem ck1 : CK 1 := ⟨RN 1, TT1, ty1, rfl, awA (by decide +kernel) (by decide +kernel), by decide +kernel, by decide +kernel, fun k hk => tyB_ok ((show ∀ k, k < fn 1 → tyB (ftk 1 k) (ty1 k) = true by decide +kernel) k hk)⟩
set_option maxRecDepth 100000 in
theorem ck2 : CK 2 := ⟨RN 2, TT2, ty2, rfl, awA (by decide +kernel) (by decide +kernel), by decide +kernel, by decide +kernel, fun k hk => tyB_ok ((show ∀ k, k < fn 2 → tyB (ftk 2 k) (ty2 k) = true by decide +kernel) k hk)⟩
set_option maxRecDepth 100000 in
theorem ck3 : CK 3 := ⟨RN 3, TT3, ty3, rfl, awA (by decide +kernel) (by decide +kernel), by decide +kernel, by decide +kernel, fun k hk => tyB_ok ((show ∀ k, k < fn 3 → tyB (ftk 3 k) (ty3 k) = true by decide +kernel) k hk)⟩
set_option maxRecDepth 100000 in
theorem ck4 : CK 4 := ⟨RN 4, TT4, ty4, rfl, awA (by decide +kernel) (by decide +kernel), by decide +kernel, by decide +kernel, fun k hk => tyB_ok ((show ∀ k, k < fn 4 → tyB (ftk 4 k) (ty4 k) = true by decide +kernel) k hk)⟩
set_option maxRecDepth 100000 in
theorem ck5 : CK 5 := ⟨RN 5, TT5, ty5, rfl, awA (by decide +kernel) (by decide +kernel), by decide +kernel, by decide +kernel, fun k hk => tyB_ok ((show ∀ k, k < fn 5 → tyB (ftk 5 k) (ty5 k) = true by decide +kernel) k hk)⟩
theorem kd3 {t ci : Nat} (h : kd t = (3, ci)) : ci < 6 := by
  have h1 : t < 48 := by
    rcases Nat.lt_or_ge t 48 with q | q
    · exact q
    · exfalso
      unfold kd at h
      rw [List.getD_eq_getElem?_getD, List.getElem?_eq_none (by simpa using q)] at h
      cases h
  have h3 : ∀ t, t < 48 → (kd t).1 = 3 → (kd t).2 < 6 := by decide +kernel
  have := h3 t h1 (by rw [h])
  rw [h] at this
  exact this
theorem ck_ok {t ci : Nat} (h : kd t = (3, ci)) : CK ci := by
  have h6 := kd3 h
  match ci, h6 with
  | 0, _ => exact ck0
  | 1, _ => exact ck1
  | 2, _ => exact ck2
  | 3, _ => exact ck3
  | 4, _ => exact ck4
  | 5, _ => exact ck5
theorem vwCl_name {ci N : Nat} {C : String} {T : u_T} (h : vwCl[ci]? = some (C, T, N)) : C = RN ci := by
  match ci, h with
  | 0, h => cases h; rfl
  | 1, h => cases h; rfl
  | 2, h => cases h; rfl
  | 3, h => cases h; rfl
  | 4, h => cases h; rfl
  | 5, h => cases h; rfl
  | n + 6, h => cases h
theorem fn_lt {ci j : Nat} (h : j < fn ci) : ci < 6 ∧ j < 27 := by
  have h1 : ci < 6 := by
    rcases Nat.lt_or_ge ci 6 with q | q
    · exact q
    · exfalso
      unfold fn at h
      rw [List.getD_eq_getElem?_getD, List.getElem?_eq_none (by simpa using q)] at h
      exact absurd h (Nat.not_lt_zero _)
  refine ⟨h1, ?_⟩
  have h2 : ∀ ci, ci < 6 → fn ci ≤ 27 := by decide +kernel
  exact Nat.lt_of_lt_of_le h (h2 ci h1)
theorem ft2 {ci j : Nat} (h : j < fn ci) (n1 : ftk ci j = 0 → False) (n2 : ftk ci j = 3 → False) (n3 : ftk ci j = 1 → False) : ftk ci j = 2 := by
  obtain ⟨h1, h2⟩ := fn_lt h
  have h3 : ∀ ci, ci < 6 → ∀ j, j < 27 → ftk ci j < 4 := by decide +kernel
  have h4 := h3 ci h1 j h2
  have a1 : ftk ci j ≠ 0 := n1
  have a2 : ftk ci j ≠ 3 := n2
  have a3 : ftk ci j ≠ 1 := n3
  generalize ftk ci j = z at h4 a1 a2 a3 ⊢
  omega
