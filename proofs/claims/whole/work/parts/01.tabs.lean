-- the tables of this class, reference and law: by program out of the Statement and the listing
def RN (o : Nat) : String := ["NettedPlans$Bill", "NettedPlans$Book", "NettedPlans$Item", "NettedPlans$Netting", "NettedPlans", "NettedPlansModel", "NettedPlansLaw", "java/util/Arrays"].getD o ""
def TT0 : u_T := fun k => [("NettedPlans$Bill", "per", "[I", true), ("NettedPlans$Bill", "from", "[I", true), ("NettedPlans$Bill", "to", "[I", true), ("NettedPlans$Bill", "levels", "[I", true), ("NettedPlans$Bill", "trial", "[I", true), ("NettedPlans$Bill", "lines", "I", false)].getD k ("", "", "", false)
def ty0 : Nat → FieldType := fun k => [.array .int, .array .int, .array .int, .array .int, .array .int, .int].getD k .int
def TT1 : u_T := fun k => [("NettedPlans$Book", "items", "[I", true), ("NettedPlans$Book", "weeks", "[I", true), ("NettedPlans$Book", "quantities", "[I", true), ("NettedPlans$Book", "size", "I", false)].getD k ("", "", "", false)
def ty1 : Nat → FieldType := fun k => [.array .int, .array .int, .array .int, .int].getD k .int
def TT2 : u_T := fun k => [("NettedPlans$Item", "rule", "I", false), ("NettedPlans$Item", "size", "I", false), ("NettedPlans$Item", "lead", "I", false), ("NettedPlans$Item", "safety", "I", false), ("NettedPlans$Item", "scrap", "I", false), ("NettedPlans$Item", "setup", "I", false), ("NettedPlans$Item", "hold", "I", false), ("NettedPlans$Item", "stock", "I", false), ("NettedPlans$Item", "centre", "I", false), ("NettedPlans$Item", "hours", "I", false), ("NettedPlans$Item", "told", "Z", false), ("NettedPlans$Item", "gross", "[J", true), ("NettedPlans$Item", "planned", "[J", true), ("NettedPlans$Item", "balance", "[J", true)].getD k ("", "", "", false)
def ty2 : Nat → FieldType := fun k => [.int, .int, .int, .int, .int, .int, .int, .int, .int, .int, .boolean, .array .long, .array .long, .array .long].getD k .int
def TT3 : u_T := fun k => [("NettedPlans$Netting", "bare", "[J", true), ("NettedPlans$Netting", "need", "[J", true), ("NettedPlans$Netting", "best", "[J", true), ("NettedPlans$Netting", "lastOfLot", "[I", true)].getD k ("", "", "", false)
def ty3 : Nat → FieldType := fun k => [.array .long, .array .long, .array .long, .array .int].getD k .int
def TT4 : u_T := fun k => [("NettedPlans", "items", "[LNettedPlans$Item;", true), ("NettedPlans", "bill", "LNettedPlans$Bill;", true), ("NettedPlans", "demands", "LNettedPlans$Book;", true), ("NettedPlans", "orders", "LNettedPlans$Book;", true), ("NettedPlans", "reservations", "LNettedPlans$Book;", true), ("NettedPlans", "netting", "LNettedPlans$Netting;", true), ("NettedPlans", "asked", "[J", true), ("NettedPlans", "brought", "[J", true)].getD k ("", "", "", false)
def ty4 : Nat → FieldType := fun k => [.array (.object "NettedPlans$Item"), .object "NettedPlans$Bill", .object "NettedPlans$Book", .object "NettedPlans$Book", .object "NettedPlans$Book", .object "NettedPlans$Netting", .array .long, .array .long].getD k .int
def TT5 : u_T := fun k => [("NettedPlansModel", "fault", "I", false), ("NettedPlansModel", "rule", "[I", true), ("NettedPlansModel", "size", "[I", true), ("NettedPlansModel", "lead", "[I", true), ("NettedPlansModel", "safety", "[I", true), ("NettedPlansModel", "scrap", "[I", true), ("NettedPlansModel", "setup", "[I", true), ("NettedPlansModel", "hold", "[I", true), ("NettedPlansModel", "stock", "[I", true), ("NettedPlansModel", "centre", "[I", true), ("NettedPlansModel", "hours", "[I", true), ("NettedPlansModel", "per", "[I", true), ("NettedPlansModel", "from", "[I", true), ("NettedPlansModel", "to", "[I", true), ("NettedPlansModel", "lines", "I", false), ("NettedPlansModel", "counts", "[I", true), ("NettedPlansModel", "itemOf", "[I", true), ("NettedPlansModel", "weekOf", "[I", true), ("NettedPlansModel", "many", "[I", true), ("NettedPlansModel", "isPlanned", "Z", false), ("NettedPlansModel", "isTold", "Z", false), ("NettedPlansModel", "told", "[Z", true), ("NettedPlansModel", "gross", "[J", true), ("NettedPlansModel", "planned", "[J", true), ("NettedPlansModel", "fresh", "[J", true), ("NettedPlansModel", "need", "[J", true), ("NettedPlansModel", "best", "[J", true)].getD k ("", "", "", false)
def ty5 : Nat → FieldType := fun k => [.int, .array .int, .array .int, .array .int, .array .int, .array .int, .array .int, .array .int, .array .int, .array .int, .array .int, .array .int, .array .int, .array .int, .int, .array .int, .array .int, .array .int, .array .int, .boolean, .boolean, .array .boolean, .array .long, .array .long, .array .long, .array .long, .array .long].getD k .int
abbrev vwCl : List vw_C := [(RN 0, TT0, 6), (RN 1, TT1, 4), (RN 2, TT2, 14), (RN 3, TT3, 4), (RN 4, TT4, 8), (RN 5, TT5, 27)]
def fn (ci : Nat) : Nat := [6, 4, 14, 4, 8, 27].getD ci 0
def ftk (ci j : Nat) : Nat := ([[2, 2, 2, 2, 2, 0], [2, 2, 2, 0], [0, 0, 0, 0, 0, 0, 0, 0, 0, 0, 3, 2, 2, 2], [2, 2, 2, 2], [2, 2, 2, 2, 2, 2, 2, 2], [0, 2, 2, 2, 2, 2, 2, 2, 2, 2, 2, 2, 2, 2, 0, 2, 2, 2, 2, 3, 3, 2, 2, 2, 2, 2, 2]].getD ci []).getD j 2
def ffn (ci j : Nat) : Bool := ([[true, true, true, true, true, false], [true, true, true, false], [false, false, false, false, false, false, false, false, false, false, false, true, true, true], [true, true, true, true], [true, true, true, true, true, true, true, true], [false, true, true, true, true, true, true, true, true, true, true, true, true, true, false, true, true, true, true, false, false, true, true, true, true, true, true]].getD ci []).getD j true
abbrev itN : String := "NettedPlans$Item"
def kd (t : Nat) : Nat × Nat := [(3, 4), (2, 12), (3, 0), (0, 144), (0, 144), (0, 144), (0, 12), (0, 12), (3, 1), (0, 24), (0, 24), (0, 24), (3, 3), (1, 12), (1, 12), (1, 13), (0, 12), (1, 12), (1, 12), (3, 2), (1, 12), (1, 12), (1, 12), (3, 5), (0, 12), (0, 12), (0, 12), (0, 12), (0, 12), (0, 12), (0, 12), (0, 12), (0, 12), (0, 12), (0, 144), (0, 144), (0, 144), (0, 3), (0, 72), (0, 72), (0, 72), (4, 12), (1, 144), (1, 144), (1, 12), (1, 13), (1, 13), (1, 1)].getD t (9, 0)
def ct (t : Nat) : Nat := [1, 1, 1, 1, 1, 1, 1, 1, 3, 3, 3, 3, 1, 1, 1, 1, 1, 1, 1, 12, 12, 12, 12, 1, 1, 1, 1, 1, 1, 1, 1, 1, 1, 1, 1, 1, 1, 1, 1, 1, 1, 1, 1, 1, 1, 1, 1, 1].getD t 0
abbrev NN : Nat := 100
def od (t i : Nat) : Nat := if t < 8 then t else if t < 12 then t + 4 * i else if t < 19 then t + 8 else if t < 23 then t + 8 + 4 * i else t + 52
def ky (k : Nat) : Nat × Nat := if k < 8 then (k, 0) else if k < 20 then (8 + (k - 8) % 4, (k - 8) / 4) else if k < 27 then (k - 8, 0) else if k < 75 then (19 + (k - 27) % 4, (k - 27) / 4) else (k - 52, 0)
theorem ct_le {t i : Nat} (h : i < ct t) : t < 48 ∧ i < 12 := by
  have h1 : t < 48 := by
    rcases Nat.lt_or_ge t 48 with q | q
    · exact q
    · exfalso
      unfold ct at h
      rw [List.getD_eq_getElem?_getD, List.getElem?_eq_none (by simpa using q)] at h
      exact absurd h (Nat.not_lt_zero _)
  refine ⟨h1, ?_⟩
  have h2 : ∀ t, t < 48 → ct t ≤ 12 := by decide +kernel
  exact Nat.lt_of_lt_of_le h (h2 t h1)
theorem ky_od {t i : Nat} (h : i < ct t) : ky (od t i) = (t, i) := by
  obtain ⟨h1, h2⟩ := ct_le h
  have h3 : ∀ t, t < 48 → ∀ i, i < 12 → i < ct t → ky (od t i) = (t, i) := by decide +kernel
  exact h3 t h1 i h2 h
theorem od_lt {t i : Nat} (h : i < ct t) : od t i < NN := by
  obtain ⟨h1, h2⟩ := ct_le h
  have h3 : ∀ t, t < 48 → ∀ i, i < 12 → i < ct t → od t i < NN := by decide +kernel
  exact h3 t h1 i h2 h
theorem od_ky {k : Nat} (h : k < NN) : od (ky k).1 (ky k).2 = k := by
  have h3 : ∀ k, k < NN → od (ky k).1 (ky k).2 = k := by decide +kernel
  exact h3 k h
theorem kd_sm (t : Nat) : (kd t).2 < 2 ^ 31 := by
  rcases Nat.lt_or_ge t 48 with q | q
  · have h3 : ∀ t, t < 48 → (kd t).2 < 2 ^ 31 := by decide +kernel
    exact h3 t q
  · unfold kd
    rw [List.getD_eq_getElem?_getD, List.getElem?_eq_none (by simpa using q)]
    decide
def Fx (t i j : Nat) : Option (Nat × Nat) := match t with
  | 0 => (match j with
    | 0 => some (1, 0)
    | 1 => some (2, 0)
    | 2 => some (8, 0)
    | 3 => some (8, 1)
    | 4 => some (8, 2)
    | 5 => some (12, 0)
    | 6 => some (17, 0)
    | 7 => some (18, 0)
    | _ => none)
  | 1 => some (19, j)
  | 2 => (match j with
    | 0 => some (3, 0)
    | 1 => some (4, 0)
    | 2 => some (5, 0)
    | 3 => some (6, 0)
    | 4 => some (7, 0)
    | _ => none)
  | 8 => (match j with
    | 0 => some (9, i)
    | 1 => some (10, i)
    | 2 => some (11, i)
    | _ => none)
  | 12 => (match j with
    | 0 => some (13, 0)
    | 1 => some (14, 0)
    | 2 => some (15, 0)
    | 3 => some (16, 0)
    | _ => none)
  | 19 => (match j with
    | 11 => some (20, i)
    | 12 => some (21, i)
    | 13 => some (22, i)
    | _ => none)
  | 23 => (match j with
    | 1 => some (24, 0)
    | 2 => some (25, 0)
    | 3 => some (26, 0)
    | 4 => some (27, 0)
    | 5 => some (28, 0)
    | 6 => some (29, 0)
    | 7 => some (30, 0)
    | 8 => some (31, 0)
    | 9 => some (32, 0)
    | 10 => some (33, 0)
    | 11 => some (34, 0)
    | 12 => some (35, 0)
    | 13 => some (36, 0)
    | 15 => some (37, 0)
    | 16 => some (38, 0)
    | 17 => some (39, 0)
    | 18 => some (40, 0)
    | 21 => some (41, 0)
    | 22 => some (42, 0)
    | 23 => some (43, 0)
    | 24 => some (44, 0)
    | 25 => some (45, 0)
    | 26 => some (46, 0)
    | _ => none)
  | _ => none
def mo (k : Nat) : Nat := [4, 0, 1, 3, 2, 4, 4, 4, 7, 1, 4, 0, 2, 2, 2, 3, 3, 3, 3, 3, 3, 3, 6, 4, 4, 4, 4, 6, 4, 6, 4, 4, 6, 4, 0, 0, 0, 7, 0, 0, 6, 4, 6, 4, 4, 4, 4, 1, 1, 6, 4, 4, 1, 6, 4, 6, 4, 6, 4, 4, 4, 6, 4, 6, 4, 6, 4, 4, 1, 1, 4, 4, 4, 6, 4, 4, 6, 4, 6, 4, 6, 4, 6, 4, 4, 2, 5, 5, 5, 5, 5, 5, 5, 5, 5, 5, 5, 5, 5, 5, 5, 5, 5, 5, 5, 5, 5, 5, 5, 5, 5, 5, 5, 5, 5, 5, 5, 5, 5, 5, 5, 5, 5, 5, 5, 5, 5, 5, 5, 5, 5, 5, 5, 6].getD k 0
def nm (k : Nat) : String := ["<init>", "<init>", "<init>", "<init>", "<init>", "replan", "planAnew", "collectGross", "fill", "addTo", "askForParts", "place", "startedIn", "withScrap", "hasGross", "net", "findNeeds", "findCheapestLots", "needBefore", "findCheapestLot", "lot", "leastMultiple", "item", "item", "known", "checkItem", "checkRange", "costs", "costs", "made", "made", "checkCentre", "line", "line", "drop", "setLevels", "highestLevel", "fill", "fits", "put", "stock", "stock", "demand", "demand", "tellNew", "checkWeek", "checkRoom", "isFull", "add", "change", "change", "checkNumber", "exchange", "order", "order", "level", "level", "gross", "gross", "checkPlanned", "isTold", "planned", "planned", "balance", "balance", "peg", "peg", "pegOfOrder", "upTo", "ahead", "sumUpTo", "pegOfUnits", "pegOfReceipt", "promise", "promise", "leastTrueWeek", "reserve", "reserve", "giveBack", "giveBack", "load", "load", "count", "count", "itemsRunShort", "runsShort", "<init>", "thrown", "item", "isIn", "isTwelve", "refused", "tell", "costs", "made", "line", "setLine", "isSound", "levelOf", "stock", "demand", "addTold", "add", "order", "change", "replan", "net", "grossOf", "sumOf", "asks", "plan", "findNeeds", "bare", "upTo", "findBest", "lastOf", "cost", "needOf", "lot", "level", "gross", "isWrong", "planned", "balance", "peg", "supplied", "promise", "isTrue", "reserve", "giveBack", "load", "count", "shortItems", "law"].getD k ""
def ds (k : Nat) : String := ["()V", "()V", "()V", "()V", "()V", "()I", "(I)Z", "(I)V", "([JJ)V", "([JI)V", "(II)V", "(II)I", "(I)J", "(J)J", "([J)Z", "(LNettedPlans$Item;[J)V", "(LNettedPlans$Item;[J)V", "(LNettedPlans$Item;)V", "(I)J", "(LNettedPlans$Item;I)V", "(LNettedPlans$Item;IJ)J", "(IJ)J", "(LNettedPlans;IIIII)I", "(IIIII)V", "(I)LNettedPlans$Item;", "(I)V", "(III)V", "(LNettedPlans;IIII)I", "(IIII)V", "(LNettedPlans;III)I", "(III)V", "(I)V", "(LNettedPlans;IIIII)I", "(IIIII)V", "(I)V", "()V", "(I)I", "([II)V", "(I)Z", "(IIII)V", "(LNettedPlans;II[J)I", "(II)I", "(LNettedPlans;III[J)I", "(III)I", "(LNettedPlans$Book;III)I", "(I)V", "(LNettedPlans$Book;)V", "()Z", "(III)I", "(LNettedPlans;III[J)I", "(III)I", "(LNettedPlans$Book;I)V", "(II)I", "(LNettedPlans;III[J)I", "(III)I", "(LNettedPlans;I[J)I", "(I)I", "(LNettedPlans;II[J)I", "(II)J", "()V", "()Z", "(LNettedPlans;II[J)I", "(II)J", "(LNettedPlans;II[J)I", "(II)J", "(LNettedPlans;III[J)I", "(III)J", "(II)J", "(II)J", "(I)J", "([JI)J", "(IJJ)J", "(II)J", "(LNettedPlans;III[J)I", "(III)I", "(III)I", "(LNettedPlans;III[J)I", "(III)I", "(LNettedPlans;I[J)I", "(I)I", "(LNettedPlans;II[J)I", "(II)J", "(LNettedPlans;I[J)I", "(I)I", "()I", "()Z", "()V", "()I", "(IIIII)V", "(III)Z", "(I)Z", "(I)Z", "(I)V", "(IIII)V", "(III)V", "(IIIII)V", "(IIII)V", "()Z", "(I)I", "(II)I", "(III)I", "(IIII)I", "(IIII)I", "(III)I", "(III)I", "()I", "(I)Z", "(II)J", "(III)J", "(II)J", "(I)V", "(I)V", "(II)J", "([JII)J", "(I)V", "(II)I", "(III)J", "(I)J", "(IIJ)J", "(I)I", "(II)J", "(II)Z", "(II)J", "(II)J", "(III)J", "(III)J", "(III)I", "(III)Z", "(III)I", "(I)I", "(II)J", "(I)I", "()I", "([I)Z"].getD k ""
def yn (k : Nat) : MethodName := ⟨RN (mo k), nm k, ds k⟩
abbrev own (k : Nat) : String := RN (mo k)
def cc (k : Nat) : ByteArray := [prog_1_method_1_code, prog_2_method_1_code, prog_3_method_1_code, prog_5_method_1_code, prog_4_method_1_code, prog_1_method_10_code, prog_1_method_31_code, prog_1_method_32_code, prog_17_method_101_code, prog_3_method_5_code, prog_1_method_33_code, prog_2_method_2_code, prog_4_method_2_code, prog_4_method_3_code, prog_4_method_4_code, prog_5_method_2_code, prog_5_method_3_code, prog_5_method_6_code, prog_5_method_7_code, prog_5_method_8_code, prog_5_method_4_code, prog_5_method_5_code, method_3_code, prog_1_method_2_code, prog_1_method_22_code, prog_1_method_21_code, prog_1_method_26_code, method_4_code, prog_1_method_3_code, method_5_code, prog_1_method_4_code, prog_1_method_24_code, method_6_code, prog_1_method_5_code, prog_2_method_5_code, prog_2_method_6_code, prog_2_method_7_code, prog_17_method_103_code, prog_2_method_3_code, prog_2_method_4_code, method_7_code, prog_1_method_6_code, method_8_code, prog_1_method_7_code, prog_1_method_30_code, prog_1_method_23_code, prog_1_method_27_code, prog_3_method_2_code, prog_3_method_3_code, method_9_code, prog_1_method_8_code, prog_1_method_25_code, prog_3_method_4_code, method_10_code, prog_1_method_9_code, method_11_code, prog_1_method_11_code, method_12_code, prog_1_method_12_code, prog_1_method_28_code, prog_1_method_29_code, method_13_code, prog_1_method_13_code, method_14_code, prog_1_method_14_code, method_15_code, prog_1_method_15_code, prog_1_method_34_code, prog_3_method_6_code, prog_3_method_7_code, prog_1_method_37_code, prog_1_method_36_code, prog_1_method_35_code, method_16_code, prog_1_method_16_code, prog_1_method_38_code, method_17_code, prog_1_method_17_code, method_18_code, prog_1_method_18_code, method_19_code, prog_1_method_19_code, method_20_code, prog_1_method_20_code, prog_1_method_39_code, prog_4_method_5_code, prog_7_method_1_code, prog_7_method_2_code, prog_7_method_7_code, prog_7_method_4_code, prog_7_method_5_code, prog_7_method_3_code, prog_7_method_6_code, prog_7_method_8_code, prog_7_method_9_code, prog_7_method_13_code, prog_7_method_12_code, prog_7_method_11_code, prog_7_method_10_code, prog_7_method_14_code, prog_7_method_17_code, prog_7_method_16_code, prog_7_method_15_code, prog_7_method_18_code, prog_7_method_19_code, prog_7_method_33_code, prog_7_method_32_code, prog_7_method_24_code, prog_7_method_20_code, prog_7_method_23_code, prog_7_method_31_code, prog_7_method_25_code, prog_7_method_22_code, prog_7_method_21_code, prog_7_method_29_code, prog_7_method_28_code, prog_7_method_27_code, prog_7_method_26_code, prog_7_method_30_code, prog_7_method_34_code, prog_7_method_36_code, prog_7_method_35_code, prog_7_method_37_code, prog_7_method_38_code, prog_7_method_40_code, prog_7_method_39_code, prog_7_method_42_code, prog_7_method_41_code, prog_7_method_43_code, prog_7_method_44_code, prog_7_method_45_code, prog_7_method_47_code, prog_7_method_46_code, code].getD k ⟨#[]⟩
def mL (k : Nat) : Nat := [2, 1, 1, 1, 1, 4, 3, 3, 5, 4, 6, 2, 3, 3, 3, 6, 8, 3, 2, 8, 5, 3, 7, 7, 2, 1, 3, 6, 6, 5, 5, 1, 7, 8, 2, 1, 7, 4, 2, 5, 5, 5, 6, 4, 6, 1, 1, 1, 4, 6, 5, 2, 4, 6, 4, 4, 2, 5, 4, 1, 2, 5, 4, 5, 4, 6, 4, 7, 6, 5, 5, 12, 6, 6, 4, 6, 6, 4, 4, 2, 5, 6, 4, 2, 3, 2, 2, 1, 7, 3, 1, 2, 2, 6, 4, 11, 5, 3, 7, 4, 4, 5, 6, 4, 7, 4, 4, 6, 7, 8, 7, 8, 3, 6, 4, 5, 7, 2, 7, 2, 3, 3, 3, 3, 19, 9, 5, 6, 5, 3, 7, 2, 5, 8].getD k 0
def rt (k : Nat) : Option FieldType := [(Option.none : Option FieldType), (Option.none : Option FieldType), (Option.none : Option FieldType), (Option.none : Option FieldType), (Option.none : Option FieldType), (Option.some FieldType.int), (Option.some FieldType.boolean), (Option.none : Option FieldType), (Option.none : Option FieldType), (Option.none : Option FieldType), (Option.none : Option FieldType), (Option.some FieldType.int), (Option.some FieldType.long), (Option.some FieldType.long), (Option.some FieldType.boolean), (Option.none : Option FieldType), (Option.none : Option FieldType), (Option.none : Option FieldType), (Option.some FieldType.long), (Option.none : Option FieldType), (Option.some FieldType.long), (Option.some FieldType.long), (Option.some FieldType.int), (Option.none : Option FieldType), (Option.some (FieldType.object "NettedPlans$Item")), (Option.none : Option FieldType), (Option.none : Option FieldType), (Option.some FieldType.int), (Option.none : Option FieldType), (Option.some FieldType.int), (Option.none : Option FieldType), (Option.none : Option FieldType), (Option.some FieldType.int), (Option.none : Option FieldType), (Option.none : Option FieldType), (Option.none : Option FieldType), (Option.some FieldType.int), (Option.none : Option FieldType), (Option.some FieldType.boolean), (Option.none : Option FieldType), (Option.some FieldType.int), (Option.some FieldType.int), (Option.some FieldType.int), (Option.some FieldType.int), (Option.some FieldType.int), (Option.none : Option FieldType), (Option.none : Option FieldType), (Option.some FieldType.boolean), (Option.some FieldType.int), (Option.some FieldType.int), (Option.some FieldType.int), (Option.none : Option FieldType), (Option.some FieldType.int), (Option.some FieldType.int), (Option.some FieldType.int), (Option.some FieldType.int), (Option.some FieldType.int), (Option.some FieldType.int), (Option.some FieldType.long), (Option.none : Option FieldType), (Option.some FieldType.boolean), (Option.some FieldType.int), (Option.some FieldType.long), (Option.some FieldType.int), (Option.some FieldType.long), (Option.some FieldType.int), (Option.some FieldType.long), (Option.some FieldType.long), (Option.some FieldType.long), (Option.some FieldType.long), (Option.some FieldType.long), (Option.some FieldType.long), (Option.some FieldType.long), (Option.some FieldType.int), (Option.some FieldType.int), (Option.some FieldType.int), (Option.some FieldType.int), (Option.some FieldType.int), (Option.some FieldType.int), (Option.some FieldType.int), (Option.some FieldType.int), (Option.some FieldType.long), (Option.some FieldType.int), (Option.some FieldType.int), (Option.some FieldType.int), (Option.some FieldType.boolean), (Option.none : Option FieldType), (Option.some FieldType.int), (Option.none : Option FieldType), (Option.some FieldType.boolean), (Option.some FieldType.boolean), (Option.some FieldType.boolean), (Option.none : Option FieldType), (Option.none : Option FieldType), (Option.none : Option FieldType), (Option.none : Option FieldType), (Option.none : Option FieldType), (Option.some FieldType.boolean), (Option.some FieldType.int), (Option.some FieldType.int), (Option.some FieldType.int), (Option.some FieldType.int), (Option.some FieldType.int), (Option.some FieldType.int), (Option.some FieldType.int), (Option.some FieldType.int), (Option.some FieldType.boolean), (Option.some FieldType.long), (Option.some FieldType.long), (Option.some FieldType.long), (Option.none : Option FieldType), (Option.none : Option FieldType), (Option.some FieldType.long), (Option.some FieldType.long), (Option.none : Option FieldType), (Option.some FieldType.int), (Option.some FieldType.long), (Option.some FieldType.long), (Option.some FieldType.long), (Option.some FieldType.int), (Option.some FieldType.long), (Option.some FieldType.boolean), (Option.some FieldType.long), (Option.some FieldType.long), (Option.some FieldType.long), (Option.some FieldType.long), (Option.some FieldType.int), (Option.some FieldType.boolean), (Option.some FieldType.int), (Option.some FieldType.int), (Option.some FieldType.long), (Option.some FieldType.int), (Option.some FieldType.int), (Option.some FieldType.boolean)].getD k none
def hh (k : Nat) : List (Nat × Nat × Nat × Nat) := [[], [], [], [], [], [], [], [], [], [], [], [], [], [], [], [], [], [], [], [], [], [], [(0, 11, 14, 13), (0, 11, 18, 15)], [], [], [], [], [(0, 9, 12, 13), (0, 9, 16, 15)], [], [(0, 7, 10, 13), (0, 7, 14, 15)], [], [], [(0, 11, 14, 13), (0, 11, 18, 15), (0, 11, 22, 28)], [], [], [], [], [], [], [], [(0, 10, 13, 13), (0, 10, 17, 15)], [], [(0, 12, 15, 13), (0, 12, 19, 15), (0, 12, 23, 28)], [], [], [], [], [], [], [(0, 12, 15, 15), (0, 12, 19, 13)], [], [], [], [(0, 12, 15, 13), (0, 12, 19, 15), (0, 12, 23, 28)], [], [(0, 9, 12, 13)], [], [(0, 9, 12, 13), (0, 9, 16, 28)], [], [], [], [(0, 9, 12, 13), (0, 9, 16, 28)], [], [(0, 9, 12, 13), (0, 9, 16, 28)], [], [(0, 11, 14, 13), (0, 11, 18, 15), (0, 11, 22, 28)], [], [], [], [], [], [], [], [(0, 12, 15, 13), (0, 12, 19, 15), (0, 12, 23, 28)], [], [], [(0, 12, 15, 13), (0, 12, 19, 15), (0, 12, 23, 28)], [], [(0, 9, 12, 13)], [], [(0, 9, 12, 13), (0, 9, 16, 28)], [], [(0, 9, 12, 28)], [], [], [], [], [], [], [], [], [], [], [], [], [], [], [], [], [], [], [], [], [], [], [], [], [], [], [], [], [], [], [], [], [], [], [], [], [], [], [], [], [], [], [], [], [], [], [], [], [], [], []].getD k []
def fr (k : Nat) : Nat := [2, 1, 1, 1, 1, 5, 4, 2, 0, 0, 1, 0, 0, 0, 0, 3, 1, 2, 0, 1, 1, 0, 9, 8, 7, 6, 6, 9, 8, 9, 8, 6, 9, 8, 3, 2, 1, 0, 2, 3, 9, 8, 10, 9, 8, 6, 6, 0, 1, 9, 8, 6, 0, 10, 9, 8, 7, 9, 8, 6, 0, 9, 8, 9, 8, 11, 10, 9, 0, 0, 0, 8, 9, 10, 9, 8, 10, 9, 8, 7, 8, 7, 8, 7, 1, 0, 1, 0, 2, 0, 1, 0, 0, 2, 2, 2, 0, 1, 0, 2, 3, 2, 0, 3, 1, 6, 5, 1, 0, 0, 4, 2, 1, 0, 3, 2, 1, 0, 3, 2, 3, 2, 3, 3, 2, 1, 3, 2, 3, 1, 2, 3, 2, 14].getD k 0
def lo (k : Nat) : Nat := [44, 24, 24, 24, 24, 117, 95, 47, 0, 0, 22, 0, 0, 0, 0, 70, 24, 48, 0, 21, 24, 0, 157, 131, 110, 90, 90, 156, 131, 155, 131, 90, 158, 131, 80, 60, 24, 0, 50, 80, 155, 131, 179, 156, 131, 90, 90, 0, 20, 155, 131, 90, 0, 179, 156, 131, 110, 154, 131, 90, 0, 154, 131, 154, 131, 211, 188, 162, 0, 0, 0, 131, 162, 179, 156, 131, 179, 156, 132, 111, 135, 110, 131, 110, 21, 0, 24, 0, 42, 0, 22, 0, 0, 42, 42, 48, 0, 26, 0, 42, 66, 42, 0, 66, 22, 146, 123, 27, 0, 0, 97, 48, 26, 0, 71, 47, 21, 0, 71, 42, 64, 42, 64, 64, 53, 25, 73, 48, 73, 22, 42, 72, 48, 542].getD k 0
def mc (k : Nat) : Nat := [74, 5, 3, 4, 3, 0, 0, 0, 0, 0, 0, 0, 0, 0, 0, 0, 0, 0, 0, 0, 0, 0, 5, 5, 1, 1, 1, 4, 4, 3, 3, 1, 6, 6, 0, 0, 0, 0, 0, 0, 2, 2, 4, 4, 4, 1, 1, 0, 0, 4, 4, 1, 0, 4, 4, 1, 1, 3, 3, 1, 0, 3, 3, 3, 3, 11, 11, 2, 0, 0, 0, 1, 2, 16, 16, 12, 17, 17, 1, 1, 3, 3, 1, 1, 0, 0, 23, 0, 0, 0, 0, 0, 0, 0, 0, 0, 0, 0, 0, 0, 0, 0, 0, 0, 0, 0, 0, 0, 0, 0, 0, 0, 0, 0, 0, 0, 0, 0, 0, 0, 0, 0, 0, 0, 0, 0, 0, 0, 0, 0, 0, 0, 0, 601024].getD k 0
def ms (k : Nat) : Nat := [1379, 456, 72, 49, 36, 0, 0, 0, 0, 0, 0, 0, 0, 0, 0, 0, 0, 0, 0, 0, 0, 0, 30, 30, 6, 6, 6, 24, 24, 18, 18, 6, 36, 36, 0, 0, 0, 0, 0, 0, 12, 12, 24, 24, 24, 6, 6, 0, 0, 24, 24, 6, 0, 24, 24, 6, 6, 18, 18, 6, 0, 18, 18, 18, 18, 66, 66, 12, 0, 0, 0, 6, 12, 96, 96, 72, 102, 102, 6, 6, 18, 18, 6, 6, 0, 0, 1109, 0, 0, 0, 0, 0, 0, 0, 0, 0, 0, 0, 0, 0, 0, 0, 0, 0, 0, 0, 0, 0, 0, 0, 0, 0, 0, 0, 0, 0, 0, 0, 0, 0, 0, 0, 0, 0, 0, 0, 0, 0, 0, 0, 0, 0, 0, 7293034].getD k 0
def np (k : Nat) : Nat := [0, 0, 0, 0, 0, 0, 1, 1, 2, 2, 2, 2, 1, 1, 1, 2, 2, 1, 1, 2, 3, 2, 6, 5, 1, 1, 3, 5, 4, 4, 3, 1, 6, 5, 1, 0, 1, 2, 1, 4, 4, 2, 5, 3, 4, 1, 1, 0, 3, 5, 3, 2, 2, 5, 3, 3, 1, 4, 2, 0, 0, 4, 2, 4, 2, 5, 3, 2, 2, 1, 2, 3, 2, 5, 3, 3, 5, 3, 3, 1, 4, 2, 3, 1, 0, 0, 0, 0, 5, 3, 1, 1, 1, 4, 3, 5, 4, 0, 1, 2, 3, 4, 4, 3, 3, 0, 1, 2, 3, 2, 1, 1, 2, 3, 1, 2, 3, 1, 3, 1, 2, 2, 2, 2, 3, 3, 3, 3, 3, 1, 2, 1, 0, 1].getD k 0
def ini (k : Nat) : Bool := nm k == "<init>"
theorem ini_nm {k : Nat} (h : ini k = true) : nm k = "<init>" := by simpa [ini] using h
abbrev LAW : Nat := 133
def strT : List (String × Nat × String) := [("NettedPlans", 198, "no such item"), ("NettedPlans", 209, "a value out of its range"), ("NettedPlans", 203, "no such centre"), ("NettedPlans", 111, "no place for such a line"), ("NettedPlans", 201, "no such week"), ("NettedPlans", 215, "the book is full"), ("NettedPlans", 205, "no such number"), ("NettedPlans", 217, "something was told since the last replanning")]
abbrev EX (n : Nat) : String := ["java/lang/IndexOutOfBoundsException", "java/lang/IllegalArgumentException", "java/lang/IllegalStateException"].getD n ""
def ncT : List (String × String) := [("java/lang/IllegalArgumentException", "java/lang/IndexOutOfBoundsException"), ("java/lang/IllegalStateException", "java/lang/IndexOutOfBoundsException"), ("java/lang/IndexOutOfBoundsException", "java/lang/IllegalArgumentException"), ("java/lang/IllegalStateException", "java/lang/IllegalArgumentException"), ("java/lang/IndexOutOfBoundsException", "java/lang/IllegalStateException"), ("java/lang/IllegalArgumentException", "java/lang/IllegalStateException")]
def nlT : List (String × Nat × Nat × String) := [("NettedPlans", 17, 1, "NettedPlans"), ("NettedPlans", 24, 2, "NettedPlans"), ("NettedPlans", 37, 3, "NettedPlans"), ("NettedPlans", 49, 4, "NettedPlans")]
