-- ===== what a call answers, as codes =====
def QC (P : Option AV → TN → TL → Prop) (X : Nat → TN → TL → Prop) : QT := fun o w => ∃ (N : TN) (L : TL), w = wd N L ∧ match o with
  | .inl v => P v N L
  | .inr E => ∃ e, e < 3 ∧ E = EX e ∧ X e N L
section QCr
variable {sc : XT} {k pc : Nat} {lv : List (Nat × AV)} {st rst : List AV} {N : TN} {L : TL} {w : NW} {cells slots : Nat} {Q : QT}
theorem Sem.cVC {idx k' t i : Nat} {as : List AV} {c' s' : Nat} {P : Option AV → TN → TL → Prop} {X : Nat → TN → TL → Prop} (hd : decode (cc k) pc = .ok (.invokevirtual idx, 3)) (hM : MK k') (hnh : hh k' = []) (hco : Cond.code (yn k') (cc k') (mL k') (rt k') ∈ AW_) (hlk : Cond.methodLink (RN (mo k)) idx (yn k') ∈ AW_) (him : Cond.instanceMethod (yn k') ∈ AW_) (hse : Cond.selects (RN (mo k')) (yn k') (yn k') ∈ AW_) (hkt : kd t = (3, mo k')) (hv : vld NN t i) (hlen : ((aR t i :: as).map ct1).sum ≤ mL k') (hn : as.length = np k') (hrs : (rst.map ct1).sum ≤ 8) (hfr : fr k' + 1 ≤ fr k) (hlo : 8 + (mL k' + 11) + lo k' ≤ lo k) (he1 : cells + mc k' = c') (he2 : slots + ms k' = s') (hc : c' ≤ mc k) (hs : s' ≤ ms k) (hS : Sem sc k' 0 (aArgs 0 (aR t i :: as)) [] (wd N L) 0 0 (QC P X))
    (kk : ∀ (v : Option AV) (N' : TN) (L' : TL), P v N' L' → Sem sc k (pc + 3) lv (v.toList ++ rst) (wd N' L') c' s' Q) (kx : ∀ (e : Nat) (N' : TN) (L' : TL), e < 3 → X e N' L' → SemX sc k pc lv (EX e) (wd N' L') c' s' Q) : Sem sc k pc lv (as.reverse ++ aR t i :: rst) (wd N L) cells slots Q := by
  subst he1 he2
  exact Sem.callV (as := as) (rst := rst) hd hM hnh hco hlk him hse hkt hv rfl (fun v w' h => by obtain ⟨_, _, rfl, _⟩ := h; rfl) (fun E w' h => by obtain ⟨_, _, rfl, _⟩ := h; rfl) hlen hn hrs hfr hlo hc hs hS (fun v w' h => by obtain ⟨N', L', rfl, h⟩ := h; exact kk v N' L' h) (fun E w' h => by obtain ⟨N', L', rfl, e, he, rfl, h⟩ := h; exact kx e N' L' he h)
end QCr
theorem tn_nn {x : Int32} (h : 0 ≤ x.toInt) : tn x = x.toInt.toNat := by
  have h1 := i_nI2 h
  have h2 := Int32.toInt_lt x
  have h3 : tn x = tn (nI x.toInt.toNat) := congrArg tn h1
  rw [h3, tn_nI (by omega)]
abbrev TD (N : TN) : Prop := ¬ ∀ i, i < 12 → N 19 i 10 = 0
def cItem (x r s l f : Int32) : Nat := if ¬ (0 ≤ x.toInt ∧ x.toInt < 12) then 1 else if ¬ ((0 ≤ r.toInt ∧ r.toInt ≤ 3) ∧ (1 ≤ s.toInt ∧ s.toInt ≤ 1000) ∧ (0 ≤ l.toInt ∧ l.toInt ≤ 4) ∧ (0 ≤ f.toInt ∧ f.toInt ≤ 1000)) then 2 else 0
def cCosts (x a b c : Int32) : Nat := if ¬ (0 ≤ x.toInt ∧ x.toInt < 12) then 1 else if ¬ ((0 ≤ a.toInt ∧ a.toInt ≤ 200) ∧ (0 ≤ b.toInt ∧ b.toInt ≤ 100000) ∧ (0 ≤ c.toInt ∧ c.toInt ≤ 100)) then 2 else 0
def cMade (x c h : Int32) : Nat := if ¬ (0 ≤ x.toInt ∧ x.toInt < 12) ∨ ¬ (0 ≤ c.toInt ∧ c.toInt < 3) then 1 else if ¬ (0 ≤ h.toInt ∧ h.toInt ≤ 9) then 2 else 0
def cStock (x n : Int32) : Nat := if ¬ (0 ≤ x.toInt ∧ x.toInt < 12) then 1 else if ¬ (0 ≤ n.toInt ∧ n.toInt ≤ 10000) then 2 else 0
def cTell (z : Nat) (x w n : Int32) : Nat := if ¬ (0 ≤ x.toInt ∧ x.toInt < 12) ∨ ¬ (0 ≤ w.toInt ∧ w.toInt < 12) then 1 else if ¬ (0 ≤ n.toInt ∧ n.toInt ≤ 1000) then 2 else if 24 ≤ z then 3 else 0
def cChange (z0 z1 : Nat) (k m n : Int32) : Nat := if ¬ (0 ≤ k.toInt ∧ k.toInt ≤ 1) then 1 else if ¬ (0 ≤ m.toInt ∧ ((k.toInt = 0 ∧ m.toInt < z0) ∨ (k.toInt = 1 ∧ m.toInt < z1))) then 2 else if ¬ (0 ≤ n.toInt ∧ n.toInt ≤ 1000) then 1 else 0
def cLevel (x : Int32) : Nat := if ¬ (0 ≤ x.toInt ∧ x.toInt < 12) then 1 else 0
def cPlan (t : Nat) (x w : Int32) : Nat := if ¬ (0 ≤ x.toInt ∧ x.toInt < 12) ∨ ¬ (0 ≤ w.toInt ∧ w.toInt < 12) then 1 else if t = 1 then 2 else 0
def cPeg (z0 z1 t : Nat) (d k m : Int32) : Nat := if ¬ (0 ≤ d.toInt ∧ d.toInt < z0) then 1 else if ¬ (0 ≤ k.toInt ∧ k.toInt ≤ 2) then 2 else if ¬ (k.toInt = 0 ∨ (k.toInt = 1 ∧ 0 ≤ m.toInt ∧ m.toInt < z1) ∨ (k.toInt = 2 ∧ 0 ≤ m.toInt ∧ m.toInt < 12)) then 1 else if t = 1 then 3 else 0
def cProm (t : Nat) (x n w : Int32) : Nat := if ¬ (0 ≤ x.toInt ∧ x.toInt < 12) ∨ ¬ (0 ≤ w.toInt ∧ w.toInt < 12) then 1 else if ¬ (1 ≤ n.toInt ∧ n.toInt ≤ 1000) then 2 else if t = 1 then 3 else 0
def cGive (z : Nat) (x : Int32) : Nat := if ¬ (0 ≤ x.toInt ∧ x.toInt < z) then 1 else 0
def cLoad (t : Nat) (c w : Int32) : Nat := if ¬ (0 ≤ c.toInt ∧ c.toInt < 3) ∨ ¬ (0 ≤ w.toInt ∧ w.toInt < 12) then 1 else if t = 1 then 2 else 0
def cCount (t : Nat) (x : Int32) : Nat := if x.toInt = 4 ∧ t = 1 then 1 else 0
