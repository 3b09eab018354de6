/-! codes: what they tell, over whole numbers -/
abbrev iI (v : Int) : Int32 := Int32.ofInt v
abbrev iJ (v : Int) : Int64 := Int64.ofInt v
/-- within a million -/
def bdM (v : Int) : Prop := -1000000 ≤ v ∧ v ≤ 1000000
theorem iI_toInt {v : Int} (h : bdM v) : (iI v).toInt = v := Int32.toInt_ofInt_of_le (by have := h.1; omega) (by have := h.2; omega)
theorem iJ_toInt {v : Int} (h : bdM v) : (iJ v).toInt = v := Int64.toInt_ofInt_of_le (by have := h.1; omega) (by have := h.2; omega)
theorem iI_lt {a b : Int} (ha : bdM a) (hb : bdM b) : iI a < iI b ↔ a < b := by rw [Int32.lt_iff_toInt_lt, iI_toInt ha, iI_toInt hb]
theorem iJ_lt {a b : Int} (ha : bdM a) (hb : bdM b) : iJ a < iJ b ↔ a < b := by rw [Int64.lt_iff_toInt_lt, iJ_toInt ha, iJ_toInt hb]
theorem iI_eq {a b : Int} (ha : bdM a) (hb : bdM b) : iI a = iI b ↔ a = b := by rw [← Int32.toInt_inj, iI_toInt ha, iI_toInt hb]
theorem iJ_eq {a b : Int} (ha : bdM a) (hb : bdM b) : iJ a = iJ b ↔ a = b := by rw [← Int64.toInt_inj, iJ_toInt ha, iJ_toInt hb]
theorem iI_J {a : Int} (h : bdM a) : (iI a).toInt64 = iJ a := Int64.toInt_inj.mp (by rw [Int32.toInt_toInt64, iI_toInt h, iJ_toInt h])
theorem iJ_I (a : Int) : (iJ a).toInt32 = iI a := Int64.toInt32_ofInt
theorem nI_iI (n : Nat) : nI n = iI (n : Int) := Int32.ofInt_eq_ofNat.symm
theorem lN_iJ (n : Nat) : lN n = iJ (n : Int) := Int64.ofInt_eq_ofNat.symm
def clp (v : Int) : Int := if 1000000 < v then 1000000 else if v < -1000000 then -1000000 else v
theorem clp_bd (v : Int) : bdM (clp v) := by
  unfold clp bdM
  split
  · omega
  · split <;> omega
def flo (a b : Int) : Int := if b = 0 then 0 else if (a < 0 ↔ b < 0) ∨ a.tdiv b * b = a then a.tdiv b else a.tdiv b - 1
theorem flo_bd {a b : Int} (ha : bdM a) : bdM (flo a b) := by
  have key : (a.tdiv b).natAbs = a.natAbs / b.natAbs := Int.natAbs_tdiv a b
  have le1 : a.natAbs / b.natAbs ≤ a.natAbs := Nat.div_le_self _ _
  unfold flo
  unfold bdM at ha ⊢
  split
  · omega
  · split
    · omega
    · next hb hn =>
      have hb2 : 2 ≤ b.natAbs := by
        rcases Nat.lt_or_ge b.natAbs 2 with q | q
        · exfalso
          apply hn
          right
          have hb1 : b = 1 ∨ b = -1 := by omega
          rcases hb1 with rfl | rfl
          · rw [Int.tdiv_one, Int.mul_one]
          · rw [Int.tdiv_neg, Int.tdiv_one]; omega
        · exact q
      have le2 : a.natAbs / b.natAbs ≤ a.natAbs / 2 := Nat.div_le_div_left hb2 (by decide)
      omega
/-- two numbers joined by an operation of the class' code -/
def joinV (c : Int32) (a b : Int) : Option Int :=
  if c = -11 then some (clp (a + b)) else if c = -12 then some (clp (a - b)) else if c = -13 then some (clp (a * b)) else if c = -14 then some (flo a b)
  else if c = -15 then some (if a < b then a else b) else if c = -16 then some (if b < a then a else b) else if c = -17 then some (if a < b then 1 else 0) else if c = -18 then some (if b < a then 1 else 0) else if c = -19 then some (if a = b then 1 else 0)
  else if c = -20 then (if (a = 0 ∨ a = 1) ∧ (b = 0 ∨ b = 1) then some (a * b) else none) else if c = -21 then (if (a = 0 ∨ a = 1) ∧ (b = 0 ∨ b = 1) then some (if 0 < a + b then 1 else 0) else none) else none
theorem joinV_bd {c : Int32} {a b v : Int} (ha : bdM a) (hb : bdM b) (h : joinV c a b = some v) : bdM v := by
  have b01 : ∀ (p : Prop) [Decidable p], bdM (if p then 1 else 0) := by
    intro p _
    unfold bdM
    split <;> omega
  have bab : ∀ (p : Prop) [Decidable p], bdM (if p then a else b) := by
    intro p _
    split
    · exact ha
    · exact hb
  unfold joinV at h
  by_cases e11 : c = -11
  · rw [if_pos e11] at h
    cases h; exact clp_bd _
  rw [if_neg e11] at h
  by_cases e12 : c = -12
  · rw [if_pos e12] at h
    cases h; exact clp_bd _
  rw [if_neg e12] at h
  by_cases e13 : c = -13
  · rw [if_pos e13] at h
    cases h; exact clp_bd _
  rw [if_neg e13] at h
  by_cases e14 : c = -14
  · rw [if_pos e14] at h
    cases h; exact flo_bd ha
  rw [if_neg e14] at h
  by_cases e15 : c = -15
  · rw [if_pos e15] at h
    cases h; exact bab _
  rw [if_neg e15] at h
  by_cases e16 : c = -16
  · rw [if_pos e16] at h
    cases h; exact bab _
  rw [if_neg e16] at h
  by_cases e17 : c = -17
  · rw [if_pos e17] at h
    cases h; exact b01 _
  rw [if_neg e17] at h
  by_cases e18 : c = -18
  · rw [if_pos e18] at h
    cases h; exact b01 _
  rw [if_neg e18] at h
  by_cases e19 : c = -19
  · rw [if_pos e19] at h
    cases h; exact b01 _
  rw [if_neg e19] at h
  by_cases e20 : c = -20
  · rw [if_pos e20] at h
    by_cases hh : (a = 0 ∨ a = 1) ∧ (b = 0 ∨ b = 1)
    · rw [if_pos hh] at h
      cases h
      unfold bdM
      rcases hh with ⟨rfl | rfl, rfl | rfl⟩ <;> omega
    · rw [if_neg hh] at h
      cases h
  rw [if_neg e20] at h
  by_cases e21 : c = -21
  · rw [if_pos e21] at h
    by_cases hh : (a = 0 ∨ a = 1) ∧ (b = 0 ∨ b = 1)
    · rw [if_pos hh] at h
      cases h; exact b01 _
    · rw [if_neg hh] at h
      cases h
  rw [if_neg e21] at h
  cases h
/-- one code; the pile's top is first; V: the values, Wf: a wish of a number -/
def stepV (V : Nat → Int) (Wf : Int → Int) (st : List Int) (c : Int32) : Option (List Int) :=
  if 0 ≤ c then some (c.toInt :: st) else if -10 ≤ c then some (V (-1 - c).toNatClampNeg :: st)
  else if -22 < c then (match st with
    | b :: a :: r => (match joinV c a b with
      | some v => some (v :: r)
      | none => none)
    | _ => none)
  else (match st with
    | a :: r => if c = -22 then (if a = 0 ∨ a = 1 then some ((1 - a) :: r) else none) else some (Wf a :: r)
    | [] => none)
def runV (V : Nat → Int) (Wf : Int → Int) : List Int → List Int32 → Option (List Int)
  | st, [] => some st
  | st, c :: cs => match stepV V Wf st c with
    | none => none
    | some st' => if st'.length ≤ 64 then runV V Wf st' cs else none
theorem stepV_bd {V : Nat → Int} {Wf : Int → Int} (hV : ∀ k, k < 10 → bdM (V k)) (hW : ∀ a, bdM (Wf a)) {st st' : List Int} {c : Int32} (hc : c.toInt ≤ 9999) (hs : ∀ x ∈ st, bdM x) (h : stepV V Wf st c = some st') : ∀ x ∈ st', bdM x := by
  unfold stepV at h
  split at h
  · next h0 =>
    cases h
    intro x hx
    rcases List.mem_cons.mp hx with rfl | hx
    · have := Int32.le_iff_toInt_le.mp h0
      rw [Int32.toInt_zero] at this
      exact ⟨by omega, by omega⟩
    · exact hs x hx
  split at h
  · next h0 h1 =>
    cases h
    intro x hx
    rcases List.mem_cons.mp hx with rfl | hx
    · refine hV _ ?_
      have g1 := Int32.le_iff_toInt_le.mp h1
      have g0 : c.toInt < 0 := by
        rw [Int32.le_iff_toInt_le, Int32.toInt_zero] at h0; omega
      have e10 : (-10 : Int32).toInt = -10 := rfl
      rw [e10] at g1
      have e : (-1 - c).toInt = -1 - c.toInt := by
        rw [Int32.toInt_sub, show (-1 : Int32).toInt = -1 from rfl]
        exact Int.bmod_eq_of_le (by omega) (by omega)
      show (-1 - c).toInt.toNat < 10
      rw [e]
      omega
    · exact hs x hx
  split at h
  · split at h
    · next b a r =>
      split at h
      · next v hv =>
        cases h
        intro x hx
        rcases List.mem_cons.mp hx with rfl | hx
        · exact joinV_bd (hs a (by simp)) (hs b (by simp)) hv
        · exact hs x (by simp [hx])
      · cases h
    · cases h
  · split at h
    · next a r =>
      split at h
      · split at h
        · next hh =>
          cases h
          intro x hx
          rcases List.mem_cons.mp hx with rfl | hx
          · unfold bdM
            rcases hh with rfl | rfl <;> omega
          · exact hs x (by simp [hx])
        · cases h
      · cases h
        intro x hx
        rcases List.mem_cons.mp hx with rfl | hx
        · exact hW _
        · exact hs x (by simp [hx])
    · cases h
