/-! what a sum tells is a formula -/
theorem i32_le {a b : Int32} : a ≤ b ↔ a.toInt ≤ b.toInt := Int32.le_iff_toInt_le
theorem step_c {V : Nat → Int} {Wf : Int → Int} {st s : List Int} {c : Int32} (hc : -23 ≤ c) (h : stepV V Wf st c = some s) : cStep st.length c = some s.length := by
  have e23 : (-23 : Int32).toInt = -23 := rfl
  have e22 : (-22 : Int32).toInt = -22 := rfl
  have e21 : (-21 : Int32).toInt = -21 := rfl
  have e10 : (-10 : Int32).toInt = -10 := rfl
  have e0 : (0 : Int32).toInt = 0 := rfl
  rw [i32_le, e23] at hc
  unfold stepV at h
  unfold cStep
  by_cases c0 : 0 ≤ c
  · rw [if_pos c0] at h
    rw [i32_le, e0] at c0
    rw [if_pos (by rw [i32_le, e10]; omega)]
    cases h
    rw [List.length_cons]
  · rw [if_neg c0] at h
    by_cases c1 : -10 ≤ c
    · rw [if_pos c1] at h
      rw [if_pos c1]
      cases h
      rw [List.length_cons]
    · rw [if_neg c1] at h
      rw [if_neg c1]
      rw [i32_le, e10] at c1
      by_cases c2 : -22 < c
      · rw [if_pos c2] at h
        rw [Int32.lt_iff_toInt_lt, e22] at c2
        have n22 : ¬ (c = -22 ∨ c = -23) := fun z => by
          rcases z with z | z
          · rw [z, e22] at c2; omega
          · rw [z, e23] at c2; omega
        rw [if_neg n22, if_pos (by rw [i32_le, e21]; omega)]
        match st, h with
        | b :: a :: r, h =>
          cases hj : joinV c a b with
          | none =>
            have h' : (match joinV c a b with
              | some v => some (v :: r)
              | none => none) = some s := h
            rw [hj] at h'
            cases h'
          | some v =>
            have h' : (match joinV c a b with
              | some v => some (v :: r)
              | none => none) = some s := h
            rw [hj] at h'
            cases h'
            rw [if_pos (by rw [List.length_cons, List.length_cons]; omega), List.length_cons, List.length_cons, List.length_cons]
            rfl
      · rw [if_neg c2] at h
        rw [Int32.lt_iff_toInt_lt, e22] at c2
        have y22 : c = -22 ∨ c = -23 := by
          have : c.toInt = -22 ∨ c.toInt = -23 := by omega
          rcases this with z | z
          · left; exact Int32.toInt_inj.mp (z.trans e22.symm)
          · right; exact Int32.toInt_inj.mp (z.trans e23.symm)
        rw [if_pos y22]
        match st, h with
        | a :: r, h =>
          rw [if_pos (by rw [List.length_cons]; omega)]
          have h' : (if c = -22 then (if a = 0 ∨ a = 1 then some ((1 - a) :: r) else none) else some (Wf a :: r)) = some s := h
          by_cases d : c = -22
          · rw [if_pos d] at h'
            by_cases d2 : a = 0 ∨ a = 1
            · rw [if_pos d2] at h'
              cases h'
              rw [List.length_cons, List.length_cons]
            · rw [if_neg d2] at h'
              cases h'
          · rw [if_neg d] at h'
            cases h'
            rw [List.length_cons, List.length_cons]
theorem run_c {V : Nat → Int} {Wf : Int → Int} : ∀ (cs : List Int32) (st s : List Int), (∀ c ∈ cs, -23 ≤ c) → runV V Wf st cs = some s → cRun 64 st.length cs = some s.length
  | [], st, s, _, h => by
    cases h
    rfl
  | c :: cs, st, s, hc, h => by
    have h' : (match stepV V Wf st c with
      | none => none
      | some st' => if st'.length ≤ 64 then runV V Wf st' cs else none) = some s := h
    cases hs : stepV V Wf st c with
    | none =>
      rw [hs] at h'
      cases h'
    | some s1 =>
      rw [hs] at h'
      have h2 : (if s1.length ≤ 64 then runV V Wf s1 cs else none) = some s := h'
      have e := step_c (hc c (List.mem_cons_self)) hs
      show (match cStep st.length c with
        | none => none
        | some d' => if d' ≤ 64 then cRun 64 d' cs else none) = _
      rw [e]
      show (if s1.length ≤ 64 then cRun 64 s1.length cs else none) = _
      by_cases d : s1.length ≤ 64
      · rw [if_pos d] at h2
        rw [if_pos d]
        exact run_c cs s1 s (fun x hx => hc x (List.mem_cons_of_mem _ hx)) h2
      · rw [if_neg d] at h2
        cases h2
theorem okF_of {cs : List Int32} (h : numC 22 cs) (ho : ∀ c ∈ cs, okc false c) : okF cs := by
  obtain ⟨v, hv⟩ := h (fun _ => 0) (fun _ => 0) [] (by show 0 + 22 ≤ 64; omega)
  have := run_c cs [] [v] (fun c hc => (ho c hc).1) hv
  exact ⟨⟨this, fun c hc => ⟨(ho c hc).1, (ho c hc).2.1⟩⟩, fun c hc => (ho c hc).2.2.1 rfl⟩
