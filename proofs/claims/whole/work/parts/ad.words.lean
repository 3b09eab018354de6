/-- a part's number, by its word -/
def pIx (w : Int32) : Int32 := if w = nI 1 then 0 else if w = nI 2 then 1 else if w = nI 3 then 2 else if w = nI 11 then 3 else if w = nI 17 then 4 else if w = nI 18 then 5 else if w = nI 19 then 6 else if w = nI 20 then 7 else if w = nI 21 then 8 else if w = nI 4 then 9 else if w = nI 6 then 10 else -1
theorem wk_319 : wOK 319 1 := ⟨_, rfl, rfl, by decide⟩
theorem wk_320 : wOK 320 2 := ⟨_, rfl, rfl, by decide⟩
theorem wk_321 : wOK 321 3 := ⟨_, rfl, rfl, by decide⟩
theorem wk_322 : wOK 322 11 := ⟨_, rfl, rfl, by decide⟩
theorem wk_323 : wOK 323 17 := ⟨_, rfl, rfl, by decide⟩
theorem wk_324 : wOK 324 18 := ⟨_, rfl, rfl, by decide⟩
theorem wk_325 : wOK 325 19 := ⟨_, rfl, rfl, by decide⟩
theorem wk_326 : wOK 326 20 := ⟨_, rfl, rfl, by decide⟩
theorem wk_327 : wOK 327 21 := ⟨_, rfl, rfl, by decide⟩
theorem wk_328 : wOK 328 4 := ⟨_, rfl, rfl, by decide⟩
theorem wk_329 : wOK 329 6 := ⟨_, rfl, rfl, by decide⟩
theorem wk_313 : wOK 313 24 := ⟨_, rfl, rfl, by decide⟩
theorem wk_314 : wOK 314 23 := ⟨_, rfl, rfl, by decide⟩
theorem wk_315 : wOK 315 22 := ⟨_, rfl, rfl, by decide⟩
theorem wk_316 : wOK 316 25 := ⟨_, rfl, rfl, by decide⟩
theorem wk_317 : wOK 317 26 := ⟨_, rfl, rfl, by decide⟩
theorem wk_318 : wOK 318 27 := ⟨_, rfl, rfl, by decide⟩
theorem wk_307 : wOK 307 28 := ⟨_, rfl, rfl, by decide⟩
theorem wk_308 : wOK 308 29 := ⟨_, rfl, rfl, by decide⟩
theorem wk_309 : wOK 309 30 := ⟨_, rfl, rfl, by decide⟩
theorem wk_310 : wOK 310 31 := ⟨_, rfl, rfl, by decide⟩
theorem wk_311 : wOK 311 32 := ⟨_, rfl, rfl, by decide⟩
theorem wk_312 : wOK 312 33 := ⟨_, rfl, rfl, by decide⟩
theorem m_wordHere {t : Nat → Nat} {n q : Nat} {g : Bool} (N : Nat) (hN : 1700 ≤ N) {ν : z_S} (h : mA t n q g ν) : f_X12_qWordHere N ν = some (pIx (tkW t n q g), ν) := by
  have n10 : ¬ (1 : Int32) = 0 := by decide
  unfold f_X12_qWordHere pIx
  rw [show f_X12_isHere N 319 ν = _ from m_hereA N hN wk_319 h, z_bn_sm]
  by_cases h1 : tkW t n q g = nI 1
  · rw [if_pos h1, if_neg n10, if_pos h1]
  rw [if_neg h1, if_pos (show (0 : Int32) = 0 from rfl), if_neg h1]
  rw [show f_X12_isHere N 320 ν = _ from m_hereA N hN wk_320 h, z_bn_sm]
  by_cases h2 : tkW t n q g = nI 2
  · rw [if_pos h2, if_neg n10, if_pos h2]
  rw [if_neg h2, if_pos (show (0 : Int32) = 0 from rfl), if_neg h2]
  rw [show f_X12_isHere N 321 ν = _ from m_hereA N hN wk_321 h, z_bn_sm]
  by_cases h3 : tkW t n q g = nI 3
  · rw [if_pos h3, if_neg n10, if_pos h3]
  rw [if_neg h3, if_pos (show (0 : Int32) = 0 from rfl), if_neg h3]
  rw [show f_X12_isHere N 322 ν = _ from m_hereA N hN wk_322 h, z_bn_sm]
  by_cases h11 : tkW t n q g = nI 11
  · rw [if_pos h11, if_neg n10, if_pos h11]
  rw [if_neg h11, if_pos (show (0 : Int32) = 0 from rfl), if_neg h11]
  rw [show f_X12_isHere N 323 ν = _ from m_hereA N hN wk_323 h, z_bn_sm]
  by_cases h17 : tkW t n q g = nI 17
  · rw [if_pos h17, if_neg n10, if_pos h17]
  rw [if_neg h17, if_pos (show (0 : Int32) = 0 from rfl), if_neg h17]
  rw [show f_X12_isHere N 324 ν = _ from m_hereA N hN wk_324 h, z_bn_sm]
  by_cases h18 : tkW t n q g = nI 18
  · rw [if_pos h18, if_neg n10, if_pos h18]
  rw [if_neg h18, if_pos (show (0 : Int32) = 0 from rfl), if_neg h18]
  rw [show f_X12_isHere N 325 ν = _ from m_hereA N hN wk_325 h, z_bn_sm]
  by_cases h19 : tkW t n q g = nI 19
  · rw [if_pos h19, if_neg n10, if_pos h19]
  rw [if_neg h19, if_pos (show (0 : Int32) = 0 from rfl), if_neg h19]
  rw [show f_X12_isHere N 326 ν = _ from m_hereA N hN wk_326 h, z_bn_sm]
  by_cases h20 : tkW t n q g = nI 20
  · rw [if_pos h20, if_neg n10, if_pos h20]
  rw [if_neg h20, if_pos (show (0 : Int32) = 0 from rfl), if_neg h20]
  rw [show f_X12_isHere N 327 ν = _ from m_hereA N hN wk_327 h, z_bn_sm]
  by_cases h21 : tkW t n q g = nI 21
  · rw [if_pos h21, if_neg n10, if_pos h21]
  rw [if_neg h21, if_pos (show (0 : Int32) = 0 from rfl), if_neg h21]
  rw [show f_X12_isHere N 328 ν = _ from m_hereA N hN wk_328 h, z_bn_sm]
  by_cases h4 : tkW t n q g = nI 4
  · rw [if_pos h4, if_neg n10, if_pos h4]
  rw [if_neg h4, if_pos (show (0 : Int32) = 0 from rfl), if_neg h4]
  rw [show f_X12_isHere N 329 ν = _ from m_hereA N hN wk_329 h, z_bn_sm]
  by_cases h6 : tkW t n q g = nI 6
  · rw [if_pos h6, if_neg n10, if_pos h6]
  rw [if_neg h6, if_pos (show (0 : Int32) = 0 from rfl), if_neg h6]
/-- the part told by a word, in a heap's law or a question -/
def pPart (as : Bool) (w : Int32) : Int32 := if pIx w < 0 then -1 else if pIx w < 10 then (if as = true then (if pIx w = 3 then -1 else pIx w) else if pIx w < 6 then pIx w else -1) else -1
def pOf (as : Bool) (w : Int32) : Int32 := if pIx w < 10 then -1 else if pIx w < 11 then (if as = true then (if pIx w = 3 then -1 else pIx w) else if pIx w < 6 then pIx w else -1) else -1
theorem m_wordOf {t : Nat → Nat} {n q : Nat} {g as : Bool} (N : Nat) (hN : 1700 ≤ N) {ν : z_S} (h : mA t n q g ν) (hf : ν.1 253 53 = if as = true then 0 else 1) : f_X12_qWordOf N 0 10 ν = some (pPart as (tkW t n q g), ν) ∧ f_X12_qWordOf N 10 11 ν = some (pOf as (tkW t n q g), ν) := by
  unfold f_X12_qWordOf f_X12_isAllowed pPart pOf
  rw [m_wordHere N hN h, z_bn_sm, z_bn_sm, hf]
  generalize pIx (tkW t n q g) = x
  have n10 : ¬ (1 : Int32) = 0 := by decide
  have al : ∀ y : Int32, (z_bn (if (if as = true then (0 : Int32) else 1) = 0 then (if y = (3 : Int32) then (some ((0 : Int32), ν)) else some ((1 : Int32), ν)) else if y < (6 : Int32) then (some ((1 : Int32), ν)) else some ((0 : Int32), ν)) fun x2 μ_2 => if x2 = 0 then (some ((-1 : Int32), μ_2)) else some (y, μ_2)) = some ((if as = true then (if y = 3 then -1 else y) else if y < 6 then y else -1), ν) := fun y => by
    cases as with
    | true =>
      rw [if_pos (show (if true = true then (0 : Int32) else 1) = 0 from rfl), if_pos rfl]
      by_cases c : y = 3
      · rw [if_pos c, if_pos c, z_bn_sm, if_pos rfl]
      · rw [if_neg c, if_neg c, z_bn_sm, if_neg n10]
    | false =>
      rw [if_neg (show ¬ (if false = true then (0 : Int32) else 1) = 0 by decide), if_neg (by decide : ¬ false = true)]
      by_cases c : y < 6
      · rw [if_pos c, if_pos c, z_bn_sm, if_neg n10]
      · rw [if_neg c, if_neg c, z_bn_sm, if_pos rfl]
  constructor
  · by_cases c1 : x < 0
    · rw [if_pos c1, if_pos c1]
    · rw [if_neg c1, if_neg c1]
      by_cases c2 : x < 10
      · rw [if_pos c2, if_pos c2]; exact al x
      · rw [if_neg c2, if_neg c2]
  · by_cases c1 : x < 10
    · rw [if_pos c1, if_pos c1]
    · rw [if_neg c1, if_neg c1]
      by_cases c2 : x < 11
      · rw [if_pos c2, if_pos c2]; exact al x
      · rw [if_neg c2, if_neg c2]
theorem pIx_no {w : Int32} (h1 : ¬ w = nI 1) (h2 : ¬ w = nI 2) (h3 : ¬ w = nI 3) (h11 : ¬ w = nI 11) (h17 : ¬ w = nI 17) (h18 : ¬ w = nI 18) (h19 : ¬ w = nI 19) (h20 : ¬ w = nI 20) (h21 : ¬ w = nI 21) (h4 : ¬ w = nI 4) (h6 : ¬ w = nI 6) : pIx w = -1 := by
  unfold pIx
  rw [if_neg h1, if_neg h2, if_neg h3, if_neg h11, if_neg h17, if_neg h18, if_neg h19, if_neg h20, if_neg h21, if_neg h4, if_neg h6]
theorem c_value (as : Bool) (N : Nat) (w : Int32) (μ : z_S) : (if as = true then f_X9_questionValue N w μ else f_X9_heapValue N w μ) = some (pPart as w, μ) := by
  by_cases h1 : w = nI 1
  · rw [h1]; cases as <;> rfl
  by_cases h2 : w = nI 2
  · rw [h2]; cases as <;> rfl
  by_cases h3 : w = nI 3
  · rw [h3]; cases as <;> rfl
  by_cases h11 : w = nI 11
  · rw [h11]; cases as <;> rfl
  by_cases h17 : w = nI 17
  · rw [h17]; cases as <;> rfl
  by_cases h18 : w = nI 18
  · rw [h18]; cases as <;> rfl
  by_cases h19 : w = nI 19
  · rw [h19]; cases as <;> rfl
  by_cases h20 : w = nI 20
  · rw [h20]; cases as <;> rfl
  by_cases h21 : w = nI 21
  · rw [h21]; cases as <;> rfl
  by_cases h4 : w = nI 4
  · rw [h4]; cases as <;> rfl
  by_cases h6 : w = nI 6
  · rw [h6]; cases as <;> rfl
  have e : pPart as w = -1 := by
    unfold pPart
    rw [pIx_no h1 h2 h3 h11 h17 h18 h19 h20 h21 h4 h6, if_pos (by decide)]
  rw [e]
  have cv : f_X9_commonValue N w μ = some (-1, μ) := by
    unfold f_X9_commonValue
    rw [z_bd_eq, if_neg (show ¬ w = 1 from h1), if_neg (show ¬ w = 2 from h2), if_neg (show ¬ w = 3 from h3), if_neg (show ¬ w = 17 from h17), if_neg (show ¬ w = 18 from h18)]
  cases as with
  | true =>
    rw [if_pos rfl]
    unfold f_X9_questionValue
    rw [z_bd_eq, if_neg (show ¬ w = 4 from h4), if_neg (show ¬ w = 19 from h19), if_neg (show ¬ w = 20 from h20), if_neg (show ¬ w = 21 from h21), cv, z_bn_sm]
  | false =>
    rw [if_neg (by decide)]
    unfold f_X9_heapValue
    rw [if_neg (show ¬ w = 11 from h11), cv, z_bn_sm]
theorem pPart_is (as : Bool) (w : Int32) : pPart as w = -1 ∨ ∃ v k, v < 10 ∧ k < 34 ∧ pPart as w = nI v ∧ w = nI k ∧ pIx w = nI v ∧ (as = false → v < 6) ∧ ¬ w = nI 6 ∧ ¬ w = nI 26 ∧ ¬ w = nI 27 := by
  by_cases h1 : w = nI 1
  · rw [h1]; right; exact ⟨0, 1, by decide, by decide, by cases as <;> rfl, rfl, rfl, fun _ => by decide, by decide, by decide, by decide⟩
  by_cases h2 : w = nI 2
  · rw [h2]; right; exact ⟨1, 2, by decide, by decide, by cases as <;> rfl, rfl, rfl, fun _ => by decide, by decide, by decide, by decide⟩
  by_cases h3 : w = nI 3
  · rw [h3]; right; exact ⟨2, 3, by decide, by decide, by cases as <;> rfl, rfl, rfl, fun _ => by decide, by decide, by decide, by decide⟩
  by_cases h11 : w = nI 11
  · rw [h11]
    cases as with
    | true => left; rfl
    | false => exact Or.inr ⟨3, 11, by decide, by decide, rfl, rfl, rfl, fun _ => by decide, by decide, by decide, by decide⟩
  by_cases h17 : w = nI 17
  · rw [h17]; right; exact ⟨4, 17, by decide, by decide, by cases as <;> rfl, rfl, rfl, fun _ => by decide, by decide, by decide, by decide⟩
  by_cases h18 : w = nI 18
  · rw [h18]; right; exact ⟨5, 18, by decide, by decide, by cases as <;> rfl, rfl, rfl, fun _ => by decide, by decide, by decide, by decide⟩
  by_cases h19 : w = nI 19
  · rw [h19]
    cases as with
    | false => left; rfl
    | true => exact Or.inr ⟨6, 19, by decide, by decide, rfl, rfl, rfl, (fun z => absurd z (by decide)), by decide, by decide, by decide⟩
  by_cases h20 : w = nI 20
  · rw [h20]
    cases as with
    | false => left; rfl
    | true => exact Or.inr ⟨7, 20, by decide, by decide, rfl, rfl, rfl, (fun z => absurd z (by decide)), by decide, by decide, by decide⟩
  by_cases h21 : w = nI 21
  · rw [h21]
    cases as with
    | false => left; rfl
    | true => exact Or.inr ⟨8, 21, by decide, by decide, rfl, rfl, rfl, (fun z => absurd z (by decide)), by decide, by decide, by decide⟩
  by_cases h4 : w = nI 4
  · rw [h4]
    cases as with
    | false => left; rfl
    | true => exact Or.inr ⟨9, 4, by decide, by decide, rfl, rfl, rfl, (fun z => absurd z (by decide)), by decide, by decide, by decide⟩
  by_cases h6 : w = nI 6
  · left; rw [h6]; cases as <;> rfl
  left
  unfold pPart
  rw [pIx_no h1 h2 h3 h11 h17 h18 h19 h20 h21 h4 h6, if_pos (by decide)]
theorem pOf_is (as : Bool) (w : Int32) : pOf as w = if as = true ∧ w = nI 6 then 10 else -1 := by
  by_cases h1 : w = nI 1
  · rw [h1]; cases as <;> rfl
  by_cases h2 : w = nI 2
  · rw [h2]; cases as <;> rfl
  by_cases h3 : w = nI 3
  · rw [h3]; cases as <;> rfl
  by_cases h11 : w = nI 11
  · rw [h11]; cases as <;> rfl
  by_cases h17 : w = nI 17
  · rw [h17]; cases as <;> rfl
  by_cases h18 : w = nI 18
  · rw [h18]; cases as <;> rfl
  by_cases h19 : w = nI 19
  · rw [h19]; cases as <;> rfl
  by_cases h20 : w = nI 20
  · rw [h20]; cases as <;> rfl
  by_cases h21 : w = nI 21
  · rw [h21]; cases as <;> rfl
  by_cases h4 : w = nI 4
  · rw [h4]; cases as <;> rfl
  by_cases h6 : w = nI 6
  · rw [h6]; cases as <;> rfl
  rw [if_neg (fun z => h6 z.2)]
  unfold pOf
  rw [pIx_no h1 h2 h3 h11 h17 h18 h19 h20 h21 h4 h6, if_pos (by decide)]
