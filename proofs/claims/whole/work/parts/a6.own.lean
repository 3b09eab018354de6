theorem wk_own : ∀ k, k < 28 → wOK (256 + k) k := by
  intro k hk
  have h : k = 0 ∨ k = 1 ∨ k = 2 ∨ k = 3 ∨ k = 4 ∨ k = 5 ∨ k = 6 ∨ k = 7 ∨ k = 8 ∨ k = 9 ∨ k = 10 ∨ k = 11 ∨ k = 12 ∨ k = 13 ∨ k = 14 ∨ k = 15 ∨ k = 16 ∨ k = 17 ∨ k = 18 ∨ k = 19 ∨ k = 20 ∨ k = 21 ∨ k = 22 ∨ k = 23 ∨ k = 24 ∨ k = 25 ∨ k = 26 ∨ k = 27 := by omega
  rcases h with rfl | rfl | rfl | rfl | rfl | rfl | rfl | rfl | rfl | rfl | rfl | rfl | rfl | rfl | rfl | rfl | rfl | rfl | rfl | rfl | rfl | rfl | rfl | rfl | rfl | rfl | rfl | rfl
  all_goals exact ⟨_, rfl, rfl, by decide⟩
theorem own_B299 (N : Nat) (ν : z_S) : f_X12_isOwnHere_B299 N 1 ν = some (1, ν) := rfl
theorem own_B223 (N : Nat) (ν : z_S) : f_X12_isOwnHere_B223 N 1 ν = some (1, ν) := rfl
theorem own_B147 (N : Nat) (ν : z_S) : f_X12_isOwnHere_B147 N 1 ν = some (1, ν) := rfl
theorem own_B71 (N : Nat) (ν : z_S) : f_X12_isOwnHere_B71 N 1 ν = some (1, ν) := rfl
theorem tkW_is {t : Nat → Nat} {n q : Nat} {g : Bool} : tkW t n q g = -1 ∨ ∃ k, k < 34 ∧ tkW t n q g = nI k := by
  unfold tkW
  split
  · exact Or.inl rfl
  · split
    · split
      · exact Or.inl rfl
      · rcases wixG_is wordsL 0 (lts t q (tkE t n q - q)) with y | ⟨i, y1, y2⟩
        · exact Or.inl y
        · exact Or.inr ⟨i, (List.getElem?_eq_some_iff.mp y1).1, by rw [show wix (lts t q (tkE t n q - q)) = _ from y2, Nat.zero_add]⟩
    · exact Or.inl rfl
theorem isOwn_k {k : Nat} (h : k < 28) : isOwn (nI k) := ⟨nI_nm1 (by omega), nI_lt (b := 28) h (by decide)⟩
theorem m_own {t : Nat → Nat} {n q : Nat} {g : Bool} (N : Nat) (hN : 1700 ≤ N) {ν : z_S} (h : mA t n q g ν) : ∃ b, f_X12_isOwnHere N ν = some (b, ν) ∧ ((b = 1 ∧ isOwn (tkW t n q g)) ∨ (b = 0 ∧ ¬ isOwn (tkW t n q g))) := by
  have e : ∀ k, k < 28 → f_X12_isHere N (256 + k) ν = some (if tkW t n q g = nI k then 1 else 0, ν) := fun k hk => m_hereA N hN (wk_own k hk) h
  have yes : ∀ k, k < 28 → tkW t n q g = nI k → ∃ b, (some ((1 : Int32), ν) : Option (Int32 × z_S)) = some (b, ν) ∧ ((b = 1 ∧ isOwn (tkW t n q g)) ∨ (b = 0 ∧ ¬ isOwn (tkW t n q g))) := fun k hk z => ⟨1, rfl, Or.inl ⟨rfl, by rw [z]; exact isOwn_k hk⟩⟩
  unfold f_X12_isOwnHere
  rw [show f_X12_isHere N 256 ν = _ from e 0 (by decide), z_bn_sm]
  by_cases h0 : tkW t n q g = nI 0
  · rw [if_pos h0, if_neg (show ¬ (1 : Int32) = 0 by decide)]
    exact yes 0 (by decide) h0
  rw [if_neg h0, if_pos (show (0 : Int32) = 0 from rfl)]
  rw [show f_X12_isHere N 257 ν = _ from e 1 (by decide), z_bn_sm]
  by_cases h1 : tkW t n q g = nI 1
  · rw [if_pos h1, if_neg (show ¬ (1 : Int32) = 0 by decide)]
    exact yes 1 (by decide) h1
  rw [if_neg h1, if_pos (show (0 : Int32) = 0 from rfl)]
  rw [show f_X12_isHere N 258 ν = _ from e 2 (by decide), z_bn_sm]
  by_cases h2 : tkW t n q g = nI 2
  · rw [if_pos h2, if_neg (show ¬ (1 : Int32) = 0 by decide)]
    exact yes 2 (by decide) h2
  rw [if_neg h2, if_pos (show (0 : Int32) = 0 from rfl)]
  rw [show f_X12_isHere N 259 ν = _ from e 3 (by decide), z_bn_sm]
  by_cases h3 : tkW t n q g = nI 3
  · rw [if_pos h3, if_neg (show ¬ (1 : Int32) = 0 by decide)]
    exact yes 3 (by decide) h3
  rw [if_neg h3, if_pos (show (0 : Int32) = 0 from rfl)]
  rw [show f_X12_isHere N 260 ν = _ from e 4 (by decide), z_bn_sm]
  by_cases h4 : tkW t n q g = nI 4
  · rw [if_pos h4, if_neg (show ¬ (1 : Int32) = 0 by decide)]
    exact yes 4 (by decide) h4
  rw [if_neg h4, if_pos (show (0 : Int32) = 0 from rfl)]
  rw [show f_X12_isHere N 261 ν = _ from e 5 (by decide), z_bn_sm]
  by_cases h5 : tkW t n q g = nI 5
  · rw [if_pos h5, if_neg (show ¬ (1 : Int32) = 0 by decide)]
    exact yes 5 (by decide) h5
  rw [if_neg h5, if_pos (show (0 : Int32) = 0 from rfl)]
  unfold f_X12_isOwnHere_B71
  rw [if_pos (show (0 : Int32) = 0 from rfl)]
  rw [show f_X12_isHere N 262 ν = _ from e 6 (by decide), z_bn_sm]
  by_cases h6 : tkW t n q g = nI 6
  · rw [if_pos h6, if_neg (show ¬ (1 : Int32) = 0 by decide)]
    exact yes 6 (by decide) h6
  rw [if_neg h6, if_pos (show (0 : Int32) = 0 from rfl)]
  rw [show f_X12_isHere N 263 ν = _ from e 7 (by decide), z_bn_sm]
  by_cases h7 : tkW t n q g = nI 7
  · rw [if_pos h7, if_neg (show ¬ (1 : Int32) = 0 by decide)]
    exact yes 7 (by decide) h7
  rw [if_neg h7, if_pos (show (0 : Int32) = 0 from rfl)]
  rw [show f_X12_isHere N 264 ν = _ from e 8 (by decide), z_bn_sm]
  by_cases h8 : tkW t n q g = nI 8
  · rw [if_pos h8, if_neg (show ¬ (1 : Int32) = 0 by decide)]
    exact yes 8 (by decide) h8
  rw [if_neg h8, if_pos (show (0 : Int32) = 0 from rfl)]
  rw [show f_X12_isHere N 265 ν = _ from e 9 (by decide), z_bn_sm]
  by_cases h9 : tkW t n q g = nI 9
  · rw [if_pos h9, if_neg (show ¬ (1 : Int32) = 0 by decide)]
    exact yes 9 (by decide) h9
  rw [if_neg h9, if_pos (show (0 : Int32) = 0 from rfl)]
  rw [show f_X12_isHere N 266 ν = _ from e 10 (by decide), z_bn_sm]
  by_cases h10 : tkW t n q g = nI 10
  · rw [if_pos h10, if_neg (show ¬ (1 : Int32) = 0 by decide)]
    exact yes 10 (by decide) h10
  rw [if_neg h10, if_pos (show (0 : Int32) = 0 from rfl)]
  rw [show f_X12_isHere N 267 ν = _ from e 11 (by decide), z_bn_sm]
  by_cases h11 : tkW t n q g = nI 11
  · rw [if_pos h11, if_neg (show ¬ (1 : Int32) = 0 by decide)]
    exact yes 11 (by decide) h11
  rw [if_neg h11, if_pos (show (0 : Int32) = 0 from rfl)]
  unfold f_X12_isOwnHere_B147
  rw [if_pos (show (0 : Int32) = 0 from rfl)]
  rw [show f_X12_isHere N 268 ν = _ from e 12 (by decide), z_bn_sm]
  by_cases h12 : tkW t n q g = nI 12
  · rw [if_pos h12, if_neg (show ¬ (1 : Int32) = 0 by decide)]
    exact yes 12 (by decide) h12
  rw [if_neg h12, if_pos (show (0 : Int32) = 0 from rfl)]
  rw [show f_X12_isHere N 269 ν = _ from e 13 (by decide), z_bn_sm]
  by_cases h13 : tkW t n q g = nI 13
  · rw [if_pos h13, if_neg (show ¬ (1 : Int32) = 0 by decide)]
    exact yes 13 (by decide) h13
  rw [if_neg h13, if_pos (show (0 : Int32) = 0 from rfl)]
  rw [show f_X12_isHere N 270 ν = _ from e 14 (by decide), z_bn_sm]
  by_cases h14 : tkW t n q g = nI 14
  · rw [if_pos h14, if_neg (show ¬ (1 : Int32) = 0 by decide)]
    exact yes 14 (by decide) h14
  rw [if_neg h14, if_pos (show (0 : Int32) = 0 from rfl)]
  rw [show f_X12_isHere N 271 ν = _ from e 15 (by decide), z_bn_sm]
  by_cases h15 : tkW t n q g = nI 15
  · rw [if_pos h15, if_neg (show ¬ (1 : Int32) = 0 by decide)]
    exact yes 15 (by decide) h15
  rw [if_neg h15, if_pos (show (0 : Int32) = 0 from rfl)]
  rw [show f_X12_isHere N 272 ν = _ from e 16 (by decide), z_bn_sm]
  by_cases h16 : tkW t n q g = nI 16
  · rw [if_pos h16, if_neg (show ¬ (1 : Int32) = 0 by decide)]
    exact yes 16 (by decide) h16
  rw [if_neg h16, if_pos (show (0 : Int32) = 0 from rfl)]
  rw [show f_X12_isHere N 273 ν = _ from e 17 (by decide), z_bn_sm]
  by_cases h17 : tkW t n q g = nI 17
  · rw [if_pos h17, if_neg (show ¬ (1 : Int32) = 0 by decide)]
    exact yes 17 (by decide) h17
  rw [if_neg h17, if_pos (show (0 : Int32) = 0 from rfl)]
  unfold f_X12_isOwnHere_B223
  rw [if_pos (show (0 : Int32) = 0 from rfl)]
  rw [show f_X12_isHere N 274 ν = _ from e 18 (by decide), z_bn_sm]
  by_cases h18 : tkW t n q g = nI 18
  · rw [if_pos h18, if_neg (show ¬ (1 : Int32) = 0 by decide)]
    exact yes 18 (by decide) h18
  rw [if_neg h18, if_pos (show (0 : Int32) = 0 from rfl)]
  rw [show f_X12_isHere N 275 ν = _ from e 19 (by decide), z_bn_sm]
  by_cases h19 : tkW t n q g = nI 19
  · rw [if_pos h19, if_neg (show ¬ (1 : Int32) = 0 by decide)]
    exact yes 19 (by decide) h19
  rw [if_neg h19, if_pos (show (0 : Int32) = 0 from rfl)]
  rw [show f_X12_isHere N 276 ν = _ from e 20 (by decide), z_bn_sm]
  by_cases h20 : tkW t n q g = nI 20
  · rw [if_pos h20, if_neg (show ¬ (1 : Int32) = 0 by decide)]
    exact yes 20 (by decide) h20
  rw [if_neg h20, if_pos (show (0 : Int32) = 0 from rfl)]
  rw [show f_X12_isHere N 277 ν = _ from e 21 (by decide), z_bn_sm]
  by_cases h21 : tkW t n q g = nI 21
  · rw [if_pos h21, if_neg (show ¬ (1 : Int32) = 0 by decide)]
    exact yes 21 (by decide) h21
  rw [if_neg h21, if_pos (show (0 : Int32) = 0 from rfl)]
  rw [show f_X12_isHere N 278 ν = _ from e 22 (by decide), z_bn_sm]
  by_cases h22 : tkW t n q g = nI 22
  · rw [if_pos h22, if_neg (show ¬ (1 : Int32) = 0 by decide)]
    exact yes 22 (by decide) h22
  rw [if_neg h22, if_pos (show (0 : Int32) = 0 from rfl)]
  rw [show f_X12_isHere N 279 ν = _ from e 23 (by decide), z_bn_sm]
  by_cases h23 : tkW t n q g = nI 23
  · rw [if_pos h23, if_neg (show ¬ (1 : Int32) = 0 by decide)]
    exact yes 23 (by decide) h23
  rw [if_neg h23, if_pos (show (0 : Int32) = 0 from rfl)]
  unfold f_X12_isOwnHere_B299
  rw [if_pos (show (0 : Int32) = 0 from rfl)]
  rw [show f_X12_isHere N 280 ν = _ from e 24 (by decide), z_bn_sm]
  by_cases h24 : tkW t n q g = nI 24
  · rw [if_pos h24, if_neg (show ¬ (1 : Int32) = 0 by decide)]
    exact yes 24 (by decide) h24
  rw [if_neg h24, if_pos (show (0 : Int32) = 0 from rfl)]
  rw [show f_X12_isHere N 281 ν = _ from e 25 (by decide), z_bn_sm]
  by_cases h25 : tkW t n q g = nI 25
  · rw [if_pos h25, if_neg (show ¬ (1 : Int32) = 0 by decide)]
    exact yes 25 (by decide) h25
  rw [if_neg h25, if_pos (show (0 : Int32) = 0 from rfl)]
  rw [show f_X12_isHere N 282 ν = _ from e 26 (by decide), z_bn_sm]
  by_cases h26 : tkW t n q g = nI 26
  · rw [if_pos h26, if_neg (show ¬ (1 : Int32) = 0 by decide)]
    exact yes 26 (by decide) h26
  rw [if_neg h26, if_pos (show (0 : Int32) = 0 from rfl)]
  rw [show f_X12_isHere N 283 ν = _ from e 27 (by decide), z_bn_sm]
  by_cases h27 : tkW t n q g = nI 27
  · rw [if_pos h27, if_neg (show ¬ (1 : Int32) = 0 by decide)]
    exact yes 27 (by decide) h27
  rw [if_neg h27, if_pos (show (0 : Int32) = 0 from rfl)]
  refine ⟨0, rfl, Or.inr ⟨rfl, fun z => ?_⟩⟩
  rcases tkW_is (t := t) (n := n) (q := q) (g := g) with y | ⟨k, k1, y⟩
  · exact z.1 y
  · have k28 : k < 28 := by
      rcases Nat.lt_or_ge k 28 with w | w
      · exact w
      · have z2 := z.2
        rw [y] at z2
        exact absurd z2 (nI_nlt (b := 28) w (by omega))
    have hk : k = 0 ∨ k = 1 ∨ k = 2 ∨ k = 3 ∨ k = 4 ∨ k = 5 ∨ k = 6 ∨ k = 7 ∨ k = 8 ∨ k = 9 ∨ k = 10 ∨ k = 11 ∨ k = 12 ∨ k = 13 ∨ k = 14 ∨ k = 15 ∨ k = 16 ∨ k = 17 ∨ k = 18 ∨ k = 19 ∨ k = 20 ∨ k = 21 ∨ k = 22 ∨ k = 23 ∨ k = 24 ∨ k = 25 ∨ k = 26 ∨ k = 27 := by omega
    rcases hk with rfl | rfl | rfl | rfl | rfl | rfl | rfl | rfl | rfl | rfl | rfl | rfl | rfl | rfl | rfl | rfl | rfl | rfl | rfl | rfl | rfl | rfl | rfl | rfl | rfl | rfl | rfl | rfl
    · exact h0 y
    · exact h1 y
    · exact h2 y
    · exact h3 y
    · exact h4 y
    · exact h5 y
    · exact h6 y
    · exact h7 y
    · exact h8 y
    · exact h9 y
    · exact h10 y
    · exact h11 y
    · exact h12 y
    · exact h13 y
    · exact h14 y
    · exact h15 y
    · exact h16 y
    · exact h17 y
    · exact h18 y
    · exact h19 y
    · exact h20 y
    · exact h21 y
    · exact h22 y
    · exact h23 y
    · exact h24 y
    · exact h25 y
    · exact h26 y
    · exact h27 y
