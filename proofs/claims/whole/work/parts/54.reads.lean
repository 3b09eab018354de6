/-! small indices -/
theorem ix1 (a l : Nat) : nI a + nI l = nI (a + l) := nI_add a l
theorem ix2 (a b l : Nat) : nI a + nI b * nI l = nI (a + b * l) := by rw [pk_mul, nI_add]
theorem ix3 (a b l w : Nat) : nI a + nI b * nI l + nI w = nI (a + b * l + w) := by rw [pk_mul, nI_add, nI_add]
theorem i64 (x : Int32) : x.toInt64.toInt = x.toInt := Int32.toInt_toInt64 x
theorem c_isL {A : aS} {μ : z_S} (ok : okS A) (h : cS A μ) (N : Nat) (w : Int32) : f_X11_isLetter N w μ = some (if 0 ≤ w.toInt ∧ w.toInt < hCnt (sH A) 0 then 1 else 0, μ) := by
  unfold f_X11_isLetter
  have e := h.2.2.2.2.2.2.2.1.1 0 (by decide)
  have hk := ok.2.2.1.1
  rw [e]
  simp only [Int32.lt_iff_toInt_lt, nI_toInt (show hCnt (sH A) 0 < 2 ^ 31 by omega), Int32.toInt_zero]
  by_cases h0 : w.toInt < 0
  · rw [if_pos h0, if_neg (by omega)]
  · rw [if_neg h0]
    by_cases h1 : w.toInt < hCnt (sH A) 0
    · rw [if_pos h1, if_pos (by omega)]
    · rw [if_neg h1, if_neg (by omega)]
theorem c_isG {A : aS} {μ : z_S} (ok : okS A) (h : cS A μ) (N : Nat) (w : Int32) : f_X11_isGift N w μ = some (if 0 ≤ w.toInt ∧ w.toInt < hCnt (sH A) 1 then 1 else 0, μ) := by
  unfold f_X11_isGift
  have e := h.2.2.2.2.2.2.2.1.1 1 (by decide)
  have hk := ok.2.2.1.2.1
  rw [e]
  simp only [Int32.lt_iff_toInt_lt, nI_toInt (show hCnt (sH A) 1 < 2 ^ 31 by omega), Int32.toInt_zero]
  by_cases h0 : w.toInt < 0
  · rw [if_pos h0, if_neg (by omega)]
  · rw [if_neg h0]
    by_cases h1 : w.toInt < hCnt (sH A) 1
    · rw [if_pos h1, if_pos (by omega)]
    · rw [if_neg h1, if_neg (by omega)]
theorem c_isH {A : aS} {μ : z_S} (ok : okS A) (h : cS A μ) (N : Nat) (w : Int32) : f_X11_isHelper N w μ = some (if 0 ≤ w.toInt ∧ w.toInt < hCnt (sH A) 2 then 1 else 0, μ) := by
  unfold f_X11_isHelper
  have e := h.2.2.2.2.2.2.2.1.1 2 (by decide)
  have hk := ok.2.2.1.2.2.1
  rw [e]
  simp only [Int32.lt_iff_toInt_lt, nI_toInt (show hCnt (sH A) 2 < 2 ^ 31 by omega), Int32.toInt_zero]
  by_cases h0 : w.toInt < 0
  · rw [if_pos h0, if_neg (by omega)]
  · rw [if_neg h0]
    by_cases h1 : w.toInt < hCnt (sH A) 2
    · rw [if_pos h1, if_pos (by omega)]
    · rw [if_neg h1, if_neg (by omega)]
theorem m_isIn (N : Nat) (a b c : Int64) (ν : z_S) : f_X12_isIn N a b c ν = some (if b.toInt ≤ a.toInt ∧ a.toInt ≤ c.toInt then 1 else 0, ν) := by
  unfold f_X12_isIn
  simp only [Int64.lt_iff_toInt_lt]
  by_cases h0 : a.toInt < b.toInt
  · rw [if_pos h0, if_neg (by omega)]
  · rw [if_neg h0]
    by_cases h1 : c.toInt < a.toInt
    · rw [if_pos h1, if_neg (by omega)]
    · rw [if_neg h1, if_pos (by omega)]
theorem ifzb {c : Prop} [Decidable c] : (if c then (1 : Int32) else 0) = 0 ∨ (if c then (1 : Int32) else 0) = 1 := by
  by_cases h : c
  · rw [if_pos h]; exact Or.inr rfl
  · rw [if_neg h]; exact Or.inl rfl
theorem m_many {n : Nat} (hn : n < 2 ^ 30) : (nI n - 1).toInt64.toInt = (n : Int) - 1 := by
  rw [i64]
  have e : nI n - nI 1 = nI n - (1 : Int32) := rfl
  rw [← e, pk_sub_toInt hn (by decide)]
  rfl
theorem m_isL {A : aS} {ν : z_S} (ok : okS A) (h : mS A ν) (N : Nat) (w : Int32) : f_X12_isMail N w ν = some (if 0 ≤ w.toInt ∧ w.toInt < hCnt (sH A) 0 then 1 else 0, ν) := by
  unfold f_X12_isMail f_X12_letterMany
  have e := h.2.2.2.2.2.2.1.1 0 (by decide)
  have hk := ok.2.2.1.1
  rw [z_bn_sm, e, m_isIn, z_bn_sm, i64, m_many (show hCnt (sH A) 0 < 2 ^ 30 by omega), z_zb_ok ifzb]
  have e0 : (0 : Int64).toInt = 0 := rfl
  rw [e0]
  congr 2
  by_cases h1 : 0 ≤ w.toInt ∧ w.toInt < hCnt (sH A) 0
  · rw [if_pos h1, if_pos (by omega)]
  · rw [if_neg h1, if_neg (by omega)]
theorem m_isG {A : aS} {ν : z_S} (ok : okS A) (h : mS A ν) (N : Nat) (w : Int32) : f_X12_isGift N w ν = some (if 0 ≤ w.toInt ∧ w.toInt < hCnt (sH A) 1 then 1 else 0, ν) := by
  unfold f_X12_isGift f_X12_giftMany
  have e := h.2.2.2.2.2.2.1.1 1 (by decide)
  have hk := ok.2.2.1.2.1
  rw [z_bn_sm, e, m_isIn, z_bn_sm, i64, m_many (show hCnt (sH A) 1 < 2 ^ 30 by omega), z_zb_ok ifzb]
  have e0 : (0 : Int64).toInt = 0 := rfl
  rw [e0]
  congr 2
  by_cases h1 : 0 ≤ w.toInt ∧ w.toInt < hCnt (sH A) 1
  · rw [if_pos h1, if_pos (by omega)]
  · rw [if_neg h1, if_neg (by omega)]
theorem m_isH {A : aS} {ν : z_S} (ok : okS A) (h : mS A ν) (N : Nat) (w : Int32) : f_X12_isHelper N w ν = some (if 0 ≤ w.toInt ∧ w.toInt < hCnt (sH A) 2 then 1 else 0, ν) := by
  unfold f_X12_isHelper f_X12_helperMany
  have e := h.2.2.2.2.2.2.1.1 2 (by decide)
  have hk := ok.2.2.1.2.2.1
  rw [z_bn_sm, e, m_isIn, z_bn_sm, i64, m_many (show hCnt (sH A) 2 < 2 ^ 30 by omega), z_zb_ok ifzb]
  have e0 : (0 : Int64).toInt = 0 := rfl
  rw [e0]
  congr 2
  by_cases h1 : 0 ≤ w.toInt ∧ w.toInt < hCnt (sH A) 2
  · rw [if_pos h1, if_pos (by omega)]
  · rw [if_neg h1, if_neg (by omega)]
/-- an int within is a small number -/
theorem small {w : Int32} {n : Nat} (h : 0 ≤ w.toInt ∧ w.toInt < n) (hn : n < 2 ^ 31) : ∃ k : Nat, k < n ∧ w = nI k := vp_in_of (vp_in_iff.mpr h) hn
/-! all wishes of a letter -/
def wAll (h : aH) (l : Nat) : Nat → Nat
  | 0 => 0
  | g + 1 => wAll h l g + hWish h l g
theorem wAll_le {h : aH} (ok : okH h) (l : Nat) : ∀ g, wAll h l g ≤ 9 * g
  | 0 => Nat.le_refl 0
  | g + 1 => by
    have h1 := wAll_le ok l g
    have h2 := ok.2.2.2.2.2.2.2.1 l g
    show wAll h l g + hWish h l g ≤ _
    omega
theorem c_wishes {A : aS} {μ : z_S} (ok : okS A) (o : Nat) (hko : z_kw true o = (2, 0)) (h : cH o (sH A) μ) (N : Nat) (hN : 5 ≤ N) {l : Nat} (hl : l < 8) : f_X2_allWishes N o (nI l) μ = some (nI (wAll (sH A) l (hCnt (sH A) 1)), μ) := by
  have hg := ok.2.2.1.2.1
  have key : ∀ n g, g ≤ hCnt (sH A) 1 → hCnt (sH A) 1 - g < n → f_X2_allWishes_L4 N o (nI l) n (nI (wAll (sH A) l g)) (nI g) μ = some (nI (wAll (sH A) l (hCnt (sH A) 1)), μ) := by
    intro n
    induction n with
    | zero => intro g h1 h2; omega
    | succ n ih =>
      intro g h1 h2
      show b_X2_allWishes_L4 N o (nI l) (f_X2_allWishes_L4 N o (nI l) n) (nI (wAll (sH A) l g)) (nI g) μ = _
      unfold b_X2_allWishes_L4
      rw [h.1 1 (by decide)]
      by_cases hlt : g < hCnt (sH A) 1
      · rw [if_pos (nI_lt hlt (by omega)), z_in_nI hl (by decide), z_in_nI (show g < 4 by omega) (by decide), nI_toNat (by omega), nI_toNat (by omega), h.2.2.2.2.1 l hl g (by omega), nI_add]
        have e : nI g + 1 = nI (g + 1) := nI_1 g
        rw [z_bd_eq, z_bd_eq, e]
        exact ih (g + 1) (by omega) (by omega)
      · rw [if_neg (nI_nlt (by omega) (by omega))]
        have : g = hCnt (sH A) 1 := by omega
        rw [this]
  unfold f_X2_allWishes
  rw [z_ko_ok hko]
  exact key N 0 (Nat.zero_le _) (by omega)
theorem m_wish {A : aS} {ν : z_S} (h : mS A ν) (N : Nat) {l g : Nat} (hl : l < 8) (hg : g < 4) : f_X12_wishOf N (nI l) (nI g) ν = some (nI (hWish (sH A) l g), ν) := by
  unfold f_X12_wishOf
  have e : ((32 : Int32) + (4 : Int32) * nI l) + nI g = nI (32 + 4 * l + g) := ix3 32 4 l g
  rw [e, z_in_nI (by omega) (by decide), nI_toNat (by omega), h.2.2.2.2.2.2.1.2.2.2.2.1 l hl g hg]
theorem m_wishes {A : aS} {ν : z_S} (ok : okS A) (h : mS A ν) (N : Nat) (hN : 5 ≤ N) {l : Nat} (hl : l < 8) : f_X12_wishesOf N (nI l) ν = some (nI (wAll (sH A) l (hCnt (sH A) 1)), ν) := by
  have hg := ok.2.2.1.2.1
  have key : ∀ n g, g ≤ hCnt (sH A) 1 → hCnt (sH A) 1 - g < n → f_X12_wishesOf_L4 N (nI l) n (nI (wAll (sH A) l g)) (nI g) ν = some (nI (wAll (sH A) l (hCnt (sH A) 1)), ν) := by
    intro n
    induction n with
    | zero => intro g h1 h2; omega
    | succ n ih =>
      intro g h1 h2
      show b_X12_wishesOf_L4 N (nI l) (f_X12_wishesOf_L4 N (nI l) n) (nI (wAll (sH A) l g)) (nI g) ν = _
      unfold b_X12_wishesOf_L4 f_X12_giftMany
      rw [z_bn_sm, h.2.2.2.2.2.2.1.1 1 (by decide)]
      by_cases hlt : g < hCnt (sH A) 1
      · rw [if_pos (nI_lt hlt (by omega)), m_wish h N hl (by omega), z_bn_sm, nI_add]
        have e : nI g + 1 = nI (g + 1) := nI_1 g
        rw [z_bd_eq, z_bd_eq, e]
        exact ih (g + 1) (by omega) (by omega)
      · rw [if_neg (nI_nlt (by omega) (by omega))]
        have : g = hCnt (sH A) 1 := by omega
        rw [this]
  unfold f_X12_wishesOf
  exact key N 0 (Nat.zero_le _) (by omega)
