/-! gift -/
def p_gift (A : aS) (g : Nat) (w : Int32) : Int32 := if w = 0 then nI (nStock (sN A) g) else if w < 10 then -1 else if 0 ≤ (w - 10).toInt ∧ (w - 10).toInt < hCnt (sH A) 0 then nI (hWish (sH A) (w - 10).toNatClampNeg g) else -1
theorem c_gift {A : aS} {μ : z_S} (ok : okS A) (h : cS A μ) (N : Nat) (g w : Int32) : f_X11_gift N g w μ = some (if 0 ≤ g.toInt ∧ g.toInt < hCnt (sH A) 1 then p_gift A g.toNatClampNeg w else -1, μ) := by
  unfold f_X11_gift
  rw [c_isG ok h, z_bn_sm]
  by_cases hg : 0 ≤ g.toInt ∧ g.toInt < hCnt (sH A) 1
  · rw [if_pos hg, if_pos hg, if_neg (by decide)]
    have hk := ok.2.2.1.1
    have hk2 := ok.2.2.1.2.1
    obtain ⟨k, hk1, rfl⟩ := small hg (by omega)
    have hH := h.2.2.2.2.2.2.2.1
    have hN9 := h.2.2.2.2.2.2.2.2.1
    rw [nI_toNat (by omega)]
    unfold p_gift
    split
    · rw [z_in_nI (by omega) (by decide)]; exact congrArg (fun z => some (z, μ)) (hN9.2.2.1 k (by omega))
    · split
      · rfl
      · rw [c_isL ok h, z_bn_sm]
        generalize hx : w - (10 : Int32) = x
        by_cases hl : 0 ≤ x.toInt ∧ x.toInt < hCnt (sH A) 0
        · rw [if_pos hl, if_pos hl, if_neg (by decide)]
          obtain ⟨j, hj, rfl⟩ := small hl (by omega)
          rw [z_in_nI (by omega) (by decide), z_in_nI (by omega) (by decide), nI_toNat (by omega), hH.2.2.2.2.1 j (by omega) k (by omega)]
        · rw [if_neg hl, if_neg hl, if_pos rfl]
  · rw [if_neg hg, if_neg hg, if_pos rfl]
theorem m_gift {A : aS} {ν : z_S} (ok : okS A) (h : mS A ν) (N : Nat) (g w : Int32) : f_X12_gift N g w ν = some (if 0 ≤ g.toInt ∧ g.toInt < hCnt (sH A) 1 then p_gift A g.toNatClampNeg w else -1, ν) := by
  unfold f_X12_gift
  rw [m_isG ok h, z_bn_sm]
  by_cases hg : 0 ≤ g.toInt ∧ g.toInt < hCnt (sH A) 1
  · rw [if_pos hg, if_pos hg, if_neg (by decide)]
    have hk := ok.2.2.1.1
    have hk2 := ok.2.2.1.2.1
    obtain ⟨k, hk1, rfl⟩ := small hg (by omega)
    have hst : f_X12_gift_B37 N (nI k) w ν = some (if w = 0 then nI (nStock (sN A) k) else -1, ν) := by
      unfold f_X12_gift_B37
      have e : (4 : Int32) + nI k = nI (4 + k) := ix1 4 k
      rw [e, z_in_nI (by omega) (by decide), nI_toNat (by omega)]
      have hs := h.2.2.2.2.2.2.2.1.2.2.1 k (by omega)
      rw [show 0 + 4 + k = 4 + k by omega] at hs
      rw [hs]
      split <;> rfl
    rw [nI_toNat (by omega)]
    unfold p_gift
    have e10 : (10 : Int32).toInt = 10 := rfl
    by_cases h10 : w < 10
    · rw [if_pos h10, hst]
      split
      · rfl
      · rfl
    · have hw0 : ¬ w = 0 := fun q => h10 (by rw [q]; decide)
      rw [if_neg h10, if_neg hw0, if_neg h10, m_isL ok h, z_bn_sm]
      generalize hx : w - (10 : Int32) = x
      by_cases hl : 0 ≤ x.toInt ∧ x.toInt < hCnt (sH A) 0
      · rw [if_pos hl, if_pos hl, if_neg (by decide)]
        obtain ⟨j, hj, rfl⟩ := small hl (by omega)
        rw [m_wish h N (by omega) (by omega), z_bn_sm, nI_toNat (by omega)]
      · rw [if_neg hl, if_neg hl, if_pos rfl, hst, if_neg hw0]
  · rw [if_neg hg, if_neg hg, if_pos rfl]
theorem op_gift {A : aS} {μ ν : z_S} (ok : okS A) (hc : cS A μ) (hm : mS A ν) (N : Nat) (l w : Int32) : z_Op (f_X11_gift N l w μ) (f_X12_gift N l w ν) := z_Op.read ok hc hm (c_gift ok hc N l w) (m_gift ok hm N l w)
/-! helper -/
/-- the letters below n that a helper (told by his number and 1) has answered, as bits -/
def bitsD (f : Nat → Nat) (v : Nat) : Nat → Int32
  | 0 => 0
  | l + 1 => if f l = v then bitsD f v l ||| ((1 : Int32) <<< (nI l &&& 31)) else bitsD f v l
theorem bitsD_stop {f : Nat → Nat} {v n : Nat} (h : ∀ k, n ≤ k → f k ≠ v) : ∀ m, n ≤ m → bitsD f v m = bitsD f v n := by
  intro m hm
  induction m with
  | zero => have : n = 0 := by omega
            rw [this]
  | succ m ih =>
    by_cases e : n = m + 1
    · rw [e]
    · show (if f m = v then _ else bitsD f v m) = _
      rw [if_neg (h m (by omega))]
      exact ih (by omega)
theorem nI_dec {a b : Nat} (ha : a < 2 ^ 30) (hb : b < 2 ^ 30) : nI a - 1 = nI b ↔ a = b + 1 := by
  rw [← Int32.toInt_inj, show nI a - (1 : Int32) = nI a - nI 1 from rfl, pk_sub_toInt ha (by decide), nI_toInt (by omega)]
  omega
theorem c_bits {a : aN} {μ : z_S} {s : Nat} (hs : z_kw true s = (8, 0)) (h : cN s a μ) (hd : ∀ k, nDone a k < 2 ^ 30) (N : Nat) (hN : 9 ≤ N) {v : Nat} (hv : v < 2 ^ 30) : f_X8_doneByHelper N s (nI v) μ = some (bitsD (nDone a) (v + 1) 8, μ) := by
  have key : ∀ n l, l ≤ 8 → 8 - l < n → f_X8_doneByHelper_L4 N s (nI v) n (bitsD (nDone a) (v + 1) l) (nI l) μ = some (bitsD (nDone a) (v + 1) 8, μ) := by
    intro n
    induction n with
    | zero => intro l h1 h2; omega
    | succ n ih =>
      intro l h1 h2
      show b_X8_doneByHelper_L4 N s (nI v) (f_X8_doneByHelper_L4 N s (nI v) n) (bitsD (nDone a) (v + 1) l) (nI l) μ = _
      unfold b_X8_doneByHelper_L4 f_X8_doneByHelper_B26
      by_cases hlt : l < 8
      · rw [if_pos (show nI l < (8 : Int32) from nI_lt hlt (by decide)), z_in_nI hlt (by decide), nI_toNat (by omega), h.2.2.2.1 l hlt]
        have e : nI l + 1 = nI (l + 1) := nI_1 l
        have hb : bitsD (nDone a) (v + 1) (l + 1) = if nDone a l = v + 1 then bitsD (nDone a) (v + 1) l ||| ((1 : Int32) <<< (nI l &&& 31)) else bitsD (nDone a) (v + 1) l := rfl
        by_cases hq : nDone a l = v + 1
        · rw [if_pos ((nI_dec (hd l) hv).mpr hq)]
          rw [if_pos hq] at hb
          rw [z_bd_eq, z_bd_eq, e, ← hb]
          exact ih (l + 1) (by omega) (by omega)
        · rw [if_neg (fun z => hq ((nI_dec (hd l) hv).mp z))]
          rw [if_neg hq] at hb
          rw [z_bd_eq, e, ← hb]
          exact ih (l + 1) (by omega) (by omega)
      · rw [if_neg (show ¬ nI l < (8 : Int32) from nI_nlt (a := l) (b := 8) (by omega) (by omega))]
        have : l = 8 := by omega
        rw [this]
  unfold f_X8_doneByHelper
  rw [z_ko_ok hs]
  exact key N 0 (Nat.zero_le _) (by omega)
theorem m_bits {A : aS} {ν : z_S} (ok : okS A) (h : mS A ν) (N n0 : Nat) {v : Nat} (hv : v < 2 ^ 30) (c2 : Int32) (e49 : Int32 → z_S → Option (Int32 × z_S)) : ∀ n l, l ≤ hCnt (sH A) 0 → hCnt (sH A) 0 - l < n → f_X12_helper_L15 N (nI v) c2 e49 n (bitsD (nDone (sN A)) (v + 1) l) (nI l) ν = e49 (bitsD (nDone (sN A)) (v + 1) (hCnt (sH A) 0)) ν := by
  have h8 := ok.2.2.1.1
  have hd : ∀ k, nDone (sN A) k < 2 ^ 31 := fun k => by
    have h1 := ok.2.2.2.1.2.2.2.2.2.1 k
    have h2 := ok.2.2.1.2.2.1
    omega
  intro n
  induction n with
  | zero => intro l h1 h2; omega
  | succ n ih =>
    intro l h1 h2
    show b_X12_helper_L15 N (nI v) c2 (f_X12_helper_L15 N (nI v) c2 e49 n) e49 (bitsD (nDone (sN A)) (v + 1) l) (nI l) ν = _
    unfold b_X12_helper_L15 f_X12_helper_B43 f_X12_letterMany
    rw [z_bn_sm, h.2.2.2.2.2.2.1.1 0 (by decide)]
    by_cases hlt : l < hCnt (sH A) 0
    · rw [if_pos (nI_lt hlt (by omega)), (m_now h N (show l < 8 by omega)).1, z_bn_sm]
      have e : nI l + 1 = nI (l + 1) := nI_1 l
      have ev : nI v + (1 : Int32) = nI (v + 1) := nI_1 v
      have hb : bitsD (nDone (sN A)) (v + 1) (l + 1) = if nDone (sN A) l = v + 1 then bitsD (nDone (sN A)) (v + 1) l ||| ((1 : Int32) <<< (nI l &&& 31)) else bitsD (nDone (sN A)) (v + 1) l := rfl
      by_cases hq : nDone (sN A) l = v + 1
      · rw [ev, if_pos (by rw [hq])]
        rw [if_pos hq] at hb
        rw [z_bd_eq, z_bd_eq, e, ← hb]
        exact ih (l + 1) (by omega) (by omega)
      · rw [ev, if_neg (fun z => hq ((nI_eq (hd l) (by omega)).mp z))]
        rw [if_neg hq] at hb
        rw [z_bd_eq, e, ← hb]
        exact ih (l + 1) (by omega) (by omega)
    · rw [if_neg (nI_nlt (by omega) (by omega))]
      have : l = hCnt (sH A) 0 := by omega
      rw [this]
def p_helper (A : aS) (k : Nat) (w : Int32) : Int32 := if w = 0 then nI (hHelp (sH A) k 0) else if w = 1 then nI (hHelp (sH A) k 1) else if w = 2 then nI (hHelp (sH A) k 2) else if w = 3 then nI (nLeft (sN A) k) else if w = 4 then bitsD (nDone (sN A)) (k + 1) 8 else -1
theorem c_helper {A : aS} {μ : z_S} (ok : okS A) (h : cS A μ) (N : Nat) (hN : 9 ≤ N) (g w : Int32) : f_X11_helper N g w μ = some (if 0 ≤ g.toInt ∧ g.toInt < hCnt (sH A) 2 then p_helper A g.toNatClampNeg w else -1, μ) := by
  unfold f_X11_helper
  rw [c_isH ok h, z_bn_sm]
  by_cases hg : 0 ≤ g.toInt ∧ g.toInt < hCnt (sH A) 2
  · rw [if_pos hg, if_pos hg, if_neg (by decide), z_bd_eq]
    have hk2 := ok.2.2.1.2.2.1
    obtain ⟨k, hk1, rfl⟩ := small hg (by omega)
    have hH := h.2.2.2.2.2.2.2.1
    have hN9 := h.2.2.2.2.2.2.2.2.1
    have h8 := hH.2.2.2.2.2.2.2.1 k hk1
    rw [nI_toNat (by omega)]
    unfold p_helper
    split
    · rw [z_in_nI (by omega) (by decide), h8.1]
    · split
      · rw [z_in_nI (by omega) (by decide), h8.2.1]
      · split
        · rw [z_in_nI (by omega) (by decide), h8.2.2]
        · split
          · rw [z_in_nI (by omega) (by decide)]; exact congrArg (fun z => some (z, μ)) (hN9.2.1 k (by omega))
          · split
            · rw [c_bits kd_39 hN9 (fun k => by have h1 := ok.2.2.2.1.2.2.2.2.2.1 k; omega) N hN (by omega), z_bn_sm]
            · rfl
  · rw [if_neg hg, if_neg hg, if_pos rfl]
theorem m_left {A : aS} {ν : z_S} (h : mS A ν) (N : Nat) {k : Nat} (hk : k < 3) : f_X12_leftOf N (nI k) ν = some (nI (nLeft (sN A) k), ν) := by
  unfold f_X12_leftOf
  have e : (1 : Int32) + nI k = nI (1 + k) := ix1 1 k
  have hs := h.2.2.2.2.2.2.2.1.2.1 k hk
  rw [show 0 + 1 + k = 1 + k by omega] at hs
  rw [e, z_in_nI (by omega) (by decide), nI_toNat (by omega), hs]
theorem m_helper {A : aS} {ν : z_S} (ok : okS A) (h : mS A ν) (N : Nat) (hN : 9 ≤ N) (g w : Int32) : f_X12_helper N g w ν = some (if 0 ≤ g.toInt ∧ g.toInt < hCnt (sH A) 2 then p_helper A g.toNatClampNeg w else -1, ν) := by
  unfold f_X12_helper
  rw [m_isH ok h, z_bn_sm]
  by_cases hg : 0 ≤ g.toInt ∧ g.toInt < hCnt (sH A) 2
  · rw [if_pos hg, if_pos hg, if_neg (by decide)]
    have hk0 := ok.2.2.1.1
    have hk2 := ok.2.2.1.2.2.1
    obtain ⟨k, hk1, rfl⟩ := small hg (by omega)
    have hm0 : ∀ e49, f_X12_helper_L15 N (nI k) w e49 N 0 0 ν = e49 (bitsD (nDone (sN A)) (k + 1) (hCnt (sH A) 0)) ν := fun e49 => m_bits ok h N 0 (v := k) (by omega) w e49 N 0 (Nat.zero_le _) (by omega)
    rw [hm0, m_isIn, z_bn_sm, i64]
    have e0 : (0 : Int64).toInt = 0 := rfl
    have e2 : (2 : Int64).toInt = 2 := rfl
    rw [e0, e2, nI_toNat (by omega)]
    have hst : bitsD (nDone (sN A)) (k + 1) 8 = bitsD (nDone (sN A)) (k + 1) (hCnt (sH A) 0) := bitsD_stop (fun j hj => by have := (ok.2.2.2.1.2.2.2.2.2.2.2.2 j hj).1; omega) 8 hk0
    unfold p_helper
    by_cases hw : 0 ≤ w.toInt ∧ w.toInt ≤ 2
    · rw [if_pos hw, if_neg (by decide)]
      obtain ⟨j, hj, rfl⟩ := small (w := w) (n := 3) (by omega) (by decide)
      have e : ((9 : Int32) + (3 : Int32) * nI k) + nI j = nI (9 + 3 * k + j) := ix3 9 3 k j
      rw [e, z_in_nI (by omega) (by decide), nI_toNat (by omega), h.2.2.2.2.2.2.1.2.2.2.2.2.2.2.1 k hk1 j hj]
      rcases (show j = 0 ∨ j = 1 ∨ j = 2 by omega) with rfl | rfl | rfl
      · rfl
      · rfl
      · rfl
    · rw [if_neg hw, if_pos rfl]
      have n0 : ¬ w = 0 := fun q => hw (by rw [q]; decide)
      have n1 : ¬ w = 1 := fun q => hw (by rw [q]; decide)
      have n2 : ¬ w = 2 := fun q => hw (by rw [q]; decide)
      rw [if_neg n0, if_neg n1, if_neg n2]
      split
      · rw [m_left h N (by omega), z_bn_sm]
      · split
        · rw [hst]
        · rfl
  · rw [if_neg hg, if_neg hg, if_pos rfl]
theorem op_helper {A : aS} {μ ν : z_S} (ok : okS A) (hc : cS A μ) (hm : mS A ν) (N : Nat) (hN : 9 ≤ N) (l w : Int32) : z_Op (f_X11_helper N l w μ) (f_X12_helper N l w ν) := z_Op.read ok hc hm (c_helper ok hc N hN l w) (m_helper ok hm N hN l w)
