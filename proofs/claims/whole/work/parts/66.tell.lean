/-! tell -/
def lossN (h : aH) (c : Nat) : Nat → Nat
  | 0 => 0
  | l + 1 => lossN h c l + (if hMail h l 2 < c then hMiss h * hMail h l 2 else 10 - hMail h l 2)
theorem lossN_le {h : aH} (ok : okH h) (c : Nat) : ∀ n, lossN h c n ≤ 990 * n
  | 0 => Nat.le_refl 0
  | n + 1 => by
    have h1 := lossN_le ok c n
    have h2 := (ok.2.2.2.2.2.2.1 n).2.2
    have h3 := ok.2.2.2.2.2.2.2.2.2.2.2.2.2.2.2.2.2.2.1
    show lossN h c n + (if hMail h n 2 < c then hMiss h * hMail h n 2 else 10 - hMail h n 2) ≤ _
    have h4 : hMiss h * hMail h n 2 ≤ 99 * 10 := Nat.mul_le_mul h3 h2
    split <;> omega
theorem c_loss {h : aH} {μ : z_S} {o : Nat} (ok : okH h) (hk : z_kw true o = (2, 0)) (hc : cH o h μ) (N : Nat) (hN : 9 ≤ N) {c : Nat} (hcc : c < 2 ^ 31) : f_X2_lossFrom N o (nI c) μ = some (nI (lossN h c (hCnt h 0)), μ) := by
  have h8 := ok.1
  have key : ∀ n l, l ≤ hCnt h 0 → hCnt h 0 - l < n → f_X2_lossFrom_L4 N o (nI c) n (nI (lossN h c l)) (nI l) μ = some (nI (lossN h c (hCnt h 0)), μ) := by
    intro n
    induction n with
    | zero => intro l h1 h2; omega
    | succ n ih =>
      intro l h1 h2
      show b_X2_lossFrom_L4 N o (nI c) (f_X2_lossFrom_L4 N o (nI c) n) (nI (lossN h c l)) (nI l) μ = _
      unfold b_X2_lossFrom_L4 f_X2_lossFrom_B48
      rw [hc.1 0 (by decide)]
      by_cases hlt : l < hCnt h 0
      · have hg := (ok.2.2.2.2.2.2.1 l).2.2
        have ek : nI l + 1 = nI (l + 1) := nI_1 l
        have hs : lossN h c (l + 1) = lossN h c l + (if hMail h l 2 < c then hMiss h * hMail h l 2 else 10 - hMail h l 2) := rfl
        rw [if_pos (nI_lt hlt (by omega)), z_in_nI (show l < 8 by omega) (by decide), z_in_nI (show l < 8 by omega) (by decide), nI_toNat (by omega), (hc.2.2.1 l hlt).2.2, hc.2.2.2.2.2.2.2.2.1]
        by_cases hq : hMail h l 2 < c
        · rw [if_pos hq] at hs
          rw [if_pos (nI_lt hq hcc), pk_mul, z_bd_eq, nI_add, z_bd_eq, ek, ← hs]
          exact ih (l + 1) (by omega) (by omega)
        · rw [if_neg hq] at hs
          have e10 : (10 : Int32) - nI (hMail h l 2) = nI (10 - hMail h l 2) := pk_sub (a := 10) hg
          rw [if_neg (nI_nlt (by omega) (by omega)), z_in_nI (show l < 8 by omega) (by decide), e10, z_bd_eq, nI_add, z_bd_eq, ek, ← hs]
          exact ih (l + 1) (by omega) (by omega)
      · rw [if_neg (nI_nlt (by omega) (by omega))]
        have : l = hCnt h 0 := by omega
        rw [this]
  unfold f_X2_lossFrom
  rw [z_ko_ok hk]
  exact key N 0 (Nat.zero_le _) (by omega)
theorem m_loss {A : aS} {ν : z_S} (ok : okS A) (h : mS A ν) (N : Nat) (hN : 9 ≤ N) {c : Nat} (hcc : c < 2 ^ 31) : f_X12_lostBy N (nI c) ν = some (nI (lossN (sH A) c (hCnt (sH A) 0)), ν) := by
  have h8 := ok.2.2.1.1
  have hH := h.2.2.2.2.2.2.1
  have key : ∀ n l, l ≤ hCnt (sH A) 0 → hCnt (sH A) 0 - l < n → f_X12_lostBy_L4 N (nI c) n (nI (lossN (sH A) c l)) (nI l) ν = some (nI (lossN (sH A) c (hCnt (sH A) 0)), ν) := by
    intro n
    induction n with
    | zero => intro l h1 h2; omega
    | succ n ih =>
      intro l h1 h2
      show b_X12_lostBy_L4 N (nI c) (f_X12_lostBy_L4 N (nI c) n) (nI (lossN (sH A) c l)) (nI l) ν = _
      unfold b_X12_lostBy_L4 f_X12_lostBy_B49 f_X12_letterMany
      rw [z_bn_sm, hH.1 0 (by decide)]
      by_cases hlt : l < hCnt (sH A) 0
      · have hg := (ok.2.2.1.2.2.2.2.2.2.1 l).2.2
        have ek : nI l + 1 = nI (l + 1) := nI_1 l
        have e26 : (26 : Int32) + (3 : Int32) * nI l = nI (26 + 3 * l) := ix2 26 3 l
        have hv : ν.1 286 (26 + 3 * l) = nI (hMail (sH A) l 2) := by
          have := hH.2.2.1 l hlt 2 (by decide)
          rw [show 24 + 3 * l + 2 = 26 + 3 * l by omega] at this
          exact this
        have hs : lossN (sH A) c (l + 1) = lossN (sH A) c l + (if hMail (sH A) l 2 < c then hMiss (sH A) * hMail (sH A) l 2 else 10 - hMail (sH A) l 2) := rfl
        rw [if_pos (nI_lt hlt (by omega)), e26, z_in_nI (show 26 + 3 * l < 48 by omega) (by decide), nI_toNat (by omega), hv, z_bd_eq, hH.2.2.2.2.2.2.2.2.1]
        by_cases hq : hMail (sH A) l 2 < c
        · rw [if_pos hq] at hs
          rw [if_pos (nI_lt hq hcc), pk_mul, z_bd_eq, nI_add, z_bd_eq, ek, ← hs]
          exact ih (l + 1) (by omega) (by omega)
        · rw [if_neg hq] at hs
          have e10 : (10 : Int32) - nI (hMail (sH A) l 2) = nI (10 - hMail (sH A) l 2) := pk_sub (a := 10) hg
          rw [if_neg (nI_nlt (by omega) (by omega)), e10, z_bd_eq, nI_add, z_bd_eq, ek, ← hs]
          exact ih (l + 1) (by omega) (by omega)
      · rw [if_neg (nI_nlt (by omega) (by omega))]
        have : l = hCnt (sH A) 0 := by omega
        rw [this]
  unfold f_X12_lostBy
  exact key N 0 (Nat.zero_le _) (by omega)
/-- the number that loses least, of 0 .. k, the least of like ones -/
def bestT (h : aH) : Nat → Nat
  | 0 => 0
  | k + 1 => if lossN h (k + 1) (hCnt h 0) < lossN h (bestT h k) (hCnt h 0) then k + 1 else bestT h k
theorem bestT_le (h : aH) : ∀ k, bestT h k ≤ k
  | 0 => Nat.le_refl 0
  | k + 1 => by
    have := bestT_le h k
    show (if lossN h (k + 1) (hCnt h 0) < lossN h (bestT h k) (hCnt h 0) then k + 1 else bestT h k) ≤ k + 1
    split <;> omega
theorem c_tellL {A : aS} {μ : z_S} (ok : okS A) (h : cS A μ) (N : Nat) (hN : 20 ≤ N) (c1 : Int32) (e48 : Int32 → z_S → Option (Int32 × z_S)) : ∀ n k, k ≤ 11 → 11 - k < n → f_X11_tell_L15 N c1 e48 n (nI (bestT (sH A) k)) (nI (k + 1)) μ = e48 (nI (bestT (sH A) 11)) μ := by
  have hH := h.2.2.2.2.2.2.2.1
  have hb : ∀ c, lossN (sH A) c (hCnt (sH A) 0) < 2 ^ 31 := fun c => by have := lossN_le ok.2.2.1 c (hCnt (sH A) 0); have := ok.2.2.1.1; omega
  intro n
  induction n with
  | zero => intro k h1 h2; omega
  | succ n ih =>
    intro k h1 h2
    show b_X11_tell_L15 N c1 (f_X11_tell_L15 N c1 e48 n) e48 (nI (bestT (sH A) k)) (nI (k + 1)) μ = _
    unfold b_X11_tell_L15 f_X11_tell_B42
    have hbk := bestT_le (sH A) k
    by_cases hlt : k < 11
    · have ek : nI (k + 1) + 1 = nI (k + 1 + 1) := nI_1 (k + 1)
      have hs : bestT (sH A) (k + 1) = if lossN (sH A) (k + 1) (hCnt (sH A) 0) < lossN (sH A) (bestT (sH A) k) (hCnt (sH A) 0) then k + 1 else bestT (sH A) k := rfl
      rw [if_neg (show ¬ (11 : Int32) < nI (k + 1) from nI_nlt (a := 11) (b := k + 1) (by omega) (by decide)), c_loss ok.2.2.1 (z_hn_k _) hH N (by omega) (by omega), z_bn_sm, c_loss ok.2.2.1 (z_hn_k _) hH N (by omega) (by omega), z_bn_sm]
      by_cases hq : lossN (sH A) (k + 1) (hCnt (sH A) 0) < lossN (sH A) (bestT (sH A) k) (hCnt (sH A) 0)
      · rw [if_pos hq] at hs
        rw [if_pos (nI_lt hq (hb _)), z_bd_eq, ek]
        have hi := ih (k + 1) (by omega) (by omega)
        rw [hs] at hi
        exact hi
      · rw [if_neg hq] at hs
        rw [if_neg (nI_nlt (by omega) (hb _)), z_bd_eq, ek, ← hs]
        exact ih (k + 1) (by omega) (by omega)
    · have : k = 11 := by omega
      subst this
      rw [if_pos (by decide)]
theorem m_tellL {A : aS} {ν : z_S} (ok : okS A) (h : mS A ν) (N : Nat) (hN : 20 ≤ N) (c1 : Int32) (e31 : Int32 → z_S → Option (Int32 × z_S)) : ∀ n k, k ≤ 11 → 11 - k < n → f_X12_tell_L4 N c1 e31 n (nI (bestT (sH A) k)) (nI (k + 1)) ν = e31 (nI (bestT (sH A) 11)) ν := by
  have hb : ∀ c, lossN (sH A) c (hCnt (sH A) 0) < 2 ^ 31 := fun c => by have := lossN_le ok.2.2.1 c (hCnt (sH A) 0); have := ok.2.2.1.1; omega
  intro n
  induction n with
  | zero => intro k h1 h2; omega
  | succ n ih =>
    intro k h1 h2
    show b_X12_tell_L4 N c1 (f_X12_tell_L4 N c1 e31 n) e31 (nI (bestT (sH A) k)) (nI (k + 1)) ν = _
    unfold b_X12_tell_L4 f_X12_tell_B25
    have hbk := bestT_le (sH A) k
    by_cases hlt : k < 11
    · have ek : nI (k + 1) + 1 = nI (k + 1 + 1) := nI_1 (k + 1)
      have hs : bestT (sH A) (k + 1) = if lossN (sH A) (k + 1) (hCnt (sH A) 0) < lossN (sH A) (bestT (sH A) k) (hCnt (sH A) 0) then k + 1 else bestT (sH A) k := rfl
      rw [if_pos (show nI (k + 1) < (12 : Int32) from nI_lt (b := 12) (by omega) (by decide)), m_loss ok h N (by omega) (by omega), z_bn_sm, m_loss ok h N (by omega) (by omega), z_bn_sm]
      by_cases hq : lossN (sH A) (k + 1) (hCnt (sH A) 0) < lossN (sH A) (bestT (sH A) k) (hCnt (sH A) 0)
      · rw [if_pos hq] at hs
        rw [if_pos (nI_lt hq (hb _)), z_bd_eq, ek]
        have hi := ih (k + 1) (by omega) (by omega)
        rw [hs] at hi
        exact hi
      · rw [if_neg hq] at hs
        rw [if_neg (nI_nlt (by omega) (hb _)), z_bd_eq, ek, ← hs]
        exact ih (k + 1) (by omega) (by omega)
    · have : k = 11 := by omega
      subst this
      rw [if_neg (by decide)]
theorem op_tell {A : aS} {μ ν : z_S} (ok : okS A) (hc : cS A μ) (hm : mS A ν) (N : Nat) (hN : 20 ≤ N) (w : Int32) : z_Op (f_X11_tell N w μ) (f_X12_tell N w ν) := by
  have hH := hc.2.2.2.2.2.2.2.1
  have hbk := bestT_le (sH A) 11
  have hcl : ∀ e48, f_X11_tell_L15 N w e48 N 0 1 μ = e48 (nI (bestT (sH A) 11)) μ := fun e48 => c_tellL ok hc N hN w e48 N 0 (by decide) (by omega)
  have hml : ∀ e31, f_X12_tell_L4 N w e31 N 0 1 ν = e31 (nI (bestT (sH A) 11)) ν := fun e31 => m_tellL ok hm N hN w e31 N 0 (by decide) (by omega)
  unfold f_X11_tell f_X12_tell
  rw [hcl, hml]
  have e1 : (1 : Int32).toInt = 1 := rfl
  by_cases w0 : w = 0
  · subst w0
    rw [if_neg (by decide), if_neg (by decide), if_pos rfl, if_pos rfl]
    exact z_Op.read ok hc hm rfl rfl
  · by_cases w1 : w = 1
    · subst w1
      rw [if_neg (by decide), if_neg (by decide), if_neg w0, if_neg w0, if_pos rfl, c_loss ok.2.2.1 (z_hn_k _) hH N (by omega) (by omega), z_bn_sm, m_loss ok hm N (by omega) (by omega), z_bn_sm]
      exact z_Op.read ok hc hm rfl rfl
    · rw [if_neg w0, if_neg w0, if_neg w1]
      by_cases h0 : w < 0
      · rw [if_pos h0]
        exact z_Op.read ok hc hm rfl rfl
      · rw [if_neg h0]
        have h1 : (1 : Int32) < w := by
          obtain ⟨k, hk, rfl⟩ := nI_of h0
          have n0 : k ≠ 0 := fun q => w0 (by rw [q]; rfl)
          have n1 : k ≠ 1 := fun q => w1 (by rw [q]; rfl)
          exact nI_lt (a := 1) (by omega) hk
        rw [if_pos h1]
        exact z_Op.read ok hc hm rfl rfl
