/-! letter: names as six places of five bits, and as a number by twenty-seven -/
theorem pk32_lt : ∀ (n : Nat) (l : List Nat), (∀ c ∈ l, c ≤ 26) → pk32 l n < 32 ^ n
  | 0, l, _ => by cases l <;> exact Nat.one_pos
  | n + 1, [], _ => by
    have := pk32_lt n [] (fun c h => by cases h)
    show 32 * 0 + pk32 [] n < 32 ^ (n + 1)
    rw [Nat.pow_succ]; omega
  | n + 1, c :: r, h => by
    have h1 := pk32_lt n r (fun x hx => h x (List.mem_cons_of_mem _ hx))
    have h2 := h c List.mem_cons_self
    show c * 32 ^ n + pk32 r n < 32 ^ (n + 1)
    rw [Nat.pow_succ]
    have : c * 32 ^ n ≤ 26 * 32 ^ n := Nat.mul_le_mul_right _ h2
    omega
/-- the place k of six -/
theorem pk32_at : ∀ (n : Nat) (l : List Nat) (k : Nat), (∀ c ∈ l, c ≤ 26) → k < n → pk32 l n / 32 ^ (n - 1 - k) % 32 = l.getD k 0
  | 0, _, _, _, h => absurd h (Nat.not_lt_zero _)
  | n + 1, [], k, hl, hk => by
    show (32 * 0 + pk32 [] n) / 32 ^ (n + 1 - 1 - k) % 32 = 0
    cases k with
    | zero =>
      have := pk32_lt n [] (fun c h => by cases h)
      rw [Nat.mul_zero, Nat.zero_add, show n + 1 - 1 - 0 = n by omega, Nat.div_eq_of_lt this]
    | succ k =>
      have := pk32_at n [] k hl (by omega)
      rw [Nat.mul_zero, Nat.zero_add, show n + 1 - 1 - (k + 1) = n - 1 - k by omega, this]
      rfl
  | n + 1, c :: r, k, hl, hk => by
    have hr : ∀ x ∈ r, x ≤ 26 := fun x hx => hl x (List.mem_cons_of_mem _ hx)
    have hlt := pk32_lt n r hr
    have hc := hl c List.mem_cons_self
    show (c * 32 ^ n + pk32 r n) / 32 ^ (n + 1 - 1 - k) % 32 = _
    cases k with
    | zero =>
      rw [show n + 1 - 1 - 0 = n by omega, Nat.mul_comm, Nat.mul_add_div (Nat.pow_pos (by decide)), Nat.div_eq_of_lt hlt]
      show (c + 0) % 32 = c
      omega
    | succ k =>
      have ih := pk32_at n r k hr (by omega)
      have e : n = (n - 1 - k) + (k + 1) := by omega
      have e2 : c * 32 ^ n = 32 ^ (n - 1 - k) * (32 * (c * 32 ^ k)) := by
        conv => lhs; rw [e, Nat.pow_add, Nat.pow_succ]
        rw [← Nat.mul_assoc, Nat.mul_comm c, Nat.mul_assoc]
        congr 1
        rw [Nat.mul_comm (32 ^ k) 32, ← Nat.mul_assoc, Nat.mul_comm c 32, Nat.mul_assoc]
      rw [show n + 1 - 1 - (k + 1) = n - 1 - k by omega, e2, Nat.mul_add_div (Nat.pow_pos (by decide)), Nat.mul_add_mod, ih]
      rfl
/-- by twenty-seven, letter by letter -/
def pkR : List Nat → Nat
  | [] => 0
  | c :: r => c * 27 ^ r.length + pkR r
theorem pk_fo : ∀ (l : List Nat) (v : Nat), l.foldl (fun v c => 27 * v + c) v = v * 27 ^ l.length + pkR l
  | [], v => by simp [pkR]
  | c :: r, v => by
    show r.foldl (fun v c => 27 * v + c) (27 * v + c) = v * 27 ^ (r.length + 1) + (c * 27 ^ r.length + pkR r)
    rw [pk_fo r (27 * v + c), Nat.pow_succ, Nat.add_mul, Nat.mul_comm 27 v, Nat.mul_assoc, Nat.mul_comm 27 (27 ^ r.length), Nat.add_assoc]
theorem pk27_R (l : List Nat) : pk27 l = pkR l := by
  unfold pk27
  rw [pk_fo, Nat.zero_mul, Nat.zero_add]
theorem pkR_lt : ∀ l : List Nat, (∀ c ∈ l, c ≤ 26) → pkR l < 27 ^ l.length
  | [], _ => Nat.one_pos
  | c :: r, h => by
    have h1 := pkR_lt r (fun x hx => h x (List.mem_cons_of_mem _ hx))
    have h2 := h c List.mem_cons_self
    show c * 27 ^ r.length + pkR r < 27 ^ (r.length + 1)
    rw [Nat.pow_succ]
    have : c * 27 ^ r.length ≤ 26 * 27 ^ r.length := Nat.mul_le_mul_right _ h2
    omega
theorem pkR_at : ∀ (l : List Nat) (k : Nat), (∀ c ∈ l, c ≤ 26) → k < l.length → pkR l / 27 ^ (l.length - 1 - k) % 27 = l.getD k 0
  | [], _, _, h => absurd h (Nat.not_lt_zero _)
  | c :: r, k, hl, hk => by
    have hr : ∀ x ∈ r, x ≤ 26 := fun x hx => hl x (List.mem_cons_of_mem _ hx)
    have hlt := pkR_lt r hr
    have hc := hl c List.mem_cons_self
    show (c * 27 ^ r.length + pkR r) / 27 ^ (r.length + 1 - 1 - k) % 27 = _
    cases k with
    | zero =>
      rw [show r.length + 1 - 1 - 0 = r.length by omega, Nat.mul_comm, Nat.mul_add_div (Nat.pow_pos (by decide)), Nat.div_eq_of_lt hlt]
      show (c + 0) % 27 = c
      omega
    | succ k =>
      have hk' : k < r.length := Nat.lt_of_succ_lt_succ hk
      have ih := pkR_at r k hr hk'
      have e : r.length = (r.length - 1 - k) + (k + 1) := by omega
      have e2 : c * 27 ^ r.length = 27 ^ (r.length - 1 - k) * (27 * (c * 27 ^ k)) := by
        conv => lhs; rw [e, Nat.pow_add, Nat.pow_succ]
        rw [← Nat.mul_assoc, Nat.mul_comm c, Nat.mul_assoc]
        congr 1
        rw [Nat.mul_comm (27 ^ k) 27, ← Nat.mul_assoc, Nat.mul_comm c 27, Nat.mul_assoc]
      rw [show r.length + 1 - 1 - (k + 1) = r.length - 1 - k by omega, e2, Nat.mul_add_div (Nat.pow_pos (by decide)), Nat.mul_add_mod, ih]
      rfl
theorem pkR_ge {l : List Nat} (h0 : 1 ≤ l.length) (h : ∀ c ∈ l, 1 ≤ c) : 27 ^ (l.length - 1) ≤ pkR l := by
  cases l with
  | nil => exact absurd h0 (by decide)
  | cons c r =>
    have := h c List.mem_cons_self
    show 27 ^ (r.length + 1 - 1) ≤ c * 27 ^ r.length + pkR r
    rw [Nat.add_sub_cancel]
    have : 1 * 27 ^ r.length ≤ c * 27 ^ r.length := Nat.mul_le_mul_right _ this
    omega
/-- how often it can be divided until nothing is left -/
theorem m_digits (N : Nat) (c3 : Int32) (c4 : Int64) (e90 : Int32 → z_S → Option (Int32 × z_S)) (ν : z_S) {v d : Nat} (hv : v < 27 ^ d) (hd : d ≤ 6) (hg : d = 0 ∨ 27 ^ (d - 1) ≤ v) : ∀ n i, i ≤ d → d - i < n → f_X12_letter_L69 N c3 c4 e90 n (nI i) (lN (v / 27 ^ i)) ν = e90 (nI d) ν := by
  have h6 : v < 27 ^ 6 := Nat.lt_of_lt_of_le hv (Nat.pow_le_pow_right (by decide) hd)
  have h63 : v < 2 ^ 63 := Nat.lt_trans h6 (by decide)
  intro n
  induction n with
  | zero => intro i h1 h2; omega
  | succ n ih =>
    intro i h1 h2
    show b_X12_letter_L69 N c3 c4 (f_X12_letter_L69 N c3 c4 e90 n) e90 (nI i) (lN (v / 27 ^ i)) ν = _
    unfold b_X12_letter_L69
    have hq : v / 27 ^ i < 2 ^ 63 := Nat.lt_of_le_of_lt (Nat.div_le_self _ _) h63
    by_cases hlt : i < d
    · have hpos : 0 < v / 27 ^ i := by
        apply Nat.div_pos
        · have hp : 27 ^ i ≤ 27 ^ (d - 1) := Nat.pow_le_pow_right (by decide) (by omega)
          rcases hg with hg | hg
          · omega
          · exact Nat.le_trans hp hg
        · exact Nat.pow_pos (by decide)
      rw [if_pos (show (0 : Int64) < lN (v / 27 ^ i) from (pk_lLT (a := 0) (by decide) hq).mpr hpos), z_bd_eq, z_nzJ_ok (by decide), z_bd_eq]
      have e : nI i + 1 = nI (i + 1) := nI_1 i
      have e2 : lN (v / 27 ^ i) / (27 : Int64) = lN (v / 27 ^ (i + 1)) := by
        show lN (v / 27 ^ i) / lN 27 = _
        rw [pk_lDiv hq (by decide) (by decide), Nat.div_div_eq_div_mul, ← Nat.pow_succ]
      rw [e, e2]
      exact ih (i + 1) (by omega) (by omega)
    · have hid : i = d := by omega
      subst hid
      rw [Nat.div_eq_of_lt hv, if_neg (by decide)]
theorem m_divs (N : Nat) (e124 : Int64 → z_S → Option (Int32 × z_S)) (ν : z_S) {v k : Nat} (hv : v < 2 ^ 63) (hk : k < 2 ^ 30) : ∀ n q, k ≤ q → q < 2 ^ 30 → q - k < n → ∀ i, f_X12_letter_L104 N (nI k) e124 n (lN (v / 27 ^ i)) (nI q) ν = e124 (lN (v / 27 ^ (i + (q - k)))) ν := by
  intro n
  induction n with
  | zero => intro q h1 h2 h3; omega
  | succ n ih =>
    intro q h1 h2 h3 i
    show b_X12_letter_L104 N (nI k) (f_X12_letter_L104 N (nI k) e124 n) e124 (lN (v / 27 ^ i)) (nI q) ν = _
    unfold b_X12_letter_L104
    by_cases hlt : k < q
    · have hq : v / 27 ^ i < 2 ^ 63 := Nat.lt_of_le_of_lt (Nat.div_le_self _ _) hv
      rw [if_pos (nI_lt hlt (by omega)), z_nzJ_ok (by decide), z_bd_eq, z_bd_eq]
      obtain ⟨q', rfl⟩ : ∃ q', q = q' + 1 := ⟨q - 1, by omega⟩
      have e2 : lN (v / 27 ^ i) / (27 : Int64) = lN (v / 27 ^ (i + 1)) := by
        show lN (v / 27 ^ i) / lN 27 = _
        rw [pk_lDiv hq (by decide) (by decide), Nat.div_div_eq_div_mul, ← Nat.pow_succ]
      rw [e2, pk_m1, ih q' (by omega) (by omega) (by omega) (i + 1)]
      rw [show i + 1 + (q' - k) = i + (q' + 1 - k) by omega]
    · have : q = k := by omega
      subst this
      rw [if_neg (nI_nlt (Nat.le_refl _) (by omega)), Nat.sub_self, Nat.add_zero]
def p_letter (A : aS) (a b c : Int32) : Int32 :=
  if 0 ≤ a.toInt ∧ a.toInt < 3 then (if 0 ≤ b.toInt ∧ b.toInt < hCnt (sH A) a.toNatClampNeg then (if 0 ≤ c.toInt ∧ c.toInt < 6 then nI ((hName (sH A) a.toNatClampNeg b.toNatClampNeg).getD c.toNatClampNeg 0) else -1) else -1) else -1
theorem cnt_le {A : aS} (ok : okS A) {k : Nat} (hk : k < 3) : hCnt (sH A) k ≤ 8 := by
  have h1 := ok.2.2.1.1
  have h2 := ok.2.2.1.2.1
  have h3 := ok.2.2.1.2.2.1
  rcases (show k = 0 ∨ k = 1 ∨ k = 2 by omega) with rfl | rfl | rfl <;> omega
theorem c_letter {A : aS} {μ : z_S} (ok : okS A) (h : cS A μ) (N : Nat) (a b c : Int32) : f_X11_letter N a b c μ = some (p_letter A a b c, μ) := by
  have hH := h.2.2.2.2.2.2.2.1
  have e3 : (3 : Int32).toInt = 3 := rfl
  have e6 : (6 : Int32).toInt = 6 := rfl
  unfold f_X11_letter p_letter
  simp only [Int32.lt_iff_toInt_lt, e3, e6, Int32.toInt_zero]
  by_cases ha : 0 ≤ a.toInt ∧ a.toInt < 3
  · rw [if_neg (by omega), if_pos ha.2, if_pos ha]
    obtain ⟨x, hx, rfl⟩ := small (w := a) (n := 3) ha (by decide)
    have hc8 := cnt_le ok hx
    rw [z_in_nI (show x < 10 by omega) (by decide), nI_toNat (by omega), hH.1 x (by omega), nI_toInt (show hCnt (sH A) x < 2 ^ 31 by omega)]
    by_cases hb : 0 ≤ b.toInt ∧ b.toInt < hCnt (sH A) x
    · rw [if_neg (by omega), if_pos hb.2, if_pos hb]
      obtain ⟨y, hy, rfl⟩ := small hb (by omega)
      by_cases hc : 0 ≤ c.toInt ∧ c.toInt < 6
      · rw [if_neg (by omega), if_pos hc.2, if_pos hc]
        obtain ⟨k, hk, rfl⟩ := small (w := c) (n := 6) hc (by decide)
        have hnm := ok.2.2.1.2.2.2.2.2.1 x y hy
        have h26 : ∀ c ∈ hName (sH A) x y, c ≤ 26 := fun c hc => (hnm.2.2 c hc).2
        have hlt := pk32_lt 6 _ h26
        have hs : ∀ k, k < 6 → ((((5 : Int32) * ((5 : Int32) - nI k)) &&& 31).toBitVec.smod 32).toNat = 5 * (5 - k) := by decide
        have hp : 2 ^ (5 * (5 - k)) = 32 ^ (6 - 1 - k) := by rw [show (32 : Nat) = 2 ^ 5 from rfl, ← Nat.pow_mul]
        rw [z_in_nI hx (by decide), z_in_nI (by omega) (by decide), nI_toNat (by omega), nI_toNat (by omega), hH.2.1 x hx y hy, pk_shrN (Nat.lt_trans hlt (by decide)) _ _ (hs k hk), pk_andN (Nat.lt_of_le_of_lt (Nat.div_le_self _ _) (Nat.lt_trans hlt (by decide))) 5 (by decide), hp, show (2 : Nat) ^ 5 = 32 from rfl, pk32_at 6 _ k h26 hk]
      · by_cases h0 : c.toInt < 0
        · rw [if_pos h0, if_neg hc]
        · rw [if_neg h0, if_neg (by omega), if_neg hc]
    · by_cases h0 : b.toInt < 0
      · rw [if_pos h0, if_neg hb]
      · rw [if_neg h0, if_neg (by omega), if_neg hb]
  · by_cases h0 : a.toInt < 0
    · rw [if_pos h0, if_neg ha]
    · rw [if_neg h0, if_neg (by omega), if_neg ha]
theorem m_letter {A : aS} {ν : z_S} (ok : okS A) (h : mS A ν) (N : Nat) (hN : 10 ≤ N) (a b c : Int32) : f_X12_letter N a b c ν = some (p_letter A a b c, ν) := by
  have hH := h.2.2.2.2.2.2.1
  have e0 : (0 : Int64).toInt = 0 := rfl
  have e2 : (2 : Int64).toInt = 2 := rfl
  have e5 : (5 : Int64).toInt = 5 := rfl
  unfold f_X12_letter p_letter
  rw [m_isIn, z_bn_sm, i64, e0, e2]
  by_cases ha : 0 ≤ a.toInt ∧ a.toInt < 3
  · rw [if_pos (show 0 ≤ a.toInt ∧ a.toInt ≤ 2 by omega), if_neg (by decide), if_pos ha]
    obtain ⟨x, hx, rfl⟩ := small (w := a) (n := 3) ha (by decide)
    have hc8 := cnt_le ok hx
    have e : (5 : Int32) + nI x = nI (5 + x) := ix1 5 x
    rw [e, z_in_nI (show 5 + x < 10 by omega) (by decide), nI_toNat (show 5 + x < 2 ^ 31 by omega), hH.1 x (by omega), m_isIn, z_bn_sm, i64, e0, m_many (show hCnt (sH A) x < 2 ^ 30 by omega), nI_toNat (show x < 2 ^ 31 by omega)]
    by_cases hb : 0 ≤ b.toInt ∧ b.toInt < hCnt (sH A) x
    · rw [if_pos (show 0 ≤ b.toInt ∧ b.toInt ≤ (hCnt (sH A) x : Int) - 1 by omega), if_neg (by decide), if_pos hb, m_isIn, z_bn_sm, i64, e0, e5]
      obtain ⟨y, hy, rfl⟩ := small hb (by omega)
      by_cases hc : 0 ≤ c.toInt ∧ c.toInt < 6
      · rw [if_pos (show 0 ≤ c.toInt ∧ c.toInt ≤ 5 by omega), if_neg (by decide), if_pos hc]
        obtain ⟨k, hk, rfl⟩ := small (w := c) (n := 6) hc (by decide)
        have hnm := ok.2.2.1.2.2.2.2.2.1 x y hy
        have h26 : ∀ c ∈ hName (sH A) x y, c ≤ 26 := fun c hc => (hnm.2.2 c hc).2
        have h1 : ∀ c ∈ hName (sH A) x y, 1 ≤ c := fun c hc => (hnm.2.2 c hc).1
        have hlt := pkR_lt _ h26
        have hge := pkR_ge hnm.1 h1
        have e3 : ((24 : Int32) + (8 : Int32) * nI x) + nI y = nI (24 + 8 * x + y) := ix3 24 8 x y
        have hv : ν.2.1 285 (24 + 8 * x + y) = lN (pkR (hName (sH A) x y)) := by rw [hH.2.1 x hx y hy, pk27_R]
        have h63 : pkR (hName (sH A) x y) < 2 ^ 63 := Nat.lt_trans (Nat.lt_of_lt_of_le hlt (Nat.pow_le_pow_right (by decide) hnm.2.1)) (by decide)
        rw [e3, z_in_nI (by omega) (by decide), nI_toNat (show 24 + 8 * x + y < 2 ^ 31 by omega), hv, z_bd_eq, nI_toNat (show y < 2 ^ 31 by omega), nI_toNat (show k < 2 ^ 31 by omega)]
        have hdg := fun e90 => m_digits N (nI k) (lN (pkR (hName (sH A) x y))) e90 ν hlt hnm.2.1 (Or.inr hge) N 0 (Nat.zero_le _) (by have := hnm.2.1; omega)
        rw [Nat.pow_zero, Nat.div_one] at hdg
        have hdg' : ∀ e90, f_X12_letter_L69 N (nI k) (lN (pkR (hName (sH A) x y))) e90 N 0 (lN (pkR (hName (sH A) x y))) ν = e90 (nI (hName (sH A) x y).length) ν := hdg
        rw [hdg']
        by_cases hkl : k < (hName (sH A) x y).length
        · have e4 : nI (hName (sH A) x y).length - (1 : Int32) = nI ((hName (sH A) x y).length - 1) := pk_sub (b := 1) hnm.1
          have hdv := fun e124 => m_divs N e124 ν h63 (show k < 2 ^ 30 by omega) N ((hName (sH A) x y).length - 1) (by omega) (by have := hnm.2.1; omega) (by have := hnm.2.1; omega) 0
          rw [Nat.pow_zero, Nat.div_one, Nat.zero_add] at hdv
          have h27 : pkR (hName (sH A) x y) / 27 ^ ((hName (sH A) x y).length - 1 - k) < 2 ^ 63 := Nat.lt_of_le_of_lt (Nat.div_le_self _ _) h63
          have e27 : ∀ q, q < 2 ^ 63 → lN q - lN q / (27 : Int64) * (27 : Int64) = lN (q % 27) := fun q hq => pk_lRem (b := 27) hq (by decide) (by decide)
          rw [if_pos (nI_lt hkl (by have := hnm.2.1; omega)), z_bd_eq, e4, hdv, z_nzJ_ok (by decide), e27 _ h27, lN_i, pkR_at _ k h26 hkl]
        · have hk0 : (hName (sH A) x y).getD k 0 = 0 := by rw [List.getD_eq_getElem?_getD, List.getElem?_eq_none (by omega)]; rfl
          rw [if_neg (nI_nlt (by omega) (by omega)), hk0]
          rfl
      · rw [if_neg (show ¬ (0 ≤ c.toInt ∧ c.toInt ≤ 5) by omega), if_pos rfl, if_neg hc]
    · rw [if_neg (show ¬ (0 ≤ b.toInt ∧ b.toInt ≤ (hCnt (sH A) x : Int) - 1) by omega), if_pos rfl, if_neg hb]
  · rw [if_neg (show ¬ (0 ≤ a.toInt ∧ a.toInt ≤ 2) by omega), if_pos rfl, if_neg ha]
theorem op_letter {A : aS} {μ ν : z_S} (ok : okS A) (hc : cS A μ) (hm : mS A ν) (N : Nat) (hN : 10 ≤ N) (a b c : Int32) : z_Op (f_X11_letter N a b c μ) (f_X12_letter N a b c ν) := z_Op.read ok hc hm (c_letter ok hc N a b c) (m_letter ok hm N hN a b c)
