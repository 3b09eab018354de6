/-! has -/
def cntP (f : Nat → Nat) : Nat → Nat
  | 0 => 0
  | l + 1 => if 0 < f l then cntP f l + 1 else cntP f l
theorem cntP_le (f : Nat → Nat) : ∀ n, cntP f n ≤ n
  | 0 => Nat.le_refl 0
  | n + 1 => by
    have h := cntP_le f n
    show (if 0 < f n then cntP f n + 1 else cntP f n) ≤ n + 1
    split <;> omega
theorem cntP_stop {f : Nat → Nat} {n : Nat} (h : ∀ k, n ≤ k → f k = 0) : ∀ m, n ≤ m → cntP f m = cntP f n := by
  intro m hm
  induction m with
  | zero => have : n = 0 := by omega
            rw [this]
  | succ m ih =>
    by_cases e : n = m + 1
    · rw [e]
    · show (if 0 < f m then _ else cntP f m) = _
      rw [if_neg (by rw [h m (by omega)]; decide)]
      exact ih (by omega)
theorem c_count {μ : z_S} {o : Nat} (hk : z_kw true o = (20, 8)) {g : Nat → Nat} {c : Int32} (hg : ∀ k, k < 8 → (μ.1 o k = c ↔ g k = 0)) (N : Nat) (hN : 9 ≤ N) : f_X8_countOf N o c μ = some (nI (8 - cntP g 8), μ) := by
  have key : ∀ n l, l ≤ 8 → 8 - l < n → f_X8_countOf_L11 N o c (nI 8) n (nI (l - cntP g l)) (nI l) μ = some (nI (8 - cntP g 8), μ) := by
    intro n
    induction n with
    | zero => intro l h1 h2; omega
    | succ n ih =>
      intro l h1 h2
      show b_X8_countOf_L11 N o c (nI 8) (f_X8_countOf_L11 N o c (nI 8) n) (nI (l - cntP g l)) (nI l) μ = _
      unfold b_X8_countOf_L11 f_X8_countOf_B33
      by_cases hlt : l < 8
      · rw [if_pos (nI_lt hlt (by decide)), hk, z_in_nI hlt (by decide), nI_toNat (by omega), z_bd_eq]
        have e : nI l + 1 = nI (l + 1) := nI_1 l
        have hb : cntP g (l + 1) = if 0 < g l then cntP g l + 1 else cntP g l := rfl
        have hle := cntP_le g l
        by_cases hq : g l = 0
        · rw [if_pos ((hg l hlt).mpr hq)]
          rw [if_neg (by omega)] at hb
          have e2 : nI (l - cntP g l) + 1 = nI (l + 1 - cntP g (l + 1)) := by rw [hb, show l + 1 - cntP g l = l - cntP g l + 1 by omega]; exact nI_1 _
          rw [z_bd_eq, z_bd_eq, e, e2]
          exact ih (l + 1) (by omega) (by omega)
        · rw [if_neg (fun z => hq ((hg l hlt).mp z))]
          rw [if_pos (by omega)] at hb
          have e2 : l - cntP g l = l + 1 - cntP g (l + 1) := by rw [hb]; omega
          rw [z_bd_eq, e, e2]
          exact ih (l + 1) (by omega) (by omega)
      · rw [if_neg (nI_nlt (by omega) (by omega))]
        have : l = 8 := by omega
        rw [this]
  unfold f_X8_countOf
  rw [z_kd_ok (by rw [hk]), hk, z_bd_eq]
  exact key N 0 (Nat.zero_le _) (by omega)
theorem nI_m1 {a : Nat} (ha : a < 2 ^ 30) : nI a - 1 = -1 ↔ a = 0 := by
  rw [← Int32.toInt_inj, show nI a - (1 : Int32) = nI a - nI 1 from rfl, pk_sub_toInt ha (by decide)]
  have : (-1 : Int32).toInt = -1 := by decide
  rw [this]
  omega
theorem nI_z {a : Nat} (ha : a < 2 ^ 31) : nI a = 0 ↔ a = 0 := nI_eq (b := 0) ha (by decide)
theorem c_counts {h : aH} {a : aN} {μ : z_S} (ok : okN h a) (hh : hCnt h 2 ≤ 3 ∧ hCnt h 1 ≤ 4) {s : Nat} (hs : z_kw true s = (8, 0)) (hc : cN s a μ) (N : Nat) (hN : 9 ≤ N) :
    f_X8_countDone N s μ = some (nI (cntP (nDone a) 8), μ) ∧ f_X8_countSheets N s μ = some (nI (cntP (nSheet a) 8), μ) ∧ f_X8_countGiven N s μ = some (nI (cntP (nGift a) 8), μ) := by
  have hsub : ∀ g : Nat → Nat, (8 : Int32) - nI (8 - cntP g 8) = nI (cntP g 8) := fun g => by
    have := cntP_le g 8
    show nI 8 - nI (8 - cntP g 8) = _
    rw [pk_sub (by omega)]
    congr 1
    omega
  have b1 : ∀ k, nDone a k < 2 ^ 30 := fun k => by have := ok.2.2.2.2.2.1 k; omega
  have b2 : ∀ k, nSheet a k < 2 ^ 30 := fun k => by have := ok.2.2.2.2.2.2.1 k; omega
  have b3 : ∀ k, nGift a k < 2 ^ 30 := fun k => by have := ok.2.2.2.2.2.2.2.1 k; omega
  refine ⟨?_, ?_, ?_⟩
  · unfold f_X8_countDone
    rw [z_ko_ok hs, c_count (gk_8_3 hs) (g := nDone a) (fun k hk => by rw [hc.2.2.2.1 k hk]; exact nI_m1 (b1 k)) N hN, z_bn_sm, hsub]
  · unfold f_X8_countSheets
    rw [z_ko_ok hs, c_count (gk_8_4 hs) (g := nSheet a) (fun k hk => by rw [hc.2.2.2.2.1 k hk]; exact nI_z (by have := b2 k; omega)) N hN, z_bn_sm, hsub]
  · unfold f_X8_countGiven
    rw [z_ko_ok hs, c_count (gk_8_5 hs) (g := nGift a) (fun k hk => by rw [hc.2.2.2.2.2 k hk]; exact nI_m1 (b3 k)) N hN, z_bn_sm, hsub]
def sumL (f : Nat → Nat) : Nat → Nat
  | 0 => 0
  | l + 1 => sumL f l + f l
theorem sumL_stop {f : Nat → Nat} {n : Nat} (h : ∀ k, n ≤ k → f k = 0) : ∀ m, n ≤ m → sumL f m = sumL f n := by
  intro m hm
  induction m with
  | zero => have : n = 0 := by omega
            rw [this]
  | succ m ih =>
    by_cases e : n = m + 1
    · rw [e]
    · show sumL f m + f m = _
      rw [h m (by omega), Nat.add_zero]
      exact ih (by omega)
theorem c_left {a : aN} {μ : z_S} {s : Nat} (hs : z_kw true s = (8, 0)) (hc : cN s a μ) (N : Nat) (hN : 4 ≤ N) : f_X8_countLeft N s μ = some (nI (sumL (nLeft a) 3), μ) := by
  have key : ∀ n l, l ≤ 3 → 3 - l < n → f_X8_countLeft_L13 N s (nI 3) n (nI (sumL (nLeft a) l)) (nI l) μ = some (nI (sumL (nLeft a) 3), μ) := by
    intro n
    induction n with
    | zero => intro l h1 h2; omega
    | succ n ih =>
      intro l h1 h2
      show b_X8_countLeft_L13 N s (nI 3) (f_X8_countLeft_L13 N s (nI 3) n) (nI (sumL (nLeft a) l)) (nI l) μ = _
      unfold b_X8_countLeft_L13
      by_cases hlt : l < 3
      · rw [if_pos (nI_lt hlt (by decide)), z_in_nI hlt (by decide), nI_toNat (by omega), z_bd_eq, hc.2.1 l hlt, nI_add]
        have e : nI l + 1 = nI (l + 1) := nI_1 l
        rw [z_bd_eq, z_bd_eq, e]
        exact ih (l + 1) (by omega) (by omega)
      · rw [if_neg (nI_nlt (by omega) (by omega))]
        have : l = 3 := by omega
        rw [this]
  unfold f_X8_countLeft
  rw [z_ko_ok hs]
  exact key N 0 (Nat.zero_le _) (by omega)
/-- which of answers, sheets, gifts -/
def nWhich (a : aN) (w : Nat) : Nat → Nat := if w = 0 then nDone a else if w = 1 then nSheet a else nGift a
theorem m_with {A : aS} {ν : z_S} (ok : okS A) (h : mS A ν) (N : Nat) (hN : 9 ≤ N) {w : Nat} (hw : w < 3) : f_X12_manyWith N (nI w) ν = some (nI (cntP (nWhich (sN A) w) (hCnt (sH A) 0)), ν) := by
  have h8 := ok.2.2.1.1
  have hb : ∀ k, nWhich (sN A) w k < 2 ^ 31 := fun k => by
    have h1 := ok.2.2.2.1.2.2.2.2.2.1 k
    have h2 := ok.2.2.2.1.2.2.2.2.2.2.1 k
    have h3 := ok.2.2.2.1.2.2.2.2.2.2.2.1 k
    have h4 := ok.2.2.1.2.1
    have h5 := ok.2.2.1.2.2.1
    unfold nWhich
    split
    · omega
    · split <;> omega
  have hrd : ∀ k, k < 8 → ν.1 296 (8 + 3 * k + w) = nI (nWhich (sN A) w k) := fun k hk => by
    have hn := h.2.2.2.2.2.2.2.1.2.2.2 k hk
    unfold nWhich
    rcases (show w = 0 ∨ w = 1 ∨ w = 2 by omega) with rfl | rfl | rfl
    · have := hn.1
      rw [show 0 + 8 + 3 * k = 8 + 3 * k + 0 by omega] at this
      rw [this]; rfl
    · have := hn.2.1
      rw [show 0 + 9 + 3 * k = 8 + 3 * k + 1 by omega] at this
      rw [this]; rfl
    · have := hn.2.2
      rw [show 0 + 10 + 3 * k = 8 + 3 * k + 2 by omega] at this
      rw [this]; rfl
  have key : ∀ n l, l ≤ hCnt (sH A) 0 → hCnt (sH A) 0 - l < n → f_X12_manyWith_L4 N (nI w) n (nI (cntP (nWhich (sN A) w) l)) (nI l) ν = some (nI (cntP (nWhich (sN A) w) (hCnt (sH A) 0)), ν) := by
    intro n
    induction n with
    | zero => intro l h1 h2; omega
    | succ n ih =>
      intro l h1 h2
      show b_X12_manyWith_L4 N (nI w) (f_X12_manyWith_L4 N (nI w) n) (nI (cntP (nWhich (sN A) w) l)) (nI l) ν = _
      unfold b_X12_manyWith_L4 f_X12_manyWith_B31 f_X12_letterMany
      rw [z_bn_sm, h.2.2.2.2.2.2.1.1 0 (by decide)]
      by_cases hlt : l < hCnt (sH A) 0
      · have e3 : ((8 : Int32) + (3 : Int32) * nI l) + nI w = nI (8 + 3 * l + w) := ix3 8 3 l w
        rw [if_pos (nI_lt hlt (by omega)), e3, z_in_nI (by omega) (by decide), nI_toNat (by omega), hrd l (by omega)]
        have e : nI l + 1 = nI (l + 1) := nI_1 l
        have hb2 : cntP (nWhich (sN A) w) (l + 1) = if 0 < nWhich (sN A) w l then cntP (nWhich (sN A) w) l + 1 else cntP (nWhich (sN A) w) l := rfl
        by_cases hq : 0 < nWhich (sN A) w l
        · rw [if_pos (show (0 : Int32) < nI (nWhich (sN A) w l) from nI_lt (a := 0) hq (hb l))]
          rw [if_pos hq] at hb2
          have e2 : nI (cntP (nWhich (sN A) w) l) + 1 = nI (cntP (nWhich (sN A) w) (l + 1)) := by rw [hb2]; exact nI_1 _
          rw [z_bd_eq, z_bd_eq, e, e2]
          exact ih (l + 1) (by omega) (by omega)
        · rw [if_neg (show ¬ (0 : Int32) < nI (nWhich (sN A) w l) from nI_nlt (a := 0) (b := nWhich (sN A) w l) (by omega) (by decide))]
          rw [if_neg hq] at hb2
          rw [z_bd_eq, e, ← hb2]
          exact ih (l + 1) (by omega) (by omega)
      · rw [if_neg (nI_nlt (by omega) (by omega))]
        have : l = hCnt (sH A) 0 := by omega
        rw [this]
  unfold f_X12_manyWith
  exact key N 0 (Nat.zero_le _) (by omega)
theorem m_leftAll {A : aS} {ν : z_S} (ok : okS A) (h : mS A ν) (N : Nat) (hN : 4 ≤ N) : f_X12_leftAll N ν = some (nI (sumL (nLeft (sN A)) (hCnt (sH A) 2)), ν) := by
  have h3 := ok.2.2.1.2.2.1
  have key : ∀ n l, l ≤ hCnt (sH A) 2 → hCnt (sH A) 2 - l < n → f_X12_leftAll_L4 N n (nI (sumL (nLeft (sN A)) l)) (nI l) ν = some (nI (sumL (nLeft (sN A)) (hCnt (sH A) 2)), ν) := by
    intro n
    induction n with
    | zero => intro l h1 h2; omega
    | succ n ih =>
      intro l h1 h2
      show b_X12_leftAll_L4 N (f_X12_leftAll_L4 N n) (nI (sumL (nLeft (sN A)) l)) (nI l) ν = _
      unfold b_X12_leftAll_L4 f_X12_helperMany
      rw [z_bn_sm, h.2.2.2.2.2.2.1.1 2 (by decide)]
      by_cases hlt : l < hCnt (sH A) 2
      · rw [if_pos (nI_lt hlt (by omega)), m_left h N (by omega), z_bn_sm, nI_add]
        have e : nI l + 1 = nI (l + 1) := nI_1 l
        rw [z_bd_eq, z_bd_eq, e]
        exact ih (l + 1) (by omega) (by omega)
      · rw [if_neg (nI_nlt (by omega) (by omega))]
        have : l = hCnt (sH A) 2 := by omega
        rw [this]
  unfold f_X12_leftAll
  exact key N 0 (Nat.zero_le _) (by omega)
def p_has (A : aS) (w : Int32) : Int32 :=
  if w = 0 then nI (hCnt (sH A) 0) else if w = 1 then nI (hCnt (sH A) 1) else if w = 2 then nI (hCnt (sH A) 2) else if w = 3 then nI (hCnt (sH A) 3) else if w = 4 then nI (hCnt (sH A) 4) else if w = 5 then nI (nDay (sN A)) else
  if w = 6 then nI (cntP (nDone (sN A)) 8) else if w = 7 then nI (cntP (nSheet (sN A)) 8) else if w = 8 then nI (cntP (nGift (sN A)) 8) else if w = 9 then nI (sumL (nLeft (sN A)) 3) else if w = 10 then nI (sSeen A).length else if w = 11 then nI (sPast A).length else -1
theorem c_has {A : aS} {μ : z_S} (ok : okS A) (h : cS A μ) (N : Nat) (hN : 9 ≤ N) (w : Int32) : f_X11_has N w μ = some (p_has A w, μ) := by
  obtain ⟨q1, q2, q3⟩ := c_counts ok.2.2.2.1 ⟨ok.2.2.1.2.2.1, ok.2.2.1.2.1⟩ kd_39 h.2.2.2.2.2.2.2.2.1 N hN
  have q4 := c_left kd_39 h.2.2.2.2.2.2.2.2.1 N (by omega)
  have hH := h.2.2.2.2.2.2.2.1
  have hB : ∀ k, k < 5 → f_X11_has_B64 N (nI k) μ = some (nI (hCnt (sH A) k), μ) := fun k hk => by
    unfold f_X11_has_B64
    rw [z_in_nI (by omega) (by decide), nI_toNat (by omega), hH.1 k hk]
  obtain ⟨-, -, -, -, -, -, -, -, a9, b1, -, c1, -⟩ := h
  unfold f_X11_has p_has
  rw [z_bd_eq, q1, q2, q3, q4, b1, c1, a9.1]
  by_cases e0 : w = 0
  · rw [if_pos e0, if_pos e0]; rw [e0]; exact hB 0 (by decide)
  rw [if_neg e0, if_neg e0]
  by_cases e1 : w = 1
  · rw [if_pos e1, if_pos e1]; rw [e1]; exact hB 1 (by decide)
  rw [if_neg e1, if_neg e1]
  by_cases e2 : w = 2
  · rw [if_pos e2, if_pos e2]; rw [e2]; exact hB 2 (by decide)
  rw [if_neg e2, if_neg e2]
  by_cases e3 : w = 3
  · rw [if_pos e3, if_pos e3]; rw [e3]; exact hB 3 (by decide)
  rw [if_neg e3, if_neg e3]
  by_cases e4 : w = 4
  · rw [if_pos e4, if_pos e4]; rw [e4]; exact hB 4 (by decide)
  rw [if_neg e4, if_neg e4]
  by_cases e5 : w = 5
  · rw [if_pos e5, if_pos e5]
  rw [if_neg e5, if_neg e5]
  by_cases e6 : w = 6
  · rw [if_pos e6, if_pos e6]; rfl
  rw [if_neg e6, if_neg e6]
  by_cases e7 : w = 7
  · rw [if_pos e7, if_pos e7]; rfl
  rw [if_neg e7, if_neg e7]
  by_cases e8 : w = 8
  · rw [if_pos e8, if_pos e8]; rfl
  rw [if_neg e8, if_neg e8]
  by_cases e9 : w = 9
  · rw [if_pos e9, if_pos e9]; rfl
  rw [if_neg e9, if_neg e9]
  by_cases e10 : w = 10
  · rw [if_pos e10, if_pos e10]
  rw [if_neg e10, if_neg e10]
  by_cases e11 : w = 11
  · rw [if_pos e11, if_pos e11]
  rw [if_neg e11, if_neg e11]
theorem m_has {A : aS} {ν : z_S} (ok : okS A) (h : mS A ν) (N : Nat) (hN : 9 ≤ N) (w : Int32) : f_X12_has N w ν = some (p_has A w, ν) := by
  have hH := h.2.2.2.2.2.2.1
  have h0 := ok.2.2.1.1
  have h2 := ok.2.2.1.2.2.1
  have hB : ∀ k, k < 5 → f_X12_has_B64 N (nI k) ν = some (nI (hCnt (sH A) k), ν) := fun k hk => by
    unfold f_X12_has_B64
    have e : (5 : Int32) + nI k = nI (5 + k) := ix1 5 k
    rw [e, z_in_nI (by omega) (by decide), nI_toNat (by omega), hH.1 k hk]
  have hz := ok.2.2.2.1.2.2.2.2.2.2.2.2
  have s0 : cntP (nDone (sN A)) 8 = cntP (nDone (sN A)) (hCnt (sH A) 0) := cntP_stop (fun k hk => (hz k hk).1) 8 h0
  have s1 : cntP (nSheet (sN A)) 8 = cntP (nSheet (sN A)) (hCnt (sH A) 0) := cntP_stop (fun k hk => (hz k hk).2.1) 8 h0
  have s2 : cntP (nGift (sN A)) 8 = cntP (nGift (sN A)) (hCnt (sH A) 0) := cntP_stop (fun k hk => (hz k hk).2.2) 8 h0
  have s3 : sumL (nLeft (sN A)) 3 = sumL (nLeft (sN A)) (hCnt (sH A) 2) := sumL_stop (fun k hk => ok.2.2.2.1.2.2.1 k hk) 3 h2
  have w0 := m_with ok h N hN (w := 0) (by decide)
  have w1 := m_with ok h N hN (w := 1) (by decide)
  have w2 := m_with ok h N hN (w := 2) (by decide)
  have q4 := m_leftAll ok h N (by omega)
  obtain ⟨-, -, -, -, -, -, -, a8, b1, -, c1, -⟩ := h
  unfold f_X12_has p_has f_X12_has_B80
  rw [z_bd_eq, q4, b1, c1, a8.1, s0, s1, s2, s3]
  by_cases e0 : w = 0
  · rw [if_pos e0, if_pos e0]; rw [e0]; exact hB 0 (by decide)
  rw [if_neg e0, if_neg e0]
  by_cases e1 : w = 1
  · rw [if_pos e1, if_pos e1]; rw [e1]; exact hB 1 (by decide)
  rw [if_neg e1, if_neg e1]
  by_cases e2 : w = 2
  · rw [if_pos e2, if_pos e2]; rw [e2]; exact hB 2 (by decide)
  rw [if_neg e2, if_neg e2]
  by_cases e3 : w = 3
  · rw [if_pos e3, if_pos e3]; rw [e3]; exact hB 3 (by decide)
  rw [if_neg e3, if_neg e3]
  by_cases e4 : w = 4
  · rw [if_pos e4, if_pos e4]; rw [e4]; exact hB 4 (by decide)
  rw [if_neg e4, if_neg e4]
  by_cases e5 : w = 5
  · rw [if_pos e5, if_pos e5]
  rw [if_neg e5, if_neg e5]
  by_cases e6 : w = 6
  · rw [if_pos e6, if_pos e6]; rw [e6]; show z_bn (f_X12_manyWith N (nI 0) ν) _ = _; rw [w0]; rfl
  rw [if_neg e6, if_neg e6]
  by_cases e7 : w = 7
  · rw [if_pos e7, if_pos e7]; rw [e7]; show z_bn (f_X12_manyWith N (nI 1) ν) _ = _; rw [w1]; rfl
  rw [if_neg e7, if_neg e7]
  by_cases e8 : w = 8
  · rw [if_pos e8, if_pos e8]; rw [e8]; show z_bn (f_X12_manyWith N (nI 2) ν) _ = _; rw [w2]; rfl
  rw [if_neg e8, if_neg e8]
  by_cases e9 : w = 9
  · rw [if_pos e9, if_pos e9]; rfl
  rw [if_neg e9, if_neg e9]
  by_cases e10 : w = 10
  · rw [if_pos e10, if_pos e10]
  rw [if_neg e10, if_neg e10]
  by_cases e11 : w = 11
  · rw [if_pos e11, if_pos e11]
  rw [if_neg e11, if_neg e11]
theorem op_has {A : aS} {μ ν : z_S} (ok : okS A) (hc : cS A μ) (hm : mS A ν) (N : Nat) (hN : 9 ≤ N) (w : Int32) : z_Op (f_X11_has N w μ) (f_X12_has N w ν) := z_Op.read ok hc hm (c_has ok hc N hN w) (m_has ok hm N hN w)
