theorem timeV_iI {h : aH} {n : aN} {l i : Nat} : nI (timeV h n l i) = iI (if formV h n l i 0 < 1 then 1 else if 999 < formV h n l i 0 then 999 else formV h n l i 0) := by
  rw [nI_iI]
  congr 1
  unfold timeV
  split
  · rfl
  · split
    · rfl
    · omega
theorem c_time {h : aH} {n : aN} {μ : z_S} {o s : Nat} (ok : okH h) (hn : okN h n) (ho : z_kw true o = (2, 0)) (hs : z_kw true s = (8, 0)) (hko : z_kw true (o + 32) = (0, 0)) (ho1 : 56 ≤ o) (hs1 : 39 ≤ s) (hc : cH o h μ) (hcn : cN s n μ) (N : Nat) (hN : 1700 ≤ N) {l i : Nat} (hl : l < hCnt h 0) (hi : i < hCnt h 2) : ∃ μ', f_X4_timeOf N o s (nI l) (nI i) μ = some (nI (timeV h n l i), μ') ∧ cFr μ μ' := by
  have h3 := ok.2.2.1
  obtain ⟨μ1, μ', p1, p2, p3, p4, p5⟩ := c_form ok hn ho hs hko ho1 hs1 hc hcn N hN hl hi (f := 0) (by decide)
  refine ⟨μ', ?_, p5⟩
  unfold f_X4_timeOf f_J9_min_7cf53 f_J9_max_7cf53
  rw [z_ko_ok ho, z_ko_ok hs, p1, z_bn_sm, z_in_nI (show i < 3 by omega) (by decide), nI_toNat (by omega), p2, z_bd_eq, p3, z_bn_sm, timeV_iI]
  generalize formV h n l i 0 = v at p4 ⊢
  have e999 : bdM 999 := ⟨by decide, by decide⟩
  by_cases c1 : v < 999
  · rw [if_pos (show iI v < (999 : Int32) from (iI_lt (b := 999) p4 e999).mpr c1), z_bn_sm]
    by_cases c2 : 1 < v
    · rw [if_pos (show (1 : Int32) < iI v from (iI_lt (a := 1) bd_1 p4).mpr c2), z_bn_sm, if_neg (by omega), if_neg (by omega)]
    · rw [if_neg (show ¬ (1 : Int32) < iI v from fun z => c2 ((iI_lt (a := 1) bd_1 p4).mp z)), z_bn_sm]
      by_cases c3 : v < 1
      · rw [if_pos c3]; rfl
      · rw [if_neg c3, if_neg (by omega), show v = 1 by omega]; rfl
  · rw [if_neg (show ¬ iI v < (999 : Int32) from fun z => c1 ((iI_lt (b := 999) p4 e999).mp z)), z_bn_sm, if_pos (show (1 : Int32) < 999 by decide), z_bn_sm, if_neg (by omega)]
    by_cases c3 : 999 < v
    · rw [if_pos c3]; rfl
    · rw [if_neg c3, show v = 999 by omega]; rfl
theorem c_warm {h : aH} {n : aN} {μ : z_S} {o s : Nat} (ok : okH h) (hn : okN h n) (ho : z_kw true o = (2, 0)) (hs : z_kw true s = (8, 0)) (hko : z_kw true (o + 32) = (0, 0)) (ho1 : 56 ≤ o) (hs1 : 39 ≤ s) (hc : cH o h μ) (hcn : cN s n μ) (N : Nat) (hN : 1700 ≤ N) {l i : Nat} (hl : l < hCnt h 0) (hi : i < hCnt h 2) : ∃ μ', f_X4_warmthOf N o s (nI l) (nI i) μ = some (iI (warmV h n l i), μ') ∧ bdM (warmV h n l i) ∧ cFr μ μ' := by
  have h3 := ok.2.2.1
  obtain ⟨μ1, μ', p1, p2, p3, p4, p5⟩ := c_form ok hn ho hs hko ho1 hs1 hc hcn N hN hl hi (f := 1) (by decide)
  refine ⟨μ', ?_, p4, p5⟩
  unfold f_X4_warmthOf
  rw [z_ko_ok ho, z_ko_ok hs, p1, z_bn_sm, z_in_nI (show i < 3 by omega) (by decide), nI_toNat (by omega), p2, z_bd_eq, p3, z_bn_sm]
  rfl
/-- whether a helper can answer a letter -/
def ableV (h : aH) (n : aN) (l i : Nat) : Prop := nDone n l = 0 ∧ hMail h l 2 ≤ hHelp h i 2 ∧ timeV h n l i ≤ nLeft n i
theorem c_able {h : aH} {n : aN} {μ : z_S} {o s : Nat} (ok : okH h) (hn : okN h n) (ho : z_kw true o = (2, 0)) (hs : z_kw true s = (8, 0)) (hko : z_kw true (o + 32) = (0, 0)) (ho1 : 56 ≤ o) (hs1 : 39 ≤ s) (hc : cH o h μ) (hcn : cN s n μ) (N : Nat) (hN : 1700 ≤ N) {l i : Nat} (hl : l < hCnt h 0) (hi : i < hCnt h 2) : ∃ r μ', f_X4_timeIfAble N o s (nI l) (nI i) μ = some (r, μ') ∧ cFr μ μ' ∧ ((ableV h n l i ∧ r = nI (timeV h n l i)) ∨ (¬ ableV h n l i ∧ r = -1)) := by
  have h8 := ok.1
  have h3 := ok.2.2.1
  have hb1 := (ok.2.2.2.2.2.2.2.2.2.2.2.2.2.2.2.2.2.1 i).2.2.2
  have hb2 := (ok.2.2.2.2.2.2.1 l).2.2
  have hd := hn.2.2.2.2.2.1 l
  have hlf := hn.2.1 i
  have ht := timeV_bd h n l i
  unfold f_X4_timeIfAble
  rw [z_ko_ok ho, z_ko_ok hs, z_in_nI (show l < 8 by omega) (by decide), nI_toNat (show l < 2 ^ 31 by omega), hcn.2.2.2.1 l (by omega)]
  by_cases c1 : nDone n l = 0
  · rw [if_pos (show nI (nDone n l) - 1 = (-1 : Int32) from (nI_m1 (by omega)).mpr c1), z_in_nI (show i < 3 by omega) (by decide), z_in_nI (show l < 8 by omega) (by decide), nI_toNat (show i < 2 ^ 31 by omega), (hc.2.2.2.2.2.2.2.1 i hi).2.2, (hc.2.2.1 l hl).2.2]
    by_cases c2 : hMail h l 2 ≤ hHelp h i 2
    · rw [if_neg (nI_nlt c2 (by omega)), z_in_nI (show i < 3 by omega) (by decide), hcn.2.1 i (by omega)]
      by_cases c3 : nLeft n i = 0
      · rw [if_pos ((nI_z (by omega)).mpr c3)]
        exact ⟨-1, μ, rfl, cFr.rf μ, Or.inr ⟨fun z => by have := z.2.2; omega, rfl⟩⟩
      · rw [if_neg (fun z => c3 ((nI_z (by omega)).mp z))]
        obtain ⟨μ', p1, p2⟩ := c_time ok hn ho hs hko ho1 hs1 hc hcn N hN hl hi
        rw [p1, z_bn_sm, z_in_nI (show i < 3 by omega) (by decide), (p2.cN hs1 hcn).2.1 i (by omega)]
        by_cases c4 : timeV h n l i ≤ nLeft n i
        · rw [if_neg (nI_nlt c4 (by omega))]
          exact ⟨_, μ', rfl, p2, Or.inl ⟨⟨c1, c2, c4⟩, rfl⟩⟩
        · rw [if_pos (nI_lt (by omega) (by omega))]
          exact ⟨-1, μ', rfl, p2, Or.inr ⟨fun z => c4 z.2.2, rfl⟩⟩
    · rw [if_pos (nI_lt (by omega) (by omega))]
      exact ⟨-1, μ, rfl, cFr.rf μ, Or.inr ⟨fun z => c2 z.2.1, rfl⟩⟩
  · rw [if_neg (show ¬ nI (nDone n l) - 1 = (-1 : Int32) from fun z => c1 ((nI_m1 (by omega)).mp z))]
    exact ⟨-1, μ, rfl, cFr.rf μ, Or.inr ⟨fun z => c1 z.1, rfl⟩⟩
/-! the reference's -/
def mFr (ν ν' : z_S) : Prop := ν'.2.2 = ν.2.2 ∧ (∀ o j, o ≠ 253 ∨ (j ≠ 56 ∧ j ≠ 53 ∧ j ≠ 101) → ν'.1 o j = ν.1 o j) ∧ ∀ o j, o ≠ 332 → ν'.2.1 o j = ν.2.1 o j
theorem mFr.rf (ν : z_S) : mFr ν ν := ⟨rfl, fun _ _ _ => rfl, fun _ _ _ => rfl⟩
theorem mFr.tr {ν ν1 ν2 : z_S} (h : mFr ν ν1) (g : mFr ν1 ν2) : mFr ν ν2 := ⟨g.1.trans h.1, fun o j ho => (g.2.1 o j ho).trans (h.2.1 o j ho), fun o j ho => (g.2.2 o j ho).trans (h.2.2 o j ho)⟩
theorem mFr.mS {A : aS} {ν ν' : z_S} (h : mS A ν) (g : mFr ν ν') : mS A ν' := mS_scr h (fun o j ho => g.2.1 o j (by unfold mRel at ho; omega)) (fun j => g.2.2 _ _ (by decide)) (g.2.2 _ _ (by decide))
theorem mStk.mS {A : aS} {st : List Int} {ν0 ν : z_S} (h : mS A ν0) (g : mStk st ν0 ν) : mS A ν := mS_scr h (fun o j ho => g.2.2.1 o j (by unfold mRel at ho; omega)) (fun j => g.2.2.2.1 _ _ (by decide)) (g.2.2.2.1 _ _ (by decide))
theorem i32 (c : Int32) : c = iI c.toInt := (Int32.ofInt_toInt c).symm
theorem cmap_n {c : Int32} (h0 : 0 ≤ c) : cmap c = iI (c.toInt + 1000) := by
  unfold cmap
  rw [if_pos h0]
  conv => lhs; rw [i32 c]
  rw [show (1000 : Int32) = iI 1000 from rfl, ← Int32.ofInt_add]
theorem cmap_v {c : Int32} (h0 : ¬ 0 ≤ c) (h1 : -10 ≤ c) : cmap c = iI (39 - c.toInt) := by
  unfold cmap
  rw [if_neg h0, if_pos h1]
  conv => lhs; rw [i32 c]
  rw [show (39 : Int32) = iI 39 from rfl, ← Int32.ofInt_sub]
theorem cmap_j {c : Int32} (h1 : ¬ -10 ≤ c) (h2 : -22 < c) : cmap c = iI (-10 - c.toInt) := by
  have q1 : ¬ -10 ≤ c.toInt := fun z => h1 (Int32.le_iff_toInt_le.mpr z)
  have q2 : -22 < c.toInt := Int32.lt_iff_toInt_lt.mp h2
  unfold cmap
  rw [if_neg (fun z => q1 (by have := Int32.le_iff_toInt_le.mp z; rw [Int32.toInt_zero] at this; omega)), if_neg h1, if_neg (fun z => by rw [z] at q2; exact absurd q2 (by decide))]
  conv => lhs; rw [i32 c]
  rw [show (-10 : Int32) = iI (-10) from rfl, ← Int32.ofInt_sub]
theorem m_stepF {A : aS} {ν0 ν : z_S} (ok : okS A) (h : mS A ν0) (N : Nat) (hN : 5 ≤ N) {f : Nat} (hf : f < 2) {l : Nat} (hl : l < hCnt (sH A) 0) {hand : Int} (hb : bdM hand) (hh : ν0.1 253 56 = iI hand) (kb : Int32 → z_S → Option (Int64 × z_S)) (e : z_S → Option (Int64 × z_S)) {st st' : List Int} (hs : mStk st ν0 ν) (hl1 : st.length ≤ 64) (hl' : st'.length ≤ 64) (hbs : ∀ x ∈ st, bdM x) {k b : Nat} (hk : k < b) (hb2 : b ≤ 1600) (h294 : ν0.1 294 (2 + f) = nI b) {c : Int32} (hc : ν0.1 295 (1600 + k) = cmap c) (hcb : c.toInt ≤ 9999) (hcf : -6 ≤ c ∨ (-16 ≤ c ∧ c ≤ -11)) (hst : stepV (envV (sH A) (sN A) l hand) (wishF (envW (sH A) l)) st c = some st') : ∃ ν', b_X12_codesTell_L35 N (nI f) (nI l) kb e (nI k) ν = kb (nI (k + 1)) ν' ∧ mStk st' ν0 ν' := by
  have ek : nI k + 1 = nI (k + 1) := nI_1 k
  have e2 : (2 : Int32) + nI f = nI (2 + f) := ix1 2 f
  have e16 : (1600 : Int32) + nI k = nI (1600 + k) := ix1 1600 k
  unfold b_X12_codesTell_L35 f_X12_codesTell_B113
  simp only [z_bd_eq]
  rw [ek, e2, z_in_nI (show 2 + f < 4 by omega) (by decide), nI_toNat (show 2 + f < 2 ^ 31 by omega), hs.2.2.1 _ _ (by omega), h294, if_pos (nI_lt hk (by omega)), e16, z_in_nI (show 1600 + k < 3200 by omega) (by decide), nI_toNat (show 1600 + k < 2 ^ 31 by omega), hs.2.2.1 _ _ (by omega), hc]
  have b1000 : bdM 1000 := ⟨by decide, by decide⟩
  have b40 : bdM 40 := ⟨by decide, by decide⟩
  have hmS := mStk.mS h hs
  unfold stepV at hst
  by_cases h0 : 0 ≤ c
  · rw [if_pos h0] at hst
    cases hst
    have q0 := Int32.le_iff_toInt_le.mp h0
    rw [Int32.toInt_zero] at q0
    rw [cmap_n h0, if_neg (show ¬ iI (c.toInt + 1000) < (1000 : Int32) from fun z => by have := (iI_lt (b := 1000) ⟨by omega, by omega⟩ b1000).mp z; omega), show (1000 : Int32) = iI 1000 from rfl, ← Int32.ofInt_sub, show c.toInt + 1000 - 1000 = c.toInt by omega, iI_J ⟨by omega, by omega⟩]
    obtain ⟨ν', p1, p2⟩ := m_puts N hs (by omega) c.toInt
    rw [p1, z_bn_sm]
    exact ⟨ν', rfl, p2⟩
  rw [if_neg h0] at hst
  by_cases h1 : -10 ≤ c
  · rw [if_pos h1] at hst
    cases hst
    have g1 := Int32.le_iff_toInt_le.mp h1
    have g0 : ¬ 0 ≤ c.toInt := fun z => h0 (Int32.le_iff_toInt_le.mpr z)
    rw [show (-10 : Int32).toInt = -10 from rfl] at g1
    have ev : ((-1 : Int32) - c) = nI (-1 - c.toInt).toNat := by
      rw [nI_iI]
      conv => lhs; rw [i32 c]
      rw [show (-1 : Int32) = iI (-1) from rfl, ← Int32.ofInt_sub]
      congr 1
      omega
    have hj : (-1 - c.toInt).toNat < 10 := by omega
    have e40 : iI (39 - c.toInt) - iI 40 = nI (-1 - c.toInt).toNat := by
      rw [← Int32.ofInt_sub, nI_iI]
      congr 1
      omega
    rw [cmap_v h0 h1, if_pos (show iI (39 - c.toInt) < (1000 : Int32) from (iI_lt (b := 1000) ⟨by omega, by omega⟩ b1000).mpr (by omega)), if_neg (show ¬ iI (39 - c.toInt) < (40 : Int32) from fun z => by have := (iI_lt (b := 40) ⟨by omega, by omega⟩ b40).mp z; omega), show (40 : Int32) = iI 40 from rfl, e40, m_part ok hmS N hN hl hb (by rw [hs.2.2.1 _ _ (by omega)]; exact hh) hj, z_bn_sm]
    obtain ⟨ν', p1, p2⟩ := m_puts N hs (by omega) (envV (sH A) (sN A) l hand (-1 - c.toInt).toNat)
    rw [p1, z_bn_sm]
    refine ⟨ν', rfl, ?_⟩
    rw [ev, nI_toNat (by omega)]
    exact p2
  rw [if_neg h1] at hst
  have h2 : -22 < c := by
    have q1 : ¬ -10 ≤ c.toInt := fun z => h1 (Int32.le_iff_toInt_le.mpr z)
    rw [Int32.lt_iff_toInt_lt, show (-22 : Int32).toInt = -22 from rfl]
    rcases hcf with q | q
    · have := Int32.le_iff_toInt_le.mp q
      rw [show (-6 : Int32).toInt = -6 from rfl] at this
      omega
    · have := Int32.le_iff_toInt_le.mp q.1
      rw [show (-16 : Int32).toInt = -16 from rfl] at this
      omega
  rw [if_pos h2] at hst
  have q1 : ¬ -10 ≤ c.toInt := fun z => h1 (Int32.le_iff_toInt_le.mpr z)
  have q2 : -22 < c.toInt := Int32.lt_iff_toInt_lt.mp h2
  have hcm := cmap_j h1 h2
  rw [if_pos (show cmap c < (1000 : Int32) by rw [hcm]; exact (iI_lt (b := 1000) ⟨by omega, by omega⟩ b1000).mpr (by omega)), if_pos (show cmap c < (40 : Int32) by rw [hcm]; exact (iI_lt (b := 40) ⟨by omega, by omega⟩ b40).mpr (by omega))]
  match st, hs, hbs, hl1, hst with
  | [], _, _, _, hst => cases hst
  | [a], _, _, _, hst => cases hst
  | b' :: a :: r, hs, hbs, hl1, hst =>
    have hst' : (match joinV c a b' with | some v => some (v :: r) | none => none) = some st' := hst
    cases hv : joinV c a b' with
    | none => rw [hv] at hst'; cases hst'
    | some v =>
      rw [hv] at hst'
      cases hst'
      have hl2 : r.length + 2 ≤ 64 := hl1
      obtain ⟨ν', p1, p2⟩ := m_joins N hs (by omega) (hbs a (by simp)) (hbs b' (by simp)) hv
      rw [p1, z_bn_sm]
      exact ⟨ν', rfl, p2⟩
theorem m_runF {A : aS} {ν0 : z_S} (ok : okS A) (h : mS A ν0) (N : Nat) (hN : 5 ≤ N) {f : Nat} (hf : f < 2) {l : Nat} (hl : l < hCnt (sH A) 0) {hand : Int} (hb : bdM hand) (hh : ν0.1 253 56 = iI hand) (e : z_S → Option (Int64 × z_S)) {b : Nat} (hb2 : b ≤ 1600) (h294 : ν0.1 294 (2 + f) = nI b) : ∀ (cs : List Int32) (n a : Nat) (st : List Int) (ν : z_S) (fin : List Int), cs.length < n → a + cs.length = b → mStk st ν0 ν → st.length ≤ 64 → (∀ x ∈ st, bdM x) → (∀ c ∈ cs, c.toInt ≤ 9999) → (∀ c ∈ cs, -6 ≤ c ∨ (-16 ≤ c ∧ c ≤ -11)) → (∀ k c, cs[k]? = some c → ν0.1 295 (1600 + a + k) = cmap c) → runV (envV (sH A) (sN A) l hand) (wishF (envW (sH A) l)) st cs = some fin → ∃ ν', f_X12_codesTell_L35 N (nI f) (nI l) e n (nI a) ν = e ν' ∧ mStk fin ν0 ν' ∧ ∀ x ∈ fin, bdM x := by
  intro cs
  induction cs with
  | nil =>
    intro n a st ν fin h1 h2 h3 h4 h5 h6 h6' h7 h8
    cases n with
    | zero => exact absurd h1 (Nat.not_lt_zero _)
    | succ n =>
      cases h8
      refine ⟨ν, ?_, h3, h5⟩
      show b_X12_codesTell_L35 N (nI f) (nI l) (f_X12_codesTell_L35 N (nI f) (nI l) e n) e (nI a) ν = _
      unfold b_X12_codesTell_L35
      have e2 : (2 : Int32) + nI f = nI (2 + f) := ix1 2 f
      have h2' : a + 0 = b := h2
      rw [e2, z_in_nI (show 2 + f < 4 by omega) (by decide), nI_toNat (show 2 + f < 2 ^ 31 by omega), h3.2.2.1 _ _ (by omega), h294, if_neg (nI_nlt (by omega) (by omega))]
  | cons c cs ih =>
    intro n a st ν fin h1 h2 h3 h4 h5 h6 h6' h7 h8
    cases n with
    | zero => exact absurd h1 (Nat.not_lt_zero _)
    | succ n =>
      have h2' : a + (cs.length + 1) = b := h2
      have h1' : cs.length + 1 < n + 1 := h1
      have h8g := ok.2.2.1.1
      unfold runV at h8
      cases hst : stepV (envV (sH A) (sN A) l hand) (wishF (envW (sH A) l)) st c with
      | none => rw [hst] at h8; cases h8
      | some st' =>
        rw [hst] at h8
        have h8' : (if st'.length ≤ 64 then runV (envV (sH A) (sN A) l hand) (wishF (envW (sH A) l)) st' cs else none) = some fin := h8
        by_cases hle : st'.length ≤ 64
        · rw [if_pos hle] at h8'
          have hcc := h7 0 c rfl
          rw [Nat.add_zero] at hcc
          obtain ⟨ν1, p1, p2⟩ := m_stepF ok h N hN hf hl hb hh (f_X12_codesTell_L35 N (nI f) (nI l) e n) e h3 h4 hle h5 (show a < b by omega) hb2 h294 hcc (h6 c (by simp)) (h6' c (by simp)) hst
          have hb' := stepV_bd (fun k _ => envV_bd ok.2.2.1 ok.2.2.2.1 (show l < 8 by omega) hb k) (wishF_bd (fun g _ => envW_bd ok.2.2.1 l g)) (h6 c (by simp)) h5 hst
          obtain ⟨ν2, q1, q2, q3⟩ := ih n (a + 1) st' ν1 fin (by omega) (by omega) p2 hle hb' (fun c' hc' => h6 c' (by simp [hc'])) (fun c' hc' => h6' c' (by simp [hc'])) (fun k c' hc' => by rw [show 1600 + (a + 1) + k = 1600 + a + (k + 1) by omega]; exact h7 (k + 1) c' hc') h8'
          refine ⟨ν2, ?_, q2, q3⟩
          show b_X12_codesTell_L35 N (nI f) (nI l) (f_X12_codesTell_L35 N (nI f) (nI l) e n) e (nI a) ν = _
          rw [p1]
          exact q1
        · rw [if_neg hle] at h8'
          cases h8'
theorem m_codes {A : aS} {ν : z_S} (ok : okS A) (h : mS A ν) (N : Nat) (hN : 1700 ≤ N) {f : Nat} (hf : f < 2) {cs : List Int32} (hcs : hForm (sH A) f = some cs) {l i : Nat} (hl : l < hCnt (sH A) 0) (hi : i < hCnt (sH A) 2) : ∃ ν', f_X12_codesTell N (nI f) (nI l) (nI i) ν = some (iJ (formV (sH A) (sN A) l i f), ν') ∧ bdM (formV (sH A) (sN A) l i f) ∧ mFr ν ν' := by
  have h3 := ok.2.2.1.2.2.1
  have h9 := (ok.2.2.1.2.2.2.2.2.2.2.2.2.2.2.2.2.2.2.2.2.1 i).2.2.1
  have e10 : (10 : Int32) + (3 : Int32) * nI i = nI (10 + 3 * i) := ix2 10 3 i
  have e2 : (2 : Int32) + nI f = nI (2 + f) := ix1 2 f
  have q10 : ν.1 291 (10 + 3 * i) = nI (hHelp (sH A) i 1) := by
    have := h.2.2.2.2.2.2.1.2.2.2.2.2.2.2.1 i hi 1 (by decide)
    rw [show 9 + 3 * i + 1 = 10 + 3 * i by omega] at this
    exact this
  generalize hν3 : z_setI (z_setI (z_setI ν 253 56 (nI (hHelp (sH A) i 1))) 253 53 1) 253 101 0 = ν3
  have o3 : ∀ o j, o ≠ 253 ∨ (j ≠ 56 ∧ j ≠ 53 ∧ j ≠ 101) → ν3.1 o j = ν.1 o j := fun o j ho => by rw [← hν3, sI_1, if_neg (by omega), sI_1, if_neg (by omega), sI_1, if_neg (by omega)]
  have f3 : mFr ν ν3 := ⟨by rw [← hν3]; rfl, o3, fun o j _ => by rw [← hν3]; rfl⟩
  have m3 := f3.mS h
  have s3 : mStk [] ν3 ν3 := ⟨by rw [← hν3, sI_1, if_pos ⟨rfl, rfl⟩]; rfl, True.intro, fun _ _ _ => rfl, fun _ _ _ => rfl, rfl⟩
  have hf0 := m3.2.2.2.2.2.2.1.2.2.2.2.2.2.2.2.2.2 f hf
  rw [hcs] at hf0
  obtain ⟨a, b, g1, g2, g3, g4, g5⟩ := hf0
  have hfc : formC (sH A) f = cs := by unfold formC; rw [hcs]; rfl
  obtain ⟨k1, k2, k3⟩ := formC_ok ok.2.2.1 (f := f)
  have hr := formV_run ok.2.2.1 (sN A) l i f
  rw [hfc] at k1 k2 hr
  obtain ⟨ν', p1, p2, p3⟩ := m_runF ok m3 N (by omega) hf hl (hand := (hHelp (sH A) i 1 : Int)) (bd_nat (by omega)) (by rw [← hν3, sI_1, if_neg (by omega), sI_1, if_neg (by omega), sI_1, if_pos ⟨rfl, rfl⟩, nI_iI]) (fun μ119 => some ((μ119.2.1 332 0), μ119)) g3 g2 cs N a [] ν3 _ (by omega) g4.symm s3 (Nat.zero_le _) (fun x hx => by cases hx) k1 k2 g5 hr
  refine ⟨ν', ?_, p3 _ (by simp), f3.tr ⟨p2.2.2.2.2, fun o j ho => p2.2.2.1 o j (by omega), p2.2.2.2.1⟩⟩
  unfold f_X12_codesTell
  simp only [z_bd_eq]
  rw [e10, z_in_nI (show 10 + 3 * i < 18 by omega) (by decide), nI_toNat (show 10 + 3 * i < 2 ^ 31 by omega), q10, hν3, e2, z_in_nI (show 2 + f < 4 by omega) (by decide), nI_toNat (show 2 + f < 2 ^ 31 by omega), g1, p1, show ν'.2.1 332 0 = iJ (formV (sH A) (sN A) l i f) from p2.2.1.1]
theorem m_time {A : aS} {ν : z_S} (ok : okS A) (h : mS A ν) (N : Nat) (hN : 1700 ≤ N) {l i : Nat} (hl : l < hCnt (sH A) 0) (hi : i < hCnt (sH A) 2) : ∃ ν', f_X12_timeOf N (nI l) (nI i) ν = some (nI (timeV (sH A) (sN A) l i), ν') ∧ mFr ν ν' := by
  have hf0 := h.2.2.2.2.2.2.1.2.2.2.2.2.2.2.2.2.2 0 (by decide)
  unfold f_X12_timeOf
  cases hcs : hForm (sH A) 0 with
  | none =>
    rw [hcs] at hf0
    have hf0' : ν.1 293 2 = -1 := hf0
    rw [if_pos hf0']
    refine ⟨ν, ?_, mFr.rf ν⟩
    have : formV (sH A) (sN A) l i 0 = 20 := by
      unfold formV formC
      rw [hcs]
      rfl
    rw [timeV_iI, this]
    rfl
  | some cs =>
    rw [hcs] at hf0
    obtain ⟨a, b, g1, g2, g3, g4, g5⟩ := hf0
    have g1' : ν.1 293 2 = nI a := g1
    rw [g1', if_neg (fun z => by have := congrArg Int32.toInt z; rw [nI_toInt (by omega), show (-1 : Int32).toInt = -1 from rfl] at this; omega)]
    obtain ⟨ν', p1, p2, p3⟩ := m_codes ok h N hN (f := 0) (by decide) hcs hl hi
    have p1' : f_X12_codesTell N (0 : Int32) (nI l) (nI i) ν = _ := p1
    rw [p1', z_bn_sm]
    refine ⟨ν', ?_, p3⟩
    rw [timeV_iI]
    generalize formV (sH A) (sN A) l i 0 = v at p2 ⊢
    by_cases c1 : v < 1
    · rw [if_pos (show iJ v < (1 : Int64) from (iJ_lt (b := 1) p2 bd_1).mpr c1), if_pos c1]; rfl
    · rw [if_neg (show ¬ iJ v < (1 : Int64) from fun z => c1 ((iJ_lt (b := 1) p2 bd_1).mp z)), if_neg c1]
      by_cases c2 : 999 < v
      · rw [if_pos (show (999 : Int64) < iJ v from (iJ_lt (a := 999) ⟨by decide, by decide⟩ p2).mpr c2), if_pos c2]; rfl
      · rw [if_neg (show ¬ (999 : Int64) < iJ v from fun z => c2 ((iJ_lt (a := 999) ⟨by decide, by decide⟩ p2).mp z)), if_neg c2, iJ_I]
theorem m_warm {A : aS} {ν : z_S} (ok : okS A) (h : mS A ν) (N : Nat) (hN : 1700 ≤ N) {l i : Nat} (hl : l < hCnt (sH A) 0) (hi : i < hCnt (sH A) 2) : ∃ ν', f_X12_warmOf N (nI l) (nI i) ν = some (iJ (warmV (sH A) (sN A) l i), ν') ∧ mFr ν ν' := by
  have h3 := ok.2.2.1.2.2.1
  have h9 := (ok.2.2.1.2.2.2.2.2.2.2.2.2.2.2.2.2.2.2.2.2.1 i).2.2.1
  have hf0 := h.2.2.2.2.2.2.1.2.2.2.2.2.2.2.2.2.2 1 (by decide)
  unfold f_X12_warmOf
  cases hcs : hForm (sH A) 1 with
  | none =>
    rw [hcs] at hf0
    have hf0' : ν.1 293 3 = -1 := hf0
    have e10 : (10 : Int32) + (3 : Int32) * nI i = nI (10 + 3 * i) := ix2 10 3 i
    have q10 : ν.1 291 (10 + 3 * i) = nI (hHelp (sH A) i 1) := by
      have := h.2.2.2.2.2.2.1.2.2.2.2.2.2.2.1 i hi 1 (by decide)
      rw [show 9 + 3 * i + 1 = 10 + 3 * i by omega] at this
      exact this
    rw [if_pos hf0', e10, z_in_nI (show 10 + 3 * i < 18 by omega) (by decide), nI_toNat (show 10 + 3 * i < 2 ^ 31 by omega), q10, nI_J (by omega)]
    refine ⟨ν, ?_, mFr.rf ν⟩
    have : warmV (sH A) (sN A) l i = (hHelp (sH A) i 1 : Int) := by
      unfold warmV formV formC
      rw [hcs]
      rfl
    rw [this]
  | some cs =>
    rw [hcs] at hf0
    obtain ⟨a, b, g1, g2, g3, g4, g5⟩ := hf0
    have g1' : ν.1 293 3 = nI a := g1
    rw [g1', if_neg (fun z => by have := congrArg Int32.toInt z; rw [nI_toInt (by omega), show (-1 : Int32).toInt = -1 from rfl] at this; omega)]
    obtain ⟨ν', p1, p2, p3⟩ := m_codes ok h N hN (f := 1) (by decide) hcs hl hi
    have p1' : f_X12_codesTell N (1 : Int32) (nI l) (nI i) ν = _ := p1
    rw [p1', z_bn_sm]
    exact ⟨ν', rfl, p3⟩
