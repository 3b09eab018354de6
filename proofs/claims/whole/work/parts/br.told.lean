/-! the reference works a question's codes out -/
theorem m_partQ {A : aS} {ν : z_S} (ok : okS A) (h : mS A ν) (N : Nat) (hN : 5 ≤ N) {l : Nat} (hl : l < hCnt (sH A) 0) {k : Nat} (hk : k < 10) (hk3 : ¬ k = 3) : f_X12_qPartOf N (nI k) (nI l) ν = some (iJ (envV (sH A) (sN A) l 0 k), ν) := by
  have h8 := ok.2.2.1.1
  have h4 := ok.2.2.1.2.1
  have h3 := ok.2.2.1.2.2.1
  have m := ok.2.2.1.2.2.2.2.2.2.1 l
  have w := wAll_le ok.2.2.1 l (hCnt (sH A) 1)
  obtain ⟨n1, n2, n3, n4, n5, n6, n7, n8, n9⟩ := ok.2.2.2.1
  have n6 := n6 l
  have n7 := n7 l
  have n8 := n8 l
  have q : ∀ w, w < 3 → ν.1 286 (24 + 3 * l + w) = nI (hMail (sH A) l w) := h.2.2.2.2.2.2.1.2.2.1 l hl
  have e24 : (24 : Int32) + (3 : Int32) * nI l = nI (24 + 3 * l) := ix2 24 3 l
  have e25 : (25 : Int32) + (3 : Int32) * nI l = nI (25 + 3 * l) := ix2 25 3 l
  have e26 : (26 : Int32) + (3 : Int32) * nI l = nI (26 + 3 * l) := ix2 26 3 l
  have q0 : ν.1 286 (24 + 3 * l) = nI (hMail (sH A) l 0) := q 0 (by decide)
  have q1 : ν.1 286 (25 + 3 * l) = nI (hMail (sH A) l 1) := by rw [show 25 + 3 * l = 24 + 3 * l + 1 by omega]; exact q 1 (by decide)
  have q2 : ν.1 286 (26 + 3 * l) = nI (hMail (sH A) l 2) := by rw [show 26 + 3 * l = 24 + 3 * l + 2 by omega]; exact q 2 (by decide)
  obtain ⟨d1, d2, d3⟩ := m_now h N (show l < 8 by omega)
  unfold f_X12_qPartOf
  simp only [z_bd_eq]
  rw [e24, e25, e26, z_in_nI (show 24 + 3 * l < 48 by omega) (by decide), z_in_nI (show 25 + 3 * l < 48 by omega) (by decide), z_in_nI (show 26 + 3 * l < 48 by omega) (by decide), nI_toNat (show 24 + 3 * l < 2 ^ 31 by omega), nI_toNat (show 25 + 3 * l < 2 ^ 31 by omega), nI_toNat (show 26 + 3 * l < 2 ^ 31 by omega), q0, q1, q2, m_wishes ok h N hN (show l < 8 by omega), z_bn_sm, d1, d2, d3, z_bn_sm, z_bn_sm, z_bn_sm, show ν.1 296 0 = nI (nDay (sN A)) from h.2.2.2.2.2.2.2.1.1, nI_J (show hMail (sH A) l 0 < 2 ^ 31 by omega), nI_J (show hMail (sH A) l 1 < 2 ^ 31 by omega), nI_J (show hMail (sH A) l 2 < 2 ^ 31 by omega), nI_J (show wAll (sH A) l (hCnt (sH A) 1) < 2 ^ 31 by omega), nI_J (show nDay (sN A) < 2 ^ 31 by omega), nI_J (show l < 2 ^ 31 by omega), nI_J (show nSheet (sN A) l < 2 ^ 31 by omega), nI_J (show nDone (sN A) l < 2 ^ 31 by omega), nI_J (show nGift (sN A) l < 2 ^ 31 by omega)]
  have hks : k = 0 ∨ k = 1 ∨ k = 2 ∨ k = 4 ∨ k = 5 ∨ k = 6 ∨ k = 7 ∨ k = 8 ∨ k = 9 := by omega
  rcases hks with rfl | rfl | rfl | rfl | rfl | rfl | rfl | rfl | rfl <;> rfl
theorem clp_id {v : Int} (h : bdM v) : clp v = v := by
  unfold clp
  rw [if_neg (by have := h.2; omega), if_neg (by have := h.1; omega)]
theorem m_clipI (N : Nat) {v : Int} (h : bdM v) (ν : z_S) : f_X12_qClip N (iJ v) ν = some (iJ v, ν) := by
  have h1 := h.1
  have h2 := h.2
  rw [m_clip N ⟨by omega, by omega⟩, clp_id h]
theorem m_ofQ {A : aS} {ν : z_S} (ok : okS A) (h : mS A ν) (N : Nat) {l : Nat} (hl : l < hCnt (sH A) 0) {a : Int} (ha : bdM a) : f_X12_qOf N (0 : Int32) (iJ a) (nI l) ν = some (iJ (wishF (envW (sH A) l) a), ν) := by
  have h8 := ok.2.2.1.1
  have h4 := ok.2.2.1.2.1
  have hw := ok.2.2.1.2.2.2.2.2.2.2.1
  have hz := ok.2.2.1.2.2.2.2.2.2.2.2.1
  have h1 := ha.1
  have h2 := ha.2
  unfold f_X12_qOf f_X12_giftMany f_X12_isIn
  have e6 : ν.1 284 6 = nI (hCnt (sH A) 1) := h.2.2.2.2.2.2.1.1 1 (by omega)
  have e7 : (nI (hCnt (sH A) 1) - (1 : Int32)).toInt64 = iJ ((hCnt (sH A) 1 : Int) - 1) := by
    rw [nI_iI, show (1 : Int32) = iI 1 from rfl, ← Int32.ofInt_sub, iI_J ⟨by omega, by omega⟩]
  rw [z_bd_eq, z_bn_sm, e6, e7]
  by_cases c1 : a < 0
  · rw [if_pos (show iJ a < (0 : Int64) from (iJ_lt ha bd_0).mpr c1), z_bn_sm, if_pos rfl]
    unfold wishF
    rw [if_neg (by omega)]
    rfl
  · rw [if_neg (show ¬ iJ a < (0 : Int64) from fun z => c1 ((iJ_lt ha bd_0).mp z))]
    by_cases c2 : (hCnt (sH A) 1 : Int) - 1 < a
    · rw [if_pos ((iJ_lt (a := (hCnt (sH A) 1 : Int) - 1) ⟨by omega, by omega⟩ ha).mpr c2), z_bn_sm, if_pos rfl]
      unfold wishF
      by_cases c3 : 0 ≤ a ∧ a < 4
      · rw [if_pos c3]
        unfold envW
        rw [hz l a.toNat (Or.inr (by omega))]
        rfl
      · rw [if_neg c3]
        rfl
    · rw [if_neg (fun z => c2 ((iJ_lt (a := (hCnt (sH A) 1 : Int) - 1) ⟨by omega, by omega⟩ ha).mp z)), z_bn_sm, if_neg (show ¬ (1 : Int32) = 0 by decide)]
      unfold f_X12_wishOf
      have ea : (iJ a).toInt32 = nI a.toNat := by
        rw [iJ_I, nI_iI]
        congr 1
        omega
      have e32 : (32 : Int32) + (4 : Int32) * nI l + nI a.toNat = nI (32 + 4 * l + a.toNat) := ix3 32 4 l a.toNat
      rw [ea, e32, z_in_nI (show 32 + 4 * l + a.toNat < 64 by omega) (by decide), nI_toNat (by omega), z_bn_sm, h.2.2.2.2.2.2.1.2.2.2.2.1 l (by omega) a.toNat (by omega), nI_J (by have := hw l a.toNat; omega)]
      unfold wishF
      rw [if_pos (by omega)]
      rfl
theorem m_setTop {st : List Int} {a x : Int} {ν0 ν : z_S} (h : mStk (a :: st) ν0 ν) : mStk (x :: st) ν0 (z_setJ ν 332 st.length (iJ x)) := by
  obtain ⟨h1, h2, h3, h4, h5⟩ := h
  refine ⟨h1, ⟨?_, ?_⟩, h3, fun o j ho => ?_, h5⟩
  · rw [sJ_21, if_pos ⟨rfl, rfl⟩]
  · refine mSt_of st (fun k hk => ?_) h2.2
    rw [sJ_21, if_neg (by omega)]
  · rw [sJ_21, if_neg (fun z => ho z.1)]; exact h4 o j ho
theorem m_stepQ {A : aS} {ν0 ν : z_S} (ok : okS A) (h : mS A ν0) (N : Nat) (hN : 5 ≤ N) {l : Nat} (hl : l < hCnt (sH A) 0) (kb : Int32 → z_S → Option (Int64 × z_S)) (e : z_S → Option (Int64 × z_S)) {st st' : List Int} (hs : mStk st ν0 ν) (hl1 : st.length ≤ 64) (hl' : st'.length ≤ 64) (hbs : ∀ x ∈ st, bdM x) {k b : Nat} (hk : k < b) (hb2 : b ≤ 1600) (h95 : ν0.1 253 95 = nI b) {c m : Int32} (hm : ν0.1 330 k = m) (hcm : crel c m) (hok : okc true c) (hst : stepV (envV (sH A) (sN A) l 0) (wishF (envW (sH A) l)) st c = some st') : ∃ ν', b_X12_qTold_L7 N (nI l) kb e (nI k) ν = kb (nI (k + 1)) ν' ∧ mStk st' ν0 ν' := by
  have ek : nI k + 1 = nI (k + 1) := nI_1 k
  have hc23 := Int32.le_iff_toInt_le.mp hok.1
  have hcb := Int32.le_iff_toInt_le.mp hok.2.1
  rw [show (-23 : Int32).toInt = -23 from rfl] at hc23
  rw [show (9999 : Int32).toInt = 9999 from rfl] at hcb
  unfold b_X12_qTold_L7 f_X12_qTold_B162
  simp only [z_bd_eq]
  rw [ek, hs.2.2.1 _ _ (by omega), h95, if_pos (nI_lt hk (by omega)), z_in_nI (show k < 1700 by omega) (by decide), nI_toNat (show k < 2 ^ 31 by omega), hs.2.2.1 _ _ (by omega), hm]
  have b1000 : bdM 1000 := ⟨by decide, by decide⟩
  have b60 : bdM 60 := ⟨by decide, by decide⟩
  have b40 : bdM 40 := ⟨by decide, by decide⟩
  have hmS := mStk.mS h hs
  unfold stepV at hst
  rcases hcm with hcm | ⟨hc1, hm13⟩
  rotate_left
  · subst hc1
    subst hm13
    rw [if_pos (show (0 : Int32) ≤ 1 by decide)] at hst
    cases hst
    rw [if_pos (show (13 : Int32) < 1000 by decide), if_pos (show (13 : Int32) < 60 by decide), if_pos (show (13 : Int32) < 40 by decide), if_pos rfl]
    obtain ⟨ν', p1, p2⟩ := m_puts N hs (by omega) 1
    rw [show (1 : Int64) = iJ 1 from rfl, p1, z_bn_sm]
    exact ⟨ν', rfl, p2⟩
  rw [hcm]
  by_cases h0 : 0 ≤ c
  · rw [if_pos h0] at hst
    cases hst
    have q0 := Int32.le_iff_toInt_le.mp h0
    rw [Int32.toInt_zero] at q0
    rw [cmap_n h0, if_neg (show ¬ iI (c.toInt + 1000) < (1000 : Int32) from fun z => by have := (iI_lt (b := 1000) ⟨by omega, by omega⟩ b1000).mp z; omega), show (1000 : Int32) = iI 1000 from rfl, ← Int32.ofInt_sub, show c.toInt + 1000 - 1000 = c.toInt by omega, iI_J ⟨by omega, by omega⟩]
    obtain ⟨ν', p1, p2⟩ := m_puts N hs (by omega) c.toInt
    rw [p1, z_bn_sm]
    exact ⟨ν', rfl, p2⟩
  rw [if_neg h0] at hst
  by_cases h1 : -10 ≤ c
  · rw [if_pos h1] at hst
    cases hst
    have g1 := Int32.le_iff_toInt_le.mp h1
    have g0 : ¬ 0 ≤ c.toInt := fun z => h0 (Int32.le_iff_toInt_le.mpr z)
    rw [show (-10 : Int32).toInt = -10 from rfl] at g1
    have g4 : ¬ c.toInt = -4 := fun z => hok.2.2.2 rfl (by rw [i32 c, z]; rfl)
    have ev : ((-1 : Int32) - c) = nI (-1 - c.toInt).toNat := by
      rw [nI_iI]
      conv => lhs; rw [i32 c]
      rw [show (-1 : Int32) = iI (-1) from rfl, ← Int32.ofInt_sub]
      congr 1
      omega
    have hj : (-1 - c.toInt).toNat < 10 := by omega
    have e40 : iI (39 - c.toInt) - iI 40 = nI (-1 - c.toInt).toNat := by
      rw [← Int32.ofInt_sub, nI_iI]
      congr 1
      omega
    have hbv := envV_bd ok.2.2.1 ok.2.2.2.1 (show l < 8 by have := ok.2.2.1.1; omega) bd_0 (-1 - c.toInt).toNat
    rw [cmap_v h0 h1, if_pos (show iI (39 - c.toInt) < (1000 : Int32) from (iI_lt (b := 1000) ⟨by omega, by omega⟩ b1000).mpr (by omega)), if_pos (show iI (39 - c.toInt) < (60 : Int32) from (iI_lt (b := 60) ⟨by omega, by omega⟩ b60).mpr (by omega)), if_neg (show ¬ iI (39 - c.toInt) < (40 : Int32) from fun z => by have := (iI_lt (b := 40) ⟨by omega, by omega⟩ b40).mp z; omega), show (40 : Int32) = iI 40 from rfl, e40, m_partQ ok hmS N hN hl hj (by omega), z_bn_sm, m_clipI N hbv, z_bn_sm]
    obtain ⟨ν', p1, p2⟩ := m_puts N hs (by omega) (envV (sH A) (sN A) l 0 (-1 - c.toInt).toNat)
    rw [p1, z_bn_sm]
    refine ⟨ν', rfl, ?_⟩
    rw [ev, nI_toNat (by omega)]
    exact p2
  rw [if_neg h1] at hst
  have q1 : ¬ -10 ≤ c.toInt := fun z => h1 (Int32.le_iff_toInt_le.mpr z)
  by_cases h2 : -22 < c
  · rw [if_pos h2] at hst
    have q2 : -22 < c.toInt := Int32.lt_iff_toInt_lt.mp h2
    have hcm2 := cmap_j h1 h2
    have n13 : ¬ cmap c = 13 := by rw [hcm2]; intro z; have := (iI_eq (b := 13) ⟨by omega, by omega⟩ ⟨by decide, by decide⟩).mp z; omega
    have n12 : ¬ cmap c = 12 := by rw [hcm2]; intro z; have := (iI_eq (b := 12) ⟨by omega, by omega⟩ ⟨by decide, by decide⟩).mp z; omega
    rw [if_pos (show cmap c < (1000 : Int32) by rw [hcm2]; exact (iI_lt (b := 1000) ⟨by omega, by omega⟩ b1000).mpr (by omega)), if_pos (show cmap c < (60 : Int32) by rw [hcm2]; exact (iI_lt (b := 60) ⟨by omega, by omega⟩ b60).mpr (by omega)), if_pos (show cmap c < (40 : Int32) by rw [hcm2]; exact (iI_lt (b := 40) ⟨by omega, by omega⟩ b40).mpr (by omega)), if_neg n13, if_neg n12]
    match st, hs, hbs, hl1, hst with
    | [], _, _, _, hst => cases hst
    | [a], _, _, _, hst => cases hst
    | b' :: a :: r, hs, hbs, hl1, hst =>
      have hst' : (match joinV c a b' with | some v => some (v :: r) | none => none) = some st' := hst
      cases hv : joinV c a b' with
      | none => rw [hv] at hst'; cases hst'
      | some v =>
        rw [hv] at hst'
        cases hst'
        have hl2 : r.length + 2 ≤ 64 := hl1
        obtain ⟨ν', p1, p2⟩ := m_joins N hs (by omega) (hbs a (by simp)) (hbs b' (by simp)) hv
        rw [p1, z_bn_sm]
        exact ⟨ν', rfl, p2⟩
  rw [if_neg h2] at hst
  have q2 : ¬ -22 < c.toInt := fun z => h2 (Int32.lt_iff_toInt_lt.mpr z)
  match st, hs, hbs, hl1, hst with
  | [], _, _, _, hst => cases hst
  | a :: r, hs, hbs, hl1, hst =>
    have hst' : (if c = -22 then (if a = 0 ∨ a = 1 then some ((1 - a) :: r) else none) else some (wishF (envW (sH A) l) a :: r)) = some st' := hst
    have hl2 : r.length + 1 ≤ 64 := hl1
    have e101 : ν.1 253 101 - (1 : Int32) = nI r.length := by rw [hs.1]; show nI (r.length + 1) - (1 : Int32) = nI r.length; exact pk_sub (b := 1) (by omega)
    have top : ν.2.1 332 r.length = iJ a := hs.2.1.1
    have ha := hbs a (by simp)
    by_cases c22 : c = -22
    · rw [if_pos c22] at hst'
      by_cases hb01 : a = 0 ∨ a = 1
      · rw [if_pos hb01] at hst'
        cases hst'
        subst c22
        rw [show cmap (-22) = 12 from rfl, if_pos (show (12 : Int32) < 1000 by decide), if_pos (show (12 : Int32) < 60 by decide), if_pos (show (12 : Int32) < 40 by decide), if_neg (show ¬ (12 : Int32) = 13 by decide), if_pos rfl, e101, z_in_nI (show r.length < 1700 by omega) (by decide), z_in_nI (show r.length < 1700 by omega) (by decide), nI_toNat (by omega), top, show (1 : Int64) - iJ a = iJ (1 - a) from by rw [show (1 : Int64) = iJ 1 from rfl, ← Int64.ofInt_sub]]
        exact ⟨_, rfl, m_setTop hs⟩
      · rw [if_neg hb01] at hst'
        cases hst'
    · rw [if_neg c22] at hst'
      cases hst'
      have c23 : c = -23 := by
        rw [i32 c]
        have : c.toInt = -23 := by
          rcases Nat.lt_or_ge 0 0 with z | _
          · omega
          · have n22 : ¬ c.toInt = -22 := fun z => c22 (by rw [i32 c, z]; rfl)
            omega
        rw [this]; rfl
      subst c23
      have hbw := wishF_bd (fun g _ => envW_bd ok.2.2.1 l g) a
      rw [show cmap (-23) = 60 from rfl, if_pos (show (60 : Int32) < 1000 by decide), if_neg (show ¬ (60 : Int32) < 60 by decide), e101, z_in_nI (show r.length < 1700 by omega) (by decide), nI_toNat (by omega), top, show (60 : Int32) - 60 = 0 from rfl, m_ofQ ok hmS N hl ha, z_bn_sm, m_clipI N hbw, z_bn_sm, z_in_nI (show r.length < 1700 by omega) (by decide)]
      exact ⟨_, rfl, m_setTop hs⟩
theorem m_runQ {A : aS} {ν0 : z_S} (ok : okS A) (h : mS A ν0) (N : Nat) (hN : 5 ≤ N) {l : Nat} (hl : l < hCnt (sH A) 0) (e : z_S → Option (Int64 × z_S)) {b : Nat} (hb2 : b ≤ 1600) (h95 : ν0.1 253 95 = nI b) : ∀ (cs ms : List Int32) (n a : Nat) (st : List Int) (ν : z_S) (fin : List Int), crL cs ms → cs.length < n → a + cs.length = b → mStk st ν0 ν → st.length ≤ 64 → (∀ x ∈ st, bdM x) → (∀ c ∈ cs, okc true c) → (∀ k m, ms[k]? = some m → ν0.1 330 (a + k) = m) → runV (envV (sH A) (sN A) l 0) (wishF (envW (sH A) l)) st cs = some fin → ∃ ν', f_X12_qTold_L7 N (nI l) e n (nI a) ν = e ν' ∧ mStk fin ν0 ν' ∧ ∀ x ∈ fin, bdM x := by
  intro cs
  induction cs with
  | nil =>
    intro ms n a st ν fin h0 h1 h2 h3 h4 h5 h6 h7 h8
    cases n with
    | zero => exact absurd h1 (Nat.not_lt_zero _)
    | succ n =>
      cases h8
      refine ⟨ν, ?_, h3, h5⟩
      show b_X12_qTold_L7 N (nI l) _ e (nI a) ν = _
      unfold b_X12_qTold_L7
      have h2' : a + 0 = b := h2
      rw [h3.2.2.1 _ _ (by omega), h95, if_neg (nI_nlt (by omega) (by omega))]
  | cons c cs ih =>
    intro ms n a st ν fin h0 h1 h2 h3 h4 h5 h6 h7 h8
    cases ms with
    | nil => exact absurd h0 id
    | cons m ms =>
      cases n with
      | zero => exact absurd h1 (Nat.not_lt_zero _)
      | succ n =>
        have h2' : a + (cs.length + 1) = b := h2
        have h1' : cs.length + 1 < n + 1 := h1
        have h8g := ok.2.2.1.1
        unfold runV at h8
        cases hst : stepV (envV (sH A) (sN A) l 0) (wishF (envW (sH A) l)) st c with
        | none => rw [hst] at h8; cases h8
        | some st' =>
          rw [hst] at h8
          have h8' : (if st'.length ≤ 64 then runV (envV (sH A) (sN A) l 0) (wishF (envW (sH A) l)) st' cs else none) = some fin := h8
          by_cases hle : st'.length ≤ 64
          · rw [if_pos hle] at h8'
            have hcc := h7 0 m rfl
            rw [Nat.add_zero] at hcc
            have hokc := h6 c (by simp)
            have hc9 := Int32.le_iff_toInt_le.mp hokc.2.1
            rw [show (9999 : Int32).toInt = 9999 from rfl] at hc9
            obtain ⟨ν1, p1, p2⟩ := m_stepQ ok h N hN hl (f_X12_qTold_L7 N (nI l) e n) e h3 h4 hle h5 (show a < b by omega) hb2 h95 hcc h0.1 hokc hst
            have hb' := stepV_bd (fun k _ => envV_bd ok.2.2.1 ok.2.2.2.1 (show l < 8 by omega) bd_0 k) (wishF_bd (fun g _ => envW_bd ok.2.2.1 l g)) hc9 h5 hst
            obtain ⟨ν2, q1, q2, q3⟩ := ih ms n (a + 1) st' ν1 fin h0.2 (by omega) (by omega) p2 hle hb' (fun c' hc' => h6 c' (by simp [hc'])) (fun k m' hm' => by rw [show a + 1 + k = a + (k + 1) by omega]; exact h7 (k + 1) m' hm') h8'
            refine ⟨ν2, ?_, q2, q3⟩
            show b_X12_qTold_L7 N (nI l) (f_X12_qTold_L7 N (nI l) e n) e (nI a) ν = _
            rw [p1]
            exact q1
          · rw [if_neg hle] at h8'
            cases h8'
/-- codes that stand in the reference's row -/
theorem m_told {A : aS} {ν : z_S} (ok : okS A) (h : mS A ν) (N : Nat) (hN : 1700 ≤ N) {cs ms : List Int32} (hcr : crL cs ms) (hl6 : cs.length ≤ 1600) (hok : ∀ c ∈ cs, okc true c) (h95 : ν.1 253 95 = nI ms.length) (h330 : ∀ k m, ms[k]? = some m → ν.1 330 k = m) {l : Nat} (hl : l < hCnt (sH A) 0) {v : Int} (hr : runV (envV (sH A) (sN A) l 0) (wishF (envW (sH A) l)) [] cs = some [v]) : ∃ ν', f_X12_qTold N (nI l) ν = some (iJ v, ν') ∧ bdM v ∧ ν'.2.2 = ν.2.2 ∧ (∀ o j, ¬ (o = 253 ∧ j = 101) → ν'.1 o j = ν.1 o j) ∧ ∀ o j, o ≠ 332 → ν'.2.1 o j = ν.2.1 o j := by
  obtain ⟨ν3, hν3⟩ : ∃ ν3, ν3 = z_setI ν 253 101 0 := ⟨_, rfl⟩
  have o3 : ∀ o j, ¬ (o = 253 ∧ j = 101) → ν3.1 o j = ν.1 o j := fun o j z => by rw [hν3, sI_1, if_neg z]
  have m3 : mS A ν3 := mS_scr h (fun o j ho => o3 o j (by unfold mRel at ho; omega)) (fun j => by rw [hν3]; rfl) (by rw [hν3]; rfl)
  have s3 : mStk [] ν3 ν3 := ⟨by rw [hν3, sI_1, if_pos ⟨rfl, rfl⟩]; rfl, True.intro, fun _ _ _ => rfl, fun _ _ _ => rfl, rfl⟩
  have ll := crL_len hcr
  obtain ⟨ν', p1, p2, p3⟩ := m_runQ ok m3 N (by omega) hl (fun μ168 => some ((μ168.2.1 332 0), μ168)) hl6 (by rw [o3 _ _ (by omega), h95, ll]) cs ms N 0 [] ν3 [v] hcr (by omega) (by omega) s3 (Nat.zero_le _) (fun x hx => by cases hx) hok (fun k m hm => by rw [Nat.zero_add, o3 _ _ (by omega)]; exact h330 k m hm) hr
  refine ⟨ν', ?_, p3 v (by simp), ?_, fun o j z => ?_, fun o j z => ?_⟩
  · unfold f_X12_qTold
    rw [z_bd_eq, ← hν3, show f_X12_qTold_L7 N (nI l) (fun μ168 => some ((μ168.2.1 332 0), μ168)) N (0 : Int32) ν3 = _ from p1]
    show some (ν'.2.1 332 0, ν') = _
    rw [show ν'.2.1 332 0 = iJ v from p2.2.1.1]
  · rw [p2.2.2.2.2, hν3]; rfl
  · rw [p2.2.2.1 o j z, o3 o j z]
  · rw [p2.2.2.2.1 o j z, hν3]; rfl
