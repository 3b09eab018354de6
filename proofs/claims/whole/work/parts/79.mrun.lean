/-! the reference works codes out -/
def mSt : List Int → (Nat → Int64) → Prop
  | [], _ => True
  | x :: st, f => f st.length = iJ x ∧ mSt st f
theorem mSt_of : ∀ (st : List Int) {f g : Nat → Int64}, (∀ k, k < st.length → g k = f k) → mSt st f → mSt st g
  | [], _, _, _, _ => True.intro
  | x :: st, f, g, e, h => ⟨by rw [e _ (by simp)]; exact h.1, mSt_of st (fun k hk => e k (by simp; omega)) h.2⟩
def mStk (st : List Int) (ν0 ν : z_S) : Prop := ν.1 253 101 = nI st.length ∧ mSt st (ν.2.1 332) ∧ (∀ o j, ¬ (o = 253 ∧ j = 101) → ν.1 o j = ν0.1 o j) ∧ (∀ o j, o ≠ 332 → ν.2.1 o j = ν0.2.1 o j) ∧ ν.2.2 = ν0.2.2
theorem m_puts (N : Nat) {st : List Int} {ν0 ν : z_S} (h : mStk st ν0 ν) (hl : st.length < 1700) (x : Int) : ∃ ν', f_X12_qPuts N (iJ x) ν = some ((), ν') ∧ mStk (x :: st) ν0 ν' := by
  obtain ⟨h1, h2, h3, h4, h5⟩ := h
  have e1 : nI st.length + (1 : Int32) = nI (st.length + 1) := nI_1 _
  have e2 : (z_setJ ν 332 st.length (iJ x)).1 253 101 = nI st.length := by rw [sJ_1]; exact h1
  refine ⟨z_setI (z_setJ ν 332 st.length (iJ x)) 253 101 (nI (st.length + 1)), ?_, ?_, ⟨?_, ?_⟩, fun o j hn => ?_, fun o j ho => ?_, h5⟩
  · unfold f_X12_qPuts
    rw [h1, z_in_nI hl (by decide), nI_toNat (by omega), z_bd_eq, e2, e1, z_bd_eq]
  · rw [sI_1, if_pos ⟨rfl, rfl⟩]; rfl
  · rw [sI_21, sJ_21, if_pos ⟨rfl, rfl⟩]
  · refine mSt_of st (fun k hk => ?_) h2
    rw [sI_21, sJ_21, if_neg (by omega)]
  · rw [sI_1, if_neg hn, sJ_1]; exact h3 o j hn
  · rw [sI_21, sJ_21, if_neg (fun z => ho z.1)]; exact h4 o j ho
theorem m_drop2 {st : List Int} {a b : Int} {ν0 ν : z_S} (h : mStk (b :: a :: st) ν0 ν) : mStk st ν0 (z_setI ν 253 101 (nI st.length)) := by
  obtain ⟨h1, ⟨-, -, h2⟩, h3, h4, h5⟩ := h
  refine ⟨by rw [sI_1, if_pos ⟨rfl, rfl⟩], h2, fun o j hn => ?_, h4, h5⟩
  rw [sI_1, if_neg hn]; exact h3 o j hn
theorem m_joins (N : Nat) {c : Int32} {st : List Int} {a b v : Int} {ν0 ν : z_S} (h : mStk (b :: a :: st) ν0 ν) (hl : st.length + 2 ≤ 1700) (ha : bdM a) (hb : bdM b) (hj : joinV c a b = some v) : ∃ ν', f_X12_qJoins N (cmap c) ν = some ((), ν') ∧ mStk (v :: st) ν0 ν' := by
  have h1 : ν.1 253 101 = nI (st.length + 2) := h.1
  have e1 : nI (st.length + 2) - (1 : Int32) = nI (st.length + 1) := nI_pred _
  have e2 : nI (st.length + 2) - (2 : Int32) = nI st.length := pk_sub (b := 2) (by omega)
  have t1 : ν.2.1 332 (st.length + 1) = iJ b := h.2.1.1
  have t2 : ν.2.1 332 st.length = iJ a := h.2.1.2.1
  obtain ⟨ν', p1, p2⟩ := m_puts N (m_drop2 h) (by omega) v
  refine ⟨ν', ?_, p2⟩
  unfold f_X12_qJoins f_X12_qJoins_B161 f_X12_qJoins_B181 f_X12_qJoins_B200 f_X12_qJoins_B219 f_X12_qJoins_B238 f_X12_qJoins_B270
  simp only [z_bd_eq]
  rw [h1, e1, e2, z_in_nI (show st.length + 1 < 1700 by omega) (by decide), z_in_nI (show st.length < 1700 by omega) (by decide), nI_toNat (show st.length + 1 < 2 ^ 31 by omega), nI_toNat (show st.length < 2 ^ 31 by omega), t1, t2]
  generalize hν1 : z_setI ν 253 101 (nI st.length) = ν1 at p1 ⊢
  unfold joinV at hj
  by_cases e11 : c = -11
  · rw [if_pos e11] at hj
    cases hj
    subst e11
    rw [show cmap (-11) = 1 from rfl, if_pos rfl]
    rw [← Int64.ofInt_add, m_clip N (by unfold bdM at ha hb; omega), z_bn_sm, p1, z_bn_sm]
  rw [if_neg e11] at hj
  by_cases e12 : c = -12
  · rw [if_pos e12] at hj
    cases hj
    subst e12
    rw [show cmap (-12) = 2 from rfl, if_neg (show ¬ (2 : Int32) = 1 by decide), if_pos rfl]
    rw [← Int64.ofInt_sub, m_clip N (by unfold bdM at ha hb; omega), z_bn_sm, p1, z_bn_sm]
  rw [if_neg e12] at hj
  by_cases e13 : c = -13
  · rw [if_pos e13] at hj
    cases hj
    subst e13
    rw [show cmap (-13) = 3 from rfl, if_neg (show ¬ (3 : Int32) = 1 by decide), if_neg (show ¬ (3 : Int32) = 2 by decide), if_pos rfl]
    rw [← Int64.ofInt_mul, m_clip N (by have := mul_bd ha hb; omega), z_bn_sm, p1, z_bn_sm]
  rw [if_neg e13] at hj
  by_cases e14 : c = -14
  · rw [if_pos e14] at hj
    cases hj
    subst e14
    rw [show cmap (-14) = 4 from rfl, if_neg (show ¬ (4 : Int32) = 1 by decide), if_neg (show ¬ (4 : Int32) = 2 by decide), if_neg (show ¬ (4 : Int32) = 3 by decide), if_pos rfl]
    rw [m_floor N ha hb, z_bn_sm, p1, z_bn_sm]
  rw [if_neg e14] at hj
  by_cases e15 : c = -15
  · rw [if_pos e15] at hj
    cases hj
    subst e15
    rw [show cmap (-15) = 5 from rfl, if_neg (show ¬ (5 : Int32) = 1 by decide), if_neg (show ¬ (5 : Int32) = 2 by decide), if_neg (show ¬ (5 : Int32) = 3 by decide), if_neg (show ¬ (5 : Int32) = 4 by decide), if_pos rfl]
    by_cases hz : a < b
    · rw [if_pos hz] at p1
      rw [if_pos ((iJ_lt ha hb).mpr hz), p1, z_bn_sm]
    · rw [if_neg hz] at p1
      rw [if_neg (fun z => hz ((iJ_lt ha hb).mp z)), p1, z_bn_sm]
  rw [if_neg e15] at hj
  by_cases e16 : c = -16
  · rw [if_pos e16] at hj
    cases hj
    subst e16
    rw [show cmap (-16) = 6 from rfl, if_neg (show ¬ (6 : Int32) = 1 by decide), if_neg (show ¬ (6 : Int32) = 2 by decide), if_neg (show ¬ (6 : Int32) = 3 by decide), if_neg (show ¬ (6 : Int32) = 4 by decide), if_neg (show ¬ (6 : Int32) = 5 by decide), if_pos rfl]
    by_cases hz : b < a
    · rw [if_pos hz] at p1
      rw [if_pos ((iJ_lt hb ha).mpr hz), p1, z_bn_sm]
    · rw [if_neg hz] at p1
      rw [if_neg (fun z => hz ((iJ_lt hb ha).mp z)), p1, z_bn_sm]
  rw [if_neg e16] at hj
  by_cases e17 : c = -17
  · rw [if_pos e17] at hj
    cases hj
    subst e17
    rw [show cmap (-17) = 7 from rfl, if_neg (show ¬ (7 : Int32) = 1 by decide), if_neg (show ¬ (7 : Int32) = 2 by decide), if_neg (show ¬ (7 : Int32) = 3 by decide), if_neg (show ¬ (7 : Int32) = 4 by decide), if_neg (show ¬ (7 : Int32) = 5 by decide), if_neg (show ¬ (7 : Int32) = 6 by decide), if_pos rfl]
    by_cases hz : a < b
    · rw [if_pos hz] at p1
      rw [if_pos ((iJ_lt ha hb).mpr hz), show (1 : Int64) = iJ 1 from rfl, p1, z_bn_sm]
    · rw [if_neg hz] at p1
      rw [if_neg (fun z => hz ((iJ_lt ha hb).mp z)), show (0 : Int64) = iJ 0 from rfl, p1, z_bn_sm]
  rw [if_neg e17] at hj
  by_cases e18 : c = -18
  · rw [if_pos e18] at hj
    cases hj
    subst e18
    rw [show cmap (-18) = 8 from rfl, if_neg (show ¬ (8 : Int32) = 1 by decide), if_neg (show ¬ (8 : Int32) = 2 by decide), if_neg (show ¬ (8 : Int32) = 3 by decide), if_neg (show ¬ (8 : Int32) = 4 by decide), if_neg (show ¬ (8 : Int32) = 5 by decide), if_neg (show ¬ (8 : Int32) = 6 by decide), if_neg (show ¬ (8 : Int32) = 7 by decide), if_pos rfl]
    by_cases hz : b < a
    · rw [if_pos hz] at p1
      rw [if_pos ((iJ_lt hb ha).mpr hz), show (1 : Int64) = iJ 1 from rfl, p1, z_bn_sm]
    · rw [if_neg hz] at p1
      rw [if_neg (fun z => hz ((iJ_lt hb ha).mp z)), show (0 : Int64) = iJ 0 from rfl, p1, z_bn_sm]
  rw [if_neg e18] at hj
  by_cases e19 : c = -19
  · rw [if_pos e19] at hj
    cases hj
    subst e19
    rw [show cmap (-19) = 9 from rfl, if_neg (show ¬ (9 : Int32) = 1 by decide), if_neg (show ¬ (9 : Int32) = 2 by decide), if_neg (show ¬ (9 : Int32) = 3 by decide), if_neg (show ¬ (9 : Int32) = 4 by decide), if_neg (show ¬ (9 : Int32) = 5 by decide), if_neg (show ¬ (9 : Int32) = 6 by decide), if_neg (show ¬ (9 : Int32) = 7 by decide), if_neg (show ¬ (9 : Int32) = 8 by decide), if_pos rfl]
    by_cases hz : a = b
    · rw [if_pos hz] at p1
      rw [if_pos ((iJ_eq ha hb).mpr hz), show (1 : Int64) = iJ 1 from rfl, p1, z_bn_sm]
    · rw [if_neg hz] at p1
      rw [if_neg (fun z => hz ((iJ_eq ha hb).mp z)), show (0 : Int64) = iJ 0 from rfl, p1, z_bn_sm]
  rw [if_neg e19] at hj
  by_cases e20 : c = -20
  · rw [if_pos e20] at hj
    split at hj
    · cases hj
      subst e20
      rw [show cmap (-20) = 10 from rfl, if_neg (show ¬ (10 : Int32) = 1 by decide), if_neg (show ¬ (10 : Int32) = 2 by decide), if_neg (show ¬ (10 : Int32) = 3 by decide), if_neg (show ¬ (10 : Int32) = 4 by decide), if_neg (show ¬ (10 : Int32) = 5 by decide), if_neg (show ¬ (10 : Int32) = 6 by decide), if_neg (show ¬ (10 : Int32) = 7 by decide), if_neg (show ¬ (10 : Int32) = 8 by decide), if_neg (show ¬ (10 : Int32) = 9 by decide), if_pos rfl, ← Int64.ofInt_mul, p1, z_bn_sm]
    · cases hj
  rw [if_neg e20] at hj
  by_cases e21 : c = -21
  · rw [if_pos e21] at hj
    split at hj
    · next hh =>
      cases hj
      subst e21
      rw [show cmap (-21) = 11 from rfl, if_neg (show ¬ (11 : Int32) = 1 by decide), if_neg (show ¬ (11 : Int32) = 2 by decide), if_neg (show ¬ (11 : Int32) = 3 by decide), if_neg (show ¬ (11 : Int32) = 4 by decide), if_neg (show ¬ (11 : Int32) = 5 by decide), if_neg (show ¬ (11 : Int32) = 6 by decide), if_neg (show ¬ (11 : Int32) = 7 by decide), if_neg (show ¬ (11 : Int32) = 8 by decide), if_neg (show ¬ (11 : Int32) = 9 by decide), if_neg (show ¬ (11 : Int32) = 10 by decide), ← Int64.ofInt_add]
      have hab : bdM (a + b) := by
        unfold bdM
        rcases hh with ⟨rfl | rfl, rfl | rfl⟩ <;> omega
      by_cases hz : 0 < a + b
      · rw [if_pos hz] at p1
        rw [if_pos (show (0 : Int64) < iJ (a + b) from (iJ_lt bd_0 hab).mpr hz), show (1 : Int64) = iJ 1 from rfl, p1, z_bn_sm]
      · rw [if_neg hz] at p1
        rw [if_neg (show ¬ (0 : Int64) < iJ (a + b) from fun z => hz ((iJ_lt bd_0 hab).mp z)), show (0 : Int64) = iJ 0 from rfl, p1, z_bn_sm]
    · cases hj
  rw [if_neg e21] at hj
  cases hj
/-- the values of a letter's parts -/
def envV (h : aH) (n : aN) (l : Nat) (hand : Int) (k : Nat) : Int :=
  if k = 0 then (hMail h l 0 : Int) else if k = 1 then (hMail h l 1 : Int) else if k = 2 then (hMail h l 2 : Int) else if k = 3 then hand else if k = 4 then (wAll h l (hCnt h 1) : Int) else if k = 5 then (nDay n : Int) else if k = 6 then (l : Int) else if k = 7 then (nSheet n l : Int) else if k = 8 then (nDone n l : Int) else (nGift n l : Int)
def envW (h : aH) (l : Nat) (g : Nat) : Int := (hWish h l g : Int)
theorem bd_nat {n : Nat} (h : n ≤ 1000000) : bdM (n : Int) := ⟨by omega, by omega⟩
theorem envV_bd {h : aH} {n : aN} (ok : okH h) (hn : okN h n) {l : Nat} (hl : l < 8) {hand : Int} (hh : bdM hand) (k : Nat) : bdM (envV h n l hand k) := by
  have m := ok.2.2.2.2.2.2.1 l
  have w := wAll_le ok l (hCnt h 1)
  have g4 := ok.2.1
  have g3 := ok.2.2.1
  obtain ⟨n1, n2, n3, n4, n5, n6, n7, n8, n9⟩ := hn
  have n6 := n6 l
  have n7 := n7 l
  have n8 := n8 l
  unfold envV
  repeat' split
  · exact bd_nat (by omega)
  · exact bd_nat (by omega)
  · exact bd_nat (by omega)
  · exact hh
  · exact bd_nat (by omega)
  · exact bd_nat (by omega)
  · exact bd_nat (by omega)
  · exact bd_nat (by omega)
  · exact bd_nat (by omega)
  · exact bd_nat (by omega)
theorem envW_bd {h : aH} (ok : okH h) (l g : Nat) : bdM (envW h l g) := bd_nat (by have := ok.2.2.2.2.2.2.2.1 l g; omega)
theorem nI_J {n : Nat} (h : n < 2 ^ 31) : (nI n).toInt64 = iJ (n : Int) := by rw [nI_l h, lN_iJ]
theorem m_part {A : aS} {ν : z_S} (ok : okS A) (h : mS A ν) (N : Nat) (hN : 5 ≤ N) {l : Nat} (hl : l < hCnt (sH A) 0) {hand : Int} (hb : bdM hand) (hh : ν.1 253 56 = iI hand) {k : Nat} (hk : k < 10) : f_X12_qPartOf N (nI k) (nI l) ν = some (iJ (envV (sH A) (sN A) l hand k), ν) := by
  have h8 := ok.2.2.1.1
  have h4 := ok.2.2.1.2.1
  have h3 := ok.2.2.1.2.2.1
  have m := ok.2.2.1.2.2.2.2.2.2.1 l
  have w := wAll_le ok.2.2.1 l (hCnt (sH A) 1)
  obtain ⟨n1, n2, n3, n4, n5, n6, n7, n8, n9⟩ := ok.2.2.2.1
  have n6 := n6 l
  have n7 := n7 l
  have n8 := n8 l
  have q : ∀ w, w < 3 → ν.1 286 (24 + 3 * l + w) = nI (hMail (sH A) l w) := h.2.2.2.2.2.2.1.2.2.1 l hl
  have e24 : (24 : Int32) + (3 : Int32) * nI l = nI (24 + 3 * l) := ix2 24 3 l
  have e25 : (25 : Int32) + (3 : Int32) * nI l = nI (25 + 3 * l) := ix2 25 3 l
  have e26 : (26 : Int32) + (3 : Int32) * nI l = nI (26 + 3 * l) := ix2 26 3 l
  have q0 : ν.1 286 (24 + 3 * l) = nI (hMail (sH A) l 0) := q 0 (by decide)
  have q1 : ν.1 286 (25 + 3 * l) = nI (hMail (sH A) l 1) := by rw [show 25 + 3 * l = 24 + 3 * l + 1 by omega]; exact q 1 (by decide)
  have q2 : ν.1 286 (26 + 3 * l) = nI (hMail (sH A) l 2) := by rw [show 26 + 3 * l = 24 + 3 * l + 2 by omega]; exact q 2 (by decide)
  obtain ⟨d1, d2, d3⟩ := m_now h N (show l < 8 by omega)
  unfold f_X12_qPartOf
  simp only [z_bd_eq]
  rw [e24, e25, e26, z_in_nI (show 24 + 3 * l < 48 by omega) (by decide), z_in_nI (show 25 + 3 * l < 48 by omega) (by decide), z_in_nI (show 26 + 3 * l < 48 by omega) (by decide), nI_toNat (show 24 + 3 * l < 2 ^ 31 by omega), nI_toNat (show 25 + 3 * l < 2 ^ 31 by omega), nI_toNat (show 26 + 3 * l < 2 ^ 31 by omega), q0, q1, q2, hh, m_wishes ok h N hN (show l < 8 by omega), z_bn_sm, d1, d2, d3, z_bn_sm, z_bn_sm, z_bn_sm, show ν.1 296 0 = nI (nDay (sN A)) from h.2.2.2.2.2.2.2.1.1, nI_J (show hMail (sH A) l 0 < 2 ^ 31 by omega), nI_J (show hMail (sH A) l 1 < 2 ^ 31 by omega), nI_J (show hMail (sH A) l 2 < 2 ^ 31 by omega), iI_J hb, nI_J (show wAll (sH A) l (hCnt (sH A) 1) < 2 ^ 31 by omega), nI_J (show nDay (sN A) < 2 ^ 31 by omega), nI_J (show l < 2 ^ 31 by omega), nI_J (show nSheet (sN A) l < 2 ^ 31 by omega), nI_J (show nDone (sN A) l < 2 ^ 31 by omega), nI_J (show nGift (sN A) l < 2 ^ 31 by omega)]
  have hks : k = 0 ∨ k = 1 ∨ k = 2 ∨ k = 3 ∨ k = 4 ∨ k = 5 ∨ k = 6 ∨ k = 7 ∨ k = 8 ∨ k = 9 := by omega
  rcases hks with rfl | rfl | rfl | rfl | rfl | rfl | rfl | rfl | rfl | rfl <;> rfl
