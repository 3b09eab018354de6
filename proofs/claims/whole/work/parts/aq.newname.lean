/-! a new name: the reference -/
def nmM (h : aH) (ν : z_S) : Prop := (∀ k, k < 3 → ν.1 284 k = nI (hCnt h k)) ∧ ∀ k, k < 3 → ∀ i, i < hCnt h k → ν.2.1 285 (8 * k + i) = lN (pk27 (hName h k i))
theorem yFr.nmM {h : aH} {ν ν' : z_S} (g : yFr ν ν') (hn : nmM h ν) : nmM h ν' := ⟨fun k hk => by rw [g.2 _ _ (by omega)]; exact hn.1 k hk, fun k hk i hi => by rw [g.1]; exact hn.2 k hk i hi⟩
theorem ok_8 {h : aH} (ok : okH h) {k : Nat} (hk : k < 3) : hCnt h k ≤ 8 := by
  have h1 := ok.1
  have h2 := ok.2.1
  have h3 := ok.2.2.1
  have : k = 0 ∨ k = 1 ∨ k = 2 := by omega
  rcases this with rfl | rfl | rfl <;> omega
def fnd (h : aH) (k : Nat) (l : List Nat) : Option Nat := fndF (hName h k) l (hCnt h k) 0
theorem m_fnd {h : aH} (ok : okH h) (N : Nat) (hN : 10 ≤ N) {k : Nat} (hk : k < 3) {l : List Nat} (hl : isNm l) {ν : z_S} (hn : nmM h ν) : f_X12_nameOf N (nI k) (lN (pk27 l)) ν = some (optI (fnd h k l), ν) :=
  m_find N hN hk (ok_8 ok hk) (hn.1 k hk) (hn.2 k hk) (fun i hi => ok.2.2.2.2.2.1 k i hi) hl
theorem new_bad {N : Nat} {c1 : Int64} {ν : z_S} (h5 : ¬ ν.1 253 5 = 0) : ∀ f k, k ≤ 3 → 3 - k < f → f_X12_newName_L7 N c1 f (nI k) ν = some (c1, ν) := by
  intro f
  induction f with
  | zero => intro k h1 h2; omega
  | succ f ih =>
    intro k h1 h2
    show b_X12_newName_L7 N c1 (f_X12_newName_L7 N c1 f) (nI k) ν = _
    unfold b_X12_newName_L7 f_X12_newName_B38
    by_cases hlt : k < 3
    · rw [if_pos (show nI k < (3 : Int32) from nI_lt (b := 3) hlt (by decide)), if_neg h5, z_bd_eq, show nI k + 1 = nI (k + 1) from nI_1 k]
      exact ih (k + 1) (by omega) (by omega)
    · rw [if_neg (show ¬ nI k < (3 : Int32) from nI_nlt (b := 3) (by omega) (by omega))]
theorem m_newL {h : aH} (ok : okH h) (N : Nat) (hN : 10 ≤ N) {l : List Nat} (hl : isNm l) {p : Nat} {ν : z_S} (hn : nmM h ν) (h5 : ν.1 253 5 = 0) (h38 : ν.1 253 38 = nI p) : ∀ f k, k ≤ 3 → 3 - k < f → (∀ j, j < k → fnd h j l = none) → (f_X12_newName_L7 N (lN (pk27 l)) f (nI k) ν = some (lN (pk27 l), ν) ∧ ∀ j, j < 3 → fnd h j l = none) ∨ (∃ ν', f_X12_newName_L7 N (lN (pk27 l)) f (nI k) ν = some (lN (pk27 l), ν') ∧ yFr ν ν' ∧ mB 3 p ν' ∧ ∃ j, j < 3 ∧ fnd h j l ≠ none) := by
  intro f
  induction f with
  | zero => intro k h1 h2; omega
  | succ f ih =>
    intro k h1 h2 hno
    have eS : f_X12_newName_L7 N (lN (pk27 l)) (f + 1) (nI k) ν = b_X12_newName_L7 N (lN (pk27 l)) (f_X12_newName_L7 N (lN (pk27 l)) f) (nI k) ν := rfl
    rw [eS]
    unfold b_X12_newName_L7 f_X12_newName_B38
    by_cases hlt : k < 3
    · have ek : nI k + 1 = nI (k + 1) := nI_1 k
      rw [if_pos (show nI k < (3 : Int32) from nI_lt (b := 3) hlt (by decide)), if_pos h5, m_fnd ok N hN hlt hl hn, z_bn_sm]
      cases hf : fnd h k l with
      | none =>
        rw [show optI none = (-1 : Int32) from rfl, if_pos rfl, z_bd_eq, ek]
        refine ih (k + 1) (by omega) (by omega) (fun j hj => ?_)
        by_cases z : j = k
        · rw [z]; exact hf
        · exact hno j (by omega)
      | some i =>
        have hi := fndF_some _ _ _ hf
        have h8 := ok_8 ok hlt
        obtain ⟨ν', r1, r2, r3⟩ := m_failAt N 3 p h5
        have r1' : f_X12_fail N (3 : Int32) (nI p) ν = some ((), ν') := r1
        right
        rw [show optI (some i) = nI i from rfl, if_neg (nI_nm1 (by omega)), h38, r1', z_bn_sm, z_bd_eq, ek]
        exact ⟨ν', new_bad (mB_ne r3 (by omega)) f (k + 1) (by omega) (by omega), r2, r3, k, hlt, by rw [hf]; intro z; cases z⟩
    · rw [if_neg (show ¬ nI k < (3 : Int32) from nI_nlt (b := 3) (by omega) (by omega))]
      exact Or.inl ⟨rfl, fun j hj => hno j (by omega)⟩
theorem tk_isNm {t : Nat → Nat} {n q : Nat} {g : Bool} (h : tkK t n q g = 1) (h6 : tkE t n q ≤ q + 6) : isNm (lts t q (tkE t n q - q)) := by
  obtain ⟨a, b, c⟩ := tkK_1.mp h
  have eE : tkE t n q = endE n (ltB t) q := by unfold tkE; rw [if_neg (by omega), if_pos b]
  have hb := endE_b (P := ltB t) (show q ≤ n by omega)
  have hl := (tkE_b (t := t) (show q ≤ n by omega)).2.2 a
  refine ⟨by rw [lts_len]; omega, by rw [lts_len]; omega, lts_26 (fun k x y => hb.2.2.1 k x (by omega))⟩
theorem m_newName {h : aH} (ok : okH h) {t : Nat → Nat} {n q : Nat} {g : Bool} (N : Nat) (hN : 1700 ≤ N) {ν : z_S} (hm : mG t n q g ν) (hn : nmM h ν) : ∃ x ν', f_X12_newName N ν = some (x, ν') ∧ yFr ν ν' ∧
    ((tkK t n q g = 1 ∧ ¬ isOwn (tkW t n q g) ∧ tkE t n q ≤ q + 6 ∧ (∀ j, j < 3 → fnd h j (lts t q (tkE t n q - q)) = none) ∧ x = lN (pk27 (lts t q (tkE t n q - q))) ∧ mG t n (nxQ t n q) (nxG t n q g) ν') ∨ (tkK t n q g = 1 ∧ ¬ isOwn (tkW t n q g) ∧ tkE t n q ≤ q + 6 ∧ (∃ j, j < 3 ∧ fnd h j (lts t q (tkE t n q - q)) ≠ none) ∧ mB 3 q ν') ∨ (¬ (tkK t n q g = 1 ∧ ¬ isOwn (tkW t n q g)) ∧ mB 1 q ν') ∨ (tkK t n q g = 1 ∧ ¬ isOwn (tkW t n q g) ∧ q + 6 < tkE t n q ∧ mB 1 (q + 6) ν')) := by
  obtain ⟨x, ν1, r1, r2, r3⟩ := m_name N hN hm
  unfold f_X12_newName
  rw [r1, z_bn_sm]
  rcases r3 with ⟨a1, a2, a3, rfl, a4, a5⟩ | ⟨a1, a2⟩ | ⟨a1, a2, a3, a4⟩
  · rcases m_newL ok N (by omega) (tk_isNm a1 a3) (r2.nmM hn) a4.2.1 a5 N 0 (by omega) (by omega) (fun j hj => by omega) with ⟨s1, s2⟩ | ⟨ν2, s1, s2, s3, s4⟩
    · have s1' : f_X12_newName_L7 N (lN (pk27 (lts t q (tkE t n q - q)))) N (0 : Int32) ν1 = _ := s1
      exact ⟨_, ν1, s1', r2, Or.inl ⟨a1, a2, a3, s2, rfl, a4⟩⟩
    · have s1' : f_X12_newName_L7 N (lN (pk27 (lts t q (tkE t n q - q)))) N (0 : Int32) ν1 = _ := s1
      exact ⟨_, ν2, s1', r2.tr s2, Or.inr (Or.inl ⟨a1, a2, a3, s4, s3⟩)⟩
  · have e : f_X12_newName_L7 N x N (0 : Int32) ν1 = some (x, ν1) := new_bad (mB_ne a2 (by omega)) N 0 (by omega) (by omega)
    exact ⟨x, ν1, e, r2, Or.inr (Or.inr (Or.inl ⟨a1, a2⟩))⟩
  · have e : f_X12_newName_L7 N x N (0 : Int32) ν1 = some (x, ν1) := new_bad (mB_ne a4 (by omega)) N 0 (by omega) (by omega)
    exact ⟨x, ν1, e, r2, Or.inr (Or.inr (Or.inr ⟨a1, a2, a3, a4⟩))⟩
