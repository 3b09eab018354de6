/-! a known name -/
theorem c_knownHere {h : aH} (ok : okH h) {t : Nat → Nat} {n q k : Nat} {g : Bool} (N : Nat) (hN : 1700 ≤ N) {μ : z_S} (hc : cG t n q g μ) (hn : nmC (z_hn μ.2.2.2) h μ) (hk : k < 3) : ∃ x μ', f_X3_knownHere N (nI k) μ = some (x, μ') ∧ uFr μ μ' ∧
    ((tkK t n q g = 1 ∧ ¬ isOwn (tkW t n q g) ∧ tkE t n q ≤ q + 6 ∧ ∃ i, fnd h k (lts t q (tkE t n q - q)) = some i ∧ i < hCnt h k ∧ x = nI i ∧ μ' = μ) ∨ (tkK t n q g = 1 ∧ ¬ isOwn (tkW t n q g) ∧ tkE t n q ≤ q + 6 ∧ fnd h k (lts t q (tkE t n q - q)) = none ∧ x = -1 ∧ cB 3 q μ') ∨ (¬ (tkK t n q g = 1 ∧ ¬ isOwn (tkW t n q g)) ∧ x = -1 ∧ cB 1 q μ') ∨ (tkK t n q g = 1 ∧ ¬ isOwn (tkW t n q g) ∧ q + 6 < tkE t n q ∧ x = -1 ∧ cB 1 (q + 6) μ')) := by
  obtain ⟨x, μ1, r1, r2, r3⟩ := c_nameHere N hc
  unfold f_X3_knownHere
  rw [r1, z_bn_sm]
  rcases r3 with ⟨a1, a2, a3, rfl, rfl⟩ | ⟨a1, rfl, a3⟩ | ⟨a1, a2, a3, rfl, a4⟩
  · have nm := tk_isNm a1 a3
    have hlt := pk32_lt 6 _ (fun c hc => (nm.2.2 c hc).2)
    have p6 : 32 ^ 6 = 1073741824 := by decide
    have h8 := ok_8 ok hk
    rw [if_neg (nI_nm1 (by omega)), c_fnd ok N (by omega) (z_hn_k _) hk nm hn, z_bn_sm]
    cases hf : fnd h k (lts t q (tkE t n q - q)) with
    | none =>
      obtain ⟨μ2, u1, u2, u3⟩ := c_fail N (f := 3) hc
      have u1' : f_X10_fail N (3 : Int32) μ1 = some (0, μ2) := u1
      rw [show optI none = (-1 : Int32) from rfl, if_pos rfl, u1', z_bn_sm]
      exact ⟨-1, μ2, rfl, u2, Or.inr (Or.inl ⟨a1, a2, a3, rfl, rfl, u3⟩)⟩
    | some i =>
      have hi := fndF_some _ _ _ hf
      rw [show optI (some i) = nI i from rfl, if_neg (nI_nm1 (by omega))]
      exact ⟨nI i, μ1, rfl, r2, Or.inl ⟨a1, a2, a3, i, rfl, by omega, rfl, rfl⟩⟩
  · rw [if_pos rfl]
    exact ⟨-1, μ1, rfl, r2, Or.inr (Or.inr (Or.inl ⟨a1, rfl, a3⟩))⟩
  · rw [if_pos rfl]
    exact ⟨-1, μ1, rfl, r2, Or.inr (Or.inr (Or.inr ⟨a1, a2, a3, rfl, a4⟩))⟩
theorem m_findAny {h : aH} (ok : okH h) (N : Nat) (hN : 10 ≤ N) {k : Nat} (hk3 : k < 3) (x : Int64) {ν : z_S} (hn : nmM h ν) : ∃ y, f_X12_nameOf N (nI k) x ν = some (y, ν) := by
  have h8 := ok_8 ok hk3
  have key : ∀ f m i, i + m = hCnt h k → m < f → ∃ y, f_X12_nameOf_L3 N (nI k) x f (nI i) ν = some (y, ν) := by
    intro f
    induction f with
    | zero => intro m i h1 h2; omega
    | succ f ih =>
      intro m i h1 h2
      show ∃ y, b_X12_nameOf_L3 N (nI k) x (f_X12_nameOf_L3 N (nI k) x f) (nI i) ν = _
      unfold b_X12_nameOf_L3
      rw [z_in_nI (show k < 10 by omega) (by decide), nI_toNat (show k < 2 ^ 31 by omega), hn.1 k hk3]
      cases m with
      | zero =>
        rw [if_neg (nI_nlt (by omega) (by omega))]
        exact ⟨_, rfl⟩
      | succ m =>
        have ek : nI i + 1 = nI (i + 1) := nI_1 i
        have e8 : (8 : Int32) * nI k + nI i = nI (8 * k + i) := by rw [show (8 : Int32) * nI k = nI (8 * k) from pk_mul 8 k, nI_add]
        rw [if_pos (nI_lt (by omega) (by omega)), e8, z_in_nI (show 8 * k + i < 48 by omega) (by decide), z_bd_eq, ek]
        split
        · exact ⟨_, rfl⟩
        · exact ih m (i + 1) (by omega) (by omega)
  exact key N (hCnt h k) 0 (by omega) (by omega)
theorem m_oneBad {h : aH} (ok : okH h) (N : Nat) (hN : 10 ≤ N) {k : Nat} (hk3 : k < 3) {ν : z_S} (hn : nmM h ν) (h5 : ¬ ν.1 253 5 = 0) : f_X12_oneOf N (nI k) ν = some (0, ν) := by
  unfold f_X12_oneOf
  have e : f_X12_name N ν = some (0, ν) := by unfold f_X12_name; rw [if_neg h5]
  obtain ⟨y, hy⟩ := m_findAny ok N hN hk3 0 hn
  rw [e, z_bn_sm, hy, z_bn_sm, if_neg h5]
  unfold f_X12_oneOf_B35
  rw [if_neg h5]
theorem m_oneOf {h : aH} (ok : okH h) {t : Nat → Nat} {n q k : Nat} {g : Bool} (N : Nat) (hN : 1700 ≤ N) {ν : z_S} (hm : mG t n q g ν) (hn : nmM h ν) (hk : k < 3) : ∃ x ν', f_X12_oneOf N (nI k) ν = some (x, ν') ∧ yFr ν ν' ∧
    ((tkK t n q g = 1 ∧ ¬ isOwn (tkW t n q g) ∧ tkE t n q ≤ q + 6 ∧ ∃ i, fnd h k (lts t q (tkE t n q - q)) = some i ∧ i < hCnt h k ∧ x = nI i ∧ mG t n (nxQ t n q) (nxG t n q g) ν' ∧ ν'.1 253 38 = nI q) ∨ (tkK t n q g = 1 ∧ ¬ isOwn (tkW t n q g) ∧ tkE t n q ≤ q + 6 ∧ fnd h k (lts t q (tkE t n q - q)) = none ∧ mB 3 q ν') ∨ (¬ (tkK t n q g = 1 ∧ ¬ isOwn (tkW t n q g)) ∧ mB 1 q ν') ∨ (tkK t n q g = 1 ∧ ¬ isOwn (tkW t n q g) ∧ q + 6 < tkE t n q ∧ mB 1 (q + 6) ν')) := by
  obtain ⟨x, ν1, r1, r2, r3⟩ := m_name N hN hm
  have hn1 := r2.nmM hn
  unfold f_X12_oneOf f_X12_oneOf_B35
  rw [r1, z_bn_sm]
  have bad : ∀ f p, 1 ≤ f ∧ f ≤ 5 → mB f p ν1 → ∃ x' ν', (z_bn (f_X12_nameOf N (nI k) x ν1) fun x2 μ_2 => if (μ_2.1 253 5) = 0 then (if x2 = (-1 : Int32) then (z_bn (f_X12_fail N (3 : Int32) (μ_2.1 253 38) μ_2) fun _ μ_3 => if (μ_3.1 253 5) = 0 then (some (x2, μ_3)) else some ((0 : Int32), μ_3)) else if (μ_2.1 253 5) = 0 then (some (x2, μ_2)) else some ((0 : Int32), μ_2)) else if (μ_2.1 253 5) = 0 then (some (x2, μ_2)) else some ((0 : Int32), μ_2)) = some (x', ν') ∧ yFr ν ν' ∧ mB f p ν' := fun f p hf hB => by
    have b5 := mB_ne hB hf
    obtain ⟨y, hy⟩ := m_findAny ok N (by omega) hk x hn1
    rw [hy, z_bn_sm, if_neg b5, if_neg b5]
    exact ⟨0, ν1, rfl, r2, hB⟩
  rcases r3 with ⟨a1, a2, a3, rfl, a4, a5⟩ | ⟨a1, a2⟩ | ⟨a1, a2, a3, a4⟩
  · have nm := tk_isNm a1 a3
    have h8 := ok_8 ok hk
    rw [m_fnd ok N (by omega) hk nm hn1, z_bn_sm, if_pos a4.2.1]
    cases hf : fnd h k (lts t q (tkE t n q - q)) with
    | none =>
      obtain ⟨ν2, u1, u2, u3⟩ := m_failAt N 3 q a4.2.1
      have u1' : f_X12_fail N (3 : Int32) (nI q) ν1 = some ((), ν2) := u1
      rw [show optI none = (-1 : Int32) from rfl, if_pos rfl, a5, u1', z_bn_sm, if_neg (mB_ne u3 (by omega))]
      exact ⟨0, ν2, rfl, r2.tr u2, Or.inr (Or.inl ⟨a1, a2, a3, rfl, u3⟩)⟩
    | some i =>
      have hi := fndF_some _ _ _ hf
      rw [show optI (some i) = nI i from rfl, if_neg (nI_nm1 (by omega)), if_pos a4.2.1]
      exact ⟨nI i, ν1, rfl, r2, Or.inl ⟨a1, a2, a3, i, rfl, by omega, rfl, a4, a5⟩⟩
  · obtain ⟨x', ν', s1, s2, s3⟩ := bad 1 q (by omega) a2
    exact ⟨x', ν', s1, s2, Or.inr (Or.inr (Or.inl ⟨a1, s3⟩))⟩
  · obtain ⟨x', ν', s1, s2, s3⟩ := bad 1 (q + 6) (by omega) a4
    exact ⟨x', ν', s1, s2, Or.inr (Or.inr (Or.inr ⟨a1, a2, a3, s3⟩))⟩
