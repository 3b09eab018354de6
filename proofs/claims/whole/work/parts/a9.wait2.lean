def isBr (x : Int32) : Prop := ¬ x < 20 ∧ ¬ 24 < x
theorem m_isBr (N : Nat) (x : Int32) (ν : z_S) : ∃ b, f_X12_qIsBracket N x ν = some (b, ν) ∧ ((b = 1 ∧ isBr x) ∨ (b = 0 ∧ ¬ isBr x)) := by
  unfold f_X12_qIsBracket
  by_cases c1 : x < 20
  · rw [if_pos c1]
    exact ⟨0, rfl, Or.inr ⟨rfl, fun z => z.1 c1⟩⟩
  · rw [if_neg c1]
    by_cases c2 : 24 < x
    · rw [if_pos c2]
      exact ⟨0, rfl, Or.inr ⟨rfl, fun z => z.2 c2⟩⟩
    · rw [if_neg c2]
      exact ⟨1, rfl, Or.inl ⟨rfl, c1, c2⟩⟩
theorem m_brkL {as : Bool} {Q W pd : List Int32} {op base : Nat} (N : Nat) (e : Int32 → z_S → Option (Int32 × z_S)) {ν : z_S} (h : qM as Q (W ++ pd) op base ν) (hl : W.length + pd.length < 1700) (hb : base ≤ W.length) (hp : ∀ p ∈ pd, ¬ isBr p) : ∀ m k f, k = W.length + m → m ≤ pd.length → m < f → ∃ f', f_X12_qBracket_L7 N e f (nI k - 1) ν = f_X12_qBracket_L7 N e f' (nI W.length - 1) ν ∧ f ≤ f' + m := by
  intro m
  induction m with
  | zero => intro k f h1 h2 h3; exact ⟨f, by rw [show k = W.length by omega], by omega⟩
  | succ m ih =>
    intro k f h1 h2 h3
    obtain ⟨f, rfl⟩ : ∃ g, f = g + 1 := ⟨f - 1, by omega⟩
    obtain ⟨k, rfl⟩ : ∃ j, k = j + 1 := ⟨k - 1, by omega⟩
    have e1 : nI (k + 1) - 1 = nI k := pk_sub (b := 1) (by omega)
    have e3 : nI k + (-1 : Int32) = nI k - 1 := (Int32.sub_eq_add_neg (nI k) 1).symm
    have hk : k < (W ++ pd).length := by rw [List.length_append]; omega
    have hmem : (W ++ pd)[k] ∈ pd := by
      rw [List.getElem_append_right (by omega)]
      exact List.getElem_mem _
    obtain ⟨b, w1, w2⟩ := m_isBr N (W ++ pd)[k] ν
    have hb0 : b = 0 := by rcases w2 with y | y; exact absurd y.2 (hp _ hmem); exact y.1
    obtain ⟨f', r1, r2⟩ := ih k f (by omega) (by omega) (by omega)
    refine ⟨f', ?_, by omega⟩
    rw [← r1]
    show b_X12_qBracket_L7 N (f_X12_qBracket_L7 N e f) e (nI (k + 1) - 1) ν = _
    unfold b_X12_qBracket_L7
    rw [e1, h.2.2.2.2.2.1, if_neg (nI_nlt (by omega) (by omega)), z_in_nI (show k < 1700 by omega) (by decide), nI_toNat (by omega), h.2.2.2.1 k _ (List.getElem?_eq_getElem hk), w1, z_bn_sm, if_pos hb0, z_bd_eq, e3]
theorem m_brk0 {as : Bool} {Q W pd : List Int32} {op base : Nat} (N : Nat) (hN : 1700 ≤ N) {ν : z_S} (h : qM as Q (W ++ pd) op base ν) (hl : W.length + pd.length < 1700) (hb : W.length = base) (hp : ∀ p ∈ pd, ¬ isBr p) : f_X12_qBracket N ν = some (-1, ν) := by
  obtain ⟨f', r1, r2⟩ := m_brkL N (fun y33_1 μ33 => f_X12_qBracket_B33 N y33_1 μ33) h hl (by omega) hp pd.length (W ++ pd).length N (by rw [List.length_append]) (Nat.le_refl _) (by omega)
  obtain ⟨f', rfl⟩ : ∃ g, f' = g + 1 := ⟨f' - 1, by omega⟩
  unfold f_X12_qBracket
  rw [h.2.2.1, z_bd_eq, r1]
  show b_X12_qBracket_L7 N _ _ _ ν = _
  unfold b_X12_qBracket_L7
  have lt := (nI_dlt (a := W.length) (b := base) (by omega) (by omega)).mpr (by omega)
  rw [h.2.2.2.2.2.1, if_pos lt]
  show f_X12_qBracket_B33 N (nI W.length - 1) ν = _
  unfold f_X12_qBracket_B33
  rw [h.2.2.2.2.2.1, if_pos lt]
theorem m_brk1 {as : Bool} {Q W pd : List Int32} {x : Int32} {op base : Nat} (N : Nat) (hN : 1700 ≤ N) {ν : z_S} (h : qM as Q (W ++ [x] ++ pd) op base ν) (hl : W.length + 1 + pd.length < 1700) (hb : base ≤ W.length) (hx : isBr x) (hp : ∀ p ∈ pd, ¬ isBr p) : f_X12_qBracket N ν = some (x, ν) := by
  obtain ⟨f', r1, r2⟩ := m_brkL N (fun y33_1 μ33 => f_X12_qBracket_B33 N y33_1 μ33) h (by rw [snoc_len]; omega) (by rw [snoc_len]; omega) hp pd.length (W ++ [x] ++ pd).length N (by rw [List.length_append]) (Nat.le_refl _) (by omega)
  obtain ⟨f', rfl⟩ : ∃ g, f' = g + 1 := ⟨f' - 1, by omega⟩
  unfold f_X12_qBracket
  rw [h.2.2.1, z_bd_eq, r1, snoc_len]
  have e1 : nI (W.length + 1) - 1 = nI W.length := pk_sub (b := 1) (by omega)
  have ev : ν.1 331 W.length = x := h.2.2.2.1 W.length x (by
    rw [List.append_assoc, List.getElem?_append_right (Nat.le_refl _), Nat.sub_self]
    rfl)
  rw [e1]
  show b_X12_qBracket_L7 N _ _ _ ν = _
  unfold b_X12_qBracket_L7
  obtain ⟨b, w1, w2⟩ := m_isBr N x ν
  have hb1 : b = 1 := by rcases w2 with y | y; exact y.1; exact absurd hx y.2
  rw [h.2.2.2.2.2.1, if_neg (nI_nlt (by omega) (by omega)), z_in_nI (show W.length < 1700 by omega) (by decide), nI_toNat (by omega), ev, w1, z_bn_sm, hb1, if_neg (show ¬ (1 : Int32) = 0 by decide)]
  show f_X12_qBracket_B33 N (nI W.length) ν = _
  unfold f_X12_qBracket_B33
  rw [h.2.2.2.2.2.1, if_neg (nI_nlt (by omega) (by omega)), z_in_nI (show W.length < 1700 by omega) (by decide), nI_toNat (by omega), ev]
/-- the bracket that a sum stands in, or none -/
def topOK (W : List Int32) (base : Nat) : Prop := W.length = base ∨ ∃ V b, W = V ++ [b] ∧ isBr b ∧ base ≤ V.length
theorem rev_snoc {α : Type} (l : List α) (x : α) : (l ++ [x]).reverse = x :: l.reverse := by rw [List.reverse_append]; rfl
theorem m_dropsTo {as : Bool} {W : List Int32} {op base : Nat} (N : Nat) (hW : topOK W base) : ∀ m (pd : List Int32) f Q ν, pd.length = m → m < f → Q.length + W.length + m < 1690 → (∀ p ∈ pd, ¬ isBr p) → qM as Q (W ++ pd) op base ν → ∃ ν', f_X12_qDropsToBracket_L0 N f ν = some ((), ν') ∧ jFr ν ν' ∧ qM as (Q ++ pd.reverse) W op base ν' := by
  intro m
  induction m with
  | zero =>
    intro pd f Q ν h1 h2 h3 h4 h
    obtain ⟨f, rfl⟩ : ∃ g, f = g + 1 := ⟨f - 1, by omega⟩
    have : pd = [] := List.eq_nil_of_length_eq_zero h1
    subst this
    rw [List.append_nil] at h
    refine ⟨ν, ?_, jFr.rf ν, by rw [List.reverse_nil, List.append_nil]; exact h⟩
    show b_X12_qDropsToBracket_L0 N _ ν = _
    unfold b_X12_qDropsToBracket_L0
    rw [h.2.2.2.2.2.1, h.2.2.1]
    rcases hW with y | ⟨V, b, rfl, hb, hv⟩
    · rw [if_neg (nI_nlt (by omega) (by omega))]
    · have l1 := snoc_len V b
      obtain ⟨x, w1, w2⟩ := m_isBr N b ν
      have hx1 : x = 1 := by rcases w2 with y | y; exact y.1; exact absurd hb y.2
      rw [l1, if_pos (nI_lt (by omega) (by omega)), show nI (V.length + 1) - (1 : Int32) = nI V.length from pk_sub (b := 1) (by omega), z_in_nI (show V.length < 1700 by omega) (by decide), nI_toNat (by omega), (qM_top h).1, w1, z_bn_sm, hx1, if_neg (show ¬ (1 : Int32) = 0 by decide)]
  | succ m ih =>
    intro pd f Q ν h1 h2 h3 h4 h
    obtain ⟨f, rfl⟩ : ∃ g, f = g + 1 := ⟨f - 1, by omega⟩
    rcases List.eq_nil_or_concat pd with y | ⟨p, x, y⟩
    · rw [y] at h1; cases h1
    · rw [List.concat_eq_append] at y
      subst y
      have l1 : p.length = m := by rw [snoc_len] at h1; omega
      rw [← List.append_assoc] at h
      have hbw : base ≤ W.length := by rcases hW with z | ⟨V, b, rfl, hb, hv⟩; omega; rw [snoc_len]; omega
      have l2 : (W ++ p).length = W.length + m := by rw [List.length_append, l1]
      obtain ⟨b, w1, w2⟩ := m_isBr N x ν
      have hb0 : b = 0 := by rcases w2 with z | z; exact absurd z.2 (h4 x (by simp)); exact z.1
      obtain ⟨ν1, r1, r2, r3⟩ := m_drops N h (by rw [l2]; omega)
      obtain ⟨ν2, s1, s2, s3⟩ := ih p f (Q ++ [x]) ν1 l1 (by omega) (by rw [snoc_len]; omega) (fun c hc => h4 c (by simp [hc])) r3
      refine ⟨ν2, ?_, r2.tr s2, ?_⟩
      · show b_X12_qDropsToBracket_L0 N _ ν = _
        unfold b_X12_qDropsToBracket_L0
        rw [h.2.2.2.2.2.1, h.2.2.1, snoc_len, l2, if_pos (nI_lt (by omega) (by omega)), show nI (W.length + m + 1) - (1 : Int32) = nI (W.length + m) from pk_sub (b := 1) (by omega), z_in_nI (show W.length + m < 1700 by omega) (by decide), nI_toNat (by omega), show ν.1 331 (W.length + m) = x by rw [← l2]; exact (qM_top h).1, w1, z_bn_sm, if_pos hb0, r1, z_bn_sm]
        exact s1
      · rw [rev_snoc]
        rw [List.append_assoc] at s3
        exact s3
theorem m_ends0 {as : Bool} {Q W : List Int32} {op base : Nat} (N f : Nat) {ν : z_S} (h : qM as Q W op base ν) (hl : W.length < 1690) (h5 : ν.1 253 5 = 0) (ht : W.length = base ∨ ∃ V x, W = V ++ [x] ∧ x < 60) (hb : base ≤ W.length) : f_X12_qEndsPart_L0 N (f + 1) ν = some ((), ν) := by
  show b_X12_qEndsPart_L0 N _ ν = _
  unfold b_X12_qEndsPart_L0
  rw [if_pos h5, h.2.2.2.2.2.1, h.2.2.1]
  by_cases c : base < W.length
  · rcases ht with y | ⟨V, x, rfl, hx⟩
    · omega
    · have l1 := snoc_len V x
      rw [if_pos (nI_lt c (by omega)), l1, show nI (V.length + 1) - (1 : Int32) = nI V.length from pk_sub (b := 1) (by omega), z_in_nI (show V.length < 1700 by omega) (by decide), nI_toNat (by omega), (qM_top h).1, if_pos hx]
  · rw [if_neg (nI_nlt (by omega) (by omega))]
theorem m_ends1 {as : Bool} {Q W : List Int32} {op base : Nat} (N f : Nat) {ν : z_S} (h : qM as Q (W ++ [60]) (op + 1) base ν) (hl : Q.length + W.length < 1690) (h5 : ν.1 253 5 = 0) (ho : op ≤ 6) (hb : base ≤ W.length) : ∃ ν', f_X12_qEndsPart_L0 N (f + 1) ν = f_X12_qEndsPart_L0 N f ν' ∧ jFr ν ν' ∧ qM as (Q ++ [60]) W op base ν' := by
  have l1 := snoc_len W (60 : Int32)
  have hp := qM_op h op
  obtain ⟨ν', r1, r2, r3⟩ := m_drops N hp hl
  refine ⟨ν', ?_, (jFr.set ν _ (by omega)).tr r2, r3⟩
  show b_X12_qEndsPart_L0 N _ ν = _
  unfold b_X12_qEndsPart_L0
  rw [if_pos h5, h.2.2.2.2.2.1, h.2.2.1, l1, if_pos (nI_lt (by omega) (by omega)), show nI (W.length + 1) - (1 : Int32) = nI W.length from pk_sub (b := 1) (by omega), z_in_nI (show W.length < 1700 by omega) (by decide), nI_toNat (by omega), (qM_top h).1, if_neg (show ¬ (60 : Int32) < 60 by decide), h.2.2.2.2.1, show nI (op + 1) - (1 : Int32) = nI op from pk_sub (b := 1) (by omega), z_bd_eq, r1, z_bn_sm]
theorem m_isOn {as : Bool} {Q W : List Int32} {op base : Nat} {x : Int32} (N : Nat) {ν : z_S} (h : qM as Q (W ++ [x]) op base ν) (hl : W.length < 1690) (a : Int32) : f_X12_qIsOn N a ν = some (if x = a then 1 else 0, ν) := by
  have l1 := snoc_len W x
  unfold f_X12_qIsOn
  rw [h.2.2.1, l1, if_pos (show (0 : Int32) < nI (W.length + 1) from nI_lt (a := 0) (by omega) (by omega)), show nI (W.length + 1) - (1 : Int32) = nI W.length from pk_sub (b := 1) (by omega), z_in_nI (show W.length < 1700 by omega) (by decide), nI_toNat (by omega), (qM_top h).1]
  by_cases c : x = a
  · rw [if_pos c, if_pos c]
  · rw [if_neg c, if_neg c]
theorem m_isOn0 {as : Bool} {Q : List Int32} {op base : Nat} (N : Nat) {ν : z_S} (h : qM as Q [] op base ν) (a : Int32) : f_X12_qIsOn N a ν = some (0, ν) := by
  unfold f_X12_qIsOn
  rw [h.2.2.1, if_neg (by decide)]
/-- nothing of these waits on top -/
def topNo (W : List Int32) : Prop := W = [] ∨ ∃ V x, W = V ++ [x] ∧ ¬ (x = 1 ∨ x = 2 ∨ x = 3 ∨ x = 4)
theorem m_isOnN {as : Bool} {Q W : List Int32} {op base : Nat} (N : Nat) {ν : z_S} (h : qM as Q W op base ν) (hl : W.length < 1690) (ht : topNo W) {a : Int32} (ha : a = 1 ∨ a = 2 ∨ a = 3 ∨ a = 4) : f_X12_qIsOn N a ν = some (0, ν) := by
  rcases ht with rfl | ⟨V, x, rfl, hx⟩
  · exact m_isOn0 N h a
  · rw [m_isOn N h (by rw [snoc_len] at hl; omega) a, if_neg]
    intro z
    rw [z] at hx
    exact hx ha
