/-! names, and who has one -/
theorem pk27_snoc (l : List Nat) (x : Nat) : pk27 (l ++ [x]) = 27 * pk27 l + x := by
  unfold pk27
  rw [List.foldl_append]
  rfl
theorem pk27_inj : ∀ (m : Nat) (l r : List Nat), l.length = m → (∀ c ∈ l, 1 ≤ c ∧ c ≤ 26) → (∀ c ∈ r, 1 ≤ c ∧ c ≤ 26) → pk27 l = pk27 r → l = r
  | 0, l, r, hl, _, hr, h => by
    have : l = [] := List.eq_nil_of_length_eq_zero hl
    subst this
    rcases List.eq_nil_or_concat r with y | ⟨s, x, y⟩
    · exact y.symm
    · rw [List.concat_eq_append] at y
      subst y
      rw [pk27_snoc] at h
      have := (hr x (by simp)).1
      have e : pk27 [] = 0 := rfl
      omega
  | m + 1, l, r, hl, h1, hr, h => by
    rcases List.eq_nil_or_concat l with y | ⟨s, x, y⟩
    · rw [y] at hl; cases hl
    · rw [List.concat_eq_append] at y
      subst y
      rw [pk27_snoc] at h
      have a := h1 x (by simp)
      rcases List.eq_nil_or_concat r with z | ⟨s', x', z⟩
      · rw [z] at h
        have e : pk27 [] = 0 := rfl
        omega
      · rw [List.concat_eq_append] at z
        subst z
        rw [pk27_snoc] at h
        have b := hr x' (by simp)
        have ex : x = x' := by omega
        have es := pk27_inj m s s' (by rw [snoc_len] at hl; omega) (fun c hc => h1 c (by simp [hc])) (fun c hc => hr c (by simp [hc])) (by omega)
        rw [ex, es]
theorem pk27_lt : ∀ (m : Nat) (l : List Nat), l.length = m → (∀ c ∈ l, c ≤ 26) → pk27 l < 27 ^ m
  | 0, l, hl, _ => by
    have : l = [] := List.eq_nil_of_length_eq_zero hl
    subst this
    exact Nat.one_pos
  | m + 1, l, hl, h => by
    rcases List.eq_nil_or_concat l with y | ⟨s, x, y⟩
    · rw [y] at hl; cases hl
    · rw [List.concat_eq_append] at y
      subst y
      have a := h x (by simp)
      have b := pk27_lt m s (by rw [snoc_len] at hl; omega) (fun c hc => h c (by simp [hc]))
      rw [pk27_snoc, Nat.pow_succ]
      omega
/-- a name: 1 to 6 letters -/
def isNm (l : List Nat) : Prop := 1 ≤ l.length ∧ l.length ≤ 6 ∧ ∀ c ∈ l, 1 ≤ c ∧ c ≤ 26
theorem nm_27 {l r : List Nat} (h1 : isNm l) (h2 : isNm r) : lN (pk27 l) = lN (pk27 r) ↔ l = r := by
  have a := pk27_lt l.length l rfl (fun c hc => (h1.2.2 c hc).2)
  have b := pk27_lt r.length r rfl (fun c hc => (h2.2.2 c hc).2)
  have pa := Nat.pow_le_pow_right (show 0 < 27 by decide) h1.2.1
  have pb := Nat.pow_le_pow_right (show 0 < 27 by decide) h2.2.1
  have p6 : 27 ^ 6 = 387420489 := by decide
  rw [lN_eq (by omega) (by omega)]
  exact ⟨pk27_inj l.length l r rfl h1.2.2 h2.2.2, fun z => by rw [z]⟩
theorem nm_32 {l r : List Nat} (h1 : isNm l) (h2 : isNm r) : nI (pk32 l 6) = nI (pk32 r 6) ↔ l = r := by
  have a := pk32_lt 6 l (fun c hc => (h1.2.2 c hc).2)
  have b := pk32_lt 6 r (fun c hc => (h2.2.2 c hc).2)
  have p6 : 32 ^ 6 = 1073741824 := by decide
  rw [nI_eq (by omega) (by omega)]
  exact ⟨pk32_inj ⟨h1.2.1, h1.2.2⟩ ⟨h2.2.1, h2.2.2⟩, fun z => by rw [z]⟩
def fndF (nm : Nat → List Nat) (l : List Nat) : Nat → Nat → Option Nat
  | 0, _ => none
  | m + 1, i => if nm i = l then some i else fndF nm l m (i + 1)
def optI : Option Nat → Int32
  | none => -1
  | some i => nI i
theorem fndF_some {nm : Nat → List Nat} {l : List Nat} : ∀ m i k, fndF nm l m i = some k → i ≤ k ∧ k < i + m ∧ nm k = l
  | 0, _, _, h => by cases h
  | m + 1, i, k, h => by
    by_cases c : nm i = l
    · have e : fndF nm l (m + 1) i = some i := if_pos c
      rw [e] at h
      cases h
      exact ⟨Nat.le_refl _, by omega, c⟩
    · have e : fndF nm l (m + 1) i = fndF nm l m (i + 1) := if_neg c
      rw [e] at h
      obtain ⟨a, b, d⟩ := fndF_some m (i + 1) k h
      exact ⟨by omega, by omega, d⟩
theorem c_find {nm : Nat → List Nat} {l : List Nat} {o k cnt : Nat} (N : Nat) (hN : 10 ≤ N) (hk : z_kw true o = (2, 0)) (hk3 : k < 3) (hc8 : cnt ≤ 8) {μ : z_S} (hc : μ.1 (o + 1) k = nI cnt) (hn : ∀ i, i < cnt → μ.1 (o + 3 + k) i = nI (pk32 (nm i) 6)) (hnm : ∀ i, i < cnt → isNm (nm i)) (hl : isNm l) : f_X2_find N o (nI k) (nI (pk32 l 6)) μ = some (optI (fndF nm l cnt 0), μ) := by
  have key : ∀ f m i, i + m = cnt → m < f → f_X2_find_L2 N o (nI k) (nI (pk32 l 6)) f (nI i) μ = some (optI (fndF nm l m i), μ) := by
    intro f
    induction f with
    | zero => intro m i h1 h2; omega
    | succ f ih =>
      intro m i h1 h2
      show b_X2_find_L2 N o (nI k) (nI (pk32 l 6)) (f_X2_find_L2 N o (nI k) (nI (pk32 l 6)) f) (nI i) μ = _
      unfold b_X2_find_L2
      rw [z_in_nI (show k < 10 by omega) (by decide), nI_toNat (show k < 2 ^ 31 by omega), hc]
      cases m with
      | zero =>
        rw [if_neg (nI_nlt (by omega) (by omega))]
        rfl
      | succ m =>
        have ek : nI i + 1 = nI (i + 1) := nI_1 i
        rw [if_pos (nI_lt (by omega) (by omega)), z_in_nI (show k < 3 by omega) (by decide), z_in_nI (show i < 8 by omega) (by decide), nI_toNat (show i < 2 ^ 31 by omega), hn i (by omega), z_bd_eq, ek]
        by_cases c : nm i = l
        · rw [if_pos ((nm_32 (hnm i (by omega)) hl).mpr c), show fndF nm l (m + 1) i = some i from if_pos c]
          rfl
        · rw [if_neg (fun z => c ((nm_32 (hnm i (by omega)) hl).mp z)), show fndF nm l (m + 1) i = fndF nm l m (i + 1) from if_neg c]
          exact ih m (i + 1) (by omega) (by omega)
  unfold f_X2_find
  rw [z_ko_ok hk]
  exact key N cnt 0 (by omega) (by omega)
theorem m_find {nm : Nat → List Nat} {l : List Nat} {k cnt : Nat} (N : Nat) (hN : 10 ≤ N) (hk3 : k < 3) (hc8 : cnt ≤ 8) {ν : z_S} (hc : ν.1 284 k = nI cnt) (hn : ∀ i, i < cnt → ν.2.1 285 (8 * k + i) = lN (pk27 (nm i))) (hnm : ∀ i, i < cnt → isNm (nm i)) (hl : isNm l) : f_X12_nameOf N (nI k) (lN (pk27 l)) ν = some (optI (fndF nm l cnt 0), ν) := by
  have key : ∀ f m i, i + m = cnt → m < f → f_X12_nameOf_L3 N (nI k) (lN (pk27 l)) f (nI i) ν = some (optI (fndF nm l m i), ν) := by
    intro f
    induction f with
    | zero => intro m i h1 h2; omega
    | succ f ih =>
      intro m i h1 h2
      show b_X12_nameOf_L3 N (nI k) (lN (pk27 l)) (f_X12_nameOf_L3 N (nI k) (lN (pk27 l)) f) (nI i) ν = _
      unfold b_X12_nameOf_L3
      rw [z_in_nI (show k < 10 by omega) (by decide), nI_toNat (show k < 2 ^ 31 by omega), hc]
      cases m with
      | zero =>
        rw [if_neg (nI_nlt (by omega) (by omega))]
        rfl
      | succ m =>
        have ek : nI i + 1 = nI (i + 1) := nI_1 i
        have e8 : (8 : Int32) * nI k + nI i = nI (8 * k + i) := by rw [show (8 : Int32) * nI k = nI (8 * k) from pk_mul 8 k, nI_add]
        rw [if_pos (nI_lt (by omega) (by omega)), e8, z_in_nI (show 8 * k + i < 48 by omega) (by decide), nI_toNat (show 8 * k + i < 2 ^ 31 by omega), hn i (by omega), z_bd_eq, ek]
        by_cases c : nm i = l
        · rw [if_pos ((nm_27 (hnm i (by omega)) hl).mpr c), show fndF nm l (m + 1) i = some i from if_pos c]
          rfl
        · rw [if_neg (fun z => c ((nm_27 (hnm i (by omega)) hl).mp z)), show fndF nm l (m + 1) i = fndF nm l m (i + 1) from if_neg c]
          exact ih m (i + 1) (by omega) (by omega)
  exact key N cnt 0 (by omega) (by omega)
