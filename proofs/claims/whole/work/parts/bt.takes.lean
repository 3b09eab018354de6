/-! the reference asks all letters -/
theorem m_takes {N k l : Nat} (hk : k < 6) {r v : Int} (hv : bdM v) (hr0 : k = 0 → bdM r) (hr4 : 3 < k → 0 < l → bdM r) (hbit : k < 3 → v = 0 ∨ v = 1) (hl : l < 8) {ν : z_S} (h1 : ν.2.1 253 102 = iJ r) (h2 : ν.1 253 103 = if l = 0 then 1 else 0) : f_X12_qTakes N (nI k) (iJ v) (nI l) ν = some ((), z_setI (z_setJ ν 253 102 (iJ (ansS k r l v))) 253 103 0) := by
  have v1 : iJ v = 1 ↔ v = 1 := iJ_eq (b := 1) hv ⟨by decide, by decide⟩
  have same : z_setJ ν 253 102 (iJ r) = ν := by
    have : (fun o j => if o = 253 ∧ j = 102 then iJ r else ν.2.1 o j) = ν.2.1 := by
      funext o j
      by_cases c : o = 253 ∧ j = 102
      · rw [if_pos c, c.1, c.2, h1]
      · rw [if_neg c]
    show (ν.1, (fun o j => if o = 253 ∧ j = 102 then iJ r else ν.2.1 o j), ν.2.2) = ν
    rw [this]
  rcases (show k = 0 ∨ k = 1 ∨ k = 2 ∨ k = 3 ∨ k = 4 ∨ k = 5 by omega) with rfl | rfl | rfl | rfl | rfl | rfl
  · have e55 : ∀ s ν', f_X12_qTakes_B55 N (nI 0) (iJ v) s ν' = some ((), z_setI ν' 253 103 0) := fun _ _ => rfl
    have e38 : ∀ s ν', f_X12_qTakes_B38 N (nI 0) (iJ v) (nI l) s ν' = some ((), z_setI ν' 253 103 0) := fun _ _ => rfl
    unfold f_X12_qTakes f_X12_qTakes_B15
    rw [if_pos (show nI 0 < (3 : Int32) by decide)]
    by_cases z : v = 1
    · rw [if_pos (v1.mpr z)]
      unfold f_X12_qTakes_B16
      rw [if_pos (show nI 0 = (0 : Int32) from rfl), if_neg (show ¬ (1 : Int32) = 0 by decide)]
      by_cases w : r = -1
      · have eA : ansS 0 r l v = (l : Int) := by unfold ansS; rw [if_pos rfl, if_pos ⟨w, z⟩]
        rw [if_pos (show ν.2.1 253 102 = (-1 : Int64) by rw [h1, w]; rfl), eA]
        unfold f_X12_qTakes_B48
        rw [z_bd_eq, e55, nJ_l (by omega)]
      · have eA : ansS 0 r l v = r := by unfold ansS; rw [if_pos rfl, if_neg (fun y => w y.1)]
        rw [if_neg (show ¬ ν.2.1 253 102 = (-1 : Int64) from fun y => w ((iJ_eq (b := -1) (hr0 rfl) ⟨by decide, by decide⟩).mp (h1.symm.trans y))), eA, same, e38]
    · have eA : ansS 0 r l v = r := by unfold ansS; rw [if_pos rfl, if_neg (fun y => z y.2)]
      rw [if_neg (fun y => z (v1.mp y)), eA, same]
      unfold f_X12_qTakes_B16
      rw [if_pos (show nI 0 = (0 : Int32) from rfl), if_pos (show (0 : Int32) = 0 from rfl), e38]
  · have e55 : ∀ s ν', f_X12_qTakes_B55 N (nI 1) (iJ v) s ν' = some ((), z_setI ν' 253 103 0) := fun _ _ => rfl
    have e16 : ∀ s ν', f_X12_qTakes_B16 N (nI 1) (iJ v) (nI l) s ν' = if s = 0 then f_X12_qTakes_B55 N (nI 1) (iJ v) s ν' else f_X12_qTakes_B48 N (nI 1) (iJ v) (nI l) s ν' := fun _ _ => rfl
    unfold f_X12_qTakes f_X12_qTakes_B15
    rw [if_pos (show nI 1 < (3 : Int32) by decide)]
    by_cases z : v = 1
    · have eA : ansS 1 r l v = (l : Int) := by unfold ansS; rw [if_neg (show ¬ (1 : Nat) = 0 by omega), if_pos rfl, if_pos z]
      rw [if_pos (v1.mpr z), e16, if_neg (show ¬ (1 : Int32) = 0 by decide), eA]
      unfold f_X12_qTakes_B48
      rw [z_bd_eq, e55, nJ_l (by omega)]
    · have eA : ansS 1 r l v = r := by unfold ansS; rw [if_neg (show ¬ (1 : Nat) = 0 by omega), if_pos rfl, if_neg z]
      rw [if_neg (fun y => z (v1.mp y)), e16, if_pos (show (0 : Int32) = 0 from rfl), e55, eA, same]
  · have e75 : ∀ ν', f_X12_qTakes_B75 N (nI 2) (iJ v) ν' = some ((), z_setI ν' 253 103 0) := fun _ => rfl
    have e16 : ∀ s ν', f_X12_qTakes_B16 N (nI 2) (iJ v) (nI l) s ν' = if s = 0 then f_X12_qTakes_B75 N (nI 2) (iJ v) ν' else f_X12_qTakes_B75 N (nI 2) (iJ v) (z_setJ ν' 253 102 (ν'.2.1 253 102 + (1 : Int64))) := fun _ _ => rfl
    have eA : ansS 2 r l v = r + v := by unfold ansS; rw [if_neg (show ¬ (2 : Nat) = 0 by omega), if_neg (show ¬ (2 : Nat) = 1 by omega), if_pos (Or.inl rfl)]
    unfold f_X12_qTakes f_X12_qTakes_B15
    rw [if_pos (show nI 2 < (3 : Int32) by decide), eA]
    by_cases z : v = 1
    · rw [if_pos (v1.mpr z), e16, if_neg (show ¬ (1 : Int32) = 0 by decide), e75, h1, show (1 : Int64) = iJ 1 from rfl, ← Int64.ofInt_add, z]
    · have z0 : v = 0 := by rcases hbit (by omega) with y | y; exact y; exact absurd y z
      rw [if_neg (fun y => z (v1.mp y)), e16, if_pos (show (0 : Int32) = 0 from rfl), e75, z0, Int.add_zero, same]
  · have e : f_X12_qTakes N (nI 3) (iJ v) (nI l) ν = some ((), z_setI (z_setJ ν 253 102 (ν.2.1 253 102 + iJ v)) 253 103 0) := rfl
    have eA : ansS 3 r l v = r + v := by unfold ansS; rw [if_neg (show ¬ (3 : Nat) = 0 by omega), if_neg (show ¬ (3 : Nat) = 1 by omega), if_pos (Or.inr rfl)]
    rw [e, eA, h1, ← Int64.ofInt_add]
  · have e : f_X12_qTakes N (nI 4) (iJ v) (nI l) ν = if (ν.1 253 103) = 0 then (if (ν.2.1 253 102) < iJ v then some ((), z_setI (z_setJ ν 253 102 (iJ v)) 253 103 0) else some ((), z_setI ν 253 103 0)) else some ((), z_setI (z_setJ ν 253 102 (iJ v)) 253 103 0) := rfl
    have eA : ansS 4 r l v = if l = 0 ∨ r < v then v else r := by unfold ansS; rw [if_neg (show ¬ (4 : Nat) = 0 by omega), if_neg (show ¬ (4 : Nat) = 1 by omega), if_neg (show ¬ ((4 : Nat) = 2 ∨ (4 : Nat) = 3) by omega), if_pos rfl]
    rw [e, eA, h2, h1]
    by_cases l0 : l = 0
    · rw [if_pos l0, if_neg (show ¬ (1 : Int32) = 0 by decide), if_pos (show l = 0 ∨ r < v from Or.inl l0)]
    · have hbr := hr4 (by omega) (by omega)
      rw [if_neg l0, if_pos (show (0 : Int32) = 0 from rfl)]
      by_cases z : r < v
      · rw [if_pos ((iJ_lt hbr hv).mpr z), if_pos (show l = 0 ∨ r < v from Or.inr z)]
      · rw [if_neg (fun y => z ((iJ_lt hbr hv).mp y)), if_neg (show ¬ (l = 0 ∨ r < v) by omega), same]
  · have e : f_X12_qTakes N (nI 5) (iJ v) (nI l) ν = if (ν.1 253 103) = 0 then (if iJ v < (ν.2.1 253 102) then some ((), z_setI (z_setJ ν 253 102 (iJ v)) 253 103 0) else some ((), z_setI ν 253 103 0)) else some ((), z_setI (z_setJ ν 253 102 (iJ v)) 253 103 0) := rfl
    have eA : ansS 5 r l v = if l = 0 ∨ v < r then v else r := by unfold ansS; rw [if_neg (show ¬ (5 : Nat) = 0 by omega), if_neg (show ¬ (5 : Nat) = 1 by omega), if_neg (show ¬ ((5 : Nat) = 2 ∨ (5 : Nat) = 3) by omega), if_neg (show ¬ (5 : Nat) = 4 by omega)]
    rw [e, eA, h2, h1]
    by_cases l0 : l = 0
    · rw [if_pos l0, if_neg (show ¬ (1 : Int32) = 0 by decide), if_pos (show l = 0 ∨ v < r from Or.inl l0)]
    · have hbr := hr4 (by omega) (by omega)
      rw [if_neg l0, if_pos (show (0 : Int32) = 0 from rfl)]
      by_cases z : v < r
      · rw [if_pos ((iJ_lt hv hbr).mpr z), if_pos (show l = 0 ∨ v < r from Or.inr z)]
      · rw [if_neg (fun y => z ((iJ_lt hv hbr).mp y)), if_neg (show ¬ (l = 0 ∨ v < r) by omega), same]
/-- what asking changes in the reference -/
def aqFr (ν ν' : z_S) : Prop := ν'.2.2 = ν.2.2 ∧ (∀ o j, ¬ (o = 253 ∧ (j = 101 ∨ j = 103)) → ν'.1 o j = ν.1 o j) ∧ ∀ o j, o ≠ 332 → ¬ (o = 253 ∧ j = 102) → ν'.2.1 o j = ν.2.1 o j
theorem aqFr.mS {A : aS} {ν ν' : z_S} (h : mS A ν) (g : aqFr ν ν') : mS A ν' := mS_scr h (fun o j ho => g.2.1 o j (by unfold mRel at ho; omega)) (fun j => g.2.2 _ _ (by decide) (by omega)) (g.2.2 _ _ (by decide) (by omega))
theorem m_askL {A : aS} {ν0 : z_S} (ok : okS A) (h : mS A ν0) (N : Nat) (hN : 1700 ≤ N) {cs ms : List Int32} (hcr : crL cs ms) (hl6 : cs.length ≤ 1600) (hok : ∀ c ∈ cs, okc true c) (h95 : ν0.1 253 95 = nI ms.length) (h330 : ∀ k m, ms[k]? = some m → ν0.1 330 k = m) {k : Nat} (hk : k < 6) {vf : Nat → Int} (hv : ∀ l, l < hCnt (sH A) 0 → runV (envV (sH A) (sN A) l 0) (wishF (envW (sH A) l)) [] cs = some [vf l] ∧ (k < 3 → vf l = 0 ∨ vf l = 1)) : ∀ m f l r ν, l + m = hCnt (sH A) 0 → m < f → aqFr ν0 ν → ν.2.1 253 102 = iJ r → ν.1 253 103 = (if l = 0 then 1 else 0) → (k = 0 → bdM r) → (3 < k → 0 < l → bdM r) → ∃ ν', f_X12_ask_L172 N (nI k) f (nI l) ν = some (iJ (ansF k vf m l r), ν') ∧ aqFr ν0 ν' := by
  intro m
  have h8 := ok.2.2.1.1
  induction m with
  | zero =>
    intro f l r ν h1 h2 h3 h4 h5 h6 h7
    obtain ⟨f, rfl⟩ : ∃ g, f = g + 1 := ⟨f - 1, by omega⟩
    refine ⟨ν, ?_, h3⟩
    show b_X12_ask_L172 N (nI k) _ (nI l) ν = _
    unfold b_X12_ask_L172 f_X12_letterMany
    rw [z_bn_sm, h3.2.1 _ _ (by omega), show ν0.1 284 5 = nI (hCnt (sH A) 0) from h.2.2.2.2.2.2.1.1 0 (by omega), if_neg (nI_nlt (by omega) (by omega)), h4]
    rfl
  | succ m ih =>
    intro f l r ν h1 h2 h3 h4 h5 h6 h7
    obtain ⟨f, rfl⟩ : ∃ g, f = g + 1 := ⟨f - 1, by omega⟩
    have hl : l < hCnt (sH A) 0 := by omega
    obtain ⟨hr, hbit⟩ := hv l hl
    obtain ⟨ν1, a1, a2, a3, a4, a5⟩ := m_told ok (h3.mS h) N hN hcr hl6 hok (by rw [h3.2.1 _ _ (by omega)]; exact h95) (fun k m hm => by rw [h3.2.1 _ _ (by omega)]; exact h330 k m hm) hl hr
    have t := m_takes (N := N) hk a2 h6 h7 hbit (show l < 8 by omega) (ν := ν1) (by rw [a5 _ _ (by decide)]; exact h4) (by rw [a4 _ _ (by omega)]; exact h5)
    obtain ⟨ν2, hν2⟩ : ∃ ν2, ν2 = z_setI (z_setJ ν1 253 102 (iJ (ansS k r l (vf l)))) 253 103 0 := ⟨_, rfl⟩
    rw [← hν2] at t
    have f2 : aqFr ν0 ν2 := by
      refine ⟨?_, fun o j z => ?_, fun o j z1 z2 => ?_⟩
      · rw [hν2]
        show ν1.2.2 = _
        rw [a3]; exact h3.1
      · rw [hν2, sI_1, if_neg (by omega), sJ_1, a4 o j (by omega)]; exact h3.2.1 o j z
      · rw [hν2, sI_21, sJ_21, if_neg z2, a5 o j z1]; exact h3.2.2 o j z1 z2
    have hb' : 3 < k → bdM (ansS k r l (vf l)) := fun hk3 => by
      unfold ansS
      rw [if_neg (by omega), if_neg (by omega), if_neg (by omega)]
      by_cases l0 : l = 0
      · split
        · rw [if_pos (Or.inl l0)]; exact a2
        · rw [if_pos (Or.inl l0)]; exact a2
      · have hbr := h7 hk3 (by omega)
        split
        · split
          · exact a2
          · exact hbr
        · split
          · exact a2
          · exact hbr
    have hb0 : k = 0 → bdM (ansS k r l (vf l)) := fun k0 => by
      unfold ansS
      rw [if_pos k0]
      split
      · exact bd_nat (by omega)
      · exact h6 k0
    obtain ⟨ν', b1, b2⟩ := ih f (l + 1) (ansS k r l (vf l)) ν2 (by omega) (by omega) f2 (by rw [hν2, sI_21, sJ_21, if_pos ⟨rfl, rfl⟩]) (by rw [if_neg (by omega), hν2, sI_1, if_pos ⟨rfl, rfl⟩]) hb0 (fun z _ => hb' z)
    refine ⟨ν', ?_, b2⟩
    show b_X12_ask_L172 N (nI k) _ (nI l) ν = _
    unfold b_X12_ask_L172 f_X12_letterMany
    rw [z_bn_sm, h3.2.1 _ _ (by omega), show ν0.1 284 5 = nI (hCnt (sH A) 0) from h.2.2.2.2.2.2.1.1 0 (by omega), if_pos (nI_lt hl (by omega)), a1, z_bn_sm, t, z_bn_sm, z_bd_eq, show nI l + 1 = nI (l + 1) from nI_1 _]
    exact b1
