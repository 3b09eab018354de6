/-! the class works codes out -/
theorem mul_bd {a b : Int} (ha : bdM a) (hb : bdM b) : -1000000000000 ≤ a * b ∧ a * b ≤ 1000000000000 := by
  have h1 : a.natAbs ≤ 1000000 := by unfold bdM at ha; omega
  have h2 : b.natAbs ≤ 1000000 := by unfold bdM at hb; omega
  have h3 := Nat.mul_le_mul h1 h2
  rw [← Int.natAbs_mul] at h3
  omega
theorem big_lt {a b : Int} (ha : -4000000000000 ≤ a ∧ a ≤ 4000000000000) (hb : -4000000000000 ≤ b ∧ b ≤ 4000000000000) : iJ a < iJ b ↔ a < b := by
  rw [Int64.lt_iff_toInt_lt, Int64.toInt_ofInt_of_le (by omega) (by omega), Int64.toInt_ofInt_of_le (by omega) (by omega)]
theorem c_kept (N : Nat) {v : Int} (hv : -4000000000000 ≤ v ∧ v ≤ 4000000000000) (μ : z_S) : f_X4_kept N (iJ v) μ = some (iI (clp v), μ) := by
  unfold f_X4_kept clp
  by_cases c1 : 1000000 < v
  · rw [if_pos (show (1000000 : Int64) < iJ v from (big_lt (a := 1000000) (by omega) hv).mpr c1), if_pos c1]; rfl
  · rw [if_neg (show ¬ (1000000 : Int64) < iJ v from fun z => c1 ((big_lt (a := 1000000) (by omega) hv).mp z)), if_neg c1]
    by_cases c2 : v < -1000000
    · rw [if_pos (show iJ v < (-1000000 : Int64) from (big_lt (b := -1000000) hv (by omega)).mpr c2), if_pos c2]; rfl
    · rw [if_neg (show ¬ iJ v < (-1000000 : Int64) from fun z => c2 ((big_lt (b := -1000000) hv (by omega)).mp z)), if_neg c2, iJ_I]
theorem m_clip (N : Nat) {v : Int} (hv : -4000000000000 ≤ v ∧ v ≤ 4000000000000) (μ : z_S) : f_X12_qClip N (iJ v) μ = some (iJ (clp v), μ) := by
  unfold f_X12_qClip clp
  by_cases c1 : 1000000 < v
  · rw [if_pos (show (1000000 : Int64) < iJ v from (big_lt (a := 1000000) (by omega) hv).mpr c1), if_pos c1]; rfl
  · rw [if_neg (show ¬ (1000000 : Int64) < iJ v from fun z => c1 ((big_lt (a := 1000000) (by omega) hv).mp z)), if_neg c1]
    by_cases c2 : v < -1000000
    · rw [if_pos (show iJ v < (-1000000 : Int64) from (big_lt (b := -1000000) hv (by omega)).mpr c2), if_pos c2]; rfl
    · rw [if_neg (show ¬ iJ v < (-1000000 : Int64) from fun z => c2 ((big_lt (b := -1000000) hv (by omega)).mp z)), if_neg c2]
theorem bd_0 : bdM 0 := ⟨by decide, by decide⟩
theorem bd_1 : bdM 1 := ⟨by decide, by decide⟩
theorem bd_min {a : Int} (h : bdM a) : Int32.minValue.toInt ≤ a ∧ a ≤ Int32.maxValue.toInt ∧ Int64.minValue.toInt ≤ a ∧ a ≤ Int64.maxValue.toInt := by
  have e1 : Int32.minValue.toInt = -2147483648 := by decide
  have e2 : Int32.maxValue.toInt = 2147483647 := by decide
  have e3 : Int64.minValue.toInt = -9223372036854775808 := by decide
  have e4 : Int64.maxValue.toInt = 9223372036854775807 := by decide
  unfold bdM at h
  rw [e1, e2, e3, e4]
  omega
theorem tdiv_bd {a : Int} (b : Int) (ha : bdM a) : bdM (a.tdiv b) ∧ bdM (a.tdiv b * b) := by
  have key : (a.tdiv b).natAbs = a.natAbs / b.natAbs := Int.natAbs_tdiv a b
  have le1 : a.natAbs / b.natAbs ≤ a.natAbs := Nat.div_le_self _ _
  have le2 : a.natAbs / b.natAbs * b.natAbs ≤ a.natAbs := Nat.div_mul_le_self _ _
  rw [← key, ← Int.natAbs_mul] at le2
  unfold bdM at ha ⊢
  omega
theorem xor_neg (a b : Int32) : (a ^^^ b) < 0 ↔ ¬ (a < 0 ↔ b < 0) := by
  have m : ∀ x : Int32, x < 0 ↔ x.toBitVec.msb = true := by
    intro x
    rw [Int32.lt_iff_toInt_lt, BitVec.msb_eq_toInt, decide_eq_true_iff]
    exact Iff.rfl
  rw [m, m, m, Int32.toBitVec_xor, BitVec.msb_xor]
  cases a.toBitVec.msb <;> cases b.toBitVec.msb <;> decide
theorem c_floor (N : Nat) {a b : Int} (ha : bdM a) (hb : bdM b) (hz : b ≠ 0) (μ : z_S) : f_J9_floorDiv_7cf53 N (iI a) (iI b) μ = some (iI (flo a b), μ) := by
  unfold f_J9_floorDiv_7cf53 flo
  have hza : (0 : Int32) = iI 0 := rfl
  have hzb : ¬ iI b = 0 := fun z => hz ((iI_eq hb bd_0).mp z)
  obtain ⟨q1, q2⟩ := tdiv_bd b ha
  have ma := bd_min ha
  have mb := bd_min hb
  rw [z_nz_ok hzb, z_bd_eq, if_neg hz, ← Int32.ofInt_tdiv ma.1 ma.2.1 mb.1 mb.2.1, ← Int32.ofInt_mul]
  have l1 : iI a < 0 ↔ a < 0 := iI_lt ha bd_0
  have l2 : iI b < 0 ↔ b < 0 := iI_lt hb bd_0
  by_cases c1 : a < 0 ↔ b < 0
  · rw [if_neg (fun z => (xor_neg _ _).mp z (by rw [l1, l2]; exact c1)), if_pos (Or.inl c1)]
  · rw [if_pos ((xor_neg _ _).mpr (by rw [l1, l2]; exact c1))]
    by_cases c2 : a.tdiv b * b = a
    · rw [if_pos (by rw [c2]), if_pos (Or.inr c2)]
    · rw [if_neg (fun z => c2 ((iI_eq q2 ha).mp z)), if_neg (by rintro (z | z); exact c1 z; exact c2 z), show (1 : Int32) = iI 1 from rfl, ← Int32.ofInt_sub]
theorem m_floor (N : Nat) {a b : Int} (ha : bdM a) (hb : bdM b) (μ : z_S) : f_X12_qFloor N (iJ a) (iJ b) μ = some (iJ (flo a b), μ) := by
  unfold f_X12_qFloor flo f_X12_qFloor_B32 f_X12_qFloor_B43
  by_cases hz : b = 0
  · rw [if_pos (show iJ b = (0 : Int64) by rw [hz]; rfl), if_pos hz]; rfl
  · have hzb : ¬ iJ b = (0 : Int64) := fun z => hz ((iJ_eq hb bd_0).mp z)
    obtain ⟨q1, q2⟩ := tdiv_bd b ha
    have ma := bd_min ha
    have mb := bd_min hb
    have l1 : iJ a < (0 : Int64) ↔ a < 0 := iJ_lt ha bd_0
    have l2 : iJ b < (0 : Int64) ↔ b < 0 := iJ_lt hb bd_0
    have es : iJ a - iJ (a.tdiv b) * iJ b = (0 : Int64) ↔ a.tdiv b * b = a := by
      rw [← Int64.ofInt_mul, ← Int64.ofInt_sub]
      have : bdM (a - a.tdiv b * b) := by
        have key : (a.tdiv b).natAbs = a.natAbs / b.natAbs := Int.natAbs_tdiv a b
        have t := Int.tmod_add_tdiv_mul a b
        have t2 : (a.tmod b).natAbs ≤ a.natAbs := by
          rw [Int.natAbs_tmod]
          exact Nat.mod_le _ _
        unfold bdM at ha ⊢
        omega
      constructor
      · intro z
        have := (iJ_eq this bd_0).mp z
        omega
      · intro z
        rw [show a - a.tdiv b * b = 0 by omega]; rfl
    rw [if_neg hzb, if_neg hz, z_nzJ_ok hzb, z_bd_eq, z_nzJ_ok hzb, ← Int64.ofInt_tdiv ma.2.2.1 ma.2.2.2 mb.2.2.1 mb.2.2.2]
    by_cases c2 : a.tdiv b * b = a
    · rw [if_pos (es.mpr c2), if_pos (Or.inr c2)]
    · rw [if_neg (fun z => c2 (es.mp z))]
      by_cases c3 : a < 0
      · rw [if_pos (l1.mpr c3)]
        by_cases c4 : b < 0
        · rw [if_pos (l2.mpr c4), if_pos (Or.inl ⟨fun _ => c4, fun _ => c3⟩)]
          first | rfl | (rw [if_pos rfl]) | (rw [if_neg (by decide)])
        · rw [if_neg (fun z => c4 (l2.mp z)), if_neg (c := (a < 0 ↔ b < 0) ∨ a.tdiv b * b = a) (by rintro (z | z); exact c4 (z.mp c3); exact c2 z), if_neg (show ¬ (1 : Int32) = 0 by decide), show (1 : Int64) = iJ 1 from rfl, ← Int64.ofInt_sub]
      · rw [if_neg (fun z => c3 (l1.mp z))]
        by_cases c4 : b < 0
        · rw [if_pos (l2.mpr c4), if_neg (c := (a < 0 ↔ b < 0) ∨ a.tdiv b * b = a) (by rintro (z | z); exact c3 (z.mpr c4); exact c2 z), if_neg (show ¬ (0 : Int32) = 1 by decide), show (1 : Int64) = iJ 1 from rfl, ← Int64.ofInt_sub]
        · rw [if_neg (fun z => c4 (l2.mp z)), if_pos (Or.inl ⟨fun z => absurd z c3, fun z => absurd z c4⟩)]
          first | rfl | (rw [if_pos rfl]) | (rw [if_neg (by decide)])
theorem c_pair (N : Nat) {c : Int32} {a b v : Int} (ha : bdM a) (hb : bdM b) (h : joinV c a b = some v) (μ : z_S) : f_X4_pair N c (iI a) (iI b) μ = some (iI v, μ) := by
  unfold joinV at h
  by_cases e11 : c = -11
  · rw [if_pos e11] at h
    cases h
    subst e11
    unfold f_X4_pair
    rw [z_bd_eq, if_neg (show ¬ (-11 : Int32) = -20 by decide), if_neg (show ¬ (-11 : Int32) = -19 by decide), if_neg (show ¬ (-11 : Int32) = -18 by decide), if_neg (show ¬ (-11 : Int32) = -17 by decide), if_neg (show ¬ (-11 : Int32) = -16 by decide), if_neg (show ¬ (-11 : Int32) = -15 by decide), if_neg (show ¬ (-11 : Int32) = -14 by decide), if_neg (show ¬ (-11 : Int32) = -13 by decide), if_neg (show ¬ (-11 : Int32) = -12 by decide), if_pos rfl]
    rw [iI_J ha, iI_J hb, ← Int64.ofInt_add, c_kept N (by unfold bdM at ha hb; omega), z_bn_sm]
  rw [if_neg e11] at h
  by_cases e12 : c = -12
  · rw [if_pos e12] at h
    cases h
    subst e12
    unfold f_X4_pair
    rw [z_bd_eq, if_neg (show ¬ (-12 : Int32) = -20 by decide), if_neg (show ¬ (-12 : Int32) = -19 by decide), if_neg (show ¬ (-12 : Int32) = -18 by decide), if_neg (show ¬ (-12 : Int32) = -17 by decide), if_neg (show ¬ (-12 : Int32) = -16 by decide), if_neg (show ¬ (-12 : Int32) = -15 by decide), if_neg (show ¬ (-12 : Int32) = -14 by decide), if_neg (show ¬ (-12 : Int32) = -13 by decide), if_pos rfl]
    rw [iI_J ha, iI_J hb, ← Int64.ofInt_sub, c_kept N (by unfold bdM at ha hb; omega), z_bn_sm]
  rw [if_neg e12] at h
  by_cases e13 : c = -13
  · rw [if_pos e13] at h
    cases h
    subst e13
    unfold f_X4_pair
    rw [z_bd_eq, if_neg (show ¬ (-13 : Int32) = -20 by decide), if_neg (show ¬ (-13 : Int32) = -19 by decide), if_neg (show ¬ (-13 : Int32) = -18 by decide), if_neg (show ¬ (-13 : Int32) = -17 by decide), if_neg (show ¬ (-13 : Int32) = -16 by decide), if_neg (show ¬ (-13 : Int32) = -15 by decide), if_neg (show ¬ (-13 : Int32) = -14 by decide), if_pos rfl]
    rw [iI_J ha, iI_J hb, ← Int64.ofInt_mul, c_kept N (by have := mul_bd ha hb; omega), z_bn_sm]
  rw [if_neg e13] at h
  by_cases e14 : c = -14
  · rw [if_pos e14] at h
    cases h
    subst e14
    unfold f_X4_pair
    rw [z_bd_eq, if_neg (show ¬ (-14 : Int32) = -20 by decide), if_neg (show ¬ (-14 : Int32) = -19 by decide), if_neg (show ¬ (-14 : Int32) = -18 by decide), if_neg (show ¬ (-14 : Int32) = -17 by decide), if_neg (show ¬ (-14 : Int32) = -16 by decide), if_neg (show ¬ (-14 : Int32) = -15 by decide), if_pos rfl]
    by_cases hz : b = 0
    · rw [if_pos (show iI b = 0 by rw [hz]; rfl), hz]
      unfold flo
      rw [if_pos rfl]; rfl
    · rw [if_neg (show ¬ iI b = 0 from fun z => hz ((iI_eq hb bd_0).mp z)), c_floor N ha hb hz, z_bn_sm]
  rw [if_neg e14] at h
  by_cases e15 : c = -15
  · rw [if_pos e15] at h
    cases h
    subst e15
    unfold f_X4_pair
    rw [z_bd_eq, if_neg (show ¬ (-15 : Int32) = -20 by decide), if_neg (show ¬ (-15 : Int32) = -19 by decide), if_neg (show ¬ (-15 : Int32) = -18 by decide), if_neg (show ¬ (-15 : Int32) = -17 by decide), if_neg (show ¬ (-15 : Int32) = -16 by decide), if_pos rfl]
    by_cases hz : a < b
    · rw [if_pos ((iI_lt ha hb).mpr hz), if_pos hz]
    · rw [if_neg (fun z => hz ((iI_lt ha hb).mp z)), if_neg hz]
  rw [if_neg e15] at h
  by_cases e16 : c = -16
  · rw [if_pos e16] at h
    cases h
    subst e16
    unfold f_X4_pair
    rw [z_bd_eq, if_neg (show ¬ (-16 : Int32) = -20 by decide), if_neg (show ¬ (-16 : Int32) = -19 by decide), if_neg (show ¬ (-16 : Int32) = -18 by decide), if_neg (show ¬ (-16 : Int32) = -17 by decide), if_pos rfl]
    by_cases hz : b < a
    · rw [if_pos ((iI_lt hb ha).mpr hz), if_pos hz]
    · rw [if_neg (fun z => hz ((iI_lt hb ha).mp z)), if_neg hz]
  rw [if_neg e16] at h
  by_cases e17 : c = -17
  · rw [if_pos e17] at h
    cases h
    subst e17
    unfold f_X4_pair
    rw [z_bd_eq, if_neg (show ¬ (-17 : Int32) = -20 by decide), if_neg (show ¬ (-17 : Int32) = -19 by decide), if_neg (show ¬ (-17 : Int32) = -18 by decide), if_pos rfl]
    by_cases hz : a < b
    · rw [if_pos ((iI_lt ha hb).mpr hz), if_pos hz]; rfl
    · rw [if_neg (fun z => hz ((iI_lt ha hb).mp z)), if_neg hz]; rfl
  rw [if_neg e17] at h
  by_cases e18 : c = -18
  · rw [if_pos e18] at h
    cases h
    subst e18
    unfold f_X4_pair
    rw [z_bd_eq, if_neg (show ¬ (-18 : Int32) = -20 by decide), if_neg (show ¬ (-18 : Int32) = -19 by decide), if_pos rfl]
    by_cases hz : b < a
    · rw [if_pos ((iI_lt hb ha).mpr hz), if_pos hz]; rfl
    · rw [if_neg (fun z => hz ((iI_lt hb ha).mp z)), if_neg hz]; rfl
  rw [if_neg e18] at h
  by_cases e19 : c = -19
  · rw [if_pos e19] at h
    cases h
    subst e19
    unfold f_X4_pair
    rw [z_bd_eq, if_neg (show ¬ (-19 : Int32) = -20 by decide), if_pos rfl]
    by_cases hz : a = b
    · rw [if_pos ((iI_eq ha hb).mpr hz), if_pos hz]; rfl
    · rw [if_neg (fun z => hz ((iI_eq ha hb).mp z)), if_neg hz]; rfl
  rw [if_neg e19] at h
  by_cases e20 : c = -20
  · rw [if_pos e20] at h
    split at h
    · next hh =>
      cases h
      subst e20
      unfold f_X4_pair
      rw [z_bd_eq, if_pos rfl]
      rcases hh with ⟨rfl | rfl, rfl | rfl⟩ <;> rfl
    · cases h
  rw [if_neg e20] at h
  by_cases e21 : c = -21
  · rw [if_pos e21] at h
    split at h
    · next hh =>
      cases h
      subst e21
      unfold f_X4_pair
      rw [z_bd_eq, if_neg (show ¬ (-21 : Int32) = -20 by decide), if_neg (show ¬ (-21 : Int32) = -19 by decide), if_neg (show ¬ (-21 : Int32) = -18 by decide), if_neg (show ¬ (-21 : Int32) = -17 by decide), if_neg (show ¬ (-21 : Int32) = -16 by decide), if_neg (show ¬ (-21 : Int32) = -15 by decide), if_neg (show ¬ (-21 : Int32) = -14 by decide), if_neg (show ¬ (-21 : Int32) = -13 by decide), if_neg (show ¬ (-21 : Int32) = -12 by decide), if_neg (show ¬ (-21 : Int32) = -11 by decide)]
      rcases hh with ⟨rfl | rfl, rfl | rfl⟩ <;> rfl
    · cases h
  rw [if_neg e21] at h
  cases h
