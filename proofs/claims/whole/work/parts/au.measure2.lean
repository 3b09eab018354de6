/-! a measure of the reference: a word asked for, then a number -/
theorem asks_bad {N o k : Nat} (ho : wOK o k) {ν : z_S} (h5 : ¬ ν.1 253 5 = 0) : f_X12_asks N o ν = some ((), ν) := by
  obtain ⟨w, -, w2, -⟩ := ho
  unfold f_X12_asks
  rw [z_kd_ok (by rw [w2]), if_neg h5]
theorem number_bad {N : Nat} {a b : Int32} {ν : z_S} (h5 : ¬ ν.1 253 5 = 0) : f_X12_number N a b ν = some (0, ν) := by
  unfold f_X12_number
  rw [if_neg h5]
theorem asksSign_bad {N : Nat} {a : Int32} {ν : z_S} (h5 : ¬ ν.1 253 5 = 0) : f_X12_asksSign N a ν = some ((), ν) := by
  unfold f_X12_asksSign
  rw [if_neg h5]
theorem m_measure {t : Nat → Nat} {n q w a b o : Nat} {g : Bool} (N : Nat) (hN : 1700 ≤ N) (hw : wOK o w) {ν : z_S} (hm : mG t n q g ν) (ha : a ≤ 9999) (hb : b ≤ 9999) : ∃ x ν1 ν', f_X12_asks N o ν = some ((), ν1) ∧ f_X12_number N (nI a) (nI b) ν1 = some (x, ν') ∧ yFr ν ν' ∧
    ((tkW t n q g = nI w ∧ tkK t n (nxQ t n q) (nxG t n q g) = 2 ∧ tkE t n (nxQ t n q) ≤ nxQ t n q + 4 ∧ a ≤ numV t (nxQ t n q) (tkE t n (nxQ t n q) - nxQ t n q) ∧ numV t (nxQ t n q) (tkE t n (nxQ t n q) - nxQ t n q) ≤ b ∧ x = nI (numV t (nxQ t n q) (tkE t n (nxQ t n q) - nxQ t n q)) ∧ mG t n (nxQ t n (nxQ t n q)) (nxG t n (nxQ t n q) (nxG t n q g)) ν') ∨
     (¬ tkW t n q g = nI w ∧ mB 1 q ν') ∨ (tkW t n q g = nI w ∧ ¬ tkK t n (nxQ t n q) (nxG t n q g) = 2 ∧ mB 1 (nxQ t n q) ν') ∨ (tkW t n q g = nI w ∧ tkK t n (nxQ t n q) (nxG t n q g) = 2 ∧ nxQ t n q + 4 < tkE t n (nxQ t n q) ∧ mB 1 (nxQ t n q + 4) ν') ∨
     (tkW t n q g = nI w ∧ tkK t n (nxQ t n q) (nxG t n q g) = 2 ∧ tkE t n (nxQ t n q) ≤ nxQ t n q + 4 ∧ ¬ (a ≤ numV t (nxQ t n q) (tkE t n (nxQ t n q) - nxQ t n q) ∧ numV t (nxQ t n q) (tkE t n (nxQ t n q) - nxQ t n q) ≤ b) ∧ mB 2 (nxQ t n q) ν')) := by
  obtain ⟨ν1, r1, r2, r3⟩ := m_asks N hN hw hm
  rcases r3 with ⟨c, r3⟩ | ⟨c, r3⟩
  · obtain ⟨x, ν2, s1, s2, s3⟩ := m_number N hN r3 ha hb
    refine ⟨x, ν1, ν2, r1, s1, r2.tr s2, ?_⟩
    rcases s3 with ⟨k1, k2, k3, k4, k5, k6⟩ | ⟨k1, k2⟩ | ⟨k1, k2, k3⟩ | ⟨k1, k2, k3, k4⟩
    · exact Or.inl ⟨c, k1, k2, k3, k4, k5, k6⟩
    · exact Or.inr (Or.inr (Or.inl ⟨c, k1, k2⟩))
    · exact Or.inr (Or.inr (Or.inr (Or.inl ⟨c, k1, k2, k3⟩)))
    · exact Or.inr (Or.inr (Or.inr (Or.inr ⟨c, k1, k2, k3, k4⟩)))
  · exact ⟨0, ν1, ν1, r1, number_bad (mB_ne r3 (by omega)), r2, Or.inr (Or.inl ⟨c, r3⟩)⟩
