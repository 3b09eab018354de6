/-! a measure of the class -/
theorem c_measure {t : Nat → Nat} {n q w a b o i len : Nat} {g : Bool} (N : Nat) (hN : 1700 ≤ N) {μ : z_S} (hc : cG t n q g μ) (ha : a ≤ 9999) (hb : b ≤ 9999) (hko : z_kw true o = (20, len)) (ho : 4 ≤ o) (hi : i < len) (hl : len < 2 ^ 31) : ∃ x μ', f_X3_measure N (nI w) (nI a) (nI b) o (nI i) μ = some (x, μ') ∧ μ'.2 = μ.2 ∧ (∀ c j, ¬ (c = 1 ∧ 2 ≤ j ∧ j ≤ 9 ∧ (4 ≤ j ∨ ¬ μ'.1 1 2 = 0)) → ¬ (c = o ∧ j = i) → μ'.1 c j = μ.1 c j) ∧
    ((tkW t n q g = nI w ∧ tkK t n (nxQ t n q) (nxG t n q g) = 2 ∧ tkE t n (nxQ t n q) ≤ nxQ t n q + 4 ∧ a ≤ numV t (nxQ t n q) (tkE t n (nxQ t n q) - nxQ t n q) ∧ numV t (nxQ t n q) (tkE t n (nxQ t n q) - nxQ t n q) ≤ b ∧ x = 1 ∧ cG t n (nxQ t n (nxQ t n q)) (nxG t n (nxQ t n q) (nxG t n q g)) μ' ∧ μ'.1 o i = nI (numV t (nxQ t n q) (tkE t n (nxQ t n q) - nxQ t n q))) ∨
     (¬ tkW t n q g = nI w ∧ x = 0 ∧ cB 1 q μ') ∨ (tkW t n q g = nI w ∧ ¬ tkK t n (nxQ t n q) (nxG t n q g) = 2 ∧ x = 0 ∧ cB 1 (nxQ t n q) μ') ∨ (tkW t n q g = nI w ∧ tkK t n (nxQ t n q) (nxG t n q g) = 2 ∧ nxQ t n q + 4 < tkE t n (nxQ t n q) ∧ x = 0 ∧ cB 1 (nxQ t n q + 4) μ') ∨
     (tkW t n q g = nI w ∧ tkK t n (nxQ t n q) (nxG t n q g) = 2 ∧ tkE t n (nxQ t n q) ≤ nxQ t n q + 4 ∧ ¬ (a ≤ numV t (nxQ t n q) (tkE t n (nxQ t n q) - nxQ t n q) ∧ numV t (nxQ t n q) (tkE t n (nxQ t n q) - nxQ t n q) ≤ b) ∧ x = 0 ∧ cB 2 (nxQ t n q) μ')) := by
  unfold f_X3_measure
  rw [z_kd_ok (by rw [hko]), hc.2.1.2.2.2.2.1]
  by_cases c : tkW t n q g = nI w
  · obtain ⟨μ1, r1, r2, r3⟩ := c_next N hN hc
    obtain ⟨x, μ2, s1, s2, s3⟩ := c_takeNumber N hN r3 ha hb
    have fr : ∀ c j, ¬ (c = 1 ∧ 2 ≤ j ∧ j ≤ 9 ∧ (4 ≤ j ∨ ¬ (z_setI μ2 o i x).1 1 2 = 0)) → ¬ (c = o ∧ j = i) → (z_setI μ2 o i x).1 c j = μ.1 c j := fun c j h1 h2 => by
      have e2 : (z_setI μ2 o i x).1 1 2 = μ2.1 1 2 := by rw [sI_1, if_neg (by omega)]
      rw [e2] at h1
      rw [sI_1, if_neg h2]; exact (r2.tr s2).2 c j h1
    have fb : (z_setI μ2 o i x).2 = μ.2 := (r2.tr s2).1
    have ex : (z_setI μ2 o i x).1 o i = x := by rw [sI_1, if_pos ⟨rfl, rfl⟩]
    have cb : ∀ f p, cB f p μ2 → cB f p (z_setI μ2 o i x) := fun f p h => ⟨by rw [sI_1, if_neg (by omega)]; exact h.1, by rw [sI_1, if_neg (by omega)]; exact h.2⟩
    rw [if_pos c, r1, z_bn_sm, s1, z_bn_sm, hko]
    show ∃ x_1 μ', z_in (nI i) len (z_bd (z_setI μ2 o (nI i).toNatClampNeg x) fun μ_3 => z_in (nI i) len (if μ_3.1 o (nI i).toNatClampNeg = (-1 : Int32) then some ((0 : Int32), μ_3) else some ((1 : Int32), μ_3))) = _ ∧ _
    rw [z_in_nI hi hl, nI_toNat (by omega), z_bd_eq, z_in_nI hi hl, ex]
    rcases s3 with ⟨k1, k2, k3, k4, k5, k6⟩ | ⟨k1, k2, k3⟩ | ⟨k1, k2, k3, k4⟩ | ⟨k1, k2, k3, k4, k5⟩
    · rw [if_neg (by rw [k5]; exact nI_nm1 (by omega))]
      exact ⟨1, _, rfl, fb, fr, Or.inl ⟨c, k1, k2, k3, k4, rfl, cG_set k6 ho i x, by rw [ex, k5]⟩⟩
    · rw [if_pos k2]
      exact ⟨0, _, rfl, fb, fr, Or.inr (Or.inr (Or.inl ⟨c, k1, rfl, cb _ _ k3⟩))⟩
    · rw [if_pos k3]
      exact ⟨0, _, rfl, fb, fr, Or.inr (Or.inr (Or.inr (Or.inl ⟨c, k1, k2, rfl, cb _ _ k4⟩)))⟩
    · rw [if_pos k4]
      exact ⟨0, _, rfl, fb, fr, Or.inr (Or.inr (Or.inr (Or.inr ⟨c, k1, k2, k3, rfl, cb _ _ k5⟩)))⟩
  · obtain ⟨μ1, r1, r2, r3⟩ := c_fail N (f := 1) hc
    have r1' : f_X10_fail N (1 : Int32) μ = some (0, μ1) := r1
    rw [if_neg c, r1', z_bn_sm, z_zb_0]
    exact ⟨0, μ1, rfl, r2.1, fun c j h1 _ => r2.2 c j h1, Or.inr (Or.inl ⟨c, rfl, r3⟩)⟩
