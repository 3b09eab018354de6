/-! a whole sum -/
theorem qM_base {as : Bool} {Q W : List Int32} {op base : Nat} {ν : z_S} (h : qM as Q W op base ν) (b : Nat) : qM as Q W op b (z_setI ν 253 99 (nI b)) := by
  obtain ⟨h1, h2, h3, h4, h5, h6, h7⟩ := h
  exact ⟨by rw [sI_1, if_neg (by omega)]; exact h1, fun k c hc => by rw [sI_1, if_neg (by omega)]; exact h2 k c hc, by rw [sI_1, if_neg (by omega)]; exact h3, fun k c hc => by rw [sI_1, if_neg (by omega)]; exact h4 k c hc, by rw [sI_1, if_neg (by omega)]; exact h5, by rw [sI_1, if_pos ⟨rfl, rfl⟩], by rw [sI_1, if_neg (by omega)]; exact h7⟩
theorem m_dropAll {as : Bool} {W : List Int32} {op : Nat} (N : Nat) (c1 : Int32) (e : z_S → Option (Unit × z_S)) : ∀ m (pd : List Int32) f Q ν, pd.length = m → m < f → Q.length + W.length + m < 1690 → ν.1 253 5 = 0 → qM as Q (W ++ pd) op W.length ν → ∃ ν', f_X12_qSums_L53 N c1 e f ν = e ν' ∧ jFr ν ν' ∧ qM as (Q ++ pd.reverse) W op W.length ν' := by
  intro m
  induction m with
  | zero =>
    intro pd f Q ν h1 h2 h3 h5 h
    obtain ⟨f, rfl⟩ : ∃ g, f = g + 1 := ⟨f - 1, by omega⟩
    have : pd = [] := List.eq_nil_of_length_eq_zero h1
    subst this
    rw [List.append_nil] at h
    refine ⟨ν, ?_, jFr.rf ν, by rw [List.reverse_nil, List.append_nil]; exact h⟩
    show b_X12_qSums_L53 N c1 _ e ν = _
    unfold b_X12_qSums_L53
    rw [if_pos h5, h.2.2.2.2.2.1, h.2.2.1, if_neg (nI_nlt (Nat.le_refl _) (by omega))]
  | succ m ih =>
    intro pd f Q ν h1 h2 h3 h5 h
    obtain ⟨f, rfl⟩ : ∃ g, f = g + 1 := ⟨f - 1, by omega⟩
    rcases List.eq_nil_or_concat pd with y | ⟨p, x, y⟩
    · rw [y] at h1; cases h1
    · rw [List.concat_eq_append] at y
      subst y
      have l1 : p.length = m := by rw [snoc_len] at h1; omega
      rw [← List.append_assoc] at h
      have l2 : (W ++ p).length = W.length + m := by rw [List.length_append, l1]
      obtain ⟨ν1, r1, r2, r3⟩ := m_drops N h (by rw [l2]; omega)
      obtain ⟨ν2, s1, s2, s3⟩ := ih p f (Q ++ [x]) ν1 l1 (by omega) (by rw [snoc_len]; omega) (by rw [r2.at (by omega)]; exact h5) r3
      refine ⟨ν2, ?_, r2.tr s2, ?_⟩
      · show b_X12_qSums_L53 N c1 _ e ν = _
        unfold b_X12_qSums_L53
        rw [if_pos h5, h.2.2.2.2.2.1, h.2.2.1, snoc_len, l2, if_pos (nI_lt (by omega) (by omega)), r1, z_bn_sm]
        exact s1
      · rw [rev_snoc]
        rw [List.append_assoc] at s3
        exact s3
/-- class and reference read a sum alike -/
def sRes (t : Nat → Nat) (n : Nat) (as : Bool) (base op q : Nat) (C Q W : List Int32) (μ ν : z_S) (X : Option (Int32 × z_S)) (Y : Option (Unit × z_S)) : Prop := (∃ q' g' Dl μ' ν', X = some (1, μ') ∧ Y = some ((), ν') ∧ vFr μ μ' ∧ zFr ν ν' ∧ cG t n q' g' μ' ∧ cC (C ++ Dl) μ' ∧ mG t n q' g' ν' ∧ qM as (Q ++ Dl.map cmap) W op base ν' ∧ q + Dl.length ≤ q' ∧ q < q' ∧ numC 22 Dl ∧ ∀ c ∈ Dl, okc as c) ∨ ∃ f p μ' ν', X = some (0, μ') ∧ Y = some ((), ν') ∧ vFr μ μ' ∧ zFr ν ν' ∧ cB f p μ' ∧ mB f p ν' ∧ 1 ≤ f ∧ f ≤ 5 ∧ (cL μ' ∧ mL ν')
theorem sums_ok {t : Nat → Nat} {n N : Nat} (hN : 1700 ≤ N) {as : Bool} {base op D q : Nat} {g : Bool} {C Q W : List Int32} {μ ν : z_S} (hD : 28 ≤ D + 4 * op) (ho : op ≤ 6) (hT : topNo W) (hc : cG t n q g μ) (hC : cC C μ) (hf : μ.1 92 2 = if as = true then 1 else 0) (hm : mG t n q g ν) (hq : qM as Q W op base ν) (hl1 : C.length ≤ q) (hl2 : Q.length + W.length ≤ q) : sRes t n as base op q C Q W μ ν (r_X9 N D 3 (nI op) μ) (f_X12_qSums N ν) := by
  have hn := hc.1.1
  have hqn := hc.2.2.2
  obtain ⟨E, hE⟩ : ∃ E : z_S → Option (Unit × z_S), E = fun μ53 => f_X12_qSums_L53 N (nI base) (fun μ78 => f_X12_qSums_B78 N (nI base) μ78) N μ53 := ⟨_, rfl⟩
  have hq1 := qM_base hq W.length
  have fr1 : jFr ν (z_setI ν 253 99 (nI W.length)) := jFr.set ν _ (by omega)
  have hm1 := fr1.mG hm
  obtain ⟨M, hM⟩ : ∃ M, N = M + 1 := ⟨N - 1, by omega⟩
  have e1 : f_X12_qSums N ν = RT N (nI base) E M N (z_setI ν 253 99 (nI W.length)) := by
    unfold f_X12_qSums
    rw [hq.2.2.2.2.2.1, hq.2.2.1, z_bd_eq, z_bd_eq, ← hE]
    have := L15_1 (N := N) (c1 := nI base) (E := E) (f := M) hm1.2.1
    rw [← hM] at this
    exact this
  rw [e1]
  rcases sum_all hN (as := as) (c1 := nI base) (E := E) (base := W.length) (t := t) (n := n) ho hD q g C Q W (-1) μ (z_setI ν 253 99 (nI W.length)) M N (Or.inl ⟨rfl, rfl⟩) hT ⟨hc, hC, hf, hm1, hq1, Nat.le_refl _, hl1, hl2, by omega, ho⟩ (by omega) with ⟨q2, g2, Dl, D0, pd, μ3, ν3, f1', f3', c1', c2, c3, c4, c5, c6, c7, c8, c9, c10, c11, c12, c13, c14, c15, c16, c17⟩ | ⟨ff, p, μ3, ν3, c1', c2, c3, c4, c5, c6, c7, c8, c9⟩
  · obtain ⟨n42, n47, n43, n45⟩ := nS c11
    have hq2 := c5.2.2.2
    have lmap : Dl.length = D0.length + pd.length := by
      have := congrArg List.length c9
      rw [List.length_map, List.length_append, List.length_reverse] at this
      exact this
    have lQ : (Q ++ D0).length = Q.length + D0.length := List.length_append
    obtain ⟨f1', rfl⟩ : ∃ k, f1' = k + 1 := ⟨f1' - 1, by omega⟩
    obtain ⟨f3', rfl⟩ : ∃ k, f3' = k + 1 := ⟨f3' - 1, by omega⟩
    obtain ⟨ν4, d1, d2, d3, d4⟩ := g_end (c1 := nI base) (E := E) (f1 := f1') (f3 := f3') hN c7 c8 (by omega) rfl (pd_not c10) n42 n47 n43 n45
    obtain ⟨ν5, u1, u2, u3⟩ := m_dropAll N (nI base) (fun μ78 => f_X12_qSums_B78 N (nI base) μ78) pd.length pd N (Q ++ D0) ν4 rfl (by omega) (by rw [lQ]; omega) d3.2.1 d4
    rw [List.append_assoc, ← c9] at u3
    have fr5 : jFr ν5 (z_setI ν5 253 99 (nI base)) := jFr.set ν5 _ (by omega)
    refine Or.inl ⟨q2, g2, Dl, μ3, z_setI ν5 253 99 (nI base), c1', ?_, c3, fr1.z.tr (c4.tr (d2.z.tr (u2.z.tr fr5.z))), c5, c6, (fr5.mA (u2.mA d3)).g, qM_base u3 base, c12, c13, c16, c17⟩
    rw [c2, d1, hE]
    show f_X12_qSums_L53 N (nI base) (fun μ78 => f_X12_qSums_B78 N (nI base) μ78) N ν4 = _
    rw [u1]
    rfl
  · have b5 := mB_ne c6 ⟨c7, c8⟩
    have fr5 : jFr ν3 (z_setI ν3 253 99 (nI base)) := jFr.set ν3 _ (by omega)
    refine Or.inr ⟨ff, p, μ3, z_setI ν3 253 99 (nI base), c1', ?_, c3, fr1.z.tr (c4.tr fr5.z), c5, ⟨by rw [fr5.at (by omega)]; exact c6.1, by rw [fr5.at (by omega)]; exact c6.2⟩, c7, c8, ⟨c9.1, by obtain ⟨k, k1, k2⟩ := c9.2; exact ⟨k, k1, by rw [sI_1, if_neg (by omega)]; exact k2⟩⟩⟩
    rw [c2, hE]
    have e : f_X12_qSums_L53 N (nI base) (fun μ78 => f_X12_qSums_B78 N (nI base) μ78) (M + 1) ν3 = some ((), z_setI ν3 253 99 (nI base)) := by
      show b_X12_qSums_L53 N (nI base) _ _ ν3 = _
      unfold b_X12_qSums_L53
      rw [if_neg b5]
      rfl
    rw [← hM] at e
    exact e
