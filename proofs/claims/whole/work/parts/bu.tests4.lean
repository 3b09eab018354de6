/-! a whole test; a whole sum -/
theorem m_dropT {as : Bool} {op base : Nat} (N : Nat) : ∀ m (pd : List Int32) f Q ν, pd.length = m → m < f → Q.length + m < 1690 → ν.1 253 5 = 0 → qM as Q pd op base ν → ∃ ν', f_X12_qTest_L110 N f ν = some ((), ν') ∧ jFr ν ν' ∧ qM as (Q ++ pd.reverse) [] op base ν' := by
  intro m
  induction m with
  | zero =>
    intro pd f Q ν h1 h2 h3 h5 h
    obtain ⟨f, rfl⟩ : ∃ g, f = g + 1 := ⟨f - 1, by omega⟩
    have : pd = [] := List.eq_nil_of_length_eq_zero h1
    subst this
    refine ⟨ν, ?_, jFr.rf ν, by rw [List.reverse_nil, List.append_nil]; exact h⟩
    show b_X12_qTest_L110 N _ ν = _
    unfold b_X12_qTest_L110
    rw [if_pos h5, h.2.2.1, if_neg (show ¬ (0 : Int32) < nI ([] : List Int32).length by decide)]
  | succ m ih =>
    intro pd f Q ν h1 h2 h3 h5 h
    obtain ⟨f, rfl⟩ : ∃ g, f = g + 1 := ⟨f - 1, by omega⟩
    rcases List.eq_nil_or_concat pd with y | ⟨p, x, y⟩
    · rw [y] at h1; cases h1
    · rw [List.concat_eq_append] at y
      subst y
      have l1 : p.length = m := by rw [snoc_len] at h1; omega
      obtain ⟨ν1, r1, r2, r3⟩ := m_drops N h (by omega)
      obtain ⟨ν2, s1, s2, s3⟩ := ih p f (Q ++ [x]) ν1 l1 (by omega) (by rw [snoc_len]; omega) (by rw [r2.at (by omega)]; exact h5) r3
      refine ⟨ν2, ?_, r2.tr s2, ?_⟩
      · show b_X12_qTest_L110 N _ ν = _
        unfold b_X12_qTest_L110
        rw [if_pos h5, h.2.2.1, snoc_len, if_pos (show (0 : Int32) < nI (p.length + 1) from nI_lt (a := 0) (by omega) (by omega)), r1, z_bn_sm]
        exact s1
      · rw [rev_snoc]
        rw [List.append_assoc] at s3
        exact s3
/-- what a question's reading comes to -/
def qsRes (t : Nat → Nat) (n q : Nat) (bit : Prop) (μ ν : z_S) (X : Option (Int32 × z_S)) (Y : Option (Unit × z_S)) : Prop := (∃ q' g' Dl Dm μ' ν', X = some (1, μ') ∧ Y = some ((), ν') ∧ vFr μ μ' ∧ zFr ν ν' ∧ cG t n q' g' μ' ∧ cC Dl μ' ∧ mG t n q' g' ν' ∧ ν'.1 253 95 = nI Dm.length ∧ (∀ k m, Dm[k]? = some m → ν'.1 330 k = m) ∧ crL Dl Dm ∧ Dl.length ≤ 1600 ∧ (∀ c ∈ Dl, okc true c) ∧ ∀ V Wf, ∃ v, runV V Wf [] Dl = some [v] ∧ (bit → v = 0 ∨ v = 1)) ∨ ∃ f p μ' ν', X = some (0, μ') ∧ Y = some ((), ν') ∧ vFr μ μ' ∧ zFr ν ν' ∧ cB f p μ' ∧ mB f p ν' ∧ 1 ≤ f ∧ f ≤ 5
theorem q_test {t : Nat → Nat} {n N : Nat} (hN : 1700 ≤ N) {q : Nat} {g : Bool} {μ ν : z_S} (hc : cG t n q g μ) (hC : cC [] μ) (hf : μ.1 92 2 = 1) (hm : mG t n q g ν) (hq : qM true [] [] 0 0 ν) : qsRes t n q True μ ν (r_X9 N 40 0 0 μ) (f_X12_qTest N ν) := by
  have hn := hc.1.1
  have hqn := hc.2.2.2
  have T := test_all (t := t) (n := n) hN (E := fun μ110 => f_X12_qTest_L110 N N μ110) q g [] [] [] μ ν N (Or.inl rfl) (Or.inl rfl) (Or.inl rfl) (Or.inl rfl) ⟨hc, hC, hf, hm, hq, Nat.zero_le _, Nat.zero_le _, by omega, by omega⟩
  have eY : f_X12_qTest N ν = tsT N (fun μ110 => f_X12_qTest_L110 N N μ110) N ν := rfl
  rw [eY]
  rcases T with ⟨q2, g2, Dl, D0, pd, μ3, ν3, f1', f3', c1', c2, c3, c4, c5, c6, c7, c8, c9, c10, c11, c12, c13, c14, c15, c16, c17⟩ | ⟨ff, p, μ3, ν3, c1', c2, c3, c4, c5, c6, c7, c8, c9⟩
  · have hq2 := c5.2.2.2
    rw [List.nil_append] at c6 c8
    rw [List.nil_append] at c8
    have lmap : Dl.length = D0.length + pd.length := by
      have := crL_len c9
      rw [List.length_append, List.length_reverse] at this
      exact this
    obtain ⟨f1', rfl⟩ : ∃ k, f1' = k + 1 := ⟨f1' - 1, by omega⟩
    obtain ⟨f3', rfl⟩ : ∃ k, f3' = k + 1 := ⟨f3' - 1, by omega⟩
    obtain ⟨ν4, d1, d2, d3, d4⟩ := ts_end (E := fun μ110 => f_X12_qTest_L110 N N μ110) (f1 := f1') (f3 := f3') hN c7 c8 (by omega) (fun z => by rcases c10 _ z with y | y <;> exact absurd y (by decide)) (c11 22 (Or.inl rfl)) (c11 23 (Or.inr rfl))
    obtain ⟨ν5, e1, e2, e3⟩ := m_dropT N pd.length pd N D0 ν4 rfl (by omega) (by omega) d3.2.1 d4
    refine Or.inl ⟨q2, g2, Dl, D0 ++ pd.reverse, μ3, ν5, c1', ?_, c3, c4.tr (d2.z.tr e2.z), c5, c6, (e2.mA d3).g, e3.1, e3.2.1, c9, by omega, c17, fun V Wf => ?_⟩
    · rw [c2, d1]; exact e1
    · obtain ⟨v, hv, hb⟩ := c16 V Wf [] (by show 0 + 37 ≤ 64; omega)
      exact ⟨v, hv, fun _ => hb⟩
  · refine Or.inr ⟨ff, p, μ3, ν3, c1', ?_, c3, c4, c5, c6, c7, c8⟩
    rw [c2]
    obtain ⟨M, hM⟩ : ∃ M, N = M + 1 := ⟨N - 1, by omega⟩
    have e : f_X12_qTest_L110 N (M + 1) ν3 = some ((), ν3) := by
      show b_X12_qTest_L110 N _ ν3 = _
      unfold b_X12_qTest_L110
      rw [if_neg (mB_ne c6 ⟨c7, c8⟩)]
    rw [← hM] at e
    exact e
theorem q_sum {t : Nat → Nat} {n N : Nat} (hN : 1700 ≤ N) {q : Nat} {g : Bool} {μ ν : z_S} (hc : cG t n q g μ) (hC : cC [] μ) (hf : μ.1 92 2 = 1) (hm : mG t n q g ν) (hq : qM true [] [] 0 0 ν) : qsRes t n q False μ ν (r_X9 N 40 3 0 μ) (f_X12_qSums N ν) := by
  have hn := hc.1.1
  have S := sums_ok hN (D := 40) (by omega) (show 0 ≤ 6 by omega) (Or.inl rfl) hc hC (as := true) (by rw [hf]; rfl) hm hq (Nat.zero_le _) (Nat.zero_le _)
  rcases S with ⟨q', g', Dl, μ1, ν1, s1, s2, s3, s4, s5, s6, s7, s8, s9, s10, s11, s12⟩ | ⟨f, p, μ1, ν1, s1, s2, s3, s4, s5, s6, s7, s8, s9⟩
  · have hq' := s5.2.2.2
    rw [List.nil_append] at s6 s8
    refine Or.inl ⟨q', g', Dl, Dl.map cmap, μ1, ν1, s1, s2, s3, s4, s5, s6, s7, s8.1, s8.2.1, crL_map Dl, by omega, s12, fun V Wf => ?_⟩
    obtain ⟨v, hv⟩ := s11 V Wf [] (by show 0 + 22 ≤ 64; omega)
    exact ⟨v, hv, fun z => absurd z id⟩
  · exact Or.inr ⟨f, p, μ1, ν1, s1, s2, s3, s4, s5, s6, s7, s8⟩
/-- which question: class and reference -/
theorem q_kind {t : Nat → Nat} {n N : Nat} (hN : 1700 ≤ N) {q : Nat} {g : Bool} {ν : z_S} (hm : mG t n q g ν) : (∃ k ν', k < 6 ∧ tkW t n q g = nI (28 + k) ∧ f_X12_qKind N ν = some (nI k, ν') ∧ yFr ν ν' ∧ mG t n (nxQ t n q) (nxG t n q g) ν') ∨ (tkW t n q g < 28 ∧ ∃ x ν', f_X12_qKind N ν = some (x, ν') ∧ yFr ν ν' ∧ mB 1 q ν') := by
  unfold f_X12_qKind f_X12_qKind_B76
  obtain ⟨b0, ν0, r0, s0, u0⟩ := m_eats N hN wk_307 hm
  rw [r0, z_bn_sm]
  rcases u0 with ⟨y, rfl, u0⟩ | ⟨y0, rfl, u0⟩
  · left
    rw [if_neg (show ¬ (1 : Int32) = 0 by decide), if_neg (show ¬ (0 : Int32) = 5 by decide)]
    exact ⟨0, ν0, by omega, y, rfl, s0, u0⟩
  rw [if_pos rfl]
  have step : ∀ (o k : Nat), wOK o k → (tkW t n q g = nI k → ∃ ν2, f_X12_eats N o ν0 = some (1, ν2) ∧ yFr ν0 ν2 ∧ mG t n (nxQ t n q) (nxG t n q g) ν2) ∧ (¬ tkW t n q g = nI k → f_X12_eats N o ν0 = some (0, ν0)) := fun o k hw => ⟨(m_eatsK N hN hw u0).2, (m_eatsK N hN hw u0).1⟩
  by_cases y1 : tkW t n q g = nI 29
  · obtain ⟨ν2, a1, a2, a3⟩ := (step 308 29 wk_308).1 y1
    left
    rw [a1, z_bn_sm, if_neg (show ¬ (1 : Int32) = 0 by decide), if_neg (show ¬ (1 : Int32) = 5 by decide)]
    exact ⟨1, ν2, by omega, y1, rfl, s0.tr a2, a3⟩
  rw [(step 308 29 wk_308).2 y1, z_bn_sm, if_pos rfl]
  by_cases y2 : tkW t n q g = nI 30
  · obtain ⟨ν2, a1, a2, a3⟩ := (step 309 30 wk_309).1 y2
    left
    rw [a1, z_bn_sm, if_neg (show ¬ (1 : Int32) = 0 by decide), if_neg (show ¬ (2 : Int32) = 5 by decide)]
    exact ⟨2, ν2, by omega, y2, rfl, s0.tr a2, a3⟩
  rw [(step 309 30 wk_309).2 y2, z_bn_sm, if_pos rfl]
  by_cases y3 : tkW t n q g = nI 31
  · obtain ⟨ν2, a1, a2, a3⟩ := (step 310 31 wk_310).1 y3
    left
    rw [a1, z_bn_sm, if_neg (show ¬ (1 : Int32) = 0 by decide), if_neg (show ¬ (3 : Int32) = 5 by decide)]
    exact ⟨3, ν2, by omega, y3, rfl, s0.tr a2, a3⟩
  rw [(step 310 31 wk_310).2 y3, z_bn_sm, if_pos rfl]
  by_cases y4 : tkW t n q g = nI 32
  · obtain ⟨ν2, a1, a2, a3⟩ := (step 311 32 wk_311).1 y4
    left
    rw [a1, z_bn_sm, if_neg (show ¬ (1 : Int32) = 0 by decide), if_neg (show ¬ (4 : Int32) = 5 by decide)]
    exact ⟨4, ν2, by omega, y4, rfl, s0.tr a2, a3⟩
  rw [(step 311 32 wk_311).2 y4, z_bn_sm, if_pos rfl, if_pos rfl]
  obtain ⟨ν2, a1, a2, a3⟩ := m_asks N hN wk_312 u0.g
  rw [a1, z_bn_sm]
  rcases a3 with ⟨y5, a3⟩ | ⟨y5, a3⟩
  · left
    exact ⟨5, ν2, by omega, y5, rfl, s0.tr a2, a3⟩
  · right
    refine ⟨?_, 5, ν2, rfl, s0.tr a2, a3⟩
    rcases tkW_is (t := t) (n := n) (q := q) (g := g) with z | ⟨i, hi, z⟩
    · rw [z]; decide
    · rw [z]
      have n0 : i ≠ 28 := fun w => y0 (by rw [z, w])
      have n1 : i ≠ 29 := fun w => y1 (by rw [z, w])
      have n2 : i ≠ 30 := fun w => y2 (by rw [z, w])
      have n3 : i ≠ 31 := fun w => y3 (by rw [z, w])
      have n4 : i ≠ 32 := fun w => y4 (by rw [z, w])
      have n5 : i ≠ 33 := fun w => y5 (by rw [z, w])
      exact nI_lt (b := 28) (by omega) (by omega)
