/-! class and reference side by side -/
theorem j_num {t : Nat → Nat} {n q : Nat} {g : Bool} (N : Nat) (hN : 1700 ≤ N) {μ ν : z_S} (hc : cG t n q g μ) (hm : mG t n q g ν) {a b : Nat} (ha : a ≤ 9999) (hb : b ≤ 9999) :
    ∃ x y μ' ν', f_X10_takeNumber N (nI a) (nI b) μ = some (x, μ') ∧ f_X12_number N (nI a) (nI b) ν = some (y, ν') ∧ uFr μ μ' ∧ yFr ν ν' ∧
      ((∃ v q' g', a ≤ v ∧ v ≤ b ∧ x = nI v ∧ y = nI v ∧ cG t n q' g' μ' ∧ mG t n q' g' ν' ∧ q < q') ∨ ∃ f p, 1 ≤ f ∧ f ≤ 5 ∧ x = -1 ∧ cB f p μ' ∧ mB f p ν') := by
  obtain ⟨x, μ', r1, r2, r3⟩ := c_takeNumber N hN hc ha hb
  obtain ⟨y, ν', s1, s2, s3⟩ := m_number N hN hm ha hb
  refine ⟨x, y, μ', ν', r1, s1, r2, s2, ?_⟩
  rcases r3 with ⟨c1, c2, c3, c4, c5, c6⟩ | ⟨c1, c2, c3⟩ | ⟨c1, c2, c3, c4⟩ | ⟨c1, c2, c3, c4, c5⟩ <;> rcases s3 with ⟨d1, d2, d3, d4, d5, d6⟩ | ⟨d1, d2⟩ | ⟨d1, d2, d3⟩ | ⟨d1, d2, d3, d4⟩ <;> first | (exfalso; omega) | skip
  · exact Or.inl ⟨_, _, _, c3, c4, c5, d5, c6, d6, (nxQ_b hc.2.2.2).2.2 (tkK_2.1 c1).1⟩
  · exact Or.inr ⟨1, q, by omega, by omega, c2, c3, d2⟩
  · exact Or.inr ⟨1, q + 4, by omega, by omega, c3, c4, d3⟩
  · exact Or.inr ⟨2, q, by omega, by omega, c4, c5, d4⟩
theorem tkW_lt {t : Nat → Nat} {n q k : Nat} {g : Bool} (hk : k < 34) (h : tkW t n q g = nI k) : q < n := (tkW_k hk h).1
theorem j_meas {t : Nat → Nat} {n q w a b o i len ow : Nat} {g : Bool} (N : Nat) (hN : 1700 ≤ N) {μ ν : z_S} (hc : cG t n q g μ) (hm : mG t n q g ν) (ha : a ≤ 9999) (hb : b ≤ 9999) (hko : z_kw true o = (20, len)) (ho : 4 ≤ o) (hi : i < len) (hl : len < 2 ^ 31) (hw : wOK ow w) (hw34 : w < 34) :
    ∃ x y μ' ν1 ν', f_X3_measure N (nI w) (nI a) (nI b) o (nI i) μ = some (x, μ') ∧ f_X12_asks N ow ν = some ((), ν1) ∧ f_X12_number N (nI a) (nI b) ν1 = some (y, ν') ∧ μ'.2 = μ.2 ∧ (∀ c j, ¬ (c = 1 ∧ 2 ≤ j ∧ j ≤ 9 ∧ (4 ≤ j ∨ ¬ μ'.1 1 2 = 0)) → ¬ (c = o ∧ j = i) → μ'.1 c j = μ.1 c j) ∧ yFr ν ν' ∧
      ((∃ v q' g', a ≤ v ∧ v ≤ b ∧ x = 1 ∧ y = nI v ∧ μ'.1 o i = nI v ∧ cG t n q' g' μ' ∧ mG t n q' g' ν' ∧ q < q') ∨ ∃ f p, 1 ≤ f ∧ f ≤ 5 ∧ x = 0 ∧ cB f p μ' ∧ mB f p ν') := by
  obtain ⟨x, μ', r1, r2, r2b, r3⟩ := c_measure N hN (w := w) hc ha hb hko ho hi hl
  obtain ⟨y, ν1, ν', s1, s1b, s2, s3⟩ := m_measure N hN hw hm ha hb
  refine ⟨x, y, μ', ν1, ν', r1, s1, s1b, r2, r2b, s2, ?_⟩
  rcases r3 with ⟨c0, c1, c2, c3, c4, c5, c6, c7⟩ | ⟨c0, c1, c2⟩ | ⟨c0, c1, c2, c3⟩ | ⟨c0, c1, c2, c3, c4⟩ | ⟨c0, c1, c2, c3, c4, c5⟩ <;> rcases s3 with ⟨d0, d1, d2, d3, d4, d5, d6⟩ | ⟨d0, d1⟩ | ⟨d0, d1, d2⟩ | ⟨d0, d1, d2, d3⟩ | ⟨d0, d1, d2, d3, d4⟩ <;> first | (exfalso; exact absurd c0 d0) | (exfalso; exact absurd d0 c0) | (exfalso; omega) | skip
  · have n1 := nxQ_b (t := t) hc.2.2.2
    have n2 := nxQ_b (t := t) n1.2.1
    exact Or.inl ⟨_, _, _, c3, c4, c5, d5, c7, c6, d6, by have := n1.2.2 (tkW_lt hw34 c0); have := n2.1; omega⟩
  · exact Or.inr ⟨1, q, by omega, by omega, c1, c2, d1⟩
  · exact Or.inr ⟨1, _, by omega, by omega, c2, c3, d2⟩
  · exact Or.inr ⟨1, _, by omega, by omega, c3, c4, d3⟩
  · exact Or.inr ⟨2, _, by omega, by omega, c4, c5, d4⟩
theorem j_new {h : aH} (ok : okH h) {t : Nat → Nat} {n q k : Nat} {g : Bool} (N : Nat) (hN : 1700 ≤ N) {μ ν : z_S} (hc : cG t n q g μ) (hm : mG t n q g ν) (hn : nmC (z_hn μ.2.2.2) h μ) (hn2 : nmM h ν) (hk : k < 3) (h8 : hCnt h k < 8) :
    ∃ x y μ' ν', f_X3_newName N (nI k) μ = some (x, μ') ∧ f_X12_newName N ν = some (y, ν') ∧ yFr ν ν' ∧
      ((∃ l q' g', isNm l ∧ x = 1 ∧ y = lN (pk27 l) ∧ uFr (z_setI μ (z_hn μ.2.2.2 + 3 + k) (hCnt h k) (nI (pk32 l 6))) μ' ∧ cG t n q' g' μ' ∧ mG t n q' g' ν' ∧ q < q') ∨ ∃ f p, 1 ≤ f ∧ f ≤ 5 ∧ x = 0 ∧ uFr μ μ' ∧ cB f p μ' ∧ mB f p ν') := by
  obtain ⟨x, μ', r1, r3⟩ := c_newName ok N hN hc hn hk h8
  obtain ⟨y, ν', s1, s2, s3⟩ := m_newName ok N hN hm hn2
  refine ⟨x, y, μ', ν', r1, s1, s2, ?_⟩
  rcases r3 with ⟨c1, c2, c3, c4, c5, c6, c7⟩ | ⟨c1, c2, c3, ⟨j, c4, c4b⟩, c5, c6, c7⟩ | ⟨c1, c2, c3, c4⟩ | ⟨c1, c2, c3, c4, c5, c6⟩ <;> rcases s3 with ⟨d1, d2, d3, d4, d5, d6⟩ | ⟨d1, d2, d3, ⟨i, d4, d4b⟩, d5⟩ | ⟨d1, d2⟩ | ⟨d1, d2, d3, d4⟩ <;> first | (exfalso; omega) | (exfalso; exact d1 ⟨c1, c2⟩) | (exfalso; exact c1 ⟨d1, d2⟩) | (exfalso; exact c4b (d4 j c4)) | (exfalso; exact d4b (c4 i d4)) | skip
  · exact Or.inl ⟨_, _, _, tk_isNm c1 c3, c5, d5, c6, c7, d6, (nxQ_b hc.2.2.2).2.2 (tkK_1.1 c1).1⟩
  · exact Or.inr ⟨3, q, by omega, by omega, c5, c6, c7, d5⟩
  · exact Or.inr ⟨1, q, by omega, by omega, c2, c3, c4, d2⟩
  · exact Or.inr ⟨1, _, by omega, by omega, c4, c5, c6, d4⟩
/-- the class' name stays -/
theorem j_known {h : aH} (ok : okH h) {t : Nat → Nat} {n q k : Nat} {g : Bool} (N : Nat) (hN : 1700 ≤ N) {μ ν : z_S} (hc : cG t n q g μ) (hm : mG t n q g ν) (hn : nmC (z_hn μ.2.2.2) h μ) (hn2 : nmM h ν) (hk : k < 3) :
    ∃ x y μ' ν', f_X3_knownHere N (nI k) μ = some (x, μ') ∧ f_X12_oneOf N (nI k) ν = some (y, ν') ∧ uFr μ μ' ∧ yFr ν ν' ∧
      ((∃ i, i < hCnt h k ∧ x = nI i ∧ y = nI i ∧ μ' = μ ∧ mG t n (nxQ t n q) (nxG t n q g) ν' ∧ ν'.1 253 38 = nI q ∧ q < nxQ t n q) ∨ ∃ f p, 1 ≤ f ∧ f ≤ 5 ∧ x = -1 ∧ cB f p μ' ∧ mB f p ν') := by
  obtain ⟨x, μ', r1, r2, r3⟩ := c_knownHere ok N hN hc hn hk
  obtain ⟨y, ν', s1, s2, s3⟩ := m_oneOf ok N hN hm hn2 hk
  refine ⟨x, y, μ', ν', r1, s1, r2, s2, ?_⟩
  rcases r3 with ⟨c1, c2, c3, i, c4, c5, c6, c7⟩ | ⟨c1, c2, c3, c4, c5, c6⟩ | ⟨c1, c2, c3⟩ | ⟨c1, c2, c3, c4, c5⟩ <;> rcases s3 with ⟨d1, d2, d3, j, d4, d5, d6, d7, d8⟩ | ⟨d1, d2, d3, d4, d5⟩ | ⟨d1, d2⟩ | ⟨d1, d2, d3, d4⟩ <;> first | (exfalso; omega) | (exfalso; exact d1 ⟨c1, c2⟩) | (exfalso; exact c1 ⟨d1, d2⟩) | (exfalso; rw [c4] at d4; cases d4; done) | skip
  · rw [c4] at d4
    cases d4
    exact Or.inl ⟨i, c5, c6, d6, c7, d7, d8, (nxQ_b hc.2.2.2).2.2 (tkK_1.1 c1).1⟩
  · exact Or.inr ⟨3, q, by omega, by omega, c5, c6, d5⟩
  · exact Or.inr ⟨1, q, by omega, by omega, c2, c3, d2⟩
  · exact Or.inr ⟨1, _, by omega, by omega, c4, c5, d4⟩
/-- the class' name is taken -/
theorem j_take {h : aH} (ok : okH h) {t : Nat → Nat} {n q k : Nat} {g : Bool} (N : Nat) (hN : 1700 ≤ N) {μ ν : z_S} (hc : cG t n q g μ) (hm : mG t n q g ν) (hn : nmC (z_hn μ.2.2.2) h μ) (hn2 : nmM h ν) (hk : k < 3) :
    ∃ x y μ' ν', f_X3_takeName N (nI k) μ = some (x, μ') ∧ f_X12_oneOf N (nI k) ν = some (y, ν') ∧ uFr μ μ' ∧ yFr ν ν' ∧
      ((∃ i q' g', i < hCnt h k ∧ x = nI i ∧ y = nI i ∧ cG t n q' g' μ' ∧ mG t n q' g' ν' ∧ q < q') ∨ ∃ f p, 1 ≤ f ∧ f ≤ 5 ∧ x = -1 ∧ cB f p μ' ∧ mB f p ν') := by
  obtain ⟨x, y, μ', ν', r1, r2, r3, r4, r5⟩ := j_known ok N hN hc hm hn hn2 hk
  unfold f_X3_takeName
  rw [r1, z_bn_sm]
  rcases r5 with ⟨i, c1, c2, c3, c4, c5, c6, c7⟩ | ⟨f, p, c1, c2, c3, c4, c5⟩
  · subst c4
    have h8 := ok_8 ok hk
    rw [if_neg (show ¬ x = -1 by rw [c2]; exact nI_nm1 (by omega))]
    obtain ⟨μ2, s1, s2, s3⟩ := c_next N hN hc
    rw [s1, z_bn_sm]
    exact ⟨x, y, μ2, ν', rfl, r2, s2, r4, Or.inl ⟨i, _, _, c1, c2, c3, s3, c5, c7⟩⟩
  · rw [if_pos c3]
    exact ⟨x, y, μ', ν', rfl, r2, r3, r4, Or.inr ⟨f, p, c1, c2, c3, c4, c5⟩⟩
