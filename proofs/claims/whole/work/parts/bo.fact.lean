/-! a fact -/
theorem fact_sq {t : Nat → Nat} {n N : Nat} (hN : 1700 ≤ N) {E : z_S → Option (Unit × z_S)} {D op K Kt : Nat} (ht : op < 6 → TestOK t n N E D (op + 1) Kt) (hK : Kt ≤ K) {q g C Q W μ ν f1} (hpre : preT t n op q g C Q W μ ν f1) (hs : tkS t n q = nI 91) : fRes t n N E op K q C Q W μ ν (r_X9 N (D + 1) 2 (nI op) μ) (tsT N E f1 ν) := by
  obtain ⟨pc, pC, pf, pm, pq, pl1, pl2, pf1, po⟩ := hpre
  have hn := pc.1.1
  have hqn := pc.2.2.2
  have nb := nxQ_b (t := t) hqn
  have nb1 := nb.2.2 (tkS_c (g := g) (by decide) hs).1
  obtain ⟨f1, rfl⟩ : ∃ k, f1 = k + 2 := ⟨f1 - 2, by omega⟩
  have n10 : ¬ (1 : Int32) = 0 := by decide
  have eS : r_X9 N (D + 1) 2 (nI op) μ = g_X9_fact N (r_X9 N D 0) (r_X9 N D 1) (r_X9 N D 2) (r_X9 N D 3) (r_X9 N D 4) (r_X9 N D 5) (r_X9 N D 6) (nI op) μ := rfl
  rw [eS]
  unfold g_X9_fact
  rw [pc.2.1.2.2.2.1, if_pos (show tkS t n q = (91 : Int32) from hs)]
  rcases c_opens N hN pc po with ⟨y, μ1, a1, a2, a3⟩ | ⟨y, μ1, a1, a2, a3⟩
  · rcases ts_sq (E := E) (f1 := f1) hN pm pq po (by omega) hs with ⟨-, ν1, b1, b2, b3⟩ | ⟨z, -⟩
    · rw [a1, z_bn_sm, if_pos rfl]
      exact Or.inr ⟨4, q, μ1, ν1, rfl, b1, a2.v, b2.z, a3, b3, by decide, by decide, a2.cL (pC.l (by omega))⟩
    · omega
  · rcases ts_sq (E := E) (f1 := f1) hN pm pq po (by omega) hs with ⟨z, -⟩ | ⟨-, ν1, b1, b2, b3, b4⟩
    · omega
    · rw [a1, z_bn_sm, if_neg n10, b1, show nI op + (1 : Int32) = nI (op + 1) from nI_1 op]
      have lW := snoc_len W (25 : Int32)
      rcases ht y (nxQ t n q) (nxG t n q g) C Q (W ++ [25]) μ1 ν1 (f1 + 1) (topNe_snoc W (by decide)) (topNe_snoc W (by decide)) (topNe_snoc W (by decide)) (topNo_sn W (by decide)) ⟨a3, a2.cC pC, flag_1 a2.v pf, b3, b4, by omega, by omega, by omega, by omega⟩ with ⟨q2, g2, Dl, D0, pd, μ3, ν3, f1', f3', c1', c2, c3, c4, c5, c6, c7, c8, c9, c10, c11, c12, c13, c14, c15, c16, c17⟩ | ⟨ff, p, μ3, ν3, c1', c2, c3, c4, c5, c6, c7, c8, c9⟩
      · have hq2 := c5.2.2.2
        have lmap : Dl.length = D0.length + pd.length := by
          have := crL_len c9
          rw [List.length_append, List.length_reverse] at this
          exact this
        have lQ : (Q ++ D0).length = Q.length + D0.length := List.length_append
        have lW2 : (W ++ [25] ++ pd).length = W.length + 1 + pd.length := by rw [List.length_append, lW]
        obtain ⟨f1', rfl⟩ : ∃ k, f1' = k + 1 := ⟨f1' - 1, by omega⟩
        obtain ⟨f3', rfl⟩ : ∃ k, f3' = k + 1 := ⟨f3' - 1, by omega⟩
        have nb2 := nxQ_b (t := t) hq2
        have pd25 : ∀ p ∈ pd, ¬ p = 25 := fun p hp => by rcases c10 p hp with z | z <;> rw [z] <;> decide
        rw [c1', z_bn_sm, if_neg n10, c2]
        obtain ⟨b, μ4, d1, d2, d3⟩ := c_takeSign N hN c5 (93 : Int32)
        rw [d1, z_bn_sm]
        rcases d3 with ⟨z, rfl, d3⟩ | ⟨z, rfl, d3⟩
        · rw [if_neg n10]
          obtain ⟨ν4, e1, e2, e3, e4⟩ := ts_close (E := E) (f1 := f1' + 1) (f3 := f3') hN c7 c8 (by omega) (by rw [lQ]; omega) pd25 z
          rw [List.append_assoc] at e4
          exact Or.inl ⟨_, _, Dl, D0 ++ pd.reverse, μ4, ν4, f1' + 1, f3', N, rfl, e1, a2.v.tr (c3.tr d2.v), b2.tr (c4.tr e2), d3, d2.cC c6, e3, e4, c9, by omega, by omega, by omega, by omega, by omega, bitC_mono hK c16, c17⟩
        · rw [if_pos rfl]
          obtain ⟨ν4, e1, e2, e3⟩ := ts_stop (E := E) (f1 := f1') (f3 := f3') hN c7 c8 (by omega) (List.mem_append_left _ (List.mem_append_right _ (List.mem_singleton.mpr rfl))) z (c11 22 (Or.inl rfl)) (c11 23 (Or.inr rfl))
          exact Or.inr ⟨1, q2, μ4, ν4, rfl, e1, a2.v.tr (c3.tr d2.v), b2.tr (c4.tr e2.z), d3, e3, by decide, by decide, d2.cL (c6.l (by rw [List.length_append]; omega))⟩
      · rw [c1', z_bn_sm, if_pos rfl]
        exact Or.inr ⟨ff, p, μ3, ν3, rfl, c2, a2.v.tr c3, b2.tr c4, c5, c6, c7, c8, c9⟩
theorem fact_not {t : Nat → Nat} {n N : Nat} (hN : 1700 ≤ N) {E : z_S → Option (Unit × z_S)} {D op K Kf : Nat} (ht : op < 6 → FactOK t n N E D (op + 1) Kf) (hK : Kf ≤ K) (hK1 : 1 ≤ Kf) {q g C Q W μ ν f1} (hpre : preT t n op q g C Q W μ ν f1) (hw : tkW t n q g = nI 24) : fRes t n N E op K q C Q W μ ν (r_X9 N (D + 1) 2 (nI op) μ) (tsT N E f1 ν) := by
  obtain ⟨pc, pC, pf, pm, pq, pl1, pl2, pf1, po⟩ := hpre
  have hn := pc.1.1
  have hqn := pc.2.2.2
  have nb := nxQ_b (t := t) hqn
  have nb1 := nb.2.2 (tkW_lt (by omega) hw)
  obtain ⟨f1, rfl⟩ : ∃ k, f1 = k + 2 := ⟨f1 - 2, by omega⟩
  have n10 : ¬ (1 : Int32) = 0 := by decide
  have eS : r_X9 N (D + 1) 2 (nI op) μ = g_X9_fact N (r_X9 N D 0) (r_X9 N D 1) (r_X9 N D 2) (r_X9 N D 3) (r_X9 N D 4) (r_X9 N D 5) (r_X9 N D 6) (nI op) μ := rfl
  rw [eS]
  unfold g_X9_fact f_X9_fact_B82 f_X9_fact_B83
  rw [pc.2.1.2.2.2.1, pc.2.1.2.2.2.2.1, if_neg (show ¬ tkS t n q = (91 : Int32) from tkW_S (c := 91) (by omega) (by omega) hw), if_pos (show tkW t n q g = (24 : Int32) from hw)]
  rcases c_opens N hN pc po with ⟨y, μ1, a1, a2, a3⟩ | ⟨y, μ1, a1, a2, a3⟩
  · rcases ts_nt (E := E) (f1 := f1) hN pm pq po (by omega) hw with ⟨-, ν1, b1, b2, b3⟩ | ⟨z, -⟩
    · obtain ⟨μ2, d1, d2, d3⟩ := c_addL N (a2.cL (pC.l (by omega))) (-22)
      rw [a1, z_bn_sm, if_pos rfl, d1, z_bn_sm, z_zb_0]
      exact Or.inr ⟨4, q, μ2, ν1, rfl, b1, a2.v.tr d2.v, b2.z, d2.cB a3, b3, by decide, by decide, d3⟩
    · omega
  · rcases ts_nt (E := E) (f1 := f1) hN pm pq po (by omega) hw with ⟨z, -⟩ | ⟨-, ν1, b1, b2, b3, b4⟩
    · omega
    · rw [a1, z_bn_sm, if_neg n10, b1, show nI op + (1 : Int32) = nI (op + 1) from nI_1 op]
      have lW := snoc_len W (12 : Int32)
      rcases ht y (nxQ t n q) (nxG t n q g) C Q (W ++ [12]) μ1 ν1 (f1 + 1) (topNo_sn W (by decide)) ⟨a3, a2.cC pC, flag_1 a2.v pf, b3, b4, by omega, by omega, by omega, by omega⟩ with ⟨q2, g2, Dl, Dm, μ3, ν3, f1', f3', f4', c1', c2, c3, c4, c5, c6, c7, c8, c8b, c9, c10, c11, c12, c13, c14, c15⟩ | ⟨ff, p, μ3, ν3, c1', c2, c3, c4, c5, c6, c7, c8, c9⟩
      · have hq2 := c5.2.2.2
        have lC : (C ++ Dl).length = C.length + Dl.length := List.length_append
        have lm := crL_len c8b
        have lQ : (Q ++ Dm).length = Q.length + Dl.length := by rw [List.length_append, lm]
        obtain ⟨f4', rfl⟩ : ∃ k, f4' = k + 1 := ⟨f4' - 1, by omega⟩
        obtain ⟨μ4, d1, d2, d3⟩ := c_addC N c6 (by omega) (-22)
        obtain ⟨ν4, e1, e2, e3⟩ := tsP_not (N := N) (E := E) (f1 := f1') (f3 := f3') (f4 := f4') c7.2.1 c8 (by omega) po
        rw [c1', z_bn_sm, if_neg n10, d1, z_bn_sm, z_zb_1, c2]
        refine Or.inl ⟨q2, g2, Dl ++ [-22], Dm ++ [12], μ4, ν4, f1', f3', f4', rfl, e1, a2.v.tr (c3.tr d2.v), b2.tr (c4.tr e2.z), d2.cG c5, by rw [← List.append_assoc]; exact d3, e2.mG c7, by rw [← List.append_assoc]; exact e3, crL_app c8b (crL_one (Or.inl (by decide))), by rw [snoc_len]; omega, by omega, by omega, by omega, by omega, bitC_mono hK (bit_not c14 hK1), fun c hc => ?_⟩
        rcases List.mem_append.mp hc with z | z
        · exact c15 c z
        · rw [List.mem_singleton.mp z]; exact okc_b (by decide)
      · obtain ⟨μ4, d1, d2, d3⟩ := c_addL N c9 (-22)
        rw [c1', z_bn_sm, if_pos rfl, d1, z_bn_sm, z_zb_0]
        exact Or.inr ⟨ff, p, μ4, ν3, rfl, c2, a2.v.tr (c3.tr d2.v), b2.tr c4, d2.cB c5, c6, c7, c8, d3⟩
theorem fact_all {t : Nat → Nat} {n N : Nat} (hN : 1700 ≤ N) {E : z_S → Option (Unit × z_S)} {D op K : Nat} (hK : 1 ≤ K) {q g C Q W μ ν f1} (hpre : preT t n op q g C Q W μ ν f1) (hw : tkW t n q g = nI 25) : fRes t n N E op K q C Q W μ ν (r_X9 N (D + 1) 2 (nI op) μ) (tsT N E f1 ν) := by
  obtain ⟨pc, pC, pf, pm, pq, pl1, pl2, pf1, po⟩ := hpre
  have hn := pc.1.1
  have hqn := pc.2.2.2
  have nb := nxQ_b (t := t) hqn
  have nb1 := nb.2.2 (tkW_lt (by omega) hw)
  obtain ⟨f1, rfl⟩ : ∃ k, f1 = k + 1 := ⟨f1 - 1, by omega⟩
  have eS : r_X9 N (D + 1) 2 (nI op) μ = g_X9_fact N (r_X9 N D 0) (r_X9 N D 1) (r_X9 N D 2) (r_X9 N D 3) (r_X9 N D 4) (r_X9 N D 5) (r_X9 N D 6) (nI op) μ := rfl
  rw [eS]
  unfold g_X9_fact
  rw [pc.2.1.2.2.2.1, pc.2.1.2.2.2.2.1, if_neg (show ¬ tkS t n q = (91 : Int32) from tkW_S (c := 91) (by omega) (by omega) hw), if_neg (show ¬ tkW t n q g = (24 : Int32) by rw [hw]; decide), if_pos (show tkW t n q g = (25 : Int32) from hw)]
  obtain ⟨μ1, a1, a2, a3⟩ := c_next N hN pc
  obtain ⟨μ2, d1, d2, d3⟩ := c_addC N (a2.cC pC) (by omega) 1
  obtain ⟨ν1, b1, b2, b3, b4⟩ := ts_all (E := E) (f1 := f1) hN pm pq (by omega) hw
  rw [a1, z_bn_sm, d1, z_bn_sm]
  exact Or.inl ⟨_, _, [1], [13], μ2, ν1, f1, N, N, rfl, b1, a2.v.tr d2.v, b2, d2.cG a3, d3, b3, b4, crL_one (Or.inr ⟨rfl, rfl⟩), by rw [List.length_singleton]; omega, nb1, by omega, by omega, by omega, bitC_mono hK bit_all, fun c hc => by rw [List.mem_singleton.mp hc]; exact ⟨by decide, by decide, fun z => (by cases z), fun _ => by decide⟩⟩
