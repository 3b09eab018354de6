theorem brkV_snoc {W : List Int32} {base : Nat} {b : Int32} (h : isBr b) (hb : base ≤ W.length) : brkV (W ++ [b]) base b := Or.inr ⟨W, rfl, h, hb⟩
theorem topNo_snoc {W : List Int32} {b : Int32} (h : isBr b) : topNo (W ++ [b]) := Or.inr ⟨W, b, rfl, fun z => by rcases z with rfl | rfl | rfl | rfl <;> exact h.1 (by decide)⟩
theorem br_20 : isBr 20 := ⟨by decide, by decide⟩
theorem nS {y : Int32} (hc : ∀ c : Nat, (c = 42 ∨ c = 47 ∨ c = 43 ∨ c = 45) → ¬ y = nI c) : ¬ y = nI 42 ∧ ¬ y = nI 47 ∧ ¬ y = nI 43 ∧ ¬ y = nI 45 := ⟨hc 42 (Or.inl rfl), hc 47 (Or.inr (Or.inl rfl)), hc 43 (Or.inr (Or.inr (Or.inl rfl))), hc 45 (Or.inr (Or.inr (Or.inr rfl)))⟩
theorem pd_not {pd : List Int32} (h : ∀ p ∈ pd, p = 1 ∨ p = 2 ∨ p = 3 ∨ p = 4) : ∀ p ∈ pd, ¬ isBr p := fun p hp => op_not (h p hp)
/-- a sum in brackets -/
theorem part_paren {t : Nat → Nat} {n N : Nat} (hN : 1700 ≤ N) {as : Bool} {c1 : Int32} {E : z_S → Option (Unit × z_S)} {base D op K Ks : Nat} (hs : op < 6 → SumOK t n N as c1 E base D (op + 1) Ks) (hK : Ks ≤ K) {q g C Q W μ ν f1 f2} (hpre : preS t n as base op q g C Q W μ ν f1) (hf2 : 8 ≤ f2 + op) (h40 : tkS t n q = nI 40) : pRes t n N as c1 E base op K q C Q W μ ν (r_X9 N (D + 1) 5 (nI op) μ) (RT N c1 E f1 f2 ν) := by
  obtain ⟨pc, pC, pf, pm, pq, pb, pl1, pl2, pf1, po⟩ := hpre
  have hn := pc.1.1
  have hq := pc.2.2.2
  have nb := nxQ_b (t := t) hq
  obtain ⟨k1, k2, k3, k4, k5⟩ := tkS_c (g := g) (by decide) h40
  have nb1 := nb.2.2 k1
  obtain ⟨f1, rfl⟩ : ∃ k, f1 = k + 1 := ⟨f1 - 1, by omega⟩
  obtain ⟨f2, rfl⟩ : ∃ k, f2 = k + 2 := ⟨f2 - 2, by omega⟩
  have eS : r_X9 N (D + 1) 5 (nI op) μ = g_X9_part N (r_X9 N D 0) (r_X9 N D 1) (r_X9 N D 2) (r_X9 N D 3) (r_X9 N D 4) (r_X9 N D 5) (r_X9 N D 6) (nI op) μ := rfl
  rw [eS]
  unfold g_X9_part
  have n10 : ¬ (1 : Int32) = 0 := by decide
  rw [pc.2.1.2.2.1, pc.2.1.2.2.2.1, if_neg (show ¬ nI (tkK t n q g) = (2 : Int32) by rw [k3]; decide), if_pos (show tkS t n q = (40 : Int32) from h40)]
  rcases c_opens N hN pc po with ⟨y, μ1, a1, a2, a3⟩ | ⟨y, μ1, a1, a2, a3⟩
  · rcases tq_paren (c1 := c1) (E := E) (f1 := f1) (f2 := f2) hN pm pq (by omega) po h40 with ⟨-, ν1, b1, b2, b3⟩ | ⟨z, -⟩
    · rw [a1, z_bn_sm, if_pos rfl]
      exact Or.inr ⟨4, q, μ1, ν1, rfl, b1, a2.v, b2.z, a3, b3, by decide, by decide, ⟨a2.cL (pC.l (by omega)), (b2.qM pq).l (by omega)⟩⟩
    · omega
  · rcases tq_paren (c1 := c1) (E := E) (f1 := f1) (f2 := f2) hN pm pq (by omega) po h40 with ⟨z, -⟩ | ⟨-, ν1, b1, b2, b3, b4⟩
    · omega
    · rw [a1, z_bn_sm, if_neg n10, b1, show nI op + (1 : Int32) = nI (op + 1) from nI_1 op]
      have lW := snoc_len W (20 : Int32)
      rcases hs y (nxQ t n q) (nxG t n q g) C Q (W ++ [20]) 20 μ1 ν1 (f1 + 1) (f2 + 1) (brkV_snoc br_20 pb) (topNo_snoc br_20) ⟨a3, a2.cC pC, flag_v a2.v pf, b3, b4, by omega, by omega, by omega, by omega, by omega⟩ (by omega) with ⟨q2, g2, Dl, D0, pd, μ3, ν3, f1', f3', c1', c2, c3, c4, c5, c6, c7, c8, c9, c10, c11, c12, c13, c14, c15, c16, c17⟩ | ⟨ff, p, μ3, ν3, c1', c2, c3, c4, c5, c6, c7, c8, c9⟩
      · obtain ⟨n42, n47, n43, n45⟩ := nS c11
        have hq2 := c5.2.2.2
        have lmap : Dl.length = D0.length + pd.length := by
          have := congrArg List.length c9
          rw [List.length_map, List.length_append, List.length_reverse] at this
          exact this
        have lQ : (Q ++ D0).length = Q.length + D0.length := List.length_append
        obtain ⟨f1', rfl⟩ : ∃ k, f1' = k + 1 := ⟨f1' - 1, by omega⟩
        obtain ⟨f3', rfl⟩ : ∃ k, f3' = k + 1 := ⟨f3' - 1, by omega⟩
        have nb2 := nxQ_b (t := t) hq2
        rw [c1', z_bn_sm, if_neg n10, c2]
        obtain ⟨b, μ4, d1, d2, d3⟩ := c_takeSign N hN c5 (41 : Int32)
        rw [d1, z_bn_sm]
        rcases d3 with ⟨z, rfl, d3⟩ | ⟨z, rfl, d3⟩
        · rw [if_neg n10]
          obtain ⟨ν4, e1, e2, e3, e4⟩ := g_close (c1 := c1) (E := E) (f1 := f1' + 1) (f3 := f3') hN c7 c8 (by omega) (by rw [lQ]; omega) pb (Or.inl rfl) (pd_not c10) z
          rw [if_pos rfl, List.append_nil, List.append_assoc, ← c9] at e4
          exact Or.inl ⟨_, _, Dl, μ4, ν4, f1' + 1, f3', N, rfl, e1, a2.v.tr (c3.tr d2.v), b2.tr (c4.tr e2), d3, d2.cC c6, e3, e4, by omega, by omega, by omega, by omega, by omega, numC_mono hK c16, c17⟩
        · rw [if_pos rfl]
          obtain ⟨ν4, e1, e2, e3⟩ := g_bad (c1 := c1) (E := E) (f1 := f1') (f3 := f3') hN c7 c8 (by omega) pb (Or.inl rfl) (pd_not c10) z n42 n47 n43 n45
          exact Or.inr ⟨1, q2, μ4, ν4, rfl, e1, a2.v.tr (c3.tr d2.v), b2.tr (c4.tr e2.z), d3, e3, by decide, by decide, ⟨d2.cL (c6.l (by rw [List.length_append]; omega)), (e2.qM c8).l (by rw [lQ]; omega)⟩⟩
      · rw [c1', z_bn_sm, if_pos rfl]
        exact Or.inr ⟨ff, p, μ3, ν3, rfl, c2, a2.v.tr c3, b2.tr c4, c5, c6, c7, c8, c9⟩
/-- a wish of a part -/
theorem part_wish {t : Nat → Nat} {n N : Nat} (hN : 1700 ≤ N) {as : Bool} {c1 : Int32} {E : z_S → Option (Unit × z_S)} {base D op K Kp : Nat} (hs : op < 6 → PartOK t n N as c1 E base D (op + 1) Kp) (hK : Kp ≤ K) (hK1 : 1 ≤ Kp) {q g C Q W μ ν f1 f2} (hpre : preS t n as base op q g C Q W μ ν f1) (hf2 : 8 ≤ f2 + op) (ha : as = true) (h6 : tkW t n q g = nI 6) : pRes t n N as c1 E base op K q C Q W μ ν (r_X9 N (D + 1) 5 (nI op) μ) (RT N c1 E f1 f2 ν) := by
  obtain ⟨pc, pC, pf, pm, pq, pb, pl1, pl2, pf1, po⟩ := hpre
  have hn := pc.1.1
  have hq := pc.2.2.2
  have nb := nxQ_b (t := t) hq
  obtain ⟨k1, k2, k3, k4, k5, k6, k7⟩ := tkW_k (by decide) h6
  have nb1 := nb.2.2 k1
  obtain ⟨f1, rfl⟩ : ∃ k, f1 = k + 1 := ⟨f1 - 1, by omega⟩
  obtain ⟨f2, rfl⟩ : ∃ k, f2 = k + 2 := ⟨f2 - 2, by omega⟩
  have eS : r_X9 N (D + 1) 5 (nI op) μ = g_X9_part N (r_X9 N D 0) (r_X9 N D 1) (r_X9 N D 2) (r_X9 N D 3) (r_X9 N D 4) (r_X9 N D 5) (r_X9 N D 6) (nI op) μ := rfl
  rw [eS]
  unfold g_X9_part f_X9_part_B164 f_X9_part_B165
  have n10 : ¬ (1 : Int32) = 0 := by decide
  rw [pc.2.1.2.2.1, pc.2.1.2.2.2.1, pc.2.1.2.2.2.2.1, pf, if_neg (show ¬ nI (tkK t n q g) = (2 : Int32) by rw [k5]; decide), if_neg (show ¬ tkS t n q = (40 : Int32) by rw [k7]; decide), if_neg (show ¬ tkW t n q g = (26 : Int32) by rw [h6]; decide), if_neg (show ¬ tkW t n q g = (27 : Int32) by rw [h6]; decide), if_neg (show ¬ (if as = true then (1 : Int32) else 0) = 0 by rw [if_pos ha]; decide), if_pos (show tkW t n q g = (6 : Int32) from h6)]
  rcases c_opens N hN pc po with ⟨y, μ1, a1, a2, a3⟩ | ⟨y, μ1, a1, a2, a3⟩
  · rcases tq_wish (c1 := c1) (E := E) (f1 := f1) (f2 := f2) hN pm pq (by omega) po ha h6 with ⟨-, ν1, b1, b2, b3⟩ | ⟨z, -⟩
    · obtain ⟨μ2, d1, d2, d3⟩ := c_addL N (a2.cL (pC.l (by omega))) (-23)
      rw [a1, z_bn_sm, if_pos rfl, d1, z_bn_sm, z_zb_0]
      exact Or.inr ⟨4, q, μ2, ν1, rfl, b1, a2.v.tr d2.v, b2.z, d2.cB a3, b3, by decide, by decide, ⟨d3, (b2.qM pq).l (by omega)⟩⟩
    · omega
  · rcases tq_wish (c1 := c1) (E := E) (f1 := f1) (f2 := f2) hN pm pq (by omega) po ha h6 with ⟨z, -⟩ | ⟨-, ν1, b1, b2, b3, b4⟩
    · omega
    · rw [a1, z_bn_sm, if_neg n10, b1, show nI op + (1 : Int32) = nI (op + 1) from nI_1 op]
      have lW := snoc_len W (60 : Int32)
      rcases hs y (nxQ t n q) (nxG t n q g) C Q (W ++ [60]) μ1 ν1 (f1 + 1) (f2 + 1) ⟨a3, a2.cC pC, flag_v a2.v pf, b3, b4, by omega, by omega, by omega, by omega, by omega⟩ (by omega) with ⟨q2, g2, Dl, μ3, ν3, f1', f3', f4', c1', c2, c3, c4, c5, c6, c7, c8, c9, c10, c11, c12, c13, c14, c15⟩ | ⟨ff, p, μ3, ν3, c1', c2, c3, c4, c5, c6, c7, c8, c9⟩
      · have hq2 := c5.2.2.2
        have lC : (C ++ Dl).length = C.length + Dl.length := List.length_append
        have lQ : (Q ++ Dl.map cmap).length = Q.length + Dl.length := by rw [List.length_append, List.length_map]
        obtain ⟨f4', rfl⟩ : ∃ k, f4' = k + 1 := ⟨f4' - 1, by omega⟩
        obtain ⟨μ4, d1, d2, d3⟩ := c_addC N c6 (by omega) (-23)
        obtain ⟨ν4, e1, e2, e3⟩ := m_ends1 N f4' c8 (by omega) c7.2.1 po pb
        rw [c1', z_bn_sm, if_neg n10, d1, z_bn_sm, z_zb_1, c2]
        refine Or.inl ⟨q2, g2, Dl ++ [-23], μ4, ν4, f1', f3', f4', rfl, ?_, a2.v.tr (c3.tr d2.v), b2.tr (c4.tr e2.z), d2.cG c5, by rw [← List.append_assoc]; exact d3, e2.mG c7, ?_, by rw [snoc_len]; omega, by omega, by omega, by omega, by omega, numC_mono hK (numC_wish c14 hK1), fun c hc => ?_⟩
        · unfold RP
          rw [e1]
        · rw [List.map_append, ← List.append_assoc]
          exact e3
        · rcases List.mem_append.mp hc with z | z
          · exact c15 c z
          · rw [List.mem_singleton.mp z]
            exact ⟨by decide, by decide, fun w => by rw [ha] at w; exact absurd w (by decide), fun _ => by decide⟩
      · obtain ⟨μ4, d1, d2, d3⟩ := c_addL N c9.1 (-23)
        rw [c1', z_bn_sm, if_pos rfl, d1, z_bn_sm, z_zb_0]
        exact Or.inr ⟨ff, p, μ4, ν3, rfl, c2, a2.v.tr (c3.tr d2.v), b2.tr c4, d2.cB c5, c6, c7, c8, ⟨d3, c9.2⟩⟩
