/-- min and max -/
theorem part_choice {t : Nat → Nat} {n N : Nat} (hN : 1700 ≤ N) {as : Bool} {c1 : Int32} {E : z_S → Option (Unit × z_S)} {base D op Ks : Nat} (hs : op < 6 → SumOK t n N as c1 E base D (op + 1) Ks) (hK1 : 1 ≤ Ks) {q g C Q W μ ν f1 f2} (hpre : preS t n as base op q g C Q W μ ν f1) (hf2 : 8 ≤ f2 + op) {k : Nat} (hk : k = 26 ∨ k = 27) (hw : tkW t n q g = nI k) : pRes t n N as c1 E base op (Ks + 1) q C Q W μ ν (r_X9 N (D + 2) 5 (nI op) μ) (RT N c1 E f1 f2 ν) := by
  obtain ⟨pc, pC, pf, pm, pq, pb, pl1, pl2, pf1, po⟩ := hpre
  have hn := pc.1.1
  have hq := pc.2.2.2
  have nb := nxQ_b (t := t) hq
  obtain ⟨k1, k2, k3, k4, k5, k6, k7⟩ := tkW_k (by omega) hw
  have nb1 := nb.2.2 k1
  have nbb := nxQ_b (t := t) nb.2.1
  obtain ⟨f1, rfl⟩ : ∃ k, f1 = k + 1 := ⟨f1 - 1, by omega⟩
  obtain ⟨f2, rfl⟩ : ∃ k, f2 = k + 2 := ⟨f2 - 2, by omega⟩
  have n10 : ¬ (1 : Int32) = 0 := by decide
  obtain ⟨s0, hs0⟩ : ∃ s0 : Int32, s0 = if k = 26 then -15 else -16 := ⟨_, rfl⟩
  obtain ⟨b, hbv⟩ : ∃ b : Int32, b = if k = 26 then 21 else 22 := ⟨_, rfl⟩
  have bb : (b = 21 ∧ s0 = -15) ∨ (b = 22 ∧ s0 = -16) := by
    rcases hk with z | z
    · left; rw [hbv, hs0, if_pos z, if_pos z]; exact ⟨rfl, rfl⟩
    · right; rw [hbv, hs0, if_neg (by omega), if_neg (by omega)]; exact ⟨rfl, rfl⟩
  have hos : opC s0 := by rcases bb with ⟨-, z⟩ | ⟨-, z⟩; exact Or.inr (Or.inr (Or.inr (Or.inr (Or.inl z)))); exact Or.inr (Or.inr (Or.inr (Or.inr (Or.inr z))))
  have br : isBr b := by rcases bb with ⟨z, -⟩ | ⟨z, -⟩ <;> rw [z] <;> exact ⟨by decide, by decide⟩
  have br2 : isBr (b + 2) := by rcases bb with ⟨z, -⟩ | ⟨z, -⟩ <;> rw [z] <;> exact ⟨by decide, by decide⟩
  have b21 : b = 21 ∨ b = 22 := by rcases bb with ⟨z, -⟩ | ⟨z, -⟩; exact Or.inl z; exact Or.inr z
  have b23 : b + 2 = 20 ∨ b + 2 = 23 ∨ b + 2 = 24 := by rcases bb with ⟨z, -⟩ | ⟨z, -⟩ <;> rw [z]; exact Or.inr (Or.inl (by decide)); exact Or.inr (Or.inr (by decide))
  have ecm : (if b + 2 = 20 then [] else if b + 2 = 23 then [(5 : Int32)] else [6]) = [cmap s0] := by rcases bb with ⟨z, z2⟩ | ⟨z, z2⟩ <;> rw [z, z2] <;> decide
  have eS : r_X9 N (D + 2) 5 (nI op) μ = z_bn (f_X9_choice_B19 N (r_X9 N D 0) (r_X9 N D 1) (r_X9 N D 2) (r_X9 N D 3) (r_X9 N D 4) (r_X9 N D 5) (r_X9 N D 6) (nI op) s0 μ) fun x5 μ_6 => z_zb x5 (some (x5, μ_6)) := by
    show g_X9_part N (r_X9 N (D + 1) 0) (r_X9 N (D + 1) 1) (r_X9 N (D + 1) 2) (r_X9 N (D + 1) 3) (r_X9 N (D + 1) 4) (r_X9 N (D + 1) 5) (r_X9 N (D + 1) 6) (nI op) μ = _
    unfold g_X9_part f_X9_part_B117
    have eC : r_X9 N (D + 1) 6 (nI op) μ = f_X9_choice_B19 N (r_X9 N D 0) (r_X9 N D 1) (r_X9 N D 2) (r_X9 N D 3) (r_X9 N D 4) (r_X9 N D 5) (r_X9 N D 6) (nI op) s0 μ := by
      show g_X9_choice N (r_X9 N D 0) (r_X9 N D 1) (r_X9 N D 2) (r_X9 N D 3) (r_X9 N D 4) (r_X9 N D 5) (r_X9 N D 6) (nI op) μ = _
      unfold g_X9_choice
      rw [pc.2.1.2.2.2.2.1, hw]
      rcases hk with rfl | rfl
      · rw [if_pos (show nI 26 = (26 : Int32) from rfl), hs0, if_pos rfl]
      · rw [if_neg (show ¬ nI 27 = (26 : Int32) by decide), hs0, if_neg (by decide)]
    rw [pc.2.1.2.2.1, pc.2.1.2.2.2.1, pc.2.1.2.2.2.2.1, if_neg (show ¬ nI (tkK t n q g) = (2 : Int32) by rw [k5]; decide), if_neg (show ¬ tkS t n q = (40 : Int32) by rw [k7]; decide), eC, hw]
    rcases hk with rfl | rfl
    · rw [if_pos (show nI 26 = (26 : Int32) from rfl)]
    · rw [if_neg (show ¬ nI 27 = (26 : Int32) by decide), if_pos (show nI 27 = (27 : Int32) from rfl)]
  rw [eS]
  have fin0 : ∀ f p μx νx, 1 ≤ f ∧ f ≤ 5 → vFr μ μx → zFr ν νx → cL μx ∧ mL νx → cB f p μx → mB f p νx → pRes t n N as c1 E base op (Ks + 1) q C Q W μ ν (z_bn (z_bn (f_X0_add N 93 s0 μx) fun _ μ_3 => z_zb 0 (some ((0 : Int32), μ_3))) fun x5 μ_6 => z_zb x5 (some (x5, μ_6))) (E νx) := fun f p μx νx hf h1 h2 h3 h4 h5 => by
    obtain ⟨μ4, d1, d2, d3⟩ := c_addL N h3.1 s0
    rw [d1, z_bn_sm, z_zb_0, z_bn_sm, z_zb_0]
    exact Or.inr ⟨f, p, μ4, νx, rfl, rfl, h1.tr d2.v, h2, d2.cB h4, h5, hf.1, hf.2, ⟨d3, h3.2⟩⟩
  unfold f_X9_choice_B19 f_X9_choice_B104 f_X9_choice_B105
  obtain ⟨μ1, a1, a2, a3⟩ := c_next N hN pc
  rw [a1, z_bn_sm, a3.2.1.2.2.2.1]
  rcases tq_min (c1 := c1) (E := E) (f1 := f1) (f2 := f2) hN pm pq (by omega) po hk hw with ⟨y, ν1, b1, b2, b3⟩ | ⟨y, yo, ν1, b1, b2, b3⟩ | ⟨y, yo, ν1, b1, b2, b3, b4⟩
  · obtain ⟨μ2, e1, e2, e3⟩ := c_fail N (f := 1) a3
    have e1' : f_X10_fail N (1 : Int32) μ1 = some (0, μ2) := e1
    rw [if_neg (show ¬ tkS t n (nxQ t n q) = (40 : Int32) from y), e1', z_bn_sm, z_zb_0, z_bn_sm, z_zb_0]
    exact Or.inr ⟨1, nxQ t n q, μ2, ν1, rfl, b1, a2.v.tr e2.v, b2.z, e3, b3, by decide, by decide, ⟨e2.cL (a2.cL (pC.l (by omega))), (b2.qM pq).l (by omega)⟩⟩
  · rw [if_pos (show tkS t n (nxQ t n q) = (40 : Int32) from y)]
    rcases c_opens N hN a3 po with ⟨-, μ2, e1, e2, e3⟩ | ⟨z, -⟩
    · rw [e1, z_bn_sm, if_pos rfl, b1]
      exact fin0 4 (nxQ t n q) μ2 ν1 (by omega) (a2.v.tr e2.v) b2.z ⟨e2.cL (a2.cL (pC.l (by omega))), (b2.qM pq).l (by omega)⟩ e3 b3
    · omega
  · rw [if_pos (show tkS t n (nxQ t n q) = (40 : Int32) from y)]
    have y1 := (tkS_c (g := nxG t n q g) (by decide) y).1
    have nb2 := nbb.2.2 y1
    rw [← hbv] at b4
    rcases c_opens N hN a3 po with ⟨z, -⟩ | ⟨-, μ2, e1, e2, e3⟩
    · omega
    · rw [e1, z_bn_sm, if_neg n10, b1, show nI op + (1 : Int32) = nI (op + 1) from nI_1 op]
      have lW := snoc_len W b
      have fv2 := a2.v.tr e2.v
      rcases hs yo (nxQ t n (nxQ t n q)) _ C Q (W ++ [b]) b μ2 ν1 (f1 + 1) (f2 + 1) (brkV_snoc br pb) (topNo_snoc br) ⟨e3, e2.cC (a2.cC pC), flag_v fv2 pf, b3, b4, by omega, by omega, by omega, by omega, by omega⟩ (by omega) with ⟨q3, g3, Dl1, D01, pd1, μ3, ν3, f1', f3', c1', c2, c3, c4, c5, c6, c7, c8, c9, c10, c11, c12, c13, c14, c15, c16, c17⟩ | ⟨ff, p, μ3, ν3, c1', c2, c3, c4, c5, c6, c7, c8, c9⟩
      · obtain ⟨n42, n47, n43, n45⟩ := nS c11
        have hq3 := c5.2.2.2
        have nb3 := nxQ_b (t := t) hq3
        have lmap : Dl1.length = D01.length + pd1.length := by
          have := congrArg List.length c9
          rw [List.length_map, List.length_append, List.length_reverse] at this
          exact this
        have lQ : (Q ++ D01).length = Q.length + D01.length := List.length_append
        have lC1 : (C ++ Dl1).length = C.length + Dl1.length := List.length_append
        obtain ⟨f1', rfl⟩ : ∃ k, f1' = k + 1 := ⟨f1' - 1, by omega⟩
        obtain ⟨f3', rfl⟩ : ∃ k, f3' = k + 1 := ⟨f3' - 1, by omega⟩
        rw [c1', z_bn_sm, if_neg n10, c2]
        have fv3 := fv2.tr c3
        have fz3 := b2.tr c4
        obtain ⟨x, μ4, d1, d2, d3⟩ := c_takeSign N hN c5 (44 : Int32)
        rw [d1, z_bn_sm]
        rcases g_comma (c1 := c1) (E := E) (f1 := f1') (f3 := f3') hN c7 c8 (by omega) pb b21 (pd_not c10) n42 n47 n43 n45 with ⟨w, ν4, w1, w2, w3, w4⟩ | ⟨w, ν4, w1, w2, w3⟩
        · rcases d3 with ⟨-, rfl, d3⟩ | ⟨z, -⟩
          · rw [if_neg n10, w1]
            have y3 := (tkS_c (g := g3) (by decide) w).1
            have nb4 := nb3.2.2 y3
            have lW2 := snoc_len W (b + 2)
            have lQ2 : (Q ++ D01 ++ pd1.reverse).length = Q.length + D01.length + pd1.length := by rw [List.length_append, lQ, List.length_reverse]
            have fv4 := fv3.tr d2.v
            have fz4 := fz3.tr w2
            rcases hs yo (nxQ t n q3) _ (C ++ Dl1) (Q ++ D01 ++ pd1.reverse) (W ++ [b + 2]) (b + 2) μ4 ν4 f1' N (brkV_snoc br2 pb) (topNo_snoc br2) ⟨d3, d2.cC c6, flag_v fv4 pf, w3, w4, by omega, by omega, by omega, by omega, by omega⟩ (by omega) with ⟨q5, g5, Dl2, D02, pd2, μ5, ν5, f1'', f3'', u1, u2, u3, u4, u5, u6, u7, u8, u9, u10, u11, u12, u13, u14, u15, u16, u17⟩ | ⟨ff, p, μ5, ν5, u1, u2, u3, u4, u5, u6, u7, u8, u9⟩
            · obtain ⟨m42, m47, m43, m45⟩ := nS u11
              have hq5 := u5.2.2.2
              have nb5 := nxQ_b (t := t) hq5
              have lmap2 : Dl2.length = D02.length + pd2.length := by
                have := congrArg List.length u9
                rw [List.length_map, List.length_append, List.length_reverse] at this
                exact this
              have lQ3 : (Q ++ D01 ++ pd1.reverse ++ D02).length = Q.length + D01.length + pd1.length + D02.length := by rw [List.length_append, lQ2]
              have lC2 : (C ++ Dl1 ++ Dl2).length = C.length + Dl1.length + Dl2.length := by rw [List.length_append, lC1]
              obtain ⟨f1'', rfl⟩ : ∃ k, f1'' = k + 1 := ⟨f1'' - 1, by omega⟩
              obtain ⟨f3'', rfl⟩ : ∃ k, f3'' = k + 1 := ⟨f3'' - 1, by omega⟩
              rw [u1, z_bn_sm, if_neg n10, u2]
              have fv5 := fv4.tr u3
              have fz5 := fz4.tr u4
              obtain ⟨x, μ6, v1, v2, v3⟩ := c_takeSign N hN u5 (41 : Int32)
              rw [v1, z_bn_sm]
              rcases v3 with ⟨z, rfl, v3⟩ | ⟨z, rfl, v3⟩
              · rw [if_neg n10]
                obtain ⟨μ7, x1, x2, x3⟩ := c_addC N (v2.cC u6) (by omega) s0
                obtain ⟨ν6, o1, o2, o3, o4⟩ := g_close (c1 := c1) (E := E) (f1 := f1'' + 1) (f3 := f3'') hN u7 u8 (by omega) (by rw [lQ3]; omega) pb b23 (pd_not u10) z
                rw [ecm] at o4
                rw [x1, z_bn_sm, z_zb_1, z_bn_sm, z_zb_1]
                refine Or.inl ⟨_, _, Dl1 ++ (Dl2 ++ [s0]), μ7, ν6, f1'' + 1, f3'', N, rfl, o1, fv5.tr (v2.v.tr x2.v), fz5.tr o2, x2.cG v3, ?_, o3, ?_, by rw [List.length_append, snoc_len]; omega, by omega, by omega, by omega, by omega, numC_op (numC_mono (by omega) c16) u16 hos hK1, fun c hc => ?_⟩
                · rw [show C ++ (Dl1 ++ (Dl2 ++ [s0])) = C ++ Dl1 ++ Dl2 ++ [s0] by simp only [List.append_assoc]]
                  exact x3
                · rw [List.map_append, List.map_append, c9, u9, List.map_cons, List.map_nil]
                  rw [show Q ++ (D01 ++ pd1.reverse ++ (D02 ++ pd2.reverse ++ [cmap s0])) = Q ++ D01 ++ pd1.reverse ++ D02 ++ pd2.reverse ++ [cmap s0] by simp only [List.append_assoc]]
                  exact o4
                · rcases List.mem_append.mp hc with z | z
                  · exact c17 c z
                  · rcases List.mem_append.mp z with z | z
                    · exact u17 c z
                    · rw [List.mem_singleton.mp z]; exact okc_op hos
              · rw [if_pos rfl]
                obtain ⟨ν6, o1, o2, o3⟩ := g_bad (c1 := c1) (E := E) (f1 := f1'') (f3 := f3'') hN u7 u8 (by omega) pb b23 (pd_not u10) z m42 m47 m43 m45
                rw [o1]
                exact fin0 1 q5 μ6 ν6 (by omega) (fv5.tr v2.v) (fz5.tr o2.z) ⟨v2.cL (u6.l (by omega)), (o2.qM u8).l (by omega)⟩ v3 o3
            · rw [u1, z_bn_sm, if_pos rfl, u2]
              exact fin0 ff p μ5 ν5 ⟨u7, u8⟩ (fv4.tr u3) (fz4.tr u4) u9 u5 u6
          · exact absurd w z
        · rcases d3 with ⟨z, -⟩ | ⟨-, rfl, d3⟩
          · exact absurd z w
          · rw [if_pos rfl, w1]
            exact fin0 1 q3 μ4 ν4 (by omega) (fv3.tr d2.v) (fz3.tr w2.z) ⟨d2.cL (c6.l (by omega)), (w2.qM c8).l (by omega)⟩ d3 w3
      · rw [c1', z_bn_sm, if_pos rfl, c2]
        exact fin0 ff p μ3 ν3 ⟨c7, c8⟩ (fv2.tr c3) (b2.tr c4) c9 c5 c6
theorem part_ok {t : Nat → Nat} {n N : Nat} (hN : 1700 ≤ N) {as : Bool} {c1 : Int32} {E : z_S → Option (Unit × z_S)} {base D op Ks Kp : Nat} (hs : op < 6 → SumOK t n N as c1 E base D (op + 1) Ks) (hs1 : op < 6 → SumOK t n N as c1 E base (D + 1) (op + 1) Ks) (hp : op < 6 → PartOK t n N as c1 E base (D + 1) (op + 1) Kp) (hK : Kp ≤ Ks) (hK1 : 1 ≤ Kp) : PartOK t n N as c1 E base (D + 2) op (Ks + 1) := by
  intro q g C Q W μ ν f1 f2 hpre hf2
  by_cases h40 : tkS t n q = nI 40
  · exact part_paren hN hs1 (by omega) hpre hf2 h40
  · by_cases h26 : tkW t n q g = nI 26
    · exact part_choice hN hs (by omega) hpre hf2 (Or.inl rfl) h26
    · by_cases h27 : tkW t n q g = nI 27
      · exact part_choice hN hs (by omega) hpre hf2 (Or.inr rfl) h27
      · by_cases h6 : as = true ∧ tkW t n q g = nI 6
        · exact part_wish hN hp (by omega) hK1 hpre hf2 h6.1 h6.2
        · exact part_leaf hN (by omega) hpre hf2 h40 h26 h27 h6
theorem part_all {t : Nat → Nat} {n N : Nat} (hN : 1700 ≤ N) {as : Bool} {c1 : Int32} {E : z_S → Option (Unit × z_S)} {base : Nat} : ∀ m op, op + m = 6 → ∀ D, 4 * m + 2 ≤ D → PartOK t n N as c1 E base D op (3 * m + 2)
  | 0, op, h, D, hD => by
    obtain ⟨D, rfl⟩ : ∃ d, D = d + 2 := ⟨D - 2, by omega⟩
    exact part_ok (Ks := 1) (Kp := 1) (D := D) hN (fun z => by omega) (fun z => by omega) (fun z => by omega) (by omega) (by omega)
  | m + 1, op, h, D, hD => by
    obtain ⟨D, rfl⟩ : ∃ d, D = d + 2 := ⟨D - 2, by omega⟩
    have ihP := part_all hN (as := as) (c1 := c1) (E := E) (base := base) (t := t) (n := n) m (op + 1) (by omega)
    have ihS : ∀ D, 4 * m + 4 ≤ D → SumOK t n N as c1 E base D (op + 1) (3 * m + 4) := fun D hD => by
      obtain ⟨D, rfl⟩ : ∃ d, D = d + 2 := ⟨D - 2, by omega⟩
      exact sum_ok hN (D := D + 1) (fun q g C Q W pa b μ ν f1 f2 a1 a2 a3 a4 a5 => prod_ok hN (ihP D (by omega)) (by omega) q g C Q W pa b μ ν f1 f2 a1 a2 a3 a4 a5) (by omega)
    exact part_ok hN (Ks := 3 * m + 4) (Kp := 3 * m + 2) (D := D) (op := op) (fun _ => ihS D (by omega)) (fun _ => ihS (D + 1) (by omega)) (fun _ => ihP (D + 1) (by omega)) (by omega) (by omega)
/-- sums, however many are open -/
theorem sum_all {t : Nat → Nat} {n N : Nat} (hN : 1700 ≤ N) {as : Bool} {c1 : Int32} {E : z_S → Option (Unit × z_S)} {base : Nat} {op D : Nat} (ho : op ≤ 6) (hD : 28 ≤ D + 4 * op) : SumOK t n N as c1 E base D op 22 := by
  obtain ⟨D, rfl⟩ : ∃ d, D = d + 2 := ⟨D - 2, by omega⟩
  have P := part_all hN (as := as) (c1 := c1) (E := E) (base := base) (t := t) (n := n) (6 - op) op (by omega) D (by omega)
  have S : SumOK t n N as c1 E base (D + 2) op (3 * (6 - op) + 2 + 1 + 1) := sum_ok hN (D := D + 1) (fun q g C Q W pa b μ ν f1 f2 a1 a2 a3 a4 a5 => prod_ok hN P (by omega) q g C Q W pa b μ ν f1 f2 a1 a2 a3 a4 a5) (by omega)
  intro q g C Q W b μ ν f1 f2 a1 a2 a3 a4
  rcases S q g C Q W b μ ν f1 f2 a1 a2 a3 a4 with ⟨q2, g2, D2, D20, pd2, μ3, ν3, f1', f3', c1', c2, c3, c4, c5, c6, c7, c8, c9, c10, c11, c12, c13, c14, c15, c16, c17⟩ | y
  · exact Or.inl ⟨q2, g2, D2, D20, pd2, μ3, ν3, f1', f3', c1', c2, c3, c4, c5, c6, c7, c8, c9, c10, c11, c12, c13, c14, c15, numC_mono (by omega) c16, c17⟩
  · exact Or.inr y
