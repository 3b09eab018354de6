/-! two sums compared -/
theorem m_codeL {N : Nat} {ν : z_S} (h : mL ν) (x : Int32) : ∃ ν', f_X12_qCode N x ν = some ((), ν') ∧ jFr ν ν' := by
  obtain ⟨k, k1, k2⟩ := h
  unfold f_X12_qCode
  rw [k2, z_in_nI (show k < 1700 by omega) (by decide), nI_toNat (by omega), z_bd_eq, z_bd_eq]
  exact ⟨_, rfl, ⟨rfl, fun a j z1 z2 z3 => by rw [sI_1, if_neg (by omega), sI_1, if_neg (by omega)]⟩⟩
theorem sg_60 : sgnC 60 := ⟨by decide, by decide, by decide⟩
theorem sg_61 : sgnC 61 := ⟨by decide, by decide, by decide⟩
theorem sg_62 : sgnC 62 := ⟨by decide, by decide, by decide⟩
theorem fact_cmp {t : Nat → Nat} {n N : Nat} (hN : 1700 ≤ N) {E : z_S → Option (Unit × z_S)} {D op K : Nat} (hD : 28 ≤ D + 4 * op) (hK : 23 ≤ K) {q g C Q W μ ν f1} (hT : topNo W) (hpre : preT t n op q g C Q W μ ν f1) (h91 : ¬ tkS t n q = nI 91) (h24 : ¬ tkW t n q g = nI 24) (h25 : ¬ tkW t n q g = nI 25) : fRes t n N E op K q C Q W μ ν (r_X9 N (D + 1) 2 (nI op) μ) (tsT N E f1 ν) := by
  obtain ⟨pc, pC, pf, pm, pq, pl1, pl2, pf1, po⟩ := hpre
  have hn := pc.1.1
  have hqn := pc.2.2.2
  obtain ⟨f1, rfl⟩ : ∃ k, f1 = k + 2 := ⟨f1 - 2, by omega⟩
  have n10 : ¬ (1 : Int32) = 0 := by decide
  have eS : r_X9 N (D + 1) 2 (nI op) μ = g_X9_fact N (r_X9 N D 0) (r_X9 N D 1) (r_X9 N D 2) (r_X9 N D 3) (r_X9 N D 4) (r_X9 N D 5) (r_X9 N D 6) (nI op) μ := rfl
  rw [eS]
  unfold g_X9_fact
  rw [pc.2.1.2.2.2.1, pc.2.1.2.2.2.2.1, if_neg (show ¬ tkS t n q = (91 : Int32) from h91), if_neg (show ¬ tkW t n q g = (24 : Int32) from h24), if_neg (show ¬ tkW t n q g = (25 : Int32) from h25)]
  obtain ⟨ν1, y1, y2, y3⟩ := ts_sum (E := E) (f1 := f1 + 1) hN pm h91 h24 h25
  rw [y3]
  have S := sums_ok hN hD po hT pc pC (as := true) (by rw [pf]; rfl) y2.g (y1.qM pq) pl1 pl2
  rcases S with ⟨q2, g2, Dl, μ2, ν2, s1, s2, s3, s4, s5, s6, s7, s8, s9, s10, s11, s12⟩ | ⟨ff, p, μ2, ν2, s1, s2, s3, s4, s5, s6, s7, s8, s9⟩
  rotate_left
  · have b5 := mB_ne s6 ⟨s7, s8⟩
    rw [s1, z_bn_sm, if_pos rfl, s2, z_bn_sm, if_neg b5, z_bn_sm, tsK_bad (by omega) b5]
    exact Or.inr ⟨ff, p, μ2, ν2, rfl, rfl, s3, y1.z.tr s4, s5, s6, s7, s8, s9.1⟩
  have hq2 := s5.2.2.2
  have ht := s5.1.2.2.2.1
  obtain ⟨ν3, w1, w2, w3⟩ := m_look N hN s7
  rw [s1, z_bn_sm, if_neg n10, z_bd_eq, s5.2.1.2.2.2.1, s2, z_bn_sm, if_pos s7.2.1, w1, z_bn_sm]
  have lQ : (Q ++ Dl.map cmap).length = Q.length + Dl.length := by rw [List.length_append, List.length_map]
  have lC : (C ++ Dl).length = C.length + Dl.length := List.length_append
  have step : ∀ (c : Nat) (s m : Int32), (c = 60 ∧ s = -17 ∧ m = 7) ∨ (c = 62 ∧ s = -18 ∧ m = 8) ∨ (c = 61 ∧ s = -19 ∧ m = 9) → tkS t n q2 = nI c → fRes t n N E op K q C Q W μ ν (f_X9_fact_B169 N (r_X9 N D 0) (r_X9 N D 1) (r_X9 N D 2) (r_X9 N D 3) (r_X9 N D 4) (r_X9 N D 5) (r_X9 N D 6) (nI op) (nI c) μ2) (z_bn (f_X12_qFact_B63 N (nI c) ν3) (tsK N E (f1 + 1))) := by
    intro c s m hcs hs
    have c256 : c < 256 := by omega
    have hcm : cmpC s := by rcases hcs with ⟨-, y, -⟩ | ⟨-, y, -⟩ | ⟨-, y, -⟩; exact Or.inl y; exact Or.inr (Or.inl y); exact Or.inr (Or.inr y)
    have ecm : cmap s = m := by rcases hcs with ⟨-, y1, y2⟩ | ⟨-, y1, y2⟩ | ⟨-, y1, y2⟩ <;> rw [y1, y2] <;> decide
    have nb := nxQ_b (t := t) hq2
    have nb1 := nb.2.2 (tkS_c (g := g2) c256 hs).1
    obtain ⟨μ3, a1, a2, a3⟩ := c_next N hN s5
    have fr4 := yFr.set ν3 (j := 2) (nI (q2 + 1)) (by omega)
    have hm4 := m_step1 c256 w3 hs
    have hq4 := fr4.qM (w2.qM s8)
    have S2 := sums_ok hN hD po hT a3 (a2.cC s6) (as := true) (by rw [flag_1 (s3.tr a2.v) pf]; rfl) hm4 hq4 (by omega) (by omega)
    have fin : f_X9_fact_B169 N (r_X9 N D 0) (r_X9 N D 1) (r_X9 N D 2) (r_X9 N D 3) (r_X9 N D 4) (r_X9 N D 5) (r_X9 N D 6) (nI op) (nI c) μ2 = z_bn (r_X9 N D 3 (nI op) μ3) (fun x8 μ_11 => z_bn (f_X0_add N 93 s μ_11) fun _ μ_12 => z_zb x8 (some (x8, μ_12))) := by
      unfold f_X9_fact_B169 f_X9_fact_B210
      rw [a1, z_bn_sm]
      rcases hcs with ⟨y1, y2, -⟩ | ⟨y1, y2, -⟩ | ⟨y1, y2, -⟩
      · rw [y1, y2]; rfl
      · rw [y1, y2]; rfl
      · rw [y1, y2]; rfl
    have fin2 : f_X12_qFact_B63 N (nI c) ν3 = z_bn (f_X12_qSums N (z_setI ν3 253 2 (nI (q2 + 1)))) (fun _ μ_5 => z_bn (f_X12_qCode N m μ_5) fun _ μ_6 => some ((), μ_6)) := by
      unfold f_X12_qFact_B63 f_X12_qFact_B102
      rw [w3.2.2.1, show nI q2 + (1 : Int32) = nI (q2 + 1) from nI_1 _, z_bd_eq]
      rcases hcs with ⟨y1, -, y2⟩ | ⟨y1, -, y2⟩ | ⟨y1, -, y2⟩
      · rw [y1, y2]; rfl
      · rw [y1, y2]; rfl
      · rw [y1, y2]; rfl
    rw [fin, fin2]
    have frA : zFr ν (z_setI ν3 253 2 (nI (q2 + 1))) := y1.z.tr (s4.tr (w2.z.tr fr4.z))
    rcases S2 with ⟨q3, g3, D2, μ4, ν5, u1, u2, u3, u4, u5, u6, u7, u8, u9, u10, u11, u12⟩ | ⟨ff, p, μ4, ν5, u1, u2, u3, u4, u5, u6, u7, u8, u9⟩
    · have hq3 := u5.2.2.2
      have lC2 : (C ++ Dl ++ D2).length = C.length + Dl.length + D2.length := by rw [List.length_append, lC]
      have lQ2 : (Q ++ Dl.map cmap ++ D2.map cmap).length = Q.length + Dl.length + D2.length := by rw [List.length_append, lQ, List.length_map]
      obtain ⟨μ5, d1, d2, d3⟩ := c_addC N u6 (by omega) s
      obtain ⟨ν6, e1, e2, e3⟩ := m_code N u8 (by omega) m
      have hm6 := e2.mG u7
      rw [u1, z_bn_sm, d1, z_bn_sm, z_zb_1, u2, z_bn_sm, e1, z_bn_sm, z_bn_sm, tsK_ok hm6.2.1]
      refine Or.inl ⟨q3, g3, Dl ++ (D2 ++ [s]), Dl.map cmap ++ (D2.map cmap ++ [m]), μ5, ν6, f1 + 1, N, N, rfl, rfl, s3.tr (a2.v.tr (u3.tr d2.v)), frA.tr (u4.tr e2.z), d2.cG u5, ?_, hm6, ?_, crL_app (crL_map Dl) (crL_app (crL_map D2) (crL_one (Or.inl ecm.symm))), ?_, by omega, by omega, by omega, by omega, bitC_mono hK (bit_cmp s11 u11 hcm (by omega)), fun x hx => ?_⟩
      · rw [show C ++ (Dl ++ (D2 ++ [s])) = C ++ Dl ++ D2 ++ [s] by simp only [List.append_assoc]]
        exact d3
      · rw [show Q ++ (Dl.map cmap ++ (D2.map cmap ++ [m])) = Q ++ Dl.map cmap ++ D2.map cmap ++ [m] by simp only [List.append_assoc]]
        exact e3
      · rw [List.length_append, snoc_len]; omega
      · rcases List.mem_append.mp hx with y | y
        · exact s12 x y
        · rcases List.mem_append.mp y with z | z
          · exact u12 x z
          · rw [List.mem_singleton.mp z]
            rcases hcm with r | r | r
            · exact okc_b (Or.inl r)
            · exact okc_b (Or.inr (Or.inl r))
            · exact okc_b (Or.inr (Or.inr (Or.inl r)))
    · obtain ⟨μ5, d1, d2, d3⟩ := c_addL N u9.1 s
      obtain ⟨ν6, e1, e2⟩ := m_codeL (N := N) u9.2 m
      have hB : mB ff p ν6 := ⟨by rw [e2.at (by omega)]; exact u6.1, by rw [e2.at (by omega)]; exact u6.2⟩
      rw [u1, z_bn_sm, d1, z_bn_sm, z_zb_0, u2, z_bn_sm, e1, z_bn_sm, z_bn_sm, tsK_bad (by omega) (mB_ne hB ⟨u7, u8⟩)]
      exact Or.inr ⟨ff, p, μ5, ν6, rfl, rfl, s3.tr (a2.v.tr (u3.tr d2.v)), frA.tr (u4.tr e2.z), d2.cB u5, hB, u7, u8, d3⟩
  have hlk : ∀ c, sgnC c → (lk t n q2 = nI c ↔ tkS t n q2 = nI c) := fun c hc => lk_S ht hc
  by_cases y60 : tkS t n q2 = nI 60
  · rw [if_pos (show tkS t n q2 = (60 : Int32) from y60), if_pos (show lk t n q2 = (60 : Int32) from (hlk 60 sg_60).mpr y60), y60, (hlk 60 sg_60).mpr y60]
    exact step 60 (-17) 7 (Or.inl ⟨rfl, rfl, rfl⟩) y60
  · rw [if_neg (show ¬ tkS t n q2 = (60 : Int32) from y60), if_neg (show ¬ lk t n q2 = (60 : Int32) from fun z => y60 ((hlk 60 sg_60).mp z))]
    by_cases y62 : tkS t n q2 = nI 62
    · rw [if_pos (show tkS t n q2 = (62 : Int32) from y62), if_pos (show lk t n q2 = (62 : Int32) from (hlk 62 sg_62).mpr y62), y62, (hlk 62 sg_62).mpr y62]
      exact step 62 (-18) 8 (Or.inr (Or.inl ⟨rfl, rfl, rfl⟩)) y62
    · rw [if_neg (show ¬ tkS t n q2 = (62 : Int32) from y62), if_neg (show ¬ lk t n q2 = (62 : Int32) from fun z => y62 ((hlk 62 sg_62).mp z))]
      by_cases y61 : tkS t n q2 = nI 61
      · rw [if_pos (show tkS t n q2 = (61 : Int32) from y61), if_pos (show lk t n q2 = (61 : Int32) from (hlk 61 sg_61).mpr y61), y61, (hlk 61 sg_61).mpr y61]
        exact step 61 (-19) 9 (Or.inr (Or.inr ⟨rfl, rfl, rfl⟩)) y61
      · rw [if_neg (show ¬ tkS t n q2 = (61 : Int32) from y61), if_neg (show ¬ lk t n q2 = (61 : Int32) from fun z => y61 ((hlk 61 sg_61).mp z))]
        obtain ⟨μ4, v1, v2, v3⟩ := c_fail N (f := 1) s5
        obtain ⟨ν4, x1, x2, x3⟩ := m_failAt N 1 q2 w3.2.1
        rw [show f_X10_fail N (1 : Int32) μ2 = some (0, μ4) from v1, z_bn_sm, z_zb_0, w3.2.2.1, show f_X12_fail N (1 : Int32) (nI q2) ν3 = some ((), ν4) from x1, z_bn_sm, z_bn_sm, tsK_bad (by omega) (mB_ne x3 (by omega))]
        exact Or.inr ⟨1, q2, μ4, ν4, rfl, rfl, s3.tr v2.v, y1.z.tr (s4.tr (w2.z.tr x2.z)), v3, x3, by omega, by omega, v2.cL (s6.l (by omega))⟩
theorem fact_ok {t : Nat → Nat} {n N : Nat} (hN : 1700 ≤ N) {E : z_S → Option (Unit × z_S)} {D op K Kt Kf : Nat} (ht : op < 6 → TestOK t n N E D (op + 1) Kt) (hf : op < 6 → FactOK t n N E D (op + 1) Kf) (hD : 28 ≤ D + 4 * op) (hKt : Kt ≤ K) (hKf : Kf ≤ K) (hK1 : 1 ≤ Kf) (hK : 23 ≤ K) : FactOK t n N E (D + 1) op K := by
  intro q g C Q W μ ν f1 hT hpre
  by_cases h91 : tkS t n q = nI 91
  · exact fact_sq hN ht hKt hpre h91
  · by_cases h24 : tkW t n q g = nI 24
    · exact fact_not hN hf hKf hK1 hpre h24
    · by_cases h25 : tkW t n q g = nI 25
      · exact fact_all hN (by omega) hpre h25
      · exact fact_cmp hN hD hK hT hpre h91 h24 h25
theorem facts_all {t : Nat → Nat} {n N : Nat} (hN : 1700 ≤ N) {E : z_S → Option (Unit × z_S)} : ∀ m op, op + m = 6 → ∀ D, 4 * m + 5 ≤ D → FactOK t n N E D op (23 + 2 * m)
  | 0, op, h, D, hD => by
    obtain ⟨D, rfl⟩ : ∃ d, D = d + 1 := ⟨D - 1, by omega⟩
    exact fact_ok (Kt := 1) (Kf := 1) hN (fun z => by omega) (fun z => by omega) (by omega) (by omega) (by omega) (by omega) (by omega)
  | m + 1, op, h, D, hD => by
    obtain ⟨D, rfl⟩ : ∃ d, D = d + 3 := ⟨D - 3, by omega⟩
    have ih := facts_all hN (E := E) (t := t) (n := n) m (op + 1) (by omega)
    have ihT : TestOK t n N E (D + 2) (op + 1) (23 + 2 * m + 1 + 1) := test_ok hN (both_ok hN (ih D (by omega)) (by omega)) (by omega)
    exact fact_ok (D := D + 2) hN (fun _ => ihT) (fun _ => ih (D + 2) (by omega)) (by omega) (by omega) (by omega) (by omega) (by omega)
theorem test_all {t : Nat → Nat} {n N : Nat} (hN : 1700 ≤ N) {E : z_S → Option (Unit × z_S)} : TestOK t n N E 40 0 37 := test_ok hN (both_ok hN (facts_all hN 6 0 rfl 38 (by omega)) (by omega)) (by omega)
