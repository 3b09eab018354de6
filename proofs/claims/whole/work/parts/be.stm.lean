/-! one statement -/
theorem cK_fr {o : Nat} {h : aH} {sz : Nat} {tl : Nat → Nat} {μ μ' : z_S} (e : ∀ c j, o ≤ c → c < o + 36 → μ'.1 c j = μ.1 c j) (ok : okH h) (hk : cK o h sz tl μ) : cK o h sz tl μ' := by
  have q8 := ok.1
  have q2 := ok.2.1
  have q3 := ok.2.2.1
  obtain ⟨⟨p1, p2, p3, p4, p5, p6, p7, p8, p9, p10, p11⟩, h2, h3, h4, h5⟩ := hk
  refine ⟨⟨fun k hk => by rw [e _ _ (by omega) (by omega)]; exact p1 k hk, fun k hk i hi => by rw [e _ _ (by omega) (by omega)]; exact p2 k hk i hi, fun i hi => by rw [e _ _ (by omega) (by omega), e _ _ (by omega) (by omega), e _ _ (by omega) (by omega)]; exact p3 i hi, fun i hi => by rw [e _ _ (by omega) (by omega)]; exact p4 i hi, fun i hi j hj => by rw [e _ _ (by omega) (by omega)]; exact p5 i hi j hj, fun i hi j hj => by rw [e _ _ (by omega) (by omega)]; exact p6 i hi j hj, fun i hi => by rw [e _ _ (by omega) (by omega)]; exact p7 i hi, fun i hi => by rw [e _ _ (by omega) (by omega), e _ _ (by omega) (by omega), e _ _ (by omega) (by omega)]; exact p8 i hi, by rw [e _ _ (by omega) (by omega)]; exact p9, by rw [e _ _ (by omega) (by omega)]; exact p10, fun f hf => ?_⟩, by rw [e _ _ (by omega) (by omega)]; exact h2, fun f b hf hb => h3 f b hf (by rw [e _ _ (by omega) (by omega)] at hb; exact hb), fun k hk => by rw [e _ _ (by omega) (by omega)]; exact h4 k hk, h5⟩
  obtain ⟨x, y, z1, z2, z3, z4, z5⟩ := p11 f hf
  exact ⟨x, y, by rw [e _ _ (by omega) (by omega)]; exact z1, by rw [e _ _ (by omega) (by omega)]; exact z2, z3, z4, fun k c hkc => by rw [e _ _ (by omega) (by omega)]; exact z5 k c hkc⟩
theorem mK_fr {h : aH} {cd : Nat} {ν ν' : z_S} (e : ∀ c j, (284 ≤ c ∧ c ≤ 295) ∨ (c = 253 ∧ j = 51) → ν'.1 c j = ν.1 c j) (eJ : ∀ j, ν'.2.1 285 j = ν.2.1 285 j) (hm : mK h cd ν) : mK h cd ν' := by
  obtain ⟨p1, p2, p3, p4, p5, p6, p7, p8, p9, p10, p12, p11⟩ := hm
  refine ⟨fun k hk => by rw [e _ _ (by omega)]; exact p1 k hk, fun k hk i hi => by rw [eJ]; exact p2 k hk i hi, fun i hi w hw => by rw [e _ _ (by omega)]; exact p3 i hi w hw, fun i hi => by rw [e _ _ (by omega)]; exact p4 i hi, fun i hi j hj => by rw [e _ _ (by omega)]; exact p5 i hi j hj, fun i hi j hj => by rw [e _ _ (by omega)]; exact p6 i hi j hj, fun i hi => by rw [e _ _ (by omega)]; exact p7 i hi, fun i hi w hw => by rw [e _ _ (by omega)]; exact p8 i hi w hw, by rw [e _ _ (by omega)]; exact p9, by rw [e _ _ (by omega)]; exact p10, by rw [e _ _ (by omega)]; exact p12, fun f hf => ?_⟩
  have pf := p11 f hf
  cases hf2 : hForm h f with
  | none =>
    rw [hf2] at pf
    show ν'.1 293 f = -1
    rw [e _ _ (by omega)]
    exact pf
  | some cs =>
    rw [hf2] at pf
    obtain ⟨x, y, z1, z2, z3, z4, z5⟩ := pf
    exact ⟨x, y, by rw [e _ _ (by omega)]; exact z1, by rw [e _ _ (by omega)]; exact z2, z3, z4, fun k c hkc => by rw [e _ _ (by omega)]; exact z5 k c hkc⟩
theorem HS_mv {t : Nat → Nat} {n s q q' : Nat} {g g' : Bool} {h : aH} {cd sz : Nat} {tl : Nat → Nat} {μ ν μ' ν' : z_S} (H : HS t n s q g h cd sz tl μ ν) (hu : uFr μ μ') (hy : yFr ν ν') (hc : cG t n q' g' μ') (hm : mG t n q' g' ν') (hq : q ≤ q') : HS t n s q' g' h cd sz tl μ' ν' := by
  obtain ⟨ok, _, _, hk, hmk, htl, hcd, hsz⟩ := H
  have h56 := hn56 μ.2.2.2
  have e : z_hn μ'.2.2.2 = z_hn μ.2.2.2 := by rw [hu.1]
  exact ⟨ok, hc, hm, by rw [e]; exact cK_fr (fun c j z1 z2 => hu.2 c j (by omega)) ok hk, mK_fr (fun c j z => hy.2 c j (by omega)) (fun j => by rw [hy.1]) hmk, htl, by omega, by omega⟩
theorem cRes_mv {t : Nat → Nat} {n s q q' : Nat} {μ ν μ1 ν1 : z_S} {X : Option (Int32 × z_S)} {Y : Option (Unit × z_S)} (hu : uFr μ μ1) (hy : yFr ν ν1) (hq : q ≤ q') (h : cRes t n s q' μ1 ν1 X Y) : cRes t n s q μ ν X Y := by
  have e : z_hn μ1.2.2.2 = z_hn μ.2.2.2 := by rw [hu.1]
  rcases h with ⟨h', q2, g2, cd, sz, tl, μ2, ν2, a1, a2, a3, a4, a5, a6⟩ | ⟨f, p, μ2, ν2, a1, a2, a3, a4, a5⟩
  · rw [e] at a3
    exact Or.inl ⟨h', q2, g2, cd, sz, tl, μ2, ν2, a1, a2, hu.s.tr a3, hy.s.tr a4, a5, by omega⟩
  · rw [e] at a3
    exact Or.inr ⟨f, p, μ2, ν2, a1, a2, hu.s.tr a3, hy.s.tr a4, a5⟩
theorem tk_len {t : Nat → Nat} {n q k : Nat} {g : Bool} (hk : k < 34) {w : List Nat} (hw : wordsL[k]? = some w) (h : tkW t n q g = nI k) : tkE t n q = q + w.length := by
  obtain ⟨h1, h2, h3, h4, h5, h6, h7⟩ := tkW_k hk h
  have hb := (tkE_b (t := t) (Nat.le_of_lt h1)).1
  rcases wixG_is wordsL 0 (lts t q (tkE t n q - q)) with z | ⟨i, z1, z2⟩
  · have : wix (lts t q (tkE t n q - q)) = -1 := z
    rw [h6] at this
    exact absurd this (nI_nm1 (by omega))
  · have z3 : wix (lts t q (tkE t n q - q)) = nI (0 + i) := z2
    have hi : i < 34 := (List.getElem?_eq_some_iff.mp z1).1
    rw [h6] at z3
    have := (nI_eq (by omega) (by omega)).mp z3
    rw [Nat.zero_add] at this
    subst this
    rw [hw] at z1
    have : w.length = tkE t n q - q := by
      cases z1
      exact lts_len _ _ _
    omega
theorem m_eatsA {t : Nat → Nat} {n q : Nat} {g : Bool} (N : Nat) (hN : 1700 ≤ N) {ν : z_S} (h : mA t n q g ν) {k : Nat} (hk : k < 28) : (¬ tkW t n q g = nI k → f_X12_eats N (256 + k) ν = some (0, ν)) ∧ (tkW t n q g = nI k → ∃ ν2, f_X12_eats N (256 + k) ν = some (1, ν2) ∧ yFr ν ν2 ∧ mG t n (nxQ t n q) (nxG t n q g) ν2) := by
  rcases m_eats0 N hN (wk_own k hk) h.2.1 (m_lookA N hN h) h with ⟨c1, ν2, c2, c3, c4⟩ | ⟨c1, c2⟩
  · exact ⟨fun z => absurd c1 z, fun _ => ⟨ν2, c2, c3, c4⟩⟩
  · exact ⟨fun _ => c2, fun z => absurd z c1⟩
theorem st_bad0 {t : Nat → Nat} {n s q f p : Nat} {μ ν μ' ν' : z_S} (hf : 1 ≤ f ∧ f ≤ 5) (h1 : uFr μ μ') (h2 : yFr ν ν') (h3 : cB f p μ') (h4 : mB f p ν') : cRes t n s q μ ν (some (0, μ')) (some ((), ν')) := Or.inr ⟨f, p, μ', ν', rfl, rfl, h1.s, h2.s, h3, h4, hf.1, hf.2⟩
theorem kind_none {N : Nat} {x : Int32} {μ : z_S} (h0 : ¬ x = 0) (h4 : ¬ x = 4) (h6 : ¬ x = 6) (h7 : ¬ x = 7) (h8 : ¬ x = 8) (h9 : ¬ x = 9) (h13 : ¬ x = 13) (h14 : ¬ x = 14) (h15 : ¬ x = 15) (h16 : ¬ x = 16) : f_X3_kindOf N x μ = some (-1, μ) := by
  unfold f_X3_kindOf
  rw [z_bd_eq]
  rw [if_neg h0]
  by_cases c1 : x = 1
  · rw [if_pos c1]
  rw [if_neg c1]
  by_cases c2 : x = 2
  · rw [if_pos c2]
  rw [if_neg c2]
  by_cases c3 : x = 3
  · rw [if_pos c3]
  rw [if_neg c3]
  rw [if_neg h4]
  by_cases c5 : x = 5
  · rw [if_pos c5]
  rw [if_neg c5]
  rw [if_neg h6]
  rw [if_neg h7]
  rw [if_neg h8]
  rw [if_neg h9]
  by_cases c10 : x = 10
  · rw [if_pos c10]
  rw [if_neg c10]
  by_cases c11 : x = 11
  · rw [if_pos c11]
  rw [if_neg c11]
  by_cases c12 : x = 12
  · rw [if_pos c12]
  rw [if_neg c12]
  rw [if_neg h13]
  rw [if_neg h14]
  rw [if_neg h15]
  rw [if_neg h16]
theorem sm_letter {N : Nat} (hN : 1700 ≤ N) {t : Nat → Nat} {n s q : Nat} {g : Bool} {h : aH} {cd sz : Nat} {tl : Nat → Nat} {μ ν : z_S} (H : HS t n s q g h cd sz tl μ ν) (hs : s < 80) (hA : mA t n q g ν) (h52 : ν.1 253 52 = nI s) (hw : tkW t n q g = nI 0) : ∃ Y0, f_X12_statementTold N ν = z_bn Y0 (fun _ ν' => f_X12_statementTold_B222 N ν') ∧ cRes t n s q μ ν (f_X3_statement N μ) Y0 := by
  have hc := H.2.1
  have hk := H.2.2.2.1
  have htl := H.2.2.2.2.2.1
  have h7 : μ.1 1 7 = nI 0 := by rw [hc.2.1.2.2.2.2.1]; exact hw
  have hkd : f_X3_kindOf N (nI 0) μ = some (nI 0, μ) := rfl
  unfold f_X3_statement f_X12_statementTold
  rw [z_bd_eq, h52, if_neg (show ¬ nI s = (80 : Int32) from nI_ne (b := 80) (by omega) (by decide) (by omega) rfl), hA.2.2.1]
  obtain ⟨ν2, e1, e2, e3⟩ := (m_eatsA N hN hA (k := 0) (by omega)).2 hw
  rw [show f_X12_eats N 256 ν = some (1, ν2) from e1, z_bn_sm, if_neg (show ¬ (1 : Int32) = 0 by decide)]
  obtain ⟨μ3, r1, r2, r3⟩ := c_next N hN hc
  have hnx := nxQ_b (t := t) hc.2.2.2
  have H3 := HS_mv H r2 e2 r3 e3 hnx.1
  rw [h7, hkd, z_bn_sm, if_neg (show ¬ nI 0 = (-1 : Int32) by decide), z_in_nI (show 0 < 10 by omega) (by decide), z_in_nI (show 0 < 10 by omega) (by decide), show (nI 0).toNatClampNeg = 0 from rfl, hk.2.2.2.1 0 (by omega), show z_km 0 = nI 8 from rfl]
  have ht : tl 0 = hCnt h 0 := hk.2.2.2.2.1 0 (by omega)
  have hle := H.1.1
  by_cases c : hCnt h 0 < 8
  · have hlt : tl 0 < 8 := by omega
    rw [if_pos (nI_lt (a := tl 0) (b := 8) (by omega) (by omega)), r1, z_bn_sm, if_pos (show nI 0 = (0 : Int32) by decide)]
    exact ⟨_, rfl, cRes_mv r2 e2 hnx.1 (st_letter hN H3 hs c _)⟩
  · rw [if_neg (nI_nlt (a := tl 0) (b := 8) (by omega) (by omega))]
    obtain ⟨μ4, w1, w2, w3⟩ := c_fail N (f := 5) hc
    obtain ⟨ν4, v1, v2, v3⟩ := m_full (N := N) (K := 0) (r := 8) (p := q) (ν := ν2) (by omega) e3.2.1 (by rw [e2.2 _ _ (by omega), H.2.2.2.2.1.1 0 (by omega)]; congr 1; omega)
    have v1' : f_X12_isFull N (0 : Int32) (8 : Int32) (nI q) ν2 = some (1, ν4) := v1
    refine ⟨_, rfl, ?_⟩
    rw [show f_X10_fail N (5 : Int32) μ = some (0, μ4) from w1, z_bn_sm, z_zb_0]
    have : f_X12_letterTold N (nI q) ν2 = some ((), ν4) := by
      unfold f_X12_letterTold
      rw [v1', z_bn_sm, if_neg (show ¬ (1 : Int32) = 0 by decide)]
    rw [this]
    exact st_bad0 (by omega) w2 (e2.tr v2) w3 v3
theorem sm_gift {N : Nat} (hN : 1700 ≤ N) {t : Nat → Nat} {n s q : Nat} {g : Bool} {h : aH} {cd sz : Nat} {tl : Nat → Nat} {μ ν : z_S} (H : HS t n s q g h cd sz tl μ ν) (hs : s < 80) (hA : mA t n q g ν) (h52 : ν.1 253 52 = nI s) (hw : tkW t n q g = nI 4) : ∃ Y0, f_X12_statementTold N ν = z_bn Y0 (fun _ ν' => f_X12_statementTold_B222 N ν') ∧ cRes t n s q μ ν (f_X3_statement N μ) Y0 := by
  have hc := H.2.1
  have hk := H.2.2.2.1
  have htl := H.2.2.2.2.2.1
  have h7 : μ.1 1 7 = nI 4 := by rw [hc.2.1.2.2.2.2.1]; exact hw
  have hkd : f_X3_kindOf N (nI 4) μ = some (nI 1, μ) := rfl
  unfold f_X3_statement f_X12_statementTold
  rw [z_bd_eq, h52, if_neg (show ¬ nI s = (80 : Int32) from nI_ne (b := 80) (by omega) (by decide) (by omega) rfl), hA.2.2.1]
  rw [show f_X12_eats N 256 ν = some (0, ν) from (m_eatsA N hN hA (k := 0) (by omega)).1 (nI_ne (a := 4) (by omega) (by omega) (by omega) hw), z_bn_sm, if_pos rfl]
  obtain ⟨ν2, e1, e2, e3⟩ := (m_eatsA N hN hA (k := 4) (by omega)).2 hw
  rw [show f_X12_eats N 260 ν = some (1, ν2) from e1, z_bn_sm, if_neg (show ¬ (1 : Int32) = 0 by decide)]
  obtain ⟨μ3, r1, r2, r3⟩ := c_next N hN hc
  have hnx := nxQ_b (t := t) hc.2.2.2
  have H3 := HS_mv H r2 e2 r3 e3 hnx.1
  rw [h7, hkd, z_bn_sm, if_neg (show ¬ nI 1 = (-1 : Int32) by decide), z_in_nI (show 1 < 10 by omega) (by decide), z_in_nI (show 1 < 10 by omega) (by decide), show (nI 1).toNatClampNeg = 1 from rfl, hk.2.2.2.1 1 (by omega), show z_km 1 = nI 4 from rfl]
  have ht : tl 1 = hCnt h 1 := hk.2.2.2.2.1 1 (by omega)
  have hle := H.1.2.1
  by_cases c : hCnt h 1 < 4
  · have hlt : tl 1 < 4 := by omega
    rw [if_pos (nI_lt (a := tl 1) (b := 4) (by omega) (by omega)), r1, z_bn_sm, if_neg (show ¬ nI 1 = (0 : Int32) by decide), if_pos (show nI 1 = (1 : Int32) by decide)]
    exact ⟨_, rfl, cRes_mv r2 e2 hnx.1 (st_gift hN H3 hs c _)⟩
  · rw [if_neg (nI_nlt (a := tl 1) (b := 4) (by omega) (by omega))]
    obtain ⟨μ4, w1, w2, w3⟩ := c_fail N (f := 5) hc
    obtain ⟨ν4, v1, v2, v3⟩ := m_full (N := N) (K := 1) (r := 4) (p := q) (ν := ν2) (by omega) e3.2.1 (by rw [e2.2 _ _ (by omega), H.2.2.2.2.1.1 1 (by omega)]; congr 1; omega)
    have v1' : f_X12_isFull N (1 : Int32) (4 : Int32) (nI q) ν2 = some (1, ν4) := v1
    refine ⟨_, rfl, ?_⟩
    rw [show f_X10_fail N (5 : Int32) μ = some (0, μ4) from w1, z_bn_sm, z_zb_0]
    have : f_X12_giftTold N (nI q) ν2 = some ((), ν4) := by
      unfold f_X12_giftTold
      rw [v1', z_bn_sm, if_neg (show ¬ (1 : Int32) = 0 by decide)]
    rw [this]
    exact st_bad0 (by omega) w2 (e2.tr v2) w3 v3
theorem sm_helper {N : Nat} (hN : 1700 ≤ N) {t : Nat → Nat} {n s q : Nat} {g : Bool} {h : aH} {cd sz : Nat} {tl : Nat → Nat} {μ ν : z_S} (H : HS t n s q g h cd sz tl μ ν) (hs : s < 80) (hA : mA t n q g ν) (h52 : ν.1 253 52 = nI s) (hw : tkW t n q g = nI 9) : ∃ Y0, f_X12_statementTold N ν = z_bn Y0 (fun _ ν' => f_X12_statementTold_B222 N ν') ∧ cRes t n s q μ ν (f_X3_statement N μ) Y0 := by
  have hc := H.2.1
  have hk := H.2.2.2.1
  have htl := H.2.2.2.2.2.1
  have h7 : μ.1 1 7 = nI 9 := by rw [hc.2.1.2.2.2.2.1]; exact hw
  have hkd : f_X3_kindOf N (nI 9) μ = some (nI 2, μ) := rfl
  unfold f_X3_statement f_X12_statementTold
  rw [z_bd_eq, h52, if_neg (show ¬ nI s = (80 : Int32) from nI_ne (b := 80) (by omega) (by decide) (by omega) rfl), hA.2.2.1]
  rw [show f_X12_eats N 256 ν = some (0, ν) from (m_eatsA N hN hA (k := 0) (by omega)).1 (nI_ne (a := 9) (by omega) (by omega) (by omega) hw), z_bn_sm, if_pos rfl]
  rw [show f_X12_eats N 260 ν = some (0, ν) from (m_eatsA N hN hA (k := 4) (by omega)).1 (nI_ne (a := 9) (by omega) (by omega) (by omega) hw), z_bn_sm, if_pos rfl]
  rw [show f_X12_eats N 262 ν = some (0, ν) from (m_eatsA N hN hA (k := 6) (by omega)).1 (nI_ne (a := 9) (by omega) (by omega) (by omega) hw), z_bn_sm, if_pos rfl]
  rw [show f_X12_eats N 263 ν = some (0, ν) from (m_eatsA N hN hA (k := 7) (by omega)).1 (nI_ne (a := 9) (by omega) (by omega) (by omega) hw), z_bn_sm, if_pos rfl]
  rw [show f_X12_eats N 264 ν = some (0, ν) from (m_eatsA N hN hA (k := 8) (by omega)).1 (nI_ne (a := 9) (by omega) (by omega) (by omega) hw), z_bn_sm, if_pos rfl]
  obtain ⟨ν2, e1, e2, e3⟩ := (m_eatsA N hN hA (k := 9) (by omega)).2 hw
  rw [show f_X12_eats N 265 ν = some (1, ν2) from e1, z_bn_sm, if_neg (show ¬ (1 : Int32) = 0 by decide)]
  obtain ⟨μ3, r1, r2, r3⟩ := c_next N hN hc
  have hnx := nxQ_b (t := t) hc.2.2.2
  have H3 := HS_mv H r2 e2 r3 e3 hnx.1
  rw [h7, hkd, z_bn_sm, if_neg (show ¬ nI 2 = (-1 : Int32) by decide), z_in_nI (show 2 < 10 by omega) (by decide), z_in_nI (show 2 < 10 by omega) (by decide), show (nI 2).toNatClampNeg = 2 from rfl, hk.2.2.2.1 2 (by omega), show z_km 2 = nI 3 from rfl]
  have ht : tl 2 = hCnt h 2 := hk.2.2.2.2.1 2 (by omega)
  have hle := H.1.2.2.1
  by_cases c : hCnt h 2 < 3
  · have hlt : tl 2 < 3 := by omega
    rw [if_pos (nI_lt (a := tl 2) (b := 3) (by omega) (by omega)), r1, z_bn_sm, if_neg (show ¬ nI 2 = (0 : Int32) by decide), if_neg (show ¬ nI 2 = (1 : Int32) by decide), if_pos (show nI 2 = (2 : Int32) by decide)]
    exact ⟨_, rfl, cRes_mv r2 e2 hnx.1 (st_helper hN H3 hs c _)⟩
  · rw [if_neg (nI_nlt (a := tl 2) (b := 3) (by omega) (by omega))]
    obtain ⟨μ4, w1, w2, w3⟩ := c_fail N (f := 5) hc
    obtain ⟨ν4, v1, v2, v3⟩ := m_full (N := N) (K := 2) (r := 3) (p := q) (ν := ν2) (by omega) e3.2.1 (by rw [e2.2 _ _ (by omega), H.2.2.2.2.1.1 2 (by omega)]; congr 1; omega)
    have v1' : f_X12_isFull N (2 : Int32) (3 : Int32) (nI q) ν2 = some (1, ν4) := v1
    refine ⟨_, rfl, ?_⟩
    rw [show f_X10_fail N (5 : Int32) μ = some (0, μ4) from w1, z_bn_sm, z_zb_0]
    have : f_X12_helperTold N (nI q) ν2 = some ((), ν4) := by
      unfold f_X12_helperTold
      rw [v1', z_bn_sm, if_neg (show ¬ (1 : Int32) = 0 by decide)]
    rw [this]
    exact st_bad0 (by omega) w2 (e2.tr v2) w3 v3
theorem sm_near {N : Nat} (hN : 1700 ≤ N) {t : Nat → Nat} {n s q : Nat} {g : Bool} {h : aH} {cd sz : Nat} {tl : Nat → Nat} {μ ν : z_S} (H : HS t n s q g h cd sz tl μ ν) (hs : s < 80) (hA : mA t n q g ν) (h52 : ν.1 253 52 = nI s) (hw : tkW t n q g = nI 7) : ∃ Y0, f_X12_statementTold N ν = z_bn Y0 (fun _ ν' => f_X12_statementTold_B222 N ν') ∧ cRes t n s q μ ν (f_X3_statement N μ) Y0 := by
  have hc := H.2.1
  have hk := H.2.2.2.1
  have htl := H.2.2.2.2.2.1
  have h7 : μ.1 1 7 = nI 7 := by rw [hc.2.1.2.2.2.2.1]; exact hw
  have hkd : f_X3_kindOf N (nI 7) μ = some (nI 3, μ) := rfl
  unfold f_X3_statement f_X12_statementTold
  rw [z_bd_eq, h52, if_neg (show ¬ nI s = (80 : Int32) from nI_ne (b := 80) (by omega) (by decide) (by omega) rfl), hA.2.2.1]
  rw [show f_X12_eats N 256 ν = some (0, ν) from (m_eatsA N hN hA (k := 0) (by omega)).1 (nI_ne (a := 7) (by omega) (by omega) (by omega) hw), z_bn_sm, if_pos rfl]
  rw [show f_X12_eats N 260 ν = some (0, ν) from (m_eatsA N hN hA (k := 4) (by omega)).1 (nI_ne (a := 7) (by omega) (by omega) (by omega) hw), z_bn_sm, if_pos rfl]
  rw [show f_X12_eats N 262 ν = some (0, ν) from (m_eatsA N hN hA (k := 6) (by omega)).1 (nI_ne (a := 7) (by omega) (by omega) (by omega) hw), z_bn_sm, if_pos rfl]
  obtain ⟨ν2, e1, e2, e3⟩ := (m_eatsA N hN hA (k := 7) (by omega)).2 hw
  rw [show f_X12_eats N 263 ν = some (1, ν2) from e1, z_bn_sm, if_neg (show ¬ (1 : Int32) = 0 by decide)]
  obtain ⟨μ3, r1, r2, r3⟩ := c_next N hN hc
  have hnx := nxQ_b (t := t) hc.2.2.2
  have H3 := HS_mv H r2 e2 r3 e3 hnx.1
  rw [h7, hkd, z_bn_sm, if_neg (show ¬ nI 3 = (-1 : Int32) by decide), z_in_nI (show 3 < 10 by omega) (by decide), z_in_nI (show 3 < 10 by omega) (by decide), show (nI 3).toNatClampNeg = 3 from rfl, hk.2.2.2.1 3 (by omega), show z_km 3 = nI 20 from rfl]
  have ht : tl 3 = hCnt h 3 := hk.2.2.2.2.1 3 (by omega)
  have hle := H.1.2.2.2.1
  by_cases c : hCnt h 3 < 20
  · have hlt : tl 3 < 20 := by omega
    rw [if_pos (nI_lt (a := tl 3) (b := 20) (by omega) (by omega)), r1, z_bn_sm, if_neg (show ¬ nI 3 = (0 : Int32) by decide), if_neg (show ¬ nI 3 = (1 : Int32) by decide), if_neg (show ¬ nI 3 = (2 : Int32) by decide), if_pos (show nI 3 = (3 : Int32) by decide)]
    exact ⟨_, rfl, cRes_mv r2 e2 hnx.1 (st_near hN H3 hs c _)⟩
  · rw [if_neg (nI_nlt (a := tl 3) (b := 20) (by omega) (by omega))]
    obtain ⟨μ4, w1, w2, w3⟩ := c_fail N (f := 5) hc
    obtain ⟨ν4, v1, v2, v3⟩ := m_full (N := N) (K := 3) (r := 20) (p := q) (ν := ν2) (by omega) e3.2.1 (by rw [e2.2 _ _ (by omega), H.2.2.2.2.1.1 3 (by omega)]; congr 1; omega)
    have v1' : f_X12_isFull N (3 : Int32) (20 : Int32) (nI q) ν2 = some (1, ν4) := v1
    refine ⟨_, rfl, ?_⟩
    rw [show f_X10_fail N (5 : Int32) μ = some (0, μ4) from w1, z_bn_sm, z_zb_0]
    have : f_X12_nearTold N (nI q) ν2 = some ((), ν4) := by
      unfold f_X12_nearTold
      rw [v1', z_bn_sm, if_neg (show ¬ (1 : Int32) = 0 by decide)]
    rw [this]
    exact st_bad0 (by omega) w2 (e2.tr v2) w3 v3
theorem sm_like {N : Nat} (hN : 1700 ≤ N) {t : Nat → Nat} {n s q : Nat} {g : Bool} {h : aH} {cd sz : Nat} {tl : Nat → Nat} {μ ν : z_S} (H : HS t n s q g h cd sz tl μ ν) (hs : s < 80) (hA : mA t n q g ν) (h52 : ν.1 253 52 = nI s) (hw : tkW t n q g = nI 8) : ∃ Y0, f_X12_statementTold N ν = z_bn Y0 (fun _ ν' => f_X12_statementTold_B222 N ν') ∧ cRes t n s q μ ν (f_X3_statement N μ) Y0 := by
  have hc := H.2.1
  have hk := H.2.2.2.1
  have htl := H.2.2.2.2.2.1
  have h7 : μ.1 1 7 = nI 8 := by rw [hc.2.1.2.2.2.2.1]; exact hw
  have hkd : f_X3_kindOf N (nI 8) μ = some (nI 4, μ) := rfl
  unfold f_X3_statement f_X12_statementTold
  rw [z_bd_eq, h52, if_neg (show ¬ nI s = (80 : Int32) from nI_ne (b := 80) (by omega) (by decide) (by omega) rfl), hA.2.2.1]
  rw [show f_X12_eats N 256 ν = some (0, ν) from (m_eatsA N hN hA (k := 0) (by omega)).1 (nI_ne (a := 8) (by omega) (by omega) (by omega) hw), z_bn_sm, if_pos rfl]
  rw [show f_X12_eats N 260 ν = some (0, ν) from (m_eatsA N hN hA (k := 4) (by omega)).1 (nI_ne (a := 8) (by omega) (by omega) (by omega) hw), z_bn_sm, if_pos rfl]
  rw [show f_X12_eats N 262 ν = some (0, ν) from (m_eatsA N hN hA (k := 6) (by omega)).1 (nI_ne (a := 8) (by omega) (by omega) (by omega) hw), z_bn_sm, if_pos rfl]
  rw [show f_X12_eats N 263 ν = some (0, ν) from (m_eatsA N hN hA (k := 7) (by omega)).1 (nI_ne (a := 8) (by omega) (by omega) (by omega) hw), z_bn_sm, if_pos rfl]
  obtain ⟨ν2, e1, e2, e3⟩ := (m_eatsA N hN hA (k := 8) (by omega)).2 hw
  rw [show f_X12_eats N 264 ν = some (1, ν2) from e1, z_bn_sm, if_neg (show ¬ (1 : Int32) = 0 by decide)]
  obtain ⟨μ3, r1, r2, r3⟩ := c_next N hN hc
  have hnx := nxQ_b (t := t) hc.2.2.2
  have H3 := HS_mv H r2 e2 r3 e3 hnx.1
  rw [h7, hkd, z_bn_sm, if_neg (show ¬ nI 4 = (-1 : Int32) by decide), z_in_nI (show 4 < 10 by omega) (by decide), z_in_nI (show 4 < 10 by omega) (by decide), show (nI 4).toNatClampNeg = 4 from rfl, hk.2.2.2.1 4 (by omega), show z_km 4 = nI 10 from rfl]
  have ht : tl 4 = hCnt h 4 := hk.2.2.2.2.1 4 (by omega)
  have hle := H.1.2.2.2.2.1
  by_cases c : hCnt h 4 < 10
  · have hlt : tl 4 < 10 := by omega
    rw [if_pos (nI_lt (a := tl 4) (b := 10) (by omega) (by omega)), r1, z_bn_sm, if_neg (show ¬ nI 4 = (0 : Int32) by decide), if_neg (show ¬ nI 4 = (1 : Int32) by decide), if_neg (show ¬ nI 4 = (2 : Int32) by decide), if_neg (show ¬ nI 4 = (3 : Int32) by decide), if_pos (show nI 4 = (4 : Int32) by decide)]
    exact ⟨_, rfl, cRes_mv r2 e2 hnx.1 (st_like hN H3 hs c _)⟩
  · rw [if_neg (nI_nlt (a := tl 4) (b := 10) (by omega) (by omega))]
    obtain ⟨μ4, w1, w2, w3⟩ := c_fail N (f := 5) hc
    obtain ⟨ν4, v1, v2, v3⟩ := m_full (N := N) (K := 4) (r := 10) (p := q) (ν := ν2) (by omega) e3.2.1 (by rw [e2.2 _ _ (by omega), H.2.2.2.2.1.1 4 (by omega)]; congr 1; omega)
    have v1' : f_X12_isFull N (4 : Int32) (10 : Int32) (nI q) ν2 = some (1, ν4) := v1
    refine ⟨_, rfl, ?_⟩
    rw [show f_X10_fail N (5 : Int32) μ = some (0, μ4) from w1, z_bn_sm, z_zb_0]
    have : f_X12_likeTold N (nI q) ν2 = some ((), ν4) := by
      unfold f_X12_likeTold
      rw [v1', z_bn_sm, if_neg (show ¬ (1 : Int32) = 0 by decide)]
    rw [this]
    exact st_bad0 (by omega) w2 (e2.tr v2) w3 v3
theorem sm_takes {N : Nat} (hN : 1700 ≤ N) {t : Nat → Nat} {n s q : Nat} {g : Bool} {h : aH} {cd sz : Nat} {tl : Nat → Nat} {μ ν : z_S} (H : HS t n s q g h cd sz tl μ ν) (hs : s < 80) (hA : mA t n q g ν) (h52 : ν.1 253 52 = nI s) (hw : tkW t n q g = nI 13) : ∃ Y0, f_X12_statementTold N ν = z_bn Y0 (fun _ ν' => f_X12_statementTold_B222 N ν') ∧ cRes t n s q μ ν (f_X3_statement N μ) Y0 := by
  have hc := H.2.1
  have hk := H.2.2.2.1
  have htl := H.2.2.2.2.2.1
  have h7 : μ.1 1 7 = nI 13 := by rw [hc.2.1.2.2.2.2.1]; exact hw
  have hkd : f_X3_kindOf N (nI 13) μ = some (nI 5, μ) := rfl
  unfold f_X3_statement f_X12_statementTold
  rw [z_bd_eq, h52, if_neg (show ¬ nI s = (80 : Int32) from nI_ne (b := 80) (by omega) (by decide) (by omega) rfl), hA.2.2.1]
  rw [show f_X12_eats N 256 ν = some (0, ν) from (m_eatsA N hN hA (k := 0) (by omega)).1 (nI_ne (a := 13) (by omega) (by omega) (by omega) hw), z_bn_sm, if_pos rfl]
  rw [show f_X12_eats N 260 ν = some (0, ν) from (m_eatsA N hN hA (k := 4) (by omega)).1 (nI_ne (a := 13) (by omega) (by omega) (by omega) hw), z_bn_sm, if_pos rfl]
  rw [show f_X12_eats N 262 ν = some (0, ν) from (m_eatsA N hN hA (k := 6) (by omega)).1 (nI_ne (a := 13) (by omega) (by omega) (by omega) hw), z_bn_sm, if_pos rfl]
  rw [show f_X12_eats N 263 ν = some (0, ν) from (m_eatsA N hN hA (k := 7) (by omega)).1 (nI_ne (a := 13) (by omega) (by omega) (by omega) hw), z_bn_sm, if_pos rfl]
  rw [show f_X12_eats N 264 ν = some (0, ν) from (m_eatsA N hN hA (k := 8) (by omega)).1 (nI_ne (a := 13) (by omega) (by omega) (by omega) hw), z_bn_sm, if_pos rfl]
  rw [show f_X12_eats N 265 ν = some (0, ν) from (m_eatsA N hN hA (k := 9) (by omega)).1 (nI_ne (a := 13) (by omega) (by omega) (by omega) hw), z_bn_sm, if_pos rfl]
  obtain ⟨ν2, e1, e2, e3⟩ := (m_eatsA N hN hA (k := 13) (by omega)).2 hw
  rw [show f_X12_eats N 269 ν = some (1, ν2) from e1, z_bn_sm, if_neg (show ¬ (1 : Int32) = 0 by decide)]
  obtain ⟨μ3, r1, r2, r3⟩ := c_next N hN hc
  have hnx := nxQ_b (t := t) hc.2.2.2
  have H3 := HS_mv H r2 e2 r3 e3 hnx.1
  rw [h7, hkd, z_bn_sm, if_neg (show ¬ nI 5 = (-1 : Int32) by decide), z_in_nI (show 5 < 10 by omega) (by decide), z_in_nI (show 5 < 10 by omega) (by decide), show (nI 5).toNatClampNeg = 5 from rfl, hk.2.2.2.1 5 (by omega), show z_km 5 = nI 1 from rfl]
  have ht : tl 5 = if hForm h 0 = none then 0 else 1 := hk.2.2.2.2.2.1
  by_cases c : hForm h 0 = none
  · have hlt : tl 5 < 1 := by rw [ht, if_pos c]; omega
    rw [if_pos (nI_lt (a := tl 5) (b := 1) (by omega) (by omega)), r1, z_bn_sm, if_neg (show ¬ nI 5 = (0 : Int32) by decide), if_neg (show ¬ nI 5 = (1 : Int32) by decide), if_neg (show ¬ nI 5 = (2 : Int32) by decide), if_neg (show ¬ nI 5 = (3 : Int32) by decide), if_neg (show ¬ nI 5 = (4 : Int32) by decide), if_pos (show nI 5 = (5 : Int32) by decide)]
    have hl := tk_len (t := t) (by omega) (show wordsL[13]? = some _ from rfl) hw
    have hl2 : tkE t n q = q + 5 := hl
    have hb2 := (skp_b (t := t) (tkE_b (t := t) hc.2.2.2).2.1).1
    have hb3 : tkE t n q ≤ nxQ t n q := hb2
    have hsz := H.2.2.2.2.2.2.2
    exact ⟨_, rfl, cRes_mv r2 e2 hnx.1 (st_form (f0 := 0) hN H3 hs (by omega) c (by omega) _)⟩
  · have h1 : tl 5 = 1 := by rw [ht, if_neg c]
    rw [if_neg (nI_nlt (a := tl 5) (b := 1) (by omega) (by omega))]
    obtain ⟨μ4, w1, w2, w3⟩ := c_fail N (f := 5) hc
    obtain ⟨ν4, v1, v2, v3⟩ := m_failAt N 5 q e3.2.1
    refine ⟨_, rfl, ?_⟩
    rw [show f_X10_fail N (5 : Int32) μ = some (0, μ4) from w1, z_bn_sm, z_zb_0]
    have : f_X12_codesTold N (0 : Int32) (nI q) ν2 = some ((), ν4) := by
      unfold f_X12_codesTold
      have hne : ¬ ν2.1 293 (0 : Int32).toNatClampNeg = -1 := by
        rw [show (0 : Int32).toNatClampNeg = 0 from rfl, e2.2 _ _ (by omega)]
        have := H.2.2.2.2.1.2.2.2.2.2.2.2.2.2.2.2 0 (by omega)
        cases hf : hForm h 0 with
        | none => exact absurd hf c
        | some cs =>
          rw [hf] at this
          obtain ⟨x, y, z1, z2, z3, z4, z5⟩ := this
          rw [z1]
          have hcd := H.2.2.2.2.2.2.1
          have := hc.2.2.2
          have := hc.1.1
          exact nI_nm1 (by omega)
      rw [if_pos e3.2.1, z_in_ok (show vp_in (0 : Int32) 4 from vp_in_nI (n := 0) (by omega) (by decide)), if_neg hne, show f_X12_fail N (5 : Int32) (nI q) ν2 = some ((), ν4) from v1, z_bn_sm]
      unfold f_X12_codesTold_B23
      rw [if_neg (mB_ne v3 (by omega))]
    rw [this]
    exact st_bad0 (by omega) w2 (e2.tr v2) w3 v3
theorem sm_warm {N : Nat} (hN : 1700 ≤ N) {t : Nat → Nat} {n s q : Nat} {g : Bool} {h : aH} {cd sz : Nat} {tl : Nat → Nat} {μ ν : z_S} (H : HS t n s q g h cd sz tl μ ν) (hs : s < 80) (hA : mA t n q g ν) (h52 : ν.1 253 52 = nI s) (hw : tkW t n q g = nI 14) : ∃ Y0, f_X12_statementTold N ν = z_bn Y0 (fun _ ν' => f_X12_statementTold_B222 N ν') ∧ cRes t n s q μ ν (f_X3_statement N μ) Y0 := by
  have hc := H.2.1
  have hk := H.2.2.2.1
  have htl := H.2.2.2.2.2.1
  have h7 : μ.1 1 7 = nI 14 := by rw [hc.2.1.2.2.2.2.1]; exact hw
  have hkd : f_X3_kindOf N (nI 14) μ = some (nI 6, μ) := rfl
  unfold f_X3_statement f_X12_statementTold
  rw [z_bd_eq, h52, if_neg (show ¬ nI s = (80 : Int32) from nI_ne (b := 80) (by omega) (by decide) (by omega) rfl), hA.2.2.1]
  rw [show f_X12_eats N 256 ν = some (0, ν) from (m_eatsA N hN hA (k := 0) (by omega)).1 (nI_ne (a := 14) (by omega) (by omega) (by omega) hw), z_bn_sm, if_pos rfl]
  rw [show f_X12_eats N 260 ν = some (0, ν) from (m_eatsA N hN hA (k := 4) (by omega)).1 (nI_ne (a := 14) (by omega) (by omega) (by omega) hw), z_bn_sm, if_pos rfl]
  rw [show f_X12_eats N 262 ν = some (0, ν) from (m_eatsA N hN hA (k := 6) (by omega)).1 (nI_ne (a := 14) (by omega) (by omega) (by omega) hw), z_bn_sm, if_pos rfl]
  rw [show f_X12_eats N 263 ν = some (0, ν) from (m_eatsA N hN hA (k := 7) (by omega)).1 (nI_ne (a := 14) (by omega) (by omega) (by omega) hw), z_bn_sm, if_pos rfl]
  rw [show f_X12_eats N 264 ν = some (0, ν) from (m_eatsA N hN hA (k := 8) (by omega)).1 (nI_ne (a := 14) (by omega) (by omega) (by omega) hw), z_bn_sm, if_pos rfl]
  rw [show f_X12_eats N 265 ν = some (0, ν) from (m_eatsA N hN hA (k := 9) (by omega)).1 (nI_ne (a := 14) (by omega) (by omega) (by omega) hw), z_bn_sm, if_pos rfl]
  rw [show f_X12_eats N 269 ν = some (0, ν) from (m_eatsA N hN hA (k := 13) (by omega)).1 (nI_ne (a := 14) (by omega) (by omega) (by omega) hw), z_bn_sm, if_pos rfl]
  obtain ⟨ν2, e1, e2, e3⟩ := (m_eatsA N hN hA (k := 14) (by omega)).2 hw
  rw [show f_X12_eats N 270 ν = some (1, ν2) from e1, z_bn_sm, if_neg (show ¬ (1 : Int32) = 0 by decide)]
  obtain ⟨μ3, r1, r2, r3⟩ := c_next N hN hc
  have hnx := nxQ_b (t := t) hc.2.2.2
  have H3 := HS_mv H r2 e2 r3 e3 hnx.1
  rw [h7, hkd, z_bn_sm, if_neg (show ¬ nI 6 = (-1 : Int32) by decide), z_in_nI (show 6 < 10 by omega) (by decide), z_in_nI (show 6 < 10 by omega) (by decide), show (nI 6).toNatClampNeg = 6 from rfl, hk.2.2.2.1 6 (by omega), show z_km 6 = nI 1 from rfl]
  have ht : tl 6 = if hForm h 1 = none then 0 else 1 := hk.2.2.2.2.2.2.1
  by_cases c : hForm h 1 = none
  · have hlt : tl 6 < 1 := by rw [ht, if_pos c]; omega
    rw [if_pos (nI_lt (a := tl 6) (b := 1) (by omega) (by omega)), r1, z_bn_sm, if_neg (show ¬ nI 6 = (0 : Int32) by decide), if_neg (show ¬ nI 6 = (1 : Int32) by decide), if_neg (show ¬ nI 6 = (2 : Int32) by decide), if_neg (show ¬ nI 6 = (3 : Int32) by decide), if_neg (show ¬ nI 6 = (4 : Int32) by decide), if_neg (show ¬ nI 6 = (5 : Int32) by decide), if_pos (show nI 6 = (6 : Int32) by decide)]
    have hl := tk_len (t := t) (by omega) (show wordsL[14]? = some _ from rfl) hw
    have hl2 : tkE t n q = q + 4 := hl
    have hb2 := (skp_b (t := t) (tkE_b (t := t) hc.2.2.2).2.1).1
    have hb3 : tkE t n q ≤ nxQ t n q := hb2
    have hsz := H.2.2.2.2.2.2.2
    exact ⟨_, rfl, cRes_mv r2 e2 hnx.1 (st_form (f0 := 1) hN H3 hs (by omega) c (by omega) _)⟩
  · have h1 : tl 6 = 1 := by rw [ht, if_neg c]
    rw [if_neg (nI_nlt (a := tl 6) (b := 1) (by omega) (by omega))]
    obtain ⟨μ4, w1, w2, w3⟩ := c_fail N (f := 5) hc
    obtain ⟨ν4, v1, v2, v3⟩ := m_failAt N 5 q e3.2.1
    refine ⟨_, rfl, ?_⟩
    rw [show f_X10_fail N (5 : Int32) μ = some (0, μ4) from w1, z_bn_sm, z_zb_0]
    have : f_X12_codesTold N (1 : Int32) (nI q) ν2 = some ((), ν4) := by
      unfold f_X12_codesTold
      have hne : ¬ ν2.1 293 (1 : Int32).toNatClampNeg = -1 := by
        rw [show (1 : Int32).toNatClampNeg = 1 from rfl, e2.2 _ _ (by omega)]
        have := H.2.2.2.2.1.2.2.2.2.2.2.2.2.2.2.2 1 (by omega)
        cases hf : hForm h 1 with
        | none => exact absurd hf c
        | some cs =>
          rw [hf] at this
          obtain ⟨x, y, z1, z2, z3, z4, z5⟩ := this
          rw [z1]
          have hcd := H.2.2.2.2.2.2.1
          have := hc.2.2.2
          have := hc.1.1
          exact nI_nm1 (by omega)
      rw [if_pos e3.2.1, z_in_ok (show vp_in (1 : Int32) 4 from vp_in_nI (n := 1) (by omega) (by decide)), if_neg hne, show f_X12_fail N (5 : Int32) (nI q) ν2 = some ((), ν4) from v1, z_bn_sm]
      unfold f_X12_codesTold_B23
      rw [if_neg (mB_ne v3 (by omega))]
    rw [this]
    exact st_bad0 (by omega) w2 (e2.tr v2) w3 v3
theorem sm_wish {N : Nat} (hN : 1700 ≤ N) {t : Nat → Nat} {n s q : Nat} {g : Bool} {h : aH} {cd sz : Nat} {tl : Nat → Nat} {μ ν : z_S} (H : HS t n s q g h cd sz tl μ ν) (hs : s < 80) (hA : mA t n q g ν) (h52 : ν.1 253 52 = nI s) (hw : tkW t n q g = nI 6) : ∃ Y0, f_X12_statementTold N ν = z_bn Y0 (fun _ ν' => f_X12_statementTold_B222 N ν') ∧ cRes t n s q μ ν (f_X3_statement N μ) Y0 := by
  have hc := H.2.1
  have hk := H.2.2.2.1
  have htl := H.2.2.2.2.2.1
  have h7 : μ.1 1 7 = nI 6 := by rw [hc.2.1.2.2.2.2.1]; exact hw
  have hkd : f_X3_kindOf N (nI 6) μ = some (nI 7, μ) := rfl
  unfold f_X3_statement f_X12_statementTold
  rw [z_bd_eq, h52, if_neg (show ¬ nI s = (80 : Int32) from nI_ne (b := 80) (by omega) (by decide) (by omega) rfl), hA.2.2.1]
  rw [show f_X12_eats N 256 ν = some (0, ν) from (m_eatsA N hN hA (k := 0) (by omega)).1 (nI_ne (a := 6) (by omega) (by omega) (by omega) hw), z_bn_sm, if_pos rfl]
  rw [show f_X12_eats N 260 ν = some (0, ν) from (m_eatsA N hN hA (k := 4) (by omega)).1 (nI_ne (a := 6) (by omega) (by omega) (by omega) hw), z_bn_sm, if_pos rfl]
  obtain ⟨ν2, e1, e2, e3⟩ := (m_eatsA N hN hA (k := 6) (by omega)).2 hw
  rw [show f_X12_eats N 262 ν = some (1, ν2) from e1, z_bn_sm, if_neg (show ¬ (1 : Int32) = 0 by decide)]
  obtain ⟨μ3, r1, r2, r3⟩ := c_next N hN hc
  have hnx := nxQ_b (t := t) hc.2.2.2
  have H3 := HS_mv H r2 e2 r3 e3 hnx.1
  rw [h7, hkd, z_bn_sm, if_neg (show ¬ nI 7 = (-1 : Int32) by decide), z_in_nI (show 7 < 10 by omega) (by decide), z_in_nI (show 7 < 10 by omega) (by decide), show (nI 7).toNatClampNeg = 7 from rfl, hk.2.2.2.1 7 (by omega), show z_km 7 = nI 80 from rfl]
  have hlt : tl 7 < 80 := by have := htl 7; omega
  rw [if_pos (nI_lt (a := tl 7) (b := 80) (by omega) (by omega)), r1, z_bn_sm, if_neg (show ¬ nI 7 = (0 : Int32) by decide), if_neg (show ¬ nI 7 = (1 : Int32) by decide), if_neg (show ¬ nI 7 = (2 : Int32) by decide), if_neg (show ¬ nI 7 = (3 : Int32) by decide), if_neg (show ¬ nI 7 = (4 : Int32) by decide), if_neg (show ¬ nI 7 = (5 : Int32) by decide), if_neg (show ¬ nI 7 = (6 : Int32) by decide), if_pos (show nI 7 = (7 : Int32) by decide)]
  exact ⟨_, rfl, cRes_mv r2 e2 hnx.1 (st_wish hN H3 hs)⟩
theorem sm_missed {N : Nat} (hN : 1700 ≤ N) {t : Nat → Nat} {n s q : Nat} {g : Bool} {h : aH} {cd sz : Nat} {tl : Nat → Nat} {μ ν : z_S} (H : HS t n s q g h cd sz tl μ ν) (hs : s < 80) (hA : mA t n q g ν) (h52 : ν.1 253 52 = nI s) (hw : tkW t n q g = nI 15) : ∃ Y0, f_X12_statementTold N ν = z_bn Y0 (fun _ ν' => f_X12_statementTold_B222 N ν') ∧ cRes t n s q μ ν (f_X3_statement N μ) Y0 := by
  have hc := H.2.1
  have hk := H.2.2.2.1
  have htl := H.2.2.2.2.2.1
  have h7 : μ.1 1 7 = nI 15 := by rw [hc.2.1.2.2.2.2.1]; exact hw
  have hkd : f_X3_kindOf N (nI 15) μ = some (nI 8, μ) := rfl
  unfold f_X3_statement f_X12_statementTold
  rw [z_bd_eq, h52, if_neg (show ¬ nI s = (80 : Int32) from nI_ne (b := 80) (by omega) (by decide) (by omega) rfl), hA.2.2.1]
  rw [show f_X12_eats N 256 ν = some (0, ν) from (m_eatsA N hN hA (k := 0) (by omega)).1 (nI_ne (a := 15) (by omega) (by omega) (by omega) hw), z_bn_sm, if_pos rfl]
  rw [show f_X12_eats N 260 ν = some (0, ν) from (m_eatsA N hN hA (k := 4) (by omega)).1 (nI_ne (a := 15) (by omega) (by omega) (by omega) hw), z_bn_sm, if_pos rfl]
  rw [show f_X12_eats N 262 ν = some (0, ν) from (m_eatsA N hN hA (k := 6) (by omega)).1 (nI_ne (a := 15) (by omega) (by omega) (by omega) hw), z_bn_sm, if_pos rfl]
  rw [show f_X12_eats N 263 ν = some (0, ν) from (m_eatsA N hN hA (k := 7) (by omega)).1 (nI_ne (a := 15) (by omega) (by omega) (by omega) hw), z_bn_sm, if_pos rfl]
  rw [show f_X12_eats N 264 ν = some (0, ν) from (m_eatsA N hN hA (k := 8) (by omega)).1 (nI_ne (a := 15) (by omega) (by omega) (by omega) hw), z_bn_sm, if_pos rfl]
  rw [show f_X12_eats N 265 ν = some (0, ν) from (m_eatsA N hN hA (k := 9) (by omega)).1 (nI_ne (a := 15) (by omega) (by omega) (by omega) hw), z_bn_sm, if_pos rfl]
  rw [show f_X12_eats N 269 ν = some (0, ν) from (m_eatsA N hN hA (k := 13) (by omega)).1 (nI_ne (a := 15) (by omega) (by omega) (by omega) hw), z_bn_sm, if_pos rfl]
  rw [show f_X12_eats N 270 ν = some (0, ν) from (m_eatsA N hN hA (k := 14) (by omega)).1 (nI_ne (a := 15) (by omega) (by omega) (by omega) hw), z_bn_sm, if_pos rfl]
  obtain ⟨ν2, e1, e2, e3⟩ := (m_eatsA N hN hA (k := 15) (by omega)).2 hw
  rw [show f_X12_eats N 271 ν = some (1, ν2) from e1, z_bn_sm, if_neg (show ¬ (1 : Int32) = 0 by decide)]
  obtain ⟨μ3, r1, r2, r3⟩ := c_next N hN hc
  have hnx := nxQ_b (t := t) hc.2.2.2
  have H3 := HS_mv H r2 e2 r3 e3 hnx.1
  rw [h7, hkd, z_bn_sm, if_neg (show ¬ nI 8 = (-1 : Int32) by decide), z_in_nI (show 8 < 10 by omega) (by decide), z_in_nI (show 8 < 10 by omega) (by decide), show (nI 8).toNatClampNeg = 8 from rfl, hk.2.2.2.1 8 (by omega), show z_km 8 = nI 80 from rfl]
  have hlt : tl 8 < 80 := by have := htl 8; omega
  rw [if_pos (nI_lt (a := tl 8) (b := 80) (by omega) (by omega)), r1, z_bn_sm, if_neg (show ¬ nI 8 = (0 : Int32) by decide), if_neg (show ¬ nI 8 = (1 : Int32) by decide), if_neg (show ¬ nI 8 = (2 : Int32) by decide), if_neg (show ¬ nI 8 = (3 : Int32) by decide), if_neg (show ¬ nI 8 = (4 : Int32) by decide), if_neg (show ¬ nI 8 = (5 : Int32) by decide), if_neg (show ¬ nI 8 = (6 : Int32) by decide), if_neg (show ¬ nI 8 = (7 : Int32) by decide), if_pos (show nI 8 = (8 : Int32) by decide)]
  obtain ⟨x, y, μ4, ν4, w1, w2, w3⟩ := st_missed hN H3 hs
  rw [w1, w2, z_bn_sm, z_bn_sm, z_bd_eq]
  exact ⟨some ((), z_setI ν4 292 0 y), rfl, cRes_mv r2 e2 hnx.1 w3⟩
theorem sm_cold {N : Nat} (hN : 1700 ≤ N) {t : Nat → Nat} {n s q : Nat} {g : Bool} {h : aH} {cd sz : Nat} {tl : Nat → Nat} {μ ν : z_S} (H : HS t n s q g h cd sz tl μ ν) (hs : s < 80) (hA : mA t n q g ν) (h52 : ν.1 253 52 = nI s) (hw : tkW t n q g = nI 16) : ∃ Y0, f_X12_statementTold N ν = z_bn Y0 (fun _ ν' => f_X12_statementTold_B222 N ν') ∧ cRes t n s q μ ν (f_X3_statement N μ) Y0 := by
  have hc := H.2.1
  have hk := H.2.2.2.1
  have htl := H.2.2.2.2.2.1
  have h7 : μ.1 1 7 = nI 16 := by rw [hc.2.1.2.2.2.2.1]; exact hw
  have hkd : f_X3_kindOf N (nI 16) μ = some (nI 9, μ) := rfl
  unfold f_X3_statement f_X12_statementTold
  rw [z_bd_eq, h52, if_neg (show ¬ nI s = (80 : Int32) from nI_ne (b := 80) (by omega) (by decide) (by omega) rfl), hA.2.2.1]
  rw [show f_X12_eats N 256 ν = some (0, ν) from (m_eatsA N hN hA (k := 0) (by omega)).1 (nI_ne (a := 16) (by omega) (by omega) (by omega) hw), z_bn_sm, if_pos rfl]
  rw [show f_X12_eats N 260 ν = some (0, ν) from (m_eatsA N hN hA (k := 4) (by omega)).1 (nI_ne (a := 16) (by omega) (by omega) (by omega) hw), z_bn_sm, if_pos rfl]
  rw [show f_X12_eats N 262 ν = some (0, ν) from (m_eatsA N hN hA (k := 6) (by omega)).1 (nI_ne (a := 16) (by omega) (by omega) (by omega) hw), z_bn_sm, if_pos rfl]
  rw [show f_X12_eats N 263 ν = some (0, ν) from (m_eatsA N hN hA (k := 7) (by omega)).1 (nI_ne (a := 16) (by omega) (by omega) (by omega) hw), z_bn_sm, if_pos rfl]
  rw [show f_X12_eats N 264 ν = some (0, ν) from (m_eatsA N hN hA (k := 8) (by omega)).1 (nI_ne (a := 16) (by omega) (by omega) (by omega) hw), z_bn_sm, if_pos rfl]
  rw [show f_X12_eats N 265 ν = some (0, ν) from (m_eatsA N hN hA (k := 9) (by omega)).1 (nI_ne (a := 16) (by omega) (by omega) (by omega) hw), z_bn_sm, if_pos rfl]
  rw [show f_X12_eats N 269 ν = some (0, ν) from (m_eatsA N hN hA (k := 13) (by omega)).1 (nI_ne (a := 16) (by omega) (by omega) (by omega) hw), z_bn_sm, if_pos rfl]
  rw [show f_X12_eats N 270 ν = some (0, ν) from (m_eatsA N hN hA (k := 14) (by omega)).1 (nI_ne (a := 16) (by omega) (by omega) (by omega) hw), z_bn_sm, if_pos rfl]
  rw [show f_X12_eats N 271 ν = some (0, ν) from (m_eatsA N hN hA (k := 15) (by omega)).1 (nI_ne (a := 16) (by omega) (by omega) (by omega) hw), z_bn_sm, if_pos rfl]
  obtain ⟨ν2, e1, e2, e3⟩ := m_asks N hN (wk_own 16 (by omega)) hA.g
  rw [show f_X12_asks N 272 ν = some ((), ν2) from e1, z_bn_sm]
  rcases e3 with ⟨_, e3⟩ | ⟨e3, _⟩
  rotate_left
  · exact absurd hw e3
  obtain ⟨μ3, r1, r2, r3⟩ := c_next N hN hc
  have hnx := nxQ_b (t := t) hc.2.2.2
  have H3 := HS_mv H r2 e2 r3 e3 hnx.1
  rw [h7, hkd, z_bn_sm, if_neg (show ¬ nI 9 = (-1 : Int32) by decide), z_in_nI (show 9 < 10 by omega) (by decide), z_in_nI (show 9 < 10 by omega) (by decide), show (nI 9).toNatClampNeg = 9 from rfl, hk.2.2.2.1 9 (by omega), show z_km 9 = nI 80 from rfl]
  have hlt : tl 9 < 80 := by have := htl 9; omega
  rw [if_pos (nI_lt (a := tl 9) (b := 80) (by omega) (by omega)), r1, z_bn_sm, if_neg (show ¬ nI 9 = (0 : Int32) by decide), if_neg (show ¬ nI 9 = (1 : Int32) by decide), if_neg (show ¬ nI 9 = (2 : Int32) by decide), if_neg (show ¬ nI 9 = (3 : Int32) by decide), if_neg (show ¬ nI 9 = (4 : Int32) by decide), if_neg (show ¬ nI 9 = (5 : Int32) by decide), if_neg (show ¬ nI 9 = (6 : Int32) by decide), if_neg (show ¬ nI 9 = (7 : Int32) by decide), if_neg (show ¬ nI 9 = (8 : Int32) by decide)]
  obtain ⟨x, y, μ4, ν4, w1, w2, w3⟩ := st_cold hN H3 hs
  rw [w1, w2, z_bn_sm, z_bn_sm, z_bd_eq]
  exact ⟨some ((), z_setI ν4 292 1 y), rfl, cRes_mv r2 e2 hnx.1 w3⟩
theorem sm_none {N : Nat} (hN : 1700 ≤ N) {t : Nat → Nat} {n s q : Nat} {g : Bool} {h : aH} {cd sz : Nat} {tl : Nat → Nat} {μ ν : z_S} (H : HS t n s q g h cd sz tl μ ν) (hs : s < 80) (hA : mA t n q g ν) (h52 : ν.1 253 52 = nI s) (hw : ∀ k, k = 0 ∨ k = 4 ∨ k = 6 ∨ k = 7 ∨ k = 8 ∨ k = 9 ∨ k = 13 ∨ k = 14 ∨ k = 15 ∨ k = 16 → ¬ tkW t n q g = nI k) : ∃ Y0, f_X12_statementTold N ν = z_bn Y0 (fun _ ν' => f_X12_statementTold_B222 N ν') ∧ cRes t n s q μ ν (f_X3_statement N μ) Y0 := by
  have hc := H.2.1
  have hkd : f_X3_kindOf N (tkW t n q g) μ = some (-1, μ) := kind_none (hw 0 (by omega)) (hw 4 (by omega)) (hw 6 (by omega)) (hw 7 (by omega)) (hw 8 (by omega)) (hw 9 (by omega)) (hw 13 (by omega)) (hw 14 (by omega)) (hw 15 (by omega)) (hw 16 (by omega))
  unfold f_X3_statement f_X12_statementTold
  rw [z_bd_eq, h52, if_neg (show ¬ nI s = (80 : Int32) from nI_ne (b := 80) (by omega) (by decide) (by omega) rfl), hA.2.2.1]
  rw [show f_X12_eats N 256 ν = some (0, ν) from (m_eatsA N hN hA (k := 0) (by omega)).1 (hw 0 (by omega)), z_bn_sm, if_pos rfl]
  rw [show f_X12_eats N 260 ν = some (0, ν) from (m_eatsA N hN hA (k := 4) (by omega)).1 (hw 4 (by omega)), z_bn_sm, if_pos rfl]
  rw [show f_X12_eats N 262 ν = some (0, ν) from (m_eatsA N hN hA (k := 6) (by omega)).1 (hw 6 (by omega)), z_bn_sm, if_pos rfl]
  rw [show f_X12_eats N 263 ν = some (0, ν) from (m_eatsA N hN hA (k := 7) (by omega)).1 (hw 7 (by omega)), z_bn_sm, if_pos rfl]
  rw [show f_X12_eats N 264 ν = some (0, ν) from (m_eatsA N hN hA (k := 8) (by omega)).1 (hw 8 (by omega)), z_bn_sm, if_pos rfl]
  rw [show f_X12_eats N 265 ν = some (0, ν) from (m_eatsA N hN hA (k := 9) (by omega)).1 (hw 9 (by omega)), z_bn_sm, if_pos rfl]
  rw [show f_X12_eats N 269 ν = some (0, ν) from (m_eatsA N hN hA (k := 13) (by omega)).1 (hw 13 (by omega)), z_bn_sm, if_pos rfl]
  rw [show f_X12_eats N 270 ν = some (0, ν) from (m_eatsA N hN hA (k := 14) (by omega)).1 (hw 14 (by omega)), z_bn_sm, if_pos rfl]
  rw [show f_X12_eats N 271 ν = some (0, ν) from (m_eatsA N hN hA (k := 15) (by omega)).1 (hw 15 (by omega)), z_bn_sm, if_pos rfl]
  obtain ⟨ν2, e1, e2, e3⟩ := m_asks N hN (wk_own 16 (by omega)) hA.g
  rw [show f_X12_asks N 272 ν = some ((), ν2) from e1, z_bn_sm]
  rcases e3 with ⟨e3, _⟩ | ⟨_, e3⟩
  · exact absurd e3 (hw 16 (by omega))
  obtain ⟨μ4, w1, w2, w3⟩ := c_fail N (f := 1) hc
  have b5 := mB_ne e3 (by omega)
  rw [number_bad b5, z_bn_sm, z_bd_eq, hc.2.1.2.2.2.2.1, hkd, z_bn_sm, if_pos rfl, show f_X10_fail N (1 : Int32) μ = some (0, μ4) from w1, z_bn_sm, z_zb_0]
  exact ⟨some ((), z_setI ν2 292 1 0), rfl, Or.inr ⟨1, q, μ4, _, rfl, rfl, w2.s, e2.s.tr (sFm.set _ _ (by omega)), w3, ⟨by rw [sI_1, if_neg (by omega)]; exact e3.1, by rw [sI_1, if_neg (by omega)]; exact e3.2⟩, by omega, by omega⟩⟩
theorem sm_all {N : Nat} (hN : 1700 ≤ N) {t : Nat → Nat} {n s q : Nat} {g : Bool} {h : aH} {cd sz : Nat} {tl : Nat → Nat} {μ ν : z_S} (H : HS t n s q g h cd sz tl μ ν) (hs : s < 80) (hA : mA t n q g ν) (h52 : ν.1 253 52 = nI s) : ∃ Y0, f_X12_statementTold N ν = z_bn Y0 (fun _ ν' => f_X12_statementTold_B222 N ν') ∧ cRes t n s q μ ν (f_X3_statement N μ) Y0 := by
  by_cases c0 : tkW t n q g = nI 0
  · exact sm_letter hN H hs hA h52 c0
  by_cases c4 : tkW t n q g = nI 4
  · exact sm_gift hN H hs hA h52 c4
  by_cases c9 : tkW t n q g = nI 9
  · exact sm_helper hN H hs hA h52 c9
  by_cases c7 : tkW t n q g = nI 7
  · exact sm_near hN H hs hA h52 c7
  by_cases c8 : tkW t n q g = nI 8
  · exact sm_like hN H hs hA h52 c8
  by_cases c13 : tkW t n q g = nI 13
  · exact sm_takes hN H hs hA h52 c13
  by_cases c14 : tkW t n q g = nI 14
  · exact sm_warm hN H hs hA h52 c14
  by_cases c6 : tkW t n q g = nI 6
  · exact sm_wish hN H hs hA h52 c6
  by_cases c15 : tkW t n q g = nI 15
  · exact sm_missed hN H hs hA h52 c15
  by_cases c16 : tkW t n q g = nI 16
  · exact sm_cold hN H hs hA h52 c16
  exact sm_none hN H hs hA h52 fun k hk => by rcases hk with rfl | rfl | rfl | rfl | rfl | rfl | rfl | rfl | rfl | rfl <;> assumption
