/-! a wish, a setting told -/
theorem oneBad0 {h : aH} (ok : okH h) {N k : Nat} (hN : 1700 ≤ N) (hk : k < 3) {ν : z_S} (hn : nmM h ν) (h5 : ¬ ν.1 253 5 = 0) : f_X12_oneOf N (nI k) ν = some (0, ν) := m_oneBad ok N (by omega) hk hn h5
theorem st_wish {N : Nat} (hN : 1700 ≤ N) {t : Nat → Nat} {n s q : Nat} {g : Bool} {h : aH} {cd sz : Nat} {tl : Nat → Nat} {μ ν : z_S} (H : HS t n s q g h cd sz tl μ ν) (hs : s < 80) : cRes t n s q μ ν (z_bn (f_X3_wishContent N μ) fun x3 μ_4 => f_X3_statement_B259 N (7 : Int32) x3 μ_4) (f_X12_wishTold N ν) := by
  obtain ⟨ok, hc, hm, hk, hmk, htl, hcd, hsz⟩ := H
  obtain ⟨o, ho⟩ : ∃ o, o = z_hn μ.2.2.2 := ⟨_, rfl⟩
  have h56 : 56 ≤ o := ho ▸ hn56 _
  have q8 := ok.1
  have q4 := ok.2.1
  rw [← ho] at hk
  unfold f_X3_wishContent f_X12_wishTold
  obtain ⟨x, y, μ1, ν1, r1, r2, r3, r3b, r4⟩ := j_take ok N hN hc hm (k := 0) (by rw [← ho]; exact hk.nm) hmk.nm (by omega)
  have r1' : f_X3_takeName N (0 : Int32) μ = some (x, μ1) := r1
  have r2' : f_X12_oneOf N (0 : Int32) ν = some (y, ν1) := r2
  rw [r1', z_bn_sm, r2', z_bn_sm]
  rcases r4 with ⟨l, q1, g1, a1, a2, a3, a4, a5, a6⟩ | ⟨f, p, a1, a2, a3, a4, a5⟩
  rotate_left
  · have b5 := mB_ne a5 ⟨a1, a2⟩
    rw [if_pos a3]
    unfold f_X3_wishContent_B20
    rw [if_pos rfl]
    unfold f_X3_wishContent_B40
    rw [if_pos rfl, z_bn_sm]
    rw [show f_X12_oneOf N (1 : Int32) ν1 = _ from oneBad0 ok (k := 1) hN (by omega) (r3b.nmM hmk.nm) b5, z_bn_sm, number_bad b5, z_bn_sm, if_neg b5]
    exact st_bad (K := 7) (by omega) ⟨a1, a2⟩ r3.s r3b.s a4 a5
  have e1 : z_hn μ1.2.2.2 = o := by rw [r3.1]; exact ho.symm
  rw [if_neg (show ¬ x = -1 by rw [a2]; exact nI_nm1 (by omega))]
  have nc1 : nmC o h μ1 := ⟨fun k hk2 => by rw [r3.2 _ _ (by omega)]; exact hk.nm.1 k hk2, fun k hk2 i hi => by rw [r3.2 _ _ (by omega)]; exact hk.nm.2 k hk2 i hi⟩
  obtain ⟨x2, y2, μ2, ν2, s1, s2, s3, s3b, s4⟩ := j_take ok N hN a4 a5 (k := 1) (by rw [e1]; exact nc1) (r3b.nmM hmk.nm) (by omega)
  have s1' : f_X3_takeName N (1 : Int32) μ1 = some (x2, μ2) := s1
  have s2' : f_X12_oneOf N (1 : Int32) ν1 = some (y2, ν2) := s2
  rw [s1', z_bn_sm, s2', z_bn_sm]
  unfold f_X3_wishContent_B20
  rcases s4 with ⟨w, q2, g2, c1, c2, c3, c4, c5, c6⟩ | ⟨f, p, c1, c2, c3, c4, c5⟩
  rotate_left
  · have b5 := mB_ne c5 ⟨c1, c2⟩
    rw [if_pos c3]
    unfold f_X3_wishContent_B40
    rw [if_pos rfl, z_bn_sm, number_bad b5, z_bn_sm, if_neg b5]
    exact st_bad (K := 7) (by omega) ⟨c1, c2⟩ (r3.tr s3).s (r3b.tr s3b).s c4 c5
  rw [if_neg (show ¬ x2 = -1 by rw [c2]; exact nI_nm1 (by omega))]
  obtain ⟨x3, y3, μ3, ν3, t1, t2, t3, t3b, t4⟩ := j_num N hN c4 c5 (a := 1) (b := 9) (by omega) (by omega)
  have t1' : f_X10_takeNumber N (1 : Int32) (9 : Int32) μ2 = some (x3, μ3) := t1
  have t2' : f_X12_number N (1 : Int32) (9 : Int32) ν2 = some (y3, ν3) := t2
  rw [t1', z_bn_sm, t2', z_bn_sm]
  unfold f_X3_wishContent_B40
  rcases t4 with ⟨v, q3, g3, d1, d2, d3, d4, d5, d6, d7⟩ | ⟨f, p, d1, d2, d3, d4, d5⟩
  rotate_left
  · have b5 := mB_ne d5 ⟨d1, d2⟩
    rw [if_pos d3, z_bn_sm, if_neg b5]
    exact st_bad (K := 7) (by omega) ⟨d1, d2⟩ ((r3.tr s3).tr t3).s ((r3b.tr s3b).tr t3b).s d4 d5
  have u := (r3.tr s3).tr t3
  have fy := (r3b.tr s3b).tr t3b
  have e3 : z_hn μ3.2.2.2 = o := by rw [u.1]; exact ho.symm
  rw [if_neg (show ¬ x3 = -1 by rw [d3]; exact nI_nm1 (by omega)), a2, c2, d3, a3, c3, d4, z_in_nI (show l < 8 by omega) (by decide), z_in_nI (show w < 4 by omega) (by decide), nI_toNat (show l < 2 ^ 31 by omega), nI_toNat (show w < 2 ^ 31 by omega), z_bd_eq, z_bn_sm, e3, if_pos d6.2.1]
  rw [show (4 : Int32) * nI l + nI w = nI (4 * l + w) from by rw [show (4 : Int32) = nI 4 from rfl, pk_mul, nI_add], z_in_nI (show 4 * l + w < 64 by omega) (by decide), nI_toNat (by omega), z_bd_eq]
  obtain ⟨μ4, hμ4⟩ : ∃ μ4, μ4 = z_setI μ3 (o + 11 + l) w (nI v) := ⟨_, rfl⟩
  rw [← hμ4]
  have e4 : z_hn μ4.2.2.2 = o := by rw [hμ4]; exact e3
  have hb := b259 (N := N) (K := 7) (x := 1) (μ := μ4) (by omega) (Or.inr rfl)
  rw [e4] at hb
  have hb' : f_X3_statement_B259 N (7 : Int32) 1 μ4 = _ := hb
  rw [hb']
  have T : ∀ c j, ¬ (c = 1 ∧ 2 ≤ j ∧ j ≤ 9) → ¬ (c = o + 11 + l ∧ j = w) → μ4.1 c j = μ.1 c j := fun c j z1 z2 => by
    rw [hμ4, sI_1, if_neg z2, u.2 c j (by omega)]
  have t7 : tl 7 ≤ s := htl 7
  have m4 : μ4.1 (o + 1) 7 + 1 = nI (tl 7 + 1) := by rw [T _ _ (by omega) (by omega), hk.2.2.2.1 7 (by omega), nI_1]
  rw [m4]
  refine Or.inl ⟨hWs h l w v, q3, g3, cd, sz, bmp tl 7, z_setI μ4 (o + 1) 7 (nI (tl 7 + 1)), _, rfl, rfl, ?_, ?_, ⟨okH_ws ok a1 c1 d2, cG_set (by rw [hμ4]; exact cG_set d5 (by omega) _ _) (by omega) _ _, ?_, ?_, ?_, bmp_le htl, by omega, by omega⟩, by omega⟩
  · rw [← ho, hμ4]; exact (u.s.tr (sFc.set μ3 _ _ (by omega))).tr (sFc.set _ _ _ (by omega))
  · exact fy.s.tr (sFm.set _ _ (by omega))
  · exact mG_set d6 fun a j z => by rw [sI_1, if_neg (by omega)]
  · have e5 : z_hn (z_setI μ4 (o + 1) 7 (nI (tl 7 + 1))).2.2.2 = o := e4
    rw [e5]
    refine cK_bump hk (cH_ws ok hk.1 (by omega) ?_ (fun c j z1 z2 z3 z4 => ?_)) (by omega) (by omega) (by omega) (by omega) ?_ ?_ ?_ ?_ (fun k hk5 => by rw [if_neg (by omega)]; rfl) rfl
    · rw [sI_1, if_neg (by omega), hμ4, sI_1, if_pos ⟨rfl, rfl⟩]
    · rw [sI_1, if_neg (by omega), T _ _ (by omega) (by omega)]
    · rw [sI_1, if_pos ⟨rfl, rfl⟩]
    · intro k hk1 hk2
      rw [sI_1, if_neg (by omega), T _ _ (by omega) (by omega)]
    · rw [sI_1, if_neg (by omega), T _ _ (by omega) (by omega)]
    · intro f hf
      rw [sI_1, if_neg (by omega), T _ _ (by omega) (by omega)]
  · refine mK_ws ok hmk (by omega) ?_ ?_ ?_
    · rw [sI_1, if_pos ⟨rfl, rfl⟩]
    · intro c j z1 z2
      rw [sI_1, if_neg (by omega)]
      exact fy.2 _ _ (by omega)
    · rw [sI_21, fy.1]
