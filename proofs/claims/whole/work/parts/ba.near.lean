/-! a pair told near -/
theorem c_bad45 {t : Nat → Nat} {n q : Nat} {g : Bool} (N : Nat) {μ : z_S} (h : cG t n q g μ) : ∃ μ', f_X3_nearContent_B45 N μ = some (0, μ') ∧ uFr μ μ' ∧ cB 3 q μ' := by
  obtain ⟨μ', r1, r2, r3⟩ := c_fail N (f := 3) h
  refine ⟨μ', ?_, r2, r3⟩
  unfold f_X3_nearContent_B45
  rw [show f_X10_fail N (3 : Int32) μ = some (0, μ') from r1, z_bn_sm, z_zb_0]
theorem st_near {N : Nat} (hN : 1700 ≤ N) {t : Nat → Nat} {n s q : Nat} {g : Bool} {h : aH} {cd sz : Nat} {tl : Nat → Nat} {μ ν : z_S} (H : HS t n s q g h cd sz tl μ ν) (hs : s < 80) (hlt : hCnt h 3 < 20) (b : Int32) : cRes t n s q μ ν (z_bn (f_X3_nearContent N μ) fun x3 μ_4 => f_X3_statement_B259 N (3 : Int32) x3 μ_4) (f_X12_nearTold N b ν) := by
  obtain ⟨ok, hc, hm, hk, hmk, htl, hcd, hsz⟩ := H
  obtain ⟨o, ho⟩ : ∃ o, o = z_hn μ.2.2.2 := ⟨_, rfl⟩
  have h56 : 56 ≤ o := ho ▸ hn56 _
  have ko : z_kw true o = (2, 0) := by rw [ho]; exact z_hn_k _
  have q8 := ok.1
  rw [← ho] at hk
  have ht0 : tl 3 = hCnt h 3 := hk.2.2.2.2.1 3 (by omega)
  unfold f_X3_nearContent f_X12_nearTold
  rw [show f_X12_isFull N (3 : Int32) (20 : Int32) b ν = some (0, ν) from m_room (K := 3) (r := 20) (c := hCnt h 3) (by omega) (by omega) (by omega) (by omega) hm.2.1 (hmk.1 3 (by omega)) b, z_bn_sm, if_pos rfl]
  obtain ⟨x, y, μ1, ν1, r1, r2, r3, r3b, r4⟩ := j_take ok N hN hc hm (k := 0) (by rw [← ho]; exact hk.nm) hmk.nm (by omega)
  have r1' : f_X3_takeName N (0 : Int32) μ = some (x, μ1) := r1
  have r2' : f_X12_oneOf N (0 : Int32) ν = some (y, ν1) := r2
  rw [r1', z_bn_sm, r2', z_bn_sm]
  rcases r4 with ⟨l, q1, g1, a1, a2, a3, a4, a5, a6⟩ | ⟨f, p, a1, a2, a3, a4, a5⟩
  rotate_left
  · have b5 := mB_ne a5 ⟨a1, a2⟩
    rw [if_pos a3]
    unfold f_X3_nearContent_B20
    rw [if_pos rfl, z_bn_sm]
    rw [show f_X12_oneOf N (0 : Int32) ν1 = _ from oneBad0 ok (k := 0) hN (by omega) (r3b.nmM hmk.nm) b5, z_bn_sm, if_neg b5]
    unfold f_X12_nearTold_B59
    rw [if_neg b5]
    exact st_bad (K := 3) (by omega) ⟨a1, a2⟩ r3.s r3b.s a4 a5
  have e1 : z_hn μ1.2.2.2 = o := by rw [r3.1]; exact ho.symm
  rw [if_neg (show ¬ x = -1 by rw [a2]; exact nI_nm1 (by omega))]
  have nc1 : nmC o h μ1 := ⟨fun k hk2 => by rw [r3.2 _ _ (by omega)]; exact hk.nm.1 k hk2, fun k hk2 i hi => by rw [r3.2 _ _ (by omega)]; exact hk.nm.2 k hk2 i hi⟩
  obtain ⟨x2, y2, μ2, ν2, s1, s2, s3, s3b, s4⟩ := j_known ok N hN a4 a5 (k := 0) (by rw [e1]; exact nc1) (r3b.nmM hmk.nm) (by omega)
  have s1' : f_X3_knownHere N (0 : Int32) μ1 = some (x2, μ2) := s1
  have s2' : f_X12_oneOf N (0 : Int32) ν1 = some (y2, ν2) := s2
  rw [s1', z_bn_sm, s2', z_bn_sm]
  unfold f_X3_nearContent_B20
  have fy := r3b.tr s3b
  rcases s4 with ⟨w, c1, c2, c3, c4, c5, c6, c7⟩ | ⟨f, p, c1, c2, c3, c4, c5⟩
  rotate_left
  · have b5 := mB_ne c5 ⟨c1, c2⟩
    rw [if_pos c3, z_bn_sm, if_neg b5]
    unfold f_X12_nearTold_B59
    rw [if_neg b5]
    exact st_bad (K := 3) (by omega) ⟨c1, c2⟩ (r3.tr s3).s fy.s c4 c5
  subst c4
  rw [if_neg (show ¬ x2 = -1 by rw [c2]; exact nI_nm1 (by omega)), if_pos c5.2.1, a2, c2, a3, c3]
  have nb : ∃ μ3 ν3, f_X3_nearContent_B45 N μ2 = some (0, μ3) ∧ f_X12_nearTold_B50 N (nI l) (nI w) ν2 = some ((), ν3) ∧ sFc o μ μ3 ∧ sFm ν ν3 ∧ cB 3 q1 μ3 ∧ mB 3 q1 ν3 := by
    obtain ⟨μ3, v1, v2, v3⟩ := c_bad45 N a4
    obtain ⟨ν3, w1, w2, w3⟩ := m_failAt N 3 q1 c5.2.1
    refine ⟨μ3, ν3, v1, ?_, (r3.tr v2).s, (fy.tr w2).s, v3, w3⟩
    unfold f_X12_nearTold_B50
    rw [c6, show f_X12_fail N (3 : Int32) (nI q1) ν2 = some ((), ν3) from w1, z_bn_sm]
    unfold f_X12_nearTold_B59
    rw [if_neg (mB_ne w3 (by omega))]
  by_cases lw : l = w
  · obtain ⟨μ3, ν3, v1, v2, v3, v4, v5, v6⟩ := nb
    rw [if_pos (show nI l = nI w by rw [lw]), if_pos (show nI l = nI w by rw [lw]), v1, z_bn_sm, v2]
    rw [ho] at v3
    exact st_bad (K := 3) (by omega) (by omega) v3 v4 v5 v6
  have hlw : ¬ nI l = nI w := nI_ne (by omega) (by omega) lw rfl
  rw [if_neg hlw, if_neg hlw, e1]
  have hch1 : cH o h μ2 := by
    have : ∀ c j, o ≤ c → μ2.1 c j = μ.1 c j := fun c j z => r3.2 _ _ (by omega)
    obtain ⟨p1, p2, p3, p4, p5, p6, p7, p8, p9, p10, p11⟩ := hk.1
    refine ⟨fun k hk => by rw [this _ _ (by omega)]; exact p1 k hk, fun k hk i hi => by rw [this _ _ (by omega)]; exact p2 k hk i hi, fun i hi => by rw [this _ _ (by omega), this _ _ (by omega), this _ _ (by omega)]; exact p3 i hi, fun i hi => by rw [this _ _ (by omega)]; exact p4 i hi, fun i hi j hj => by rw [this _ _ (by omega)]; exact p5 i hi j hj, fun i hi j hj => by rw [this _ _ (by omega)]; exact p6 i hi j hj, fun i hi => by rw [this _ _ (by omega)]; exact p7 i hi, fun i hi => by rw [this _ _ (by omega), this _ _ (by omega), this _ _ (by omega)]; exact p8 i hi, by rw [this _ _ (by omega)]; exact p9, by rw [this _ _ (by omega)]; exact p10, fun f hf => ?_⟩
    obtain ⟨x, y, z1, z2, z3, z4, z5⟩ := p11 f hf
    exact ⟨x, y, by rw [this _ _ (by omega)]; exact z1, by rw [this _ _ (by omega)]; exact z2, z3, z4, fun k c hkc => by rw [this _ _ (by omega)]; exact z5 k c hkc⟩
  rw [c_near ko hch1 N (show l < 8 by omega) (show w < 8 by omega), z_bn_sm, z_in_nI (show l < 16 by omega) (by decide), nI_toNat (show l < 2 ^ 31 by omega)]
  have n289 : ∀ k, k < 8 → ν2.1 289 k = nI (nearB h k) := fun k hk8 => by rw [fy.2 _ _ (by omega)]; exact hmk.2.2.2.1 k hk8
  rw [n289 l (by omega)]
  by_cases nr : hNear h l w = true
  · obtain ⟨μ3, ν3, v1, v2, v3, v4, v5, v6⟩ := nb
    rw [if_pos nr, if_neg (show ¬ (1 : Int32) = 0 by decide), if_pos ((near_bit h l (by omega)).mpr nr), v1, z_bn_sm, v2]
    rw [ho] at v3
    exact st_bad (K := 3) (by omega) (by omega) v3 v4 v5 v6
  rw [if_neg nr, if_pos rfl, if_neg (fun z => nr ((near_bit h l (by omega)).mp z))]
  obtain ⟨μ3, v1, v2, v3⟩ := c_next N hN a4
  rw [v1, z_bn_sm, z_in_nI (show l < 8 by omega) (by decide), z_in_nI (show l < 8 by omega) (by decide), z_bd_eq]
  have u := r3.tr v2
  have e3 : z_hn μ3.2.2.2 = o := by rw [u.1]; exact ho.symm
  rw [e3, u.2 _ _ (by omega), hk.1.2.2.2.1 l (by omega), near_a (h := h) lw (by omega)]
  rw [z_in_nI (show w < 8 by omega) (by decide), z_in_nI (show w < 8 by omega) (by decide), nI_toNat (show w < 2 ^ 31 by omega), z_bd_eq, z_bn_sm]
  rw [show z_hn (z_setI μ3 (o + 9) l (nI (nearB (hNr h l w) l))).2.2.2 = o from e3, sI_1, if_neg (by omega), u.2 _ _ (by omega), hk.1.2.2.2.1 w (by omega), near_b (h := h) lw (by omega)]
  unfold f_X12_nearTold_B59
  rw [if_pos c5.2.1, z_in_nI (show l < 16 by omega) (by decide), z_in_nI (show l < 16 by omega) (by decide), nI_toNat (show l < 2 ^ 31 by omega), z_bd_eq, n289 l (by omega), near_a (h := h) lw (by omega), z_in_nI (show w < 16 by omega) (by decide), z_in_nI (show w < 16 by omega) (by decide), nI_toNat (show w < 2 ^ 31 by omega), z_bd_eq, sI_1, if_neg (by omega), n289 w (by omega), near_b (h := h) lw (by omega), z_bd_eq, sI_1, if_neg (by omega), sI_1, if_neg (by omega), show ν2.1 284 3 = nI (hCnt h 3) from by rw [fy.2 _ _ (by omega)]; exact hmk.1 3 (by omega), nI_1]
  obtain ⟨μ4, hμ4⟩ : ∃ μ4, μ4 = z_setI (z_setI μ3 (o + 9) l (nI (nearB (hNr h l w) l))) (o + 9) w (nI (nearB (hNr h l w) w)) := ⟨_, rfl⟩
  rw [← hμ4]
  have e4 : z_hn μ4.2.2.2 = o := by rw [hμ4]; exact e3
  have hb := b259 (N := N) (K := 3) (x := 1) (μ := μ4) (by omega) (Or.inr rfl)
  rw [e4] at hb
  have hb' : f_X3_statement_B259 N (3 : Int32) 1 μ4 = _ := hb
  rw [hb']
  have T : ∀ c j, ¬ (c = 1 ∧ 2 ≤ j ∧ j ≤ 9) → ¬ (c = o + 9 ∧ (j = l ∨ j = w)) → μ4.1 c j = μ.1 c j := fun c j z1 z2 => by
    rw [hμ4, sI_1, if_neg (by omega), sI_1, if_neg (by omega), u.2 c j (by omega)]
  have m4 : μ4.1 (o + 1) 3 + 1 = nI (hCnt h 3 + 1) := by rw [T _ _ (by omega) (by omega), hk.1.1 3 (by omega), nI_1]
  rw [m4]
  refine Or.inl ⟨hNr h l w, _, _, cd, sz, bmp tl 3, z_setI μ4 (o + 1) 3 (nI (hCnt h 3 + 1)), _, rfl, rfl, ?_, ?_, ⟨okH_nr ok hlt a1 c1 lw, cG_set (by rw [hμ4]; exact cG_set (cG_set v3 (by omega) _ _) (by omega) _ _) (by omega) _ _, ?_, ?_, ?_, bmp_le htl, by omega, by omega⟩, by omega⟩
  · rw [← ho, hμ4]; exact ((u.s.tr (sFc.set μ3 _ _ (by omega))).tr (sFc.set _ _ _ (by omega))).tr (sFc.set _ _ _ (by omega))
  · exact fy.s.tr ((sFm.set _ _ (by omega)).tr ((sFm.set _ _ (by omega)).tr (sFm.set _ _ (by omega))))
  · exact mG_set c5 fun a j z => by rw [sI_1, if_neg (by omega), sI_1, if_neg (by omega), sI_1, if_neg (by omega)]
  · have e5 : z_hn (z_setI μ4 (o + 1) 3 (nI (hCnt h 3 + 1))).2.2.2 = o := e4
    rw [e5]
    refine cK_bump hk (cH_nr ok hk.1 lw ?_ ?_ ?_ (fun c j z1 z2 z3 z4 => ?_)) (by omega) (by omega) (by omega) (by have := htl 3; omega) ?_ ?_ ?_ ?_ (fun _ _ => rfl) rfl
    · rw [sI_1, if_pos ⟨rfl, rfl⟩]
    · rw [sI_1, if_neg (by omega), hμ4, sI_1, if_neg (by omega), sI_1, if_pos ⟨rfl, rfl⟩]
    · rw [sI_1, if_neg (by omega), hμ4, sI_1, if_pos ⟨rfl, rfl⟩]
    · rw [sI_1, if_neg (by omega), T _ _ (by omega) (by omega)]
    · rw [ht0, sI_1, if_pos ⟨rfl, rfl⟩]
    · intro k hk1 hk2
      rw [sI_1, if_neg (by omega), T _ _ (by omega) (by omega)]
    · rw [sI_1, if_neg (by omega), T _ _ (by omega) (by omega)]
    · intro f hf
      rw [sI_1, if_neg (by omega), T _ _ (by omega) (by omega)]
  · refine mK_nr ok hmk lw ?_ ?_ ?_ ?_ ?_
    · rw [sI_1, if_pos ⟨rfl, rfl⟩]
    · rw [sI_1, if_neg (by omega), sI_1, if_neg (by omega), sI_1, if_pos ⟨rfl, rfl⟩]
    · rw [sI_1, if_neg (by omega), sI_1, if_pos ⟨rfl, rfl⟩]
    · intro c j z1 z2 z3
      rw [sI_1, if_neg (by omega), sI_1, if_neg (by omega), sI_1, if_neg (by omega)]
      exact fy.2 _ _ (by omega)
    · rw [sI_21, sI_21, sI_21, fy.1]
