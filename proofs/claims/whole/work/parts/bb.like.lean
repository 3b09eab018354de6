/-! a pair told alike -/
theorem c_bad48 {t : Nat → Nat} {n q : Nat} {g : Bool} (N : Nat) {μ : z_S} (h : cG t n q g μ) : ∃ μ', f_X3_likeContent_B48 N μ = some (0, μ') ∧ uFr μ μ' ∧ cB 3 q μ' := by
  obtain ⟨μ', r1, r2, r3⟩ := c_fail N (f := 3) h
  refine ⟨μ', ?_, r2, r3⟩
  unfold f_X3_likeContent_B48
  rw [show f_X10_fail N (3 : Int32) μ = some (0, μ') from r1, z_bn_sm, z_zb_0]
theorem st_like {N : Nat} (hN : 1700 ≤ N) {t : Nat → Nat} {n s q : Nat} {g : Bool} {h : aH} {cd sz : Nat} {tl : Nat → Nat} {μ ν : z_S} (H : HS t n s q g h cd sz tl μ ν) (hs : s < 80) (hlt : hCnt h 4 < 10) (b : Int32) : cRes t n s q μ ν (z_bn (f_X3_likeContent N μ) fun x3 μ_4 => f_X3_statement_B259 N (4 : Int32) x3 μ_4) (f_X12_likeTold N b ν) := by
  obtain ⟨ok, hc, hm, hk, hmk, htl, hcd, hsz⟩ := H
  obtain ⟨o, ho⟩ : ∃ o, o = z_hn μ.2.2.2 := ⟨_, rfl⟩
  have h56 : 56 ≤ o := ho ▸ hn56 _
  have q8 := ok.1
  have q11 := ok.2.2.2.2.2.2.2.2.2.2.2.2.1
  rw [← ho] at hk
  have ht0 : tl 4 = hCnt h 4 := hk.2.2.2.2.1 4 (by omega)
  unfold f_X3_likeContent f_X12_likeTold
  rw [show f_X12_isFull N (4 : Int32) (10 : Int32) b ν = some (0, ν) from m_room (K := 4) (r := 10) (c := hCnt h 4) (by omega) (by omega) (by omega) (by omega) hm.2.1 (hmk.1 4 (by omega)) b, z_bn_sm, if_pos rfl]
  obtain ⟨x, y, μ1, ν1, r1, r2, r3, r3b, r4⟩ := j_take ok N hN hc hm (k := 0) (by rw [← ho]; exact hk.nm) hmk.nm (by omega)
  have r1' : f_X3_takeName N (0 : Int32) μ = some (x, μ1) := r1
  have r2' : f_X12_oneOf N (0 : Int32) ν = some (y, ν1) := r2
  rw [r1', z_bn_sm, r2', z_bn_sm]
  have b59 : ∀ (ν' : z_S) (v w : Int32), ¬ ν'.1 253 5 = 0 → f_X12_likeTold_B59 N v w ν' = some ((), ν') := fun ν' v w b5 => by
    unfold f_X12_likeTold_B59
    rw [number_bad b5, z_bn_sm, if_neg b5]
  rcases r4 with ⟨l, q1, g1, a1, a2, a3, a4, a5, a6⟩ | ⟨f, p, a1, a2, a3, a4, a5⟩
  rotate_left
  · have b5 := mB_ne a5 ⟨a1, a2⟩
    rw [if_pos a3]
    unfold f_X3_likeContent_B20
    rw [if_pos rfl, z_bn_sm]
    rw [show f_X12_oneOf N (0 : Int32) ν1 = _ from oneBad0 ok (k := 0) hN (by omega) (r3b.nmM hmk.nm) b5, z_bn_sm, if_neg b5, b59 _ _ _ b5]
    exact st_bad (K := 4) (by omega) ⟨a1, a2⟩ r3.s r3b.s a4 a5
  have e1 : z_hn μ1.2.2.2 = o := by rw [r3.1]; exact ho.symm
  rw [if_neg (show ¬ x = -1 by rw [a2]; exact nI_nm1 (by omega))]
  have nc1 : nmC o h μ1 := ⟨fun k hk2 => by rw [r3.2 _ _ (by omega)]; exact hk.nm.1 k hk2, fun k hk2 i hi => by rw [r3.2 _ _ (by omega)]; exact hk.nm.2 k hk2 i hi⟩
  obtain ⟨x2, y2, μ2, ν2, s1, s2, s3, s3b, s4⟩ := j_known ok N hN a4 a5 (k := 0) (by rw [e1]; exact nc1) (r3b.nmM hmk.nm) (by omega)
  have s1' : f_X3_knownHere N (0 : Int32) μ1 = some (x2, μ2) := s1
  have s2' : f_X12_oneOf N (0 : Int32) ν1 = some (y2, ν2) := s2
  rw [s1', z_bn_sm, s2', z_bn_sm]
  unfold f_X3_likeContent_B20
  have fy := r3b.tr s3b
  rcases s4 with ⟨w, c1, c2, c3, c4, c5, c6, c7⟩ | ⟨f, p, c1, c2, c3, c4, c5⟩
  rotate_left
  · have b5 := mB_ne c5 ⟨c1, c2⟩
    rw [if_pos c3, z_bn_sm, if_neg b5, b59 _ _ _ b5]
    exact st_bad (K := 4) (by omega) ⟨c1, c2⟩ (r3.tr s3).s fy.s c4 c5
  subst c4
  rw [if_neg (show ¬ x2 = -1 by rw [c2]; exact nI_nm1 (by omega)), if_pos c5.2.1, a2, c2, a3, c3]
  have nb : ∃ μ3 ν3, f_X3_likeContent_B48 N μ2 = some (0, μ3) ∧ f_X12_likeTold_B50 N (nI l) (nI w) ν2 = some ((), ν3) ∧ sFc o μ μ3 ∧ sFm ν ν3 ∧ cB 3 q1 μ3 ∧ mB 3 q1 ν3 := by
    obtain ⟨μ3, v1, v2, v3⟩ := c_bad48 N a4
    obtain ⟨ν3, w1, w2, w3⟩ := m_failAt N 3 q1 c5.2.1
    refine ⟨μ3, ν3, v1, ?_, (r3.tr v2).s, (fy.tr w2).s, v3, w3⟩
    unfold f_X12_likeTold_B50
    rw [c6, show f_X12_fail N (3 : Int32) (nI q1) ν2 = some ((), ν3) from w1, z_bn_sm, b59 _ _ _ (mB_ne w3 (by omega))]
  by_cases lw : l = w
  · obtain ⟨μ3, ν3, v1, v2, v3, v4, v5, v6⟩ := nb
    rw [if_pos (show nI l = nI w by rw [lw]), if_pos (show nI l = nI w by rw [lw]), v1, z_bn_sm, v2]
    rw [ho] at v3
    exact st_bad (K := 4) (by omega) (by omega) v3 v4 v5 v6
  have hlw : ¬ nI l = nI w := nI_ne (by omega) (by omega) lw rfl
  have ix : ∀ a b : Nat, (8 : Int32) * nI a + nI b = nI (8 * a + b) := fun a b => by rw [show (8 : Int32) = nI 8 from rfl, pk_mul, nI_add]
  rw [if_neg hlw, if_neg hlw, e1, z_in_nI (show l < 8 by omega) (by decide), z_in_nI (show w < 8 by omega) (by decide), nI_toNat (show l < 2 ^ 31 by omega), nI_toNat (show w < 2 ^ 31 by omega), r3.2 _ _ (by omega), hk.1.2.2.2.2.2.1 l (by omega) w (by omega), ix, z_in_nI (show 8 * l + w < 128 by omega) (by decide), nI_toNat (by omega), show ν2.1 290 (8 * l + w) = nI (hOdds h l w) from by rw [fy.2 _ _ (by omega)]; exact hmk.2.2.2.2.2.1 l (by omega) w (by omega)]
  by_cases od : hOdds h l w = 0
  rotate_left
  · obtain ⟨μ3, ν3, v1, v2, v3, v4, v5, v6⟩ := nb
    have hod := q11 l w
    rw [if_neg (show ¬ nI (hOdds h l w) - 1 = (-1 : Int32) from fun z => od (by
      have e : nI (hOdds h l w) = nI 0 := by
        have := congrArg (· + (1 : Int32)) z
        simp only [Int32.sub_add_cancel] at this
        exact this
      exact (nI_eq (by omega) (by omega)).mp e)), if_pos (show (0 : Int32) < nI (hOdds h l w) from nI_lt (a := 0) (by omega) (by omega)), v1, z_bn_sm, v2]
    rw [ho] at v3
    exact st_bad (K := 4) (by omega) (by omega) v3 v4 v5 v6
  rw [od, if_pos (show nI 0 - 1 = (-1 : Int32) by decide), if_neg (show ¬ (0 : Int32) < nI 0 by decide)]
  obtain ⟨μ3, v1, v2, v3⟩ := c_next N hN a4
  rw [v1, z_bn_sm]
  have u0 := r3.tr v2
  unfold f_X12_likeTold_B59
  obtain ⟨x3, y3, μ4, ν4, t1, t2, t3, t3b, t4⟩ := j_num N hN v3 c5 (a := 0) (b := 10) (by omega) (by omega)
  have t1' : f_X10_takeNumber N (0 : Int32) (10 : Int32) μ3 = some (x3, μ4) := t1
  have t2' : f_X12_number N (0 : Int32) (10 : Int32) ν2 = some (y3, ν4) := t2
  have u := u0.tr t3
  have fz := fy.tr t3b
  have e4 : z_hn μ4.2.2.2 = o := by rw [u.1]; exact ho.symm
  rw [t1', z_bn_sm, t2', z_bn_sm, z_in_nI (show l < 8 by omega) (by decide), z_in_nI (show w < 8 by omega) (by decide), z_bd_eq, z_in_nI (show w < 8 by omega) (by decide), z_in_nI (show l < 8 by omega) (by decide), z_bd_eq, e4, show z_hn (z_setI μ4 (o + 20 + l) w x3).2.2.2 = o from e4]
  obtain ⟨μ5, hμ5⟩ : ∃ μ5, μ5 = z_setI (z_setI μ4 (o + 20 + l) w x3) (o + 20 + w) l x3 := ⟨_, rfl⟩
  rw [← hμ5]
  have e5 : z_hn μ5.2.2.2 = o := by rw [hμ5]; exact e4
  have fc5 : sFc o μ μ5 := by rw [hμ5]; exact (u.s.tr (sFc.set μ4 _ _ (by omega))).tr (sFc.set _ _ _ (by omega))
  rcases t4 with ⟨v, q3, g3, d1, d2, d3, d4, d5, d6, d7⟩ | ⟨f, p, d1, d2, d3, d4, d5⟩
  rotate_left
  · rw [if_pos d3, z_bn_sm, if_neg (mB_ne d5 ⟨d1, d2⟩)]
    rw [ho] at fc5
    exact st_bad (K := 4) (by omega) ⟨d1, d2⟩ fc5 fz.s (by rw [hμ5]; exact ⟨by rw [sI_1, if_neg (by omega), sI_1, if_neg (by omega)]; exact d4.1, by rw [sI_1, if_neg (by omega), sI_1, if_neg (by omega)]; exact d4.2⟩) d5
  rw [if_neg (show ¬ x3 = -1 by rw [d3]; exact nI_nm1 (by omega)), z_bn_sm, if_pos d6.2.1, ix, ix, z_in_nI (show 8 * l + w < 128 by omega) (by decide), z_bd_eq, z_in_nI (show 8 * w + l < 128 by omega) (by decide), z_bd_eq, z_bd_eq, nI_toNat (show 8 * l + w < 2 ^ 31 by omega), nI_toNat (show 8 * w + l < 2 ^ 31 by omega), d4, nI_1, sI_1, if_neg (by omega), sI_1, if_neg (by omega), show ν4.1 284 4 = nI (hCnt h 4) from by rw [fz.2 _ _ (by omega)]; exact hmk.1 4 (by omega), nI_1]
  have hb := b259 (N := N) (K := 4) (x := 1) (μ := μ5) (by omega) (Or.inr rfl)
  rw [e5] at hb
  have hb' : f_X3_statement_B259 N (4 : Int32) 1 μ5 = _ := hb
  rw [hb']
  have T : ∀ c j, ¬ (c = 1 ∧ 2 ≤ j ∧ j ≤ 9) → ¬ (c = o + 20 + l ∧ j = w) → ¬ (c = o + 20 + w ∧ j = l) → μ5.1 c j = μ.1 c j := fun c j z1 z2 z3 => by
    rw [hμ5, sI_1, if_neg (by omega), sI_1, if_neg (by omega), u.2 c j (by omega)]
  have m5 : μ5.1 (o + 1) 4 + 1 = nI (hCnt h 4 + 1) := by rw [T _ _ (by omega) (by omega) (by omega), hk.1.1 4 (by omega), nI_1]
  rw [m5]
  have xv : x3 = nI (v + 1) - 1 := by rw [d3, ← nI_1]; exact (Int32.add_sub_cancel _ _).symm
  refine Or.inl ⟨hLk h l w v, q3, g3, cd, sz, bmp tl 4, z_setI μ5 (o + 1) 4 (nI (hCnt h 4 + 1)), _, rfl, rfl, ?_, ?_, ⟨okH_lk ok hlt a1 c1 lw d2, cG_set (by rw [hμ5]; exact cG_set (cG_set d5 (by omega) _ _) (by omega) _ _) (by omega) _ _, ?_, ?_, ?_, bmp_le htl, by omega, by omega⟩, by omega⟩
  · rw [← ho]; exact fc5.tr (sFc.set _ _ _ (by omega))
  · exact fz.s.tr ((sFm.set _ _ (by omega)).tr ((sFm.set _ _ (by omega)).tr (sFm.set _ _ (by omega))))
  · exact mG_set d6 fun a j z => by rw [sI_1, if_neg (by omega), sI_1, if_neg (by omega), sI_1, if_neg (by omega)]
  · have e6 : z_hn (z_setI μ5 (o + 1) 4 (nI (hCnt h 4 + 1))).2.2.2 = o := e5
    rw [e6]
    refine cK_bump hk (cH_lk ok hk.1 (by omega) (by omega) ?_ ?_ ?_ (fun c j z1 z2 z3 z4 z5 => ?_)) (by omega) (by omega) (by omega) (by have := htl 4; omega) ?_ ?_ ?_ ?_ (fun _ _ => rfl) rfl
    · rw [sI_1, if_pos ⟨rfl, rfl⟩]
    · rw [sI_1, if_neg (by omega), hμ5, sI_1, if_neg (by omega), sI_1, if_pos ⟨rfl, rfl⟩]; exact xv
    · rw [sI_1, if_neg (by omega), hμ5, sI_1, if_pos ⟨rfl, rfl⟩]; exact xv
    · rw [sI_1, if_neg (by omega), T _ _ (by omega) (by omega) (by omega)]
    · rw [ht0, sI_1, if_pos ⟨rfl, rfl⟩]
    · intro k hk1 hk2
      rw [sI_1, if_neg (by omega), T _ _ (by omega) (by omega) (by omega)]
    · rw [sI_1, if_neg (by omega), T _ _ (by omega) (by omega) (by omega)]
    · intro f hf
      rw [sI_1, if_neg (by omega), T _ _ (by omega) (by omega) (by omega)]
  · refine mK_lk ok hmk (by omega) (by omega) ?_ ?_ ?_ ?_ ?_
    · rw [sI_1, if_pos ⟨rfl, rfl⟩]
    · rw [sI_1, if_neg (by omega), sI_1, if_neg (by omega), sI_1, if_pos ⟨rfl, rfl⟩]
    · rw [sI_1, if_neg (by omega), sI_1, if_pos ⟨rfl, rfl⟩]
    · intro c j z1 z2 z3
      rw [sI_1, if_neg (by omega), sI_1, if_neg (by omega), sI_1, if_neg (by omega)]
      exact fz.2 _ _ (by omega)
    · rw [sI_21, sI_21, sI_21, fz.1]
