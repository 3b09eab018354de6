/-! a letter, a helper told -/
theorem st_bad {N K : Nat} {t : Nat → Nat} {n s q f p : Nat} {μ ν μ' ν' : z_S} (hK : K < 10) (hf : 1 ≤ f ∧ f ≤ 5) (h1 : sFc (z_hn μ.2.2.2) μ μ') (h2 : sFm ν ν') (h3 : cB f p μ') (h4 : mB f p ν') : cRes t n s q μ ν (f_X3_statement_B259 N (nI K) 0 μ') (some ((), ν')) := by
  have h56 := hn56 μ.2.2.2
  have e : z_hn μ'.2.2.2 = z_hn μ.2.2.2 := by rw [h1.1]
  refine Or.inr ⟨f, p, _, ν', b259 hK (Or.inl rfl), rfl, ?_, h2, ?_, h4, hf.1, hf.2⟩
  · rw [e]; exact h1.tr (sFc.set μ' _ _ (by omega))
  · rw [e]; exact ⟨by rw [sI_1, if_neg (by omega)]; exact h3.1, by rw [sI_1, if_neg (by omega)]; exact h3.2⟩
theorem st_letter {N : Nat} (hN : 1700 ≤ N) {t : Nat → Nat} {n s q : Nat} {g : Bool} {h : aH} {cd sz : Nat} {tl : Nat → Nat} {μ ν : z_S} (H : HS t n s q g h cd sz tl μ ν) (hs : s < 80) (hlt : hCnt h 0 < 8) (b : Int32) : cRes t n s q μ ν (z_bn (f_X3_letterContent N μ) fun x3 μ_4 => f_X3_statement_B259 N (0 : Int32) x3 μ_4) (f_X12_letterTold N b ν) := by
  obtain ⟨ok, hc, hm, hk, hmk, htl, hcd, hsz⟩ := H
  obtain ⟨o, ho⟩ : ∃ o, o = z_hn μ.2.2.2 := ⟨_, rfl⟩
  have h56 : 56 ≤ o := ho ▸ hn56 _
  have k1 : z_kw true (o + 6) = (20, 8) := by rw [ho]; cases μ.2.2.2 <;> rfl
  have k2 : z_kw true (o + 7) = (20, 8) := by rw [ho]; cases μ.2.2.2 <;> rfl
  have k3 : z_kw true (o + 8) = (20, 8) := by rw [ho]; cases μ.2.2.2 <;> rfl
  have q8 := ok.1
  have w1 : wOK 257 1 := wk_own 1 (by omega)
  have w2 : wOK 258 2 := wk_own 2 (by omega)
  have w3 : wOK 259 3 := wk_own 3 (by omega)
  rw [← ho] at hk
  have ht0 : tl 0 = hCnt h 0 := hk.2.2.2.2.1 0 (by omega)
  unfold f_X3_letterContent f_X12_letterTold
  rw [show f_X12_isFull N (0 : Int32) (8 : Int32) b ν = some (0, ν) from m_room (K := 0) (r := 8) (c := hCnt h 0) (by omega) (by omega) (by omega) (by omega) hm.2.1 (hmk.1 0 (by omega)) b, z_bn_sm, if_pos rfl, z_bd_eq, ← ho, hk.1.1 0 (by omega)]
  obtain ⟨x, y, μ1, ν1, r1, r2, r3, r4⟩ := j_new ok N hN hc hm (k := 0) (by rw [← ho]; exact hk.nm) hmk.nm (by omega) (by omega)
  have r1' : f_X3_newName N (0 : Int32) μ = some (x, μ1) := r1
  rw [r1', z_bn_sm, r2, z_bn_sm]
  rcases r4 with ⟨l, q1, g1, a1, a2, a3, a4, a5, a6, a7⟩ | ⟨f, p, a1, a2, a3, a4, a5, a6⟩
  rotate_left
  · have b5 := mB_ne a6 ⟨a1, a2⟩
    rw [if_pos a3, z_bn_sm]
    rw [asks_bad w1 b5, z_bn_sm, number_bad b5, z_bn_sm, asks_bad w2 b5, z_bn_sm, number_bad b5, z_bn_sm, asks_bad w3 b5, z_bn_sm, number_bad b5, z_bn_sm, if_neg b5]
    exact st_bad (K := 0) (by omega) ⟨a1, a2⟩ a4.s r3.s a5 a6
  have o1 : μ1.2 = μ.2 := a4.1
  have e1 : z_hn μ1.2.2.2 = o := by rw [o1]; exact ho.symm
  rw [if_neg (show ¬ x = 0 by rw [a2]; decide), e1]
  rw [← ho] at a4
  obtain ⟨x2, y2, μ2, ν2a, ν2, s1, s2, s3, s4, s5, s6, s7⟩ := j_meas N hN (w := 1) (a := 0) (b := 20) (ow := 257) (i := hCnt h 0) a5 a6 (by omega) (by omega) k1 (by omega) hlt (by omega) w1 (by omega)
  have s1' : f_X3_measure N (1 : Int32) (0 : Int32) (20 : Int32) (o + 6) (nI (hCnt h 0)) μ1 = some (x2, μ2) := s1
  have s2' : f_X12_asks N 257 ν1 = some ((), ν2a) := s2
  have s3' : f_X12_number N (0 : Int32) (20 : Int32) ν2a = some (y2, ν2) := s3
  rw [s1', z_bn_sm, s2', z_bn_sm, s3', z_bn_sm]
  have fc1 : sFc o μ μ1 := (sFc.set μ _ _ (by omega)).tr a4.s
  have fc2 : sFc o μ μ2 := fc1.tr (sFc.of s4 s5 (by omega))
  rcases s7 with ⟨v1, q2, g2, c1, c2, c3, c4, c5, c6, c7, c8⟩ | ⟨f, p, c1, c2, c3, c4, c5⟩
  rotate_left
  · have b5 := mB_ne c5 ⟨c1, c2⟩
    rw [if_pos c3, z_bn_sm]
    rw [asks_bad w2 b5, z_bn_sm, number_bad b5, z_bn_sm, asks_bad w3 b5, z_bn_sm, number_bad b5, z_bn_sm, if_neg b5]
    rw [ho] at fc2
    exact st_bad (K := 0) (by omega) ⟨c1, c2⟩ fc2 (r3.tr s6).s c4 c5
  have e2 : z_hn μ2.2.2.2 = o := by rw [s4]; exact e1
  rw [if_neg (show ¬ x2 = 0 by rw [c3]; decide), e2]
  obtain ⟨x3, y3, μ3, ν3a, ν3, t1, t2, t3, t4, t5, t6, t7⟩ := j_meas N hN (w := 2) (a := 0) (b := 9) (ow := 258) (i := hCnt h 0) c6 c7 (by omega) (by omega) k2 (by omega) hlt (by omega) w2 (by omega)
  have t1' : f_X3_measure N (2 : Int32) (0 : Int32) (9 : Int32) (o + 7) (nI (hCnt h 0)) μ2 = some (x3, μ3) := t1
  have t2' : f_X12_asks N 258 ν2 = some ((), ν3a) := t2
  have t3' : f_X12_number N (0 : Int32) (9 : Int32) ν3a = some (y3, ν3) := t3
  rw [t1', z_bn_sm, t2', z_bn_sm, t3', z_bn_sm]
  have fc3 : sFc o μ μ3 := fc2.tr (sFc.of t4 t5 (by omega))
  rcases t7 with ⟨v2, q3, g3, d1, d2, d3, d4, d5, d6, d7, d8⟩ | ⟨f, p, d1, d2, d3, d4, d5⟩
  rotate_left
  · have b5 := mB_ne d5 ⟨d1, d2⟩
    rw [if_pos d3, z_bn_sm]
    rw [asks_bad w3 b5, z_bn_sm, number_bad b5, z_bn_sm, if_neg b5]
    rw [ho] at fc3
    exact st_bad (K := 0) (by omega) ⟨d1, d2⟩ fc3 ((r3.tr s6).tr t6).s d4 d5
  have e3 : z_hn μ3.2.2.2 = o := by rw [t4]; exact e2
  rw [if_neg (show ¬ x3 = 0 by rw [d3]; decide), e3]
  obtain ⟨x4, y4, μ4, ν4a, ν4, u1, u2, u3, u4, u5, u6, u7⟩ := j_meas N hN (w := 3) (a := 0) (b := 10) (ow := 259) (i := hCnt h 0) d6 d7 (by omega) (by omega) k3 (by omega) hlt (by omega) w3 (by omega)
  have u1' : f_X3_measure N (3 : Int32) (0 : Int32) (10 : Int32) (o + 8) (nI (hCnt h 0)) μ3 = some (x4, μ4) := u1
  have u2' : f_X12_asks N 259 ν3 = some ((), ν4a) := u2
  have u3' : f_X12_number N (0 : Int32) (10 : Int32) ν4a = some (y4, ν4) := u3
  rw [u1', z_bn_sm, u2', z_bn_sm, u3', z_bn_sm]
  have fc4 : sFc o μ μ4 := fc3.tr (sFc.of u4 u5 (by omega))
  have fy : yFr ν ν4 := ((r3.tr s6).tr t6).tr u6
  rcases u7 with ⟨v3, q4, g4, f1, f2, f3, f4, f5, f6, f7, f8⟩ | ⟨f, p, f1, f2, f3, f4, f5⟩
  rotate_left
  · have b5 := mB_ne f5 ⟨f1, f2⟩
    rw [if_pos f3, z_bn_sm, if_neg b5]
    rw [ho] at fc4
    exact st_bad (K := 0) (by omega) ⟨f1, f2⟩ fc4 fy.s f4 f5
  have e4 : z_hn μ4.2.2.2 = o := by rw [u4]; exact e3
  rw [if_neg (show ¬ x4 = 0 by rw [f3]; decide), z_bn_sm, if_pos f7.2.1]
  have hb := b259 (N := N) (K := 0) (x := 1) (μ := μ4) (by omega) (Or.inr rfl)
  rw [e4] at hb
  have hb' : f_X3_statement_B259 N (0 : Int32) 1 μ4 = _ := hb
  rw [hb']
  have T : ∀ c j, ¬ (c = 1 ∧ 2 ≤ j ∧ j ≤ 9) → ¬ (c = o + 3 + 0 ∧ j = hCnt h 0) → ¬ ((c = o + 6 ∨ c = o + 7 ∨ c = o + 8) ∧ j = hCnt h 0) → μ4.1 c j = μ.1 c j := fun c j z1 z2 z3 => by
    rw [u5 c j (by omega) (by omega), t5 c j (by omega) (by omega), s5 c j (by omega) (by omega), a4.2 c j (by omega), sI_1, if_neg z2]
  have h40 : ν4.1 284 0 = nI (hCnt h 0) := by rw [fy.2 _ _ (by omega)]; exact hmk.1 0 (by omega)
  rw [show f_X12_adds N (0 : Int32) y ν4 = _ from m_adds (K := 0) (by omega) (by omega) h40 y, z_bn_sm, z_bd_eq, show (3 : Int32) * nI (hCnt h 0) = nI (3 * hCnt h 0) from by rw [show (3 : Int32) = nI 3 from rfl, pk_mul], z_in_nI (show 3 * hCnt h 0 < 48 by omega) (by decide), nI_toNat (by omega), z_bd_eq, show nI (3 * hCnt h 0) + (1 : Int32) = nI (3 * hCnt h 0 + 1) from nI_1 _, z_in_nI (show 3 * hCnt h 0 + 1 < 48 by omega) (by decide), nI_toNat (by omega), z_bd_eq, show nI (3 * hCnt h 0) + (2 : Int32) = nI (3 * hCnt h 0 + 2) from by rw [show (2 : Int32) = nI 2 from rfl, nI_add], z_in_nI (show 3 * hCnt h 0 + 2 < 48 by omega) (by decide), nI_toNat (by omega), z_bd_eq]
  have m4 : μ4.1 (o + 1) 0 = nI (hCnt h 0) := by rw [T _ _ (by omega) (by omega) (by omega)]; exact hk.1.1 0 (by omega)
  have m4b : μ4.1 (o + 1) 0 + 1 = nI (hCnt h 0 + 1) := by rw [m4, nI_1]
  rw [m4b]
  refine Or.inl ⟨hLet h l v1 v2 v3, q4, g4, cd, sz, bmp tl 0, z_setI μ4 (o + 1) 0 (nI (hCnt h 0 + 1)), _, rfl, rfl, ?_, ?_, ⟨okH_let ok hlt a1 c2 d2 f2, cG_set f6 (by omega) _ _, ?_, ?_, ?_, bmp_le htl, by omega, by omega⟩, by omega⟩
  · rw [← ho]; exact fc4.tr (sFc.set μ4 _ _ (by omega))
  · exact fy.s.tr ((sFm.setJ ν4 y (by omega)).tr ((sFm.set _ _ (by omega)).tr ((sFm.set _ _ (by omega)).tr ((sFm.set _ _ (by omega)).tr (sFm.set _ _ (by omega))))))
  · refine mG_set f7 fun a j z => ?_
    rw [sI_1, if_neg (by omega), sI_1, if_neg (by omega), sI_1, if_neg (by omega), sI_1, if_neg (by omega), sJ_1]
  · have e5 : z_hn (z_setI μ4 (o + 1) 0 (nI (hCnt h 0 + 1))).2.2.2 = o := e4
    rw [e5]
    refine cK_bump hk (cH_let ok hk.1 ?_ ?_ ?_ ?_ ?_ (fun c j z1 z2 z3 z4 z5 => ?_)) (by omega) (by omega) (by omega) (by have := htl 0; omega) ?_ ?_ ?_ ?_ (fun _ _ => rfl) rfl
    · rw [sI_1, if_pos ⟨rfl, rfl⟩]
    · rw [sI_1, if_neg (by omega), u5 _ _ (by omega) (by omega), t5 _ _ (by omega) (by omega), s5 _ _ (by omega) (by omega), a4.2 _ _ (by omega), sI_1, if_pos ⟨by omega, rfl⟩]
    · rw [sI_1, if_neg (by omega), u5 _ _ (by omega) (by omega), t5 _ _ (by omega) (by omega)]; exact c5
    · rw [sI_1, if_neg (by omega), u5 _ _ (by omega) (by omega)]; exact d5
    · rw [sI_1, if_neg (by omega)]; exact f5
    · rw [sI_1, if_neg (by omega), T _ _ (by omega) (by omega) (by omega)]
    · rw [ht0, sI_1, if_pos ⟨rfl, rfl⟩]
    · intro k hk1 hk2
      rw [sI_1, if_neg (by omega), T _ _ (by omega) (by omega) (by omega)]
    · rw [sI_1, if_neg (by omega), T _ _ (by omega) (by omega) (by omega)]
    · intro f hf
      rw [sI_1, if_neg (by omega), T _ _ (by omega) (by omega) (by omega)]
  · refine mK_let ok hmk hlt ?_ ?_ ?_ ?_ ?_ ?_ ?_
    · rw [sI_1, if_neg (by omega), sI_1, if_neg (by omega), sI_1, if_neg (by omega), sI_1, if_pos ⟨rfl, rfl⟩]
    · rw [sI_21, sI_21, sI_21, sI_21, sJ_21, if_pos ⟨rfl, by omega⟩]; exact a3
    · rw [sI_1, if_neg (by omega), sI_1, if_neg (by omega), sI_1, if_pos ⟨rfl, rfl⟩]; exact c4
    · rw [sI_1, if_neg (by omega), sI_1, if_pos ⟨rfl, rfl⟩]; exact d4
    · rw [sI_1, if_pos ⟨rfl, rfl⟩]; exact f4
    · intro c j z1 z2 z3
      rw [sI_1, if_neg (by omega), sI_1, if_neg (by omega), sI_1, if_neg (by omega), sI_1, if_neg (by omega), sJ_1]
      exact fy.2 _ _ (by omega)
    · intro j z1
      rw [sI_21, sI_21, sI_21, sI_21, sJ_21, if_neg (by omega), fy.1]
theorem st_helper {N : Nat} (hN : 1700 ≤ N) {t : Nat → Nat} {n s q : Nat} {g : Bool} {h : aH} {cd sz : Nat} {tl : Nat → Nat} {μ ν : z_S} (H : HS t n s q g h cd sz tl μ ν) (hs : s < 80) (hlt : hCnt h 2 < 3) (b : Int32) : cRes t n s q μ ν (z_bn (f_X3_helperContent N μ) fun x3 μ_4 => f_X3_statement_B259 N (2 : Int32) x3 μ_4) (f_X12_helperTold N b ν) := by
  obtain ⟨ok, hc, hm, hk, hmk, htl, hcd, hsz⟩ := H
  obtain ⟨o, ho⟩ : ∃ o, o = z_hn μ.2.2.2 := ⟨_, rfl⟩
  have h56 : 56 ≤ o := ho ▸ hn56 _
  have k1 : z_kw true (o + 29) = (20, 3) := by rw [ho]; cases μ.2.2.2 <;> rfl
  have k2 : z_kw true (o + 30) = (20, 3) := by rw [ho]; cases μ.2.2.2 <;> rfl
  have k3 : z_kw true (o + 31) = (20, 3) := by rw [ho]; cases μ.2.2.2 <;> rfl
  have q8 := ok.1
  have w1 : wOK 266 10 := wk_own 10 (by omega)
  have w2 : wOK 267 11 := wk_own 11 (by omega)
  have w3 : wOK 268 12 := wk_own 12 (by omega)
  rw [← ho] at hk
  have ht0 : tl 2 = hCnt h 2 := hk.2.2.2.2.1 2 (by omega)
  unfold f_X3_helperContent f_X12_helperTold
  rw [show f_X12_isFull N (2 : Int32) (3 : Int32) b ν = some (0, ν) from m_room (K := 2) (r := 3) (c := hCnt h 2) (by omega) (by omega) (by omega) (by omega) hm.2.1 (hmk.1 2 (by omega)) b, z_bn_sm, if_pos rfl, z_bd_eq, ← ho, hk.1.1 2 (by omega)]
  obtain ⟨x, y, μ1, ν1, r1, r2, r3, r4⟩ := j_new ok N hN hc hm (k := 2) (by rw [← ho]; exact hk.nm) hmk.nm (by omega) (by omega)
  have r1' : f_X3_newName N (2 : Int32) μ = some (x, μ1) := r1
  rw [r1', z_bn_sm, r2, z_bn_sm]
  rcases r4 with ⟨l, q1, g1, a1, a2, a3, a4, a5, a6, a7⟩ | ⟨f, p, a1, a2, a3, a4, a5, a6⟩
  rotate_left
  · have b5 := mB_ne a6 ⟨a1, a2⟩
    rw [if_pos a3, z_bn_sm]
    rw [asks_bad w1 b5, z_bn_sm, number_bad b5, z_bn_sm, asks_bad w2 b5, z_bn_sm, number_bad b5, z_bn_sm, asks_bad w3 b5, z_bn_sm, number_bad b5, z_bn_sm, if_neg b5]
    exact st_bad (K := 2) (by omega) ⟨a1, a2⟩ a4.s r3.s a5 a6
  have o1 : μ1.2 = μ.2 := a4.1
  have e1 : z_hn μ1.2.2.2 = o := by rw [o1]; exact ho.symm
  rw [if_neg (show ¬ x = 0 by rw [a2]; decide), e1]
  rw [← ho] at a4
  obtain ⟨x2, y2, μ2, ν2a, ν2, s1, s2, s3, s4, s5, s6, s7⟩ := j_meas N hN (w := 10) (a := 1) (b := 240) (ow := 266) (i := hCnt h 2) a5 a6 (by omega) (by omega) k1 (by omega) hlt (by omega) w1 (by omega)
  have s1' : f_X3_measure N (10 : Int32) (1 : Int32) (240 : Int32) (o + 29) (nI (hCnt h 2)) μ1 = some (x2, μ2) := s1
  have s2' : f_X12_asks N 266 ν1 = some ((), ν2a) := s2
  have s3' : f_X12_number N (1 : Int32) (240 : Int32) ν2a = some (y2, ν2) := s3
  rw [s1', z_bn_sm, s2', z_bn_sm, s3', z_bn_sm]
  have fc1 : sFc o μ μ1 := (sFc.set μ _ _ (by omega)).tr a4.s
  have fc2 : sFc o μ μ2 := fc1.tr (sFc.of s4 s5 (by omega))
  rcases s7 with ⟨v1, q2, g2, c1, c2, c3, c4, c5, c6, c7, c8⟩ | ⟨f, p, c1, c2, c3, c4, c5⟩
  rotate_left
  · have b5 := mB_ne c5 ⟨c1, c2⟩
    rw [if_pos c3, z_bn_sm]
    rw [asks_bad w2 b5, z_bn_sm, number_bad b5, z_bn_sm, asks_bad w3 b5, z_bn_sm, number_bad b5, z_bn_sm, if_neg b5]
    rw [ho] at fc2
    exact st_bad (K := 2) (by omega) ⟨c1, c2⟩ fc2 (r3.tr s6).s c4 c5
  have e2 : z_hn μ2.2.2.2 = o := by rw [s4]; exact e1
  rw [if_neg (show ¬ x2 = 0 by rw [c3]; decide), e2]
  obtain ⟨x3, y3, μ3, ν3a, ν3, t1, t2, t3, t4, t5, t6, t7⟩ := j_meas N hN (w := 11) (a := 0) (b := 9) (ow := 267) (i := hCnt h 2) c6 c7 (by omega) (by omega) k2 (by omega) hlt (by omega) w2 (by omega)
  have t1' : f_X3_measure N (11 : Int32) (0 : Int32) (9 : Int32) (o + 30) (nI (hCnt h 2)) μ2 = some (x3, μ3) := t1
  have t2' : f_X12_asks N 267 ν2 = some ((), ν3a) := t2
  have t3' : f_X12_number N (0 : Int32) (9 : Int32) ν3a = some (y3, ν3) := t3
  rw [t1', z_bn_sm, t2', z_bn_sm, t3', z_bn_sm]
  have fc3 : sFc o μ μ3 := fc2.tr (sFc.of t4 t5 (by omega))
  rcases t7 with ⟨v2, q3, g3, d1, d2, d3, d4, d5, d6, d7, d8⟩ | ⟨f, p, d1, d2, d3, d4, d5⟩
  rotate_left
  · have b5 := mB_ne d5 ⟨d1, d2⟩
    rw [if_pos d3, z_bn_sm]
    rw [asks_bad w3 b5, z_bn_sm, number_bad b5, z_bn_sm, if_neg b5]
    rw [ho] at fc3
    exact st_bad (K := 2) (by omega) ⟨d1, d2⟩ fc3 ((r3.tr s6).tr t6).s d4 d5
  have e3 : z_hn μ3.2.2.2 = o := by rw [t4]; exact e2
  rw [if_neg (show ¬ x3 = 0 by rw [d3]; decide), e3]
  obtain ⟨x4, y4, μ4, ν4a, ν4, u1, u2, u3, u4, u5, u6, u7⟩ := j_meas N hN (w := 12) (a := 0) (b := 10) (ow := 268) (i := hCnt h 2) d6 d7 (by omega) (by omega) k3 (by omega) hlt (by omega) w3 (by omega)
  have u1' : f_X3_measure N (12 : Int32) (0 : Int32) (10 : Int32) (o + 31) (nI (hCnt h 2)) μ3 = some (x4, μ4) := u1
  have u2' : f_X12_asks N 268 ν3 = some ((), ν4a) := u2
  have u3' : f_X12_number N (0 : Int32) (10 : Int32) ν4a = some (y4, ν4) := u3
  rw [u1', z_bn_sm, u2', z_bn_sm, u3', z_bn_sm]
  have fc4 : sFc o μ μ4 := fc3.tr (sFc.of u4 u5 (by omega))
  have fy : yFr ν ν4 := ((r3.tr s6).tr t6).tr u6
  rcases u7 with ⟨v3, q4, g4, f1, f2, f3, f4, f5, f6, f7, f8⟩ | ⟨f, p, f1, f2, f3, f4, f5⟩
  rotate_left
  · have b5 := mB_ne f5 ⟨f1, f2⟩
    rw [if_pos f3, z_bn_sm, if_neg b5]
    rw [ho] at fc4
    exact st_bad (K := 2) (by omega) ⟨f1, f2⟩ fc4 fy.s f4 f5
  have e4 : z_hn μ4.2.2.2 = o := by rw [u4]; exact e3
  rw [if_neg (show ¬ x4 = 0 by rw [f3]; decide), z_bn_sm, if_pos f7.2.1]
  have hb := b259 (N := N) (K := 2) (x := 1) (μ := μ4) (by omega) (Or.inr rfl)
  rw [e4] at hb
  have hb' : f_X3_statement_B259 N (2 : Int32) 1 μ4 = _ := hb
  rw [hb']
  have T : ∀ c j, ¬ (c = 1 ∧ 2 ≤ j ∧ j ≤ 9) → ¬ (c = o + 3 + 2 ∧ j = hCnt h 2) → ¬ ((c = o + 29 ∨ c = o + 30 ∨ c = o + 31) ∧ j = hCnt h 2) → μ4.1 c j = μ.1 c j := fun c j z1 z2 z3 => by
    rw [u5 c j (by omega) (by omega), t5 c j (by omega) (by omega), s5 c j (by omega) (by omega), a4.2 c j (by omega), sI_1, if_neg z2]
  have h40 : ν4.1 284 2 = nI (hCnt h 2) := by rw [fy.2 _ _ (by omega)]; exact hmk.1 2 (by omega)
  rw [show f_X12_adds N (2 : Int32) y ν4 = _ from m_adds (K := 2) (by omega) (by omega) h40 y, z_bn_sm, z_bd_eq, show (3 : Int32) * nI (hCnt h 2) = nI (3 * hCnt h 2) from by rw [show (3 : Int32) = nI 3 from rfl, pk_mul], z_in_nI (show 3 * hCnt h 2 < 18 by omega) (by decide), nI_toNat (by omega), z_bd_eq, show nI (3 * hCnt h 2) + (1 : Int32) = nI (3 * hCnt h 2 + 1) from nI_1 _, z_in_nI (show 3 * hCnt h 2 + 1 < 18 by omega) (by decide), nI_toNat (by omega), z_bd_eq, show nI (3 * hCnt h 2) + (2 : Int32) = nI (3 * hCnt h 2 + 2) from by rw [show (2 : Int32) = nI 2 from rfl, nI_add], z_in_nI (show 3 * hCnt h 2 + 2 < 18 by omega) (by decide), nI_toNat (by omega), z_bd_eq]
  have m4 : μ4.1 (o + 1) 2 = nI (hCnt h 2) := by rw [T _ _ (by omega) (by omega) (by omega)]; exact hk.1.1 2 (by omega)
  have m4b : μ4.1 (o + 1) 2 + 1 = nI (hCnt h 2 + 1) := by rw [m4, nI_1]
  rw [m4b]
  refine Or.inl ⟨hHlp h l v1 v2 v3, q4, g4, cd, sz, bmp tl 2, z_setI μ4 (o + 1) 2 (nI (hCnt h 2 + 1)), _, rfl, rfl, ?_, ?_, ⟨okH_hlp ok hlt a1 ⟨c1, c2⟩ d2 f2, cG_set f6 (by omega) _ _, ?_, ?_, ?_, bmp_le htl, by omega, by omega⟩, by omega⟩
  · rw [← ho]; exact fc4.tr (sFc.set μ4 _ _ (by omega))
  · exact fy.s.tr ((sFm.setJ ν4 y (by omega)).tr ((sFm.set _ _ (by omega)).tr ((sFm.set _ _ (by omega)).tr ((sFm.set _ _ (by omega)).tr (sFm.set _ _ (by omega))))))
  · refine mG_set f7 fun a j z => ?_
    rw [sI_1, if_neg (by omega), sI_1, if_neg (by omega), sI_1, if_neg (by omega), sI_1, if_neg (by omega), sJ_1]
  · have e5 : z_hn (z_setI μ4 (o + 1) 2 (nI (hCnt h 2 + 1))).2.2.2 = o := e4
    rw [e5]
    refine cK_bump hk (cH_hlp ok hk.1 ?_ ?_ ?_ ?_ ?_ (fun c j z1 z2 z3 z4 => ?_)) (by omega) (by omega) (by omega) (by have := htl 2; omega) ?_ ?_ ?_ ?_ (fun _ _ => rfl) rfl
    · rw [sI_1, if_pos ⟨rfl, rfl⟩]
    · rw [sI_1, if_neg (by omega), u5 _ _ (by omega) (by omega), t5 _ _ (by omega) (by omega), s5 _ _ (by omega) (by omega), a4.2 _ _ (by omega), sI_1, if_pos ⟨by omega, rfl⟩]
    · rw [sI_1, if_neg (by omega), u5 _ _ (by omega) (by omega), t5 _ _ (by omega) (by omega)]; exact c5
    · rw [sI_1, if_neg (by omega), u5 _ _ (by omega) (by omega)]; exact d5
    · rw [sI_1, if_neg (by omega)]; exact f5
    · rw [sI_1, if_neg (by omega), T _ _ (by omega) (by omega) (by omega)]
    · rw [ht0, sI_1, if_pos ⟨rfl, rfl⟩]
    · intro k hk1 hk2
      rw [sI_1, if_neg (by omega), T _ _ (by omega) (by omega) (by omega)]
    · rw [sI_1, if_neg (by omega), T _ _ (by omega) (by omega) (by omega)]
    · intro f hf
      rw [sI_1, if_neg (by omega), T _ _ (by omega) (by omega) (by omega)]
  · refine mK_hlp ok hmk hlt ?_ ?_ ?_ ?_ ?_ ?_ ?_
    · rw [sI_1, if_neg (by omega), sI_1, if_neg (by omega), sI_1, if_neg (by omega), sI_1, if_pos ⟨rfl, rfl⟩]
    · rw [sI_21, sI_21, sI_21, sI_21, sJ_21, if_pos ⟨rfl, by omega⟩]; exact a3
    · rw [sI_1, if_neg (by omega), sI_1, if_neg (by omega), sI_1, if_pos ⟨rfl, rfl⟩]; exact c4
    · rw [sI_1, if_neg (by omega), sI_1, if_pos ⟨rfl, rfl⟩]; exact d4
    · rw [sI_1, if_pos ⟨rfl, rfl⟩]; exact f4
    · intro c j z1 z2 z3
      rw [sI_1, if_neg (by omega), sI_1, if_neg (by omega), sI_1, if_neg (by omega), sI_1, if_neg (by omega), sJ_1]
      exact fy.2 _ _ (by omega)
    · intro j z1
      rw [sI_21, sI_21, sI_21, sI_21, sJ_21, if_neg (by omega), fy.1]
