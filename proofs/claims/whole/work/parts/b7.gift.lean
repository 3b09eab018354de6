/-! a gift told -/
theorem st_gift {N : Nat} (hN : 1700 ≤ N) {t : Nat → Nat} {n s q : Nat} {g : Bool} {h : aH} {cd sz : Nat} {tl : Nat → Nat} {μ ν : z_S} (H : HS t n s q g h cd sz tl μ ν) (hs : s < 80) (hlt : hCnt h 1 < 4) (b : Int32) : cRes t n s q μ ν (z_bn (f_X3_giftContent N μ) fun x3 μ_4 => f_X3_statement_B259 N (1 : Int32) x3 μ_4) (f_X12_giftTold N b ν) := by
  obtain ⟨ok, hc, hm, hk, hmk, htl, hcd, hsz⟩ := H
  obtain ⟨o, ho⟩ : ∃ o, o = z_hn μ.2.2.2 := ⟨_, rfl⟩
  have h56 : 56 ≤ o := ho ▸ hn56 _
  have k1 : z_kw true (o + 28) = (20, 4) := by rw [ho]; cases μ.2.2.2 <;> rfl
  have w1 : wOK 261 5 := wk_own 5 (by omega)
  rw [← ho] at hk
  have ht0 : tl 1 = hCnt h 1 := hk.2.2.2.2.1 1 (by omega)
  unfold f_X3_giftContent f_X12_giftTold
  rw [show f_X12_isFull N (1 : Int32) (4 : Int32) b ν = some (0, ν) from m_room (K := 1) (r := 4) (c := hCnt h 1) (by omega) (by omega) (by omega) (by omega) hm.2.1 (hmk.1 1 (by omega)) b, z_bn_sm, if_pos rfl]
  obtain ⟨x, y, μ1, ν1, r1, r2, r3, r4⟩ := j_new ok N hN hc hm (k := 1) (by rw [← ho]; exact hk.nm) hmk.nm (by omega) (by omega)
  have r1' : f_X3_newName N (1 : Int32) μ = some (x, μ1) := r1
  rw [r1', z_bn_sm, r2, z_bn_sm]
  rcases r4 with ⟨l, q1, g1, a1, a2, a3, a4, a5, a6, a7⟩ | ⟨f, p, a1, a2, a3, a4, a5, a6⟩
  rotate_left
  · have b5 := mB_ne a6 ⟨a1, a2⟩
    rw [if_pos a3, z_bn_sm]
    rw [asks_bad w1 b5, z_bn_sm, number_bad b5, z_bn_sm, if_neg b5]
    exact st_bad (K := 1) (by omega) ⟨a1, a2⟩ a4.s r3.s a5 a6
  have o1 : μ1.2 = μ.2 := a4.1
  have e1 : z_hn μ1.2.2.2 = o := by rw [o1]; exact ho.symm
  rw [← ho] at a4
  have cn1 : μ1.1 (o + 1) 1 = nI (hCnt h 1) := by rw [a4.2 _ _ (by omega), sI_1, if_neg (by omega)]; exact hk.1.1 1 (by omega)
  rw [if_neg (show ¬ x = 0 by rw [a2]; decide), e1, cn1]
  obtain ⟨x2, y2, μ4, ν2a, ν4, s1, s2, s3, s4, s5, s6, s7⟩ := j_meas N hN (w := 5) (a := 0) (b := 3) (ow := 261) (i := hCnt h 1) a5 a6 (by omega) (by omega) k1 (by omega) hlt (by omega) w1 (by omega)
  have s1' : f_X3_measure N (5 : Int32) (0 : Int32) (3 : Int32) (o + 28) (nI (hCnt h 1)) μ1 = some (x2, μ4) := s1
  have s2' : f_X12_asks N 261 ν1 = some ((), ν2a) := s2
  have s3' : f_X12_number N (0 : Int32) (3 : Int32) ν2a = some (y2, ν4) := s3
  rw [s1', z_bn_sm, s2', z_bn_sm, s3', z_bn_sm]
  have fc1 : sFc o μ μ1 := (sFc.set μ _ _ (by omega)).tr a4.s
  have fc4 : sFc o μ μ4 := fc1.tr (sFc.of s4 s5 (by omega))
  have fy : yFr ν ν4 := r3.tr s6
  rcases s7 with ⟨v1, q4, g4, c1, c2, c3, c4, c5, c6, c7, c8⟩ | ⟨f, p, c1, c2, c3, c4, c5⟩
  rotate_left
  · have b5 := mB_ne c5 ⟨c1, c2⟩
    rw [if_pos c3, z_bn_sm, if_neg b5]
    rw [ho] at fc4
    exact st_bad (K := 1) (by omega) ⟨c1, c2⟩ fc4 fy.s c4 c5
  have e4 : z_hn μ4.2.2.2 = o := by rw [s4]; exact e1
  rw [if_neg (show ¬ x2 = 0 by rw [c3]; decide), z_bn_sm, if_pos c7.2.1]
  have hb := b259 (N := N) (K := 1) (x := 1) (μ := μ4) (by omega) (Or.inr rfl)
  rw [e4] at hb
  have hb' : f_X3_statement_B259 N (1 : Int32) 1 μ4 = _ := hb
  rw [hb']
  have T : ∀ c j, ¬ (c = 1 ∧ 2 ≤ j ∧ j ≤ 9) → ¬ (c = o + 3 + 1 ∧ j = hCnt h 1) → ¬ (c = o + 28 ∧ j = hCnt h 1) → μ4.1 c j = μ.1 c j := fun c j z1 z2 z3 => by
    rw [s5 c j (by omega) (by omega), a4.2 c j (by omega), sI_1, if_neg z2]
  have h40 : ν4.1 284 1 = nI (hCnt h 1) := by rw [fy.2 _ _ (by omega)]; exact hmk.1 1 (by omega)
  rw [show f_X12_adds N (1 : Int32) y ν4 = _ from m_adds (K := 1) (by omega) (by omega) h40 y, z_bn_sm, z_in_nI (show hCnt h 1 < 8 by omega) (by decide), nI_toNat (by omega), z_bd_eq]
  have m4 : μ4.1 (o + 1) 1 = nI (hCnt h 1) := by rw [T _ _ (by omega) (by omega) (by omega)]; exact hk.1.1 1 (by omega)
  have m4b : μ4.1 (o + 1) 1 + 1 = nI (hCnt h 1 + 1) := by rw [m4, nI_1]
  rw [m4b]
  refine Or.inl ⟨hGft h l v1, q4, g4, cd, sz, bmp tl 1, z_setI μ4 (o + 1) 1 (nI (hCnt h 1 + 1)), _, rfl, rfl, ?_, ?_, ⟨okH_gft ok hlt a1 c2, cG_set c6 (by omega) _ _, ?_, ?_, ?_, bmp_le htl, by omega, by omega⟩, by omega⟩
  · rw [← ho]; exact fc4.tr (sFc.set μ4 _ _ (by omega))
  · exact fy.s.tr ((sFm.setJ ν4 y (by omega)).tr ((sFm.set _ _ (by omega)).tr (sFm.set _ _ (by omega))))
  · refine mG_set c7 fun a j z => ?_
    rw [sI_1, if_neg (by omega), sI_1, if_neg (by omega), sJ_1]
  · have e5 : z_hn (z_setI μ4 (o + 1) 1 (nI (hCnt h 1 + 1))).2.2.2 = o := e4
    rw [e5]
    refine cK_bump hk (cH_gft ok hk.1 ?_ ?_ ?_ (fun c j z1 z2 z3 z4 => ?_) hlt) (by omega) (by omega) (by omega) (by have := htl 1; omega) ?_ ?_ ?_ ?_ (fun _ _ => rfl) rfl
    · rw [sI_1, if_pos ⟨rfl, rfl⟩]
    · rw [sI_1, if_neg (by omega), s5 _ _ (by omega) (by omega), a4.2 _ _ (by omega), sI_1, if_pos ⟨by omega, rfl⟩]
    · rw [sI_1, if_neg (by omega)]; exact c5
    · rw [sI_1, if_neg (by omega), T _ _ (by omega) (by omega) (by omega)]
    · rw [ht0, sI_1, if_pos ⟨rfl, rfl⟩]
    · intro k hk1 hk2
      rw [sI_1, if_neg (by omega), T _ _ (by omega) (by omega) (by omega)]
    · rw [sI_1, if_neg (by omega), T _ _ (by omega) (by omega) (by omega)]
    · intro f hf
      rw [sI_1, if_neg (by omega), T _ _ (by omega) (by omega) (by omega)]
  · refine mK_gft ok hmk hlt ?_ ?_ ?_ ?_ ?_
    · rw [sI_1, if_neg (by omega), sI_1, if_pos ⟨rfl, rfl⟩]
    · rw [sI_21, sI_21, sJ_21, if_pos ⟨rfl, by omega⟩]; exact a3
    · rw [sI_1, if_pos ⟨rfl, rfl⟩]; exact c4
    · intro c j z1 z2 z3
      rw [sI_1, if_neg (by omega), sI_1, if_neg (by omega), sJ_1]
      exact fy.2 _ _ (by omega)
    · intro j z1
      rw [sI_21, sI_21, sJ_21, if_neg (by omega), fy.1]
