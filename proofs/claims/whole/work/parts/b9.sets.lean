/-! a setting told -/
theorem st_missed {N : Nat} (hN : 1700 ≤ N) {t : Nat → Nat} {n s q : Nat} {g : Bool} {h : aH} {cd sz : Nat} {tl : Nat → Nat} {μ ν : z_S} (H : HS t n s q g h cd sz tl μ ν) (hs : s < 80) : ∃ x y μ' ν', f_X10_takeNumber N (0 : Int32) (99 : Int32) μ = some (x, μ') ∧ f_X12_number N (0 : Int32) (99 : Int32) ν = some (y, ν') ∧ cRes t n s q μ ν (z_bd (z_setI μ' (z_hn μ.2.2.2) 15 x) fun μ_14 => if (μ_14.1 (z_hn μ_14.2.2.2) 15) = (-1 : Int32) then (f_X3_statement_B259 N (8 : Int32) (0 : Int32) μ_14) else f_X3_statement_B259 N (8 : Int32) (1 : Int32) μ_14) (some ((), z_setI ν' 292 0 y)) := by
  obtain ⟨ok, hc, hm, hk, hmk, htl, hcd, hsz⟩ := H
  obtain ⟨o, ho⟩ : ∃ o, o = z_hn μ.2.2.2 := ⟨_, rfl⟩
  have h56 : 56 ≤ o := ho ▸ hn56 _
  rw [← ho] at hk
  obtain ⟨x, y, μ3, ν3, t1, t2, u, fy, t4⟩ := j_num N hN hc hm (a := 0) (b := 99) (by omega) (by omega)
  refine ⟨x, y, μ3, ν3, t1, t2, ?_⟩
  rw [← ho, z_bd_eq]
  obtain ⟨μ4, hμ4⟩ : ∃ μ4, μ4 = z_setI μ3 o 15 x := ⟨_, rfl⟩
  rw [← hμ4]
  have e4 : z_hn μ4.2.2.2 = o := by rw [hμ4]; show z_hn μ3.2.2.2 = o; rw [u.1]; exact ho.symm
  have x4 : μ4.1 o 15 = x := by rw [hμ4, sI_1, if_pos ⟨rfl, rfl⟩]
  have fc4 : sFc o μ μ4 := by rw [hμ4]; exact u.s.tr (sFc.set μ3 _ _ (by omega))
  have fm4 : sFm ν (z_setI ν3 292 0 y) := fy.s.tr (sFm.set _ _ (by omega))
  rw [e4, x4]
  rcases t4 with ⟨v, q3, g3, d1, d2, d3, d4, d5, d6, d7⟩ | ⟨f, p, d1, d2, d3, d4, d5⟩
  rotate_left
  · rw [if_pos d3]
    rw [ho] at fc4
    exact st_bad (K := 8) (by omega) ⟨d1, d2⟩ fc4 fm4 (by rw [hμ4]; exact ⟨by rw [sI_1, if_neg (by omega)]; exact d4.1, by rw [sI_1, if_neg (by omega)]; exact d4.2⟩) ⟨by rw [sI_1, if_neg (by omega)]; exact d5.1, by rw [sI_1, if_neg (by omega)]; exact d5.2⟩
  rw [if_neg (show ¬ x = -1 by rw [d3]; exact nI_nm1 (by omega))]
  have hb := b259 (N := N) (K := 8) (x := 1) (μ := μ4) (by omega) (Or.inr rfl)
  rw [e4] at hb
  have hb' : f_X3_statement_B259 N (8 : Int32) 1 μ4 = _ := hb
  rw [hb']
  have T : ∀ c j, ¬ (c = 1 ∧ 2 ≤ j ∧ j ≤ 9) → ¬ (c = o ∧ j = 15) → μ4.1 c j = μ.1 c j := fun c j z1 z2 => by
    rw [hμ4, sI_1, if_neg z2, u.2 c j (by omega)]
  have t7 : tl 8 ≤ s := htl 8
  have m4 : μ4.1 (o + 1) 8 + 1 = nI (tl 8 + 1) := by rw [T _ _ (by omega) (by omega), hk.2.2.2.1 8 (by omega), nI_1]
  rw [m4]
  refine Or.inl ⟨hMs h v, q3, g3, cd, sz, bmp tl 8, z_setI μ4 (o + 1) 8 (nI (tl 8 + 1)), _, rfl, rfl, ?_, fm4, ⟨okH_ms ok d2, cG_set (by rw [hμ4]; exact cG_set d5 (by omega) _ _) (by omega) _ _, ?_, ?_, ?_, bmp_le htl, by omega, by omega⟩, by omega⟩
  · rw [← ho]; exact fc4.tr (sFc.set _ _ _ (by omega))
  · exact mG_set d6 fun a j z => by rw [sI_1, if_neg (by omega)]
  · have e5 : z_hn (z_setI μ4 (o + 1) 8 (nI (tl 8 + 1))).2.2.2 = o := e4
    rw [e5]
    refine cK_bump hk (cH_ms ok hk.1 ?_ (fun c j z1 z2 z3 z4 => ?_)) (by omega) (by omega) (by omega) (by omega) ?_ ?_ ?_ ?_ (fun k hk5 => by rw [if_neg (by omega)]; rfl) rfl
    · rw [sI_1, if_neg (by omega), x4]; exact d3
    · rw [sI_1, if_neg (by omega), T _ _ (by omega) (by omega)]
    · rw [sI_1, if_pos ⟨rfl, rfl⟩]
    · intro k hk1 hk2
      rw [sI_1, if_neg (by omega), T _ _ (by omega) (by omega)]
    · rw [sI_1, if_neg (by omega), T _ _ (by omega) (by omega)]
    · intro f hf
      rw [sI_1, if_neg (by omega), T _ _ (by omega) (by omega)]
  · refine mK_ms ok hmk ?_ ?_ ?_
    · rw [sI_1, if_pos ⟨rfl, rfl⟩]; exact d4
    · intro c j z1 z2
      rw [sI_1, if_neg (by omega)]
      exact fy.2 _ _ (by omega)
    · rw [sI_21, fy.1]
theorem st_cold {N : Nat} (hN : 1700 ≤ N) {t : Nat → Nat} {n s q : Nat} {g : Bool} {h : aH} {cd sz : Nat} {tl : Nat → Nat} {μ ν : z_S} (H : HS t n s q g h cd sz tl μ ν) (hs : s < 80) : ∃ x y μ' ν', f_X10_takeNumber N (0 : Int32) (100 : Int32) μ = some (x, μ') ∧ f_X12_number N (0 : Int32) (100 : Int32) ν = some (y, ν') ∧ cRes t n s q μ ν (z_bd (z_setI μ' (z_hn μ.2.2.2) 16 x) fun μ_14 => if (μ_14.1 (z_hn μ_14.2.2.2) 16) = (-1 : Int32) then (f_X3_statement_B259 N (9 : Int32) (0 : Int32) μ_14) else f_X3_statement_B259 N (9 : Int32) (1 : Int32) μ_14) (some ((), z_setI ν' 292 1 y)) := by
  obtain ⟨ok, hc, hm, hk, hmk, htl, hcd, hsz⟩ := H
  obtain ⟨o, ho⟩ : ∃ o, o = z_hn μ.2.2.2 := ⟨_, rfl⟩
  have h56 : 56 ≤ o := ho ▸ hn56 _
  rw [← ho] at hk
  obtain ⟨x, y, μ3, ν3, t1, t2, u, fy, t4⟩ := j_num N hN hc hm (a := 0) (b := 100) (by omega) (by omega)
  refine ⟨x, y, μ3, ν3, t1, t2, ?_⟩
  rw [← ho, z_bd_eq]
  obtain ⟨μ4, hμ4⟩ : ∃ μ4, μ4 = z_setI μ3 o 16 x := ⟨_, rfl⟩
  rw [← hμ4]
  have e4 : z_hn μ4.2.2.2 = o := by rw [hμ4]; show z_hn μ3.2.2.2 = o; rw [u.1]; exact ho.symm
  have x4 : μ4.1 o 16 = x := by rw [hμ4, sI_1, if_pos ⟨rfl, rfl⟩]
  have fc4 : sFc o μ μ4 := by rw [hμ4]; exact u.s.tr (sFc.set μ3 _ _ (by omega))
  have fm4 : sFm ν (z_setI ν3 292 1 y) := fy.s.tr (sFm.set _ _ (by omega))
  rw [e4, x4]
  rcases t4 with ⟨v, q3, g3, d1, d2, d3, d4, d5, d6, d7⟩ | ⟨f, p, d1, d2, d3, d4, d5⟩
  rotate_left
  · rw [if_pos d3]
    rw [ho] at fc4
    exact st_bad (K := 9) (by omega) ⟨d1, d2⟩ fc4 fm4 (by rw [hμ4]; exact ⟨by rw [sI_1, if_neg (by omega)]; exact d4.1, by rw [sI_1, if_neg (by omega)]; exact d4.2⟩) ⟨by rw [sI_1, if_neg (by omega)]; exact d5.1, by rw [sI_1, if_neg (by omega)]; exact d5.2⟩
  rw [if_neg (show ¬ x = -1 by rw [d3]; exact nI_nm1 (by omega))]
  have hb := b259 (N := N) (K := 9) (x := 1) (μ := μ4) (by omega) (Or.inr rfl)
  rw [e4] at hb
  have hb' : f_X3_statement_B259 N (9 : Int32) 1 μ4 = _ := hb
  rw [hb']
  have T : ∀ c j, ¬ (c = 1 ∧ 2 ≤ j ∧ j ≤ 9) → ¬ (c = o ∧ j = 16) → μ4.1 c j = μ.1 c j := fun c j z1 z2 => by
    rw [hμ4, sI_1, if_neg z2, u.2 c j (by omega)]
  have t7 : tl 9 ≤ s := htl 9
  have m4 : μ4.1 (o + 1) 9 + 1 = nI (tl 9 + 1) := by rw [T _ _ (by omega) (by omega), hk.2.2.2.1 9 (by omega), nI_1]
  rw [m4]
  refine Or.inl ⟨hCo h v, q3, g3, cd, sz, bmp tl 9, z_setI μ4 (o + 1) 9 (nI (tl 9 + 1)), _, rfl, rfl, ?_, fm4, ⟨okH_co ok d2, cG_set (by rw [hμ4]; exact cG_set d5 (by omega) _ _) (by omega) _ _, ?_, ?_, ?_, bmp_le htl, by omega, by omega⟩, by omega⟩
  · rw [← ho]; exact fc4.tr (sFc.set _ _ _ (by omega))
  · exact mG_set d6 fun a j z => by rw [sI_1, if_neg (by omega)]
  · have e5 : z_hn (z_setI μ4 (o + 1) 9 (nI (tl 9 + 1))).2.2.2 = o := e4
    rw [e5]
    refine cK_bump hk (cH_co ok hk.1 ?_ (fun c j z1 z2 z3 z4 => ?_)) (by omega) (by omega) (by omega) (by omega) ?_ ?_ ?_ ?_ (fun k hk5 => by rw [if_neg (by omega)]; rfl) rfl
    · rw [sI_1, if_neg (by omega), x4]; exact d3
    · rw [sI_1, if_neg (by omega), T _ _ (by omega) (by omega)]
    · rw [sI_1, if_pos ⟨rfl, rfl⟩]
    · intro k hk1 hk2
      rw [sI_1, if_neg (by omega), T _ _ (by omega) (by omega)]
    · rw [sI_1, if_neg (by omega), T _ _ (by omega) (by omega)]
    · intro f hf
      rw [sI_1, if_neg (by omega), T _ _ (by omega) (by omega)]
  · refine mK_co ok hmk ?_ ?_ ?_
    · rw [sI_1, if_pos ⟨rfl, rfl⟩]; exact d4
    · intro c j z1 z2
      rw [sI_1, if_neg (by omega)]
      exact fy.2 _ _ (by omega)
    · rw [sI_21, fy.1]
