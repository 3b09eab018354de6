/-! a heap begun, in the class -/
theorem c_clearL {N : Nat} (hN : 1700 ≤ N) {o : Nat} (k11 : ∀ v, v < 8 → z_kw true (o + 11 + v) = (20, 4)) (k20 : ∀ v, v < 8 → z_kw true (o + 20 + v) = (20, 8)) (e : z_S → Option (Unit × z_S)) (μ0 : z_S) : ∀ f v μ, v ≤ 8 → 8 - v < f → μ.2 = μ0.2 → (∀ a j, μ.1 a j = if (o + 11 ≤ a ∧ a < o + 11 + v ∧ j < 4) then 0 else if (o + 20 ≤ a ∧ a < o + 20 + v ∧ j < 8) then -1 else μ0.1 a j) → ∃ μ', f_X2_clear_L18 N o e f (nI v) μ = e μ' ∧ μ'.2 = μ0.2 ∧ ∀ a j, μ'.1 a j = if (o + 11 ≤ a ∧ a < o + 19 ∧ j < 4) then 0 else if (o + 20 ≤ a ∧ a < o + 28 ∧ j < 8) then -1 else μ0.1 a j := by
  intro f
  induction f with
  | zero => intro v μ _ h; omega
  | succ f ih =>
    intro v μ h1 h2 h3 h4
    show ∃ μ', b_X2_clear_L18 N o _ e (nI v) μ = _ ∧ _
    unfold b_X2_clear_L18
    by_cases c : v < 8
    · obtain ⟨μ1, r1, r2, r3⟩ := c_fill N (k11 v c) (by decide) (by omega) 0 μ
      obtain ⟨μ2, s1, s2, s3⟩ := c_fill N (k20 v c) (by decide) (by omega) (-1) μ1
      rw [if_pos (show nI v < (8 : Int32) from nI_lt (b := 8) c (by decide)), z_in_nI c (by decide), nI_toNat (by omega), r1, z_bn_sm, z_in_nI c (by decide), s1, z_bn_sm, z_bd_eq, show nI v + 1 = nI (v + 1) from nI_1 _]
      refine ih (v + 1) μ2 (by omega) (by omega) (s2.trans (r2.trans h3)) (fun a j => ?_)
      rw [s3, r3, h4]
      by_cases d1 : a = o + 20 + v ∧ j < 8
      · rw [if_pos d1, if_neg (by omega), if_pos (by omega)]
      · rw [if_neg d1]
        by_cases d2 : a = o + 11 + v ∧ j < 4
        · rw [if_pos d2, if_pos (by omega)]
        · rw [if_neg d2]
          by_cases d3 : o + 11 ≤ a ∧ a < o + 11 + v ∧ j < 4
          · rw [if_pos d3, if_pos (by omega)]
          · rw [if_neg d3, if_neg (c := o + 11 ≤ a ∧ a < o + 11 + (v + 1) ∧ j < 4) (by omega)]
            by_cases d4 : o + 20 ≤ a ∧ a < o + 20 + v ∧ j < 8
            · rw [if_pos d4, if_pos (by omega)]
            · rw [if_neg d4, if_neg (by omega)]
    · have : v = 8 := by omega
      subst this
      rw [if_neg (show ¬ nI 8 < (8 : Int32) by decide)]
      exact ⟨μ, rfl, h3, h4⟩
theorem c_clear {N : Nat} (hN : 1700 ≤ N) (b : Bool) (μ : z_S) : ∃ μ', f_X2_clear N (z_hn b) μ = some ((), μ') ∧ μ'.2 = μ.2 ∧ (∀ a j, ¬ (z_hn b ≤ a ∧ a < z_hn b + 36) → μ'.1 a j = μ.1 a j) ∧ cK (z_hn b) hInit 2 (fun _ => 0) μ' := by
  obtain ⟨o, ho⟩ : ∃ o, o = z_hn b := ⟨_, rfl⟩
  have h56 : 56 ≤ o := ho ▸ hn56 _
  have ko : z_kw true o = (2, 0) := by rw [ho]; exact z_hn_k _
  have k1 : z_kw true (o + 1) = (20, 10) := by rw [ho]; cases b <;> rfl
  have k9 : z_kw true (o + 9) = (20, 8) := by rw [ho]; cases b <;> rfl
  have k32 : z_kw true (o + 32) = (0, 0) := by rw [ho]; cases b <;> rfl
  have k11 : ∀ v, v < 8 → z_kw true (o + 11 + v) = (20, 4) := by rw [ho]; cases b <;> decide
  have k20 : ∀ v, v < 8 → z_kw true (o + 20 + v) = (20, 8) := by rw [ho]; cases b <;> decide
  rw [← ho]
  unfold f_X2_clear
  obtain ⟨μ1, r1, r2, r3⟩ := c_fill N k1 (by decide) (by omega) 0 μ
  obtain ⟨μ2, s1, s2, s3⟩ := c_fill N k9 (by decide) (by omega) 0 μ1
  obtain ⟨E, hE⟩ : ∃ E : z_S → Option (Unit × z_S), E = (fun μ50 => z_bd (z_setI μ50 o 15 (3 : Int32)) fun μ_5 => z_bd (z_setI μ_5 o 16 (0 : Int32)) fun μ_6 => z_bd (z_setI μ_6 (o + 32) 1 (0 : Int32)) fun μ_7 => z_bn (f_X0_add N (o + 32) (20 : Int32) μ_7) fun _ μ_8 => z_bn (f_X0_add N (o + 32) (-4 : Int32) μ_8) fun _ μ_9 => z_bd (z_setI μ_9 (o + 34) 0 (0 : Int32)) fun μ_10 => z_bd (z_setI μ_10 (o + 35) 0 (1 : Int32)) fun μ_11 => z_bd (z_setI μ_11 (o + 34) 1 (1 : Int32)) fun μ_12 => z_bd (z_setI μ_12 (o + 35) 1 (2 : Int32)) fun μ_13 => some ((), μ_13)) := ⟨_, rfl⟩
  obtain ⟨μ3, t1, t2, t3⟩ := c_clearL hN k11 k20 E μ2 N 0 μ2 (by omega) (by omega) rfl (fun a j => by rw [if_neg (by omega), if_neg (by omega)])
  have t1' : f_X2_clear_L18 N o E N (0 : Int32) μ2 = E μ3 := t1
  rw [z_ko_ok ko, r1, z_bn_sm, s1, z_bn_sm, ← hE, t1', hE]
  dsimp only
  rw [z_bd_eq, z_bd_eq, z_bd_eq]
  obtain ⟨μ4, hμ4⟩ : ∃ μ4, μ4 = z_setI (z_setI (z_setI μ3 o 15 3) o 16 0) (o + 32) 1 0 := ⟨_, rfl⟩
  rw [← hμ4]
  have a1 := c_addS (N := N) (s := 0) (μ := μ4) k32 (by omega) (by rw [hμ4, sI_1, if_pos ⟨rfl, rfl⟩]; rfl) 20
  rw [a1, z_bn_sm]
  obtain ⟨μ5, hμ5⟩ : ∃ μ5, μ5 = z_setI (z_setI μ4 (o + 32) 1 (nI (0 + 1))) (o + 32 + 1) 0 20 := ⟨_, rfl⟩
  rw [← hμ5]
  have a2 := c_addS (N := N) (s := 1) (μ := μ5) k32 (by omega) (by rw [hμ5, sI_1, if_neg (by omega), sI_1, if_pos ⟨rfl, rfl⟩]) (-4)
  rw [a2, z_bn_sm, z_bd_eq, z_bd_eq, z_bd_eq, z_bd_eq]
  have F : ∀ a j, ¬ (a = o + 34 ∨ a = o + 35) → (z_setI (z_setI (z_setI (z_setI (z_setI (z_setI μ5 (o + 32) 1 (nI (1 + 1))) (o + 32 + 1) 1 (-4)) (o + 34) 0 0) (o + 35) 0 1) (o + 34) 1 1) (o + 35) 1 2).1 a j = (z_setI (z_setI μ5 (o + 32) 1 (nI (1 + 1))) (o + 32 + 1) 1 (-4)).1 a j := fun a j z => by
    rw [sI_1, if_neg (by omega), sI_1, if_neg (by omega), sI_1, if_neg (by omega), sI_1, if_neg (by omega)]
  have G : ∀ a j, ¬ (32 + o ≤ a ∧ a ≤ o + 35) → (z_setI (z_setI (z_setI (z_setI (z_setI (z_setI μ5 (o + 32) 1 (nI (1 + 1))) (o + 32 + 1) 1 (-4)) (o + 34) 0 0) (o + 35) 0 1) (o + 34) 1 1) (o + 35) 1 2).1 a j = (z_setI (z_setI μ3 o 15 3) o 16 0).1 a j := fun a j z => by
    rw [F a j (by omega), sI_1, if_neg (by omega), sI_1, if_neg (by omega), hμ5, sI_1, if_neg (by omega), sI_1, if_neg (by omega), hμ4, sI_1, if_neg (by omega)]
  have G2 : ∀ a j, ¬ (32 + o ≤ a ∧ a ≤ o + 35) → a ≠ o → (z_setI (z_setI (z_setI (z_setI (z_setI (z_setI μ5 (o + 32) 1 (nI (1 + 1))) (o + 32 + 1) 1 (-4)) (o + 34) 0 0) (o + 35) 0 1) (o + 34) 1 1) (o + 35) 1 2).1 a j = μ3.1 a j := fun a j z z2 => by
    rw [G a j z, sI_1, if_neg (by omega), sI_1, if_neg (by omega)]
  refine ⟨_, rfl, ?_, fun a j z => ?_, ⟨⟨fun k hk => ?_, fun k hk i hi => absurd hi (Nat.not_lt_zero _), fun i hi => absurd hi (Nat.not_lt_zero _), fun i hi => ?_, fun i hi w hw => ?_, fun x hx y hy => ?_, fun w hw => absurd hw (Nat.not_lt_zero _), fun i hi => absurd hi (Nat.not_lt_zero _), ?_, ?_, fun f hf => ?_⟩, ?_, fun f b hf hb hlt => ?_, fun k hk => ?_, fun k hk => rfl, rfl, rfl, fun k => show (0 : Nat) < 1000 by omega⟩⟩
  · show μ5.2 = _
    rw [hμ5]
    show μ4.2 = _
    rw [hμ4]
    show μ3.2 = _
    rw [t2, s2, r2]
  · rw [G2 a j (by omega) (by omega), t3, if_neg (by omega), if_neg (by omega), s3, if_neg (by omega), r3, if_neg (by omega)]
  · rw [G2 _ _ (by omega) (by omega), t3, if_neg (by omega), if_neg (by omega), s3, if_neg (by omega), r3, if_pos (by omega)]
    rfl
  · rw [G2 _ _ (by omega) (by omega), t3, if_neg (by omega), if_neg (by omega), s3, if_pos (by omega)]
    have : nearB hInit i = 0 := by rw [nearB_8]; rfl
    rw [this]; rfl
  · rw [G2 _ _ (by omega) (by omega), t3, if_pos (by omega)]
    rfl
  · rw [G2 _ _ (by omega) (by omega), t3, if_neg (by omega), if_pos (by omega)]
    rfl
  · rw [G _ _ (by omega), sI_1, if_neg (by omega), sI_1, if_pos ⟨rfl, rfl⟩]; rfl
  · rw [G _ _ (by omega), sI_1, if_pos ⟨rfl, rfl⟩]; rfl
  · rcases (show f = 0 ∨ f = 1 by omega) with rfl | rfl
    · refine ⟨0, 1, ?_, ?_, by omega, rfl, fun k c hkc => ?_⟩
      · rw [sI_1, if_neg (by omega), sI_1, if_neg (by omega), sI_1, if_neg (by omega), sI_1, if_pos ⟨rfl, rfl⟩]; rfl
      · rw [sI_1, if_neg (by omega), sI_1, if_neg (by omega), sI_1, if_pos ⟨rfl, rfl⟩]; rfl
      · rcases k with _ | k
        · have : c = 20 := by cases hkc; rfl
          rw [this, F _ _ (by omega), sI_1, if_neg (by omega), sI_1, if_neg (by omega), hμ5, sI_1, if_pos ⟨by omega, rfl⟩]
        · cases hkc
    · refine ⟨1, 2, ?_, ?_, by omega, rfl, fun k c hkc => ?_⟩
      · rw [sI_1, if_neg (by omega), sI_1, if_pos ⟨rfl, rfl⟩]; rfl
      · rw [sI_1, if_pos ⟨rfl, rfl⟩]; rfl
      · rcases k with _ | k
        · have : c = -4 := by cases hkc; rfl
          rw [this, F _ _ (by omega), sI_1, if_pos ⟨by omega, by omega⟩]
        · cases hkc
  · rw [F _ _ (by omega), sI_1, if_neg (by omega), sI_1, if_pos ⟨rfl, rfl⟩]
  · rcases (show f = 0 ∨ f = 1 by omega) with rfl | rfl
    · rw [sI_1, if_neg (by omega), sI_1, if_neg (by omega), sI_1, if_pos ⟨rfl, rfl⟩] at hb
      have := (nI_eq (a := 1) (by omega) hlt).mp hb
      omega
    · rw [sI_1, if_pos ⟨rfl, rfl⟩] at hb
      have := (nI_eq (a := 2) (by omega) hlt).mp hb
      omega
  · rw [G2 _ _ (by omega) (by omega), t3, if_neg (by omega), if_neg (by omega), s3, if_neg (by omega), r3, if_pos (by omega)]
    rfl
/-- the text opened -/
theorem c_open {t : Nat → Nat} {n : Nat} {N : Nat} (hN : 1700 ≤ N) {μ : z_S} (hx : cX t n μ) : ∃ μ', f_X10_open N μ = some ((), μ') ∧ μ'.2 = μ.2 ∧ (∀ a j, ¬ (a = 1 ∧ 2 ≤ j ∧ j ≤ 9) → μ'.1 a j = μ.1 a j) ∧ cG t n (skp t n 0) false μ' ∧ μ'.1 1 3 = -1 := by
  unfold f_X10_open
  rw [z_bd_eq, z_bd_eq, z_bd_eq, z_bd_eq]
  obtain ⟨μ1, hμ1⟩ : ∃ μ1, μ1 = z_setI (z_setI (z_setI (z_setI μ 1 2 0) 1 3 (-1)) 1 4 0) 1 9 0 := ⟨_, rfl⟩
  rw [← hμ1]
  have e : ∀ a j, ¬ (a = 1 ∧ 2 ≤ j ∧ j ≤ 9) → μ1.1 a j = μ.1 a j := fun a j z => by rw [hμ1, sI_1, if_neg (by omega), sI_1, if_neg (by omega), sI_1, if_neg (by omega), sI_1, if_neg (by omega)]
  have hx1 : cX t n μ1 := ⟨hx.1, by rw [e _ _ (by omega)]; exact hx.2.1, fun k => by rw [e _ _ (by omega)]; exact hx.2.2.1 k, hx.2.2.2.1, fun k c hc => by rw [e _ _ (by omega)]; exact hx.2.2.2.2 k c hc⟩
  have h14 : μ1.1 1 4 = 0 := by rw [hμ1, sI_1, if_neg (by omega), sI_1, if_pos ⟨rfl, rfl⟩]
  obtain ⟨μ', r1, r2, r3⟩ := c_next0 N hN hx1 (e := 0) (by omega) (by rw [hμ1, sI_1, if_pos ⟨rfl, rfl⟩]; rfl)
  rw [show decide ((μ1.1 1 4 = 1 ∨ μ1.1 1 4 = 2) ∧ skp t n 0 = 0) = false from decide_eq_false (by rw [h14]; rintro ⟨z | z, _⟩ <;> exact absurd z (by decide))] at r3
  rw [r1, z_bn_sm]
  refine ⟨μ', rfl, by rw [r2.1, hμ1]; rfl, fun a j z => by rw [r2.2 _ _ (by omega), e a j z], ⟨r2.cX hx1, r3, ?_, (skp_b (Nat.zero_le _)).2⟩, ?_⟩
  · rw [r2.2 _ _ (by omega), hμ1, sI_1, if_neg (by omega), sI_1, if_neg (by omega), sI_1, if_neg (by omega), sI_1, if_pos ⟨rfl, rfl⟩]
  · rw [r2.2 _ _ (by omega), hμ1, sI_1, if_neg (by omega), sI_1, if_neg (by omega), sI_1, if_pos ⟨rfl, rfl⟩]
