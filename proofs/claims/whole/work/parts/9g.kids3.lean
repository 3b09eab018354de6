theorem c_hope {h : aH} {o : Nat} (ok : okH h) (hk : z_kw true o = (2, 0)) (ho : 56 ≤ o) (N : Nat) (hN : 20 ≤ N) (e : z_S → Option (Unit × z_S)) : ∀ f l μ, l ≤ hCnt h 0 → l < f → cH o h μ → (∀ i, l ≤ i → i ≤ hCnt h 0 → μ.2.1 38 i = lN (hopO h i (hCnt h 0 - i))) → ∃ μ', f_X7_chooseGroups_L18 N o e f (nI l - 1) μ = e μ' ∧ μ'.1 = μ.1 ∧ μ'.2.2 = μ.2.2 ∧ ∀ i, i ≤ hCnt h 0 → μ'.2.1 38 i = lN (hopO h i (hCnt h 0 - i)) := by
  have h8 := ok.1
  intro f
  induction f with
  | zero => intro l μ h1 h2; omega
  | succ f ih =>
    intro l μ h1 h2 hc hh
    show ∃ μ', b_X7_chooseGroups_L18 N o (f_X7_chooseGroups_L18 N o e f) e (nI l - 1) μ = _ ∧ _
    unfold b_X7_chooseGroups_L18
    by_cases z : l = 0
    · subst z
      rw [if_pos (show nI 0 - 1 < (0 : Int32) by decide)]
      exact ⟨μ, rfl, rfl, rfl, fun i hi => hh i (Nat.zero_le _) hi⟩
    · obtain ⟨j, rfl⟩ : ∃ j, l = j + 1 := ⟨l - 1, by omega⟩
      have e1 : nI (j + 1) - 1 = nI j := pk_sub (b := 1) (by omega)
      have e2 : nI j + (1 : Int32) = nI (j + 1) := nI_1 j
      have e3 : nI j + (-1 : Int32) = nI j - 1 := (Int32.sub_eq_add_neg (nI j) 1).symm
      rw [e1, if_neg (show ¬ nI j < (0 : Int32) from nI_nlt (b := 0) (Nat.zero_le _) (by omega)), e2, z_in_nI (show j + 1 < 9 by omega) (by decide), c_bestO ok hk N (by omega) hc (show j < 8 by omega), z_bn_sm, z_in_nI (show j < 9 by omega) (by decide), nI_toNat (show j + 1 < 2 ^ 31 by omega), nI_toNat (show j < 2 ^ 31 by omega), hh (j + 1) (Nat.le_refl _) h1, lN_mul, z_bd_eq, z_bd_eq, e3]
      obtain ⟨μ', r1, r2, r3, r4⟩ := ih j (z_setJ μ 38 j (lN (hopO h (j + 1) (hCnt h 0 - (j + 1)) * bstO h j))) (by omega) (by omega) (cH_of hc ⟨ok.1, ok.2.1, ok.2.2.1⟩ (fun q i _ _ => rfl)) (fun i q1 q2 => by
        rw [sJ_21]
        by_cases y : i = j
        · rw [if_pos ⟨rfl, y⟩, y, show hCnt h 0 - j = (hCnt h 0 - (j + 1)) + 1 by omega]
          rfl
        · rw [if_neg (fun q => y q.2)]; exact hh i (by omega) q2)
      exact ⟨μ', r1, r2, r3, r4⟩
theorem updO_K {h : aH} {b : Option (Nat → Nat)} (u : updO h (fun S => rgs (hCnt h 0) S ∧ ∀ q, q < 0 → S q = 0) none b) : ∃ R, b = some R ∧ bstK h R := by
  have z0 : rgs (hCnt h 0) (fun _ => 0) := fun q hq => Nat.zero_le _
  rcases u.1 with e | ⟨R, e, xR, g, hR⟩
  · have := u.2 (fun _ => 0) ⟨z0, fun _ _ => rfl⟩
    rw [e] at this
    exact absurd this (Nat.not_succ_le_zero _)
  · refine ⟨R, e, xR.1, fun S hS => ⟨?_, fun ho => hR S ⟨hS, fun q hq => by omega⟩ ho⟩⟩
    have := u.2 S ⟨hS, fun q hq => by omega⟩
    rw [e] at this
    exact Nat.le_of_succ_le_succ this
theorem c_groups {h : aH} {o : Nat} (ok : okH h) (hk : z_kw true o = (2, 0)) (ho : 56 ≤ o) (N : Nat) (hN : 20 ≤ N) {μ : z_S} (hc : cH o h μ) : ∃ R μ', f_X7_chooseGroups N o μ = some ((), μ') ∧ oFr μ μ' ∧ μ'.1 34 3 = nI (grpN R (hCnt h 0)) ∧ (∀ q, q < hCnt h 0 → μ'.1 36 q = nI (R q)) ∧ bstK h R := by
  have h8 := ok.1
  obtain ⟨μ1, p1, p2, p3, p4⟩ := c_hope ok hk ho N hN (fun μ49 => z_bd (z_setJ μ49 34 6 (-1 : Int64)) fun μ_4 => z_bd (z_setI μ_4 34 3 (0 : Int32)) fun μ_5 => z_bn (f_X7_place N 12 o (0 : Int32) (0 : Int32) (1 : Int64) μ_5) fun _ μ_6 => some ((), μ_6)) N (hCnt h 0) (z_setJ μ 38 (hCnt h 0) (1 : Int64)) (Nat.le_refl _) (by omega) (cH_of hc ⟨ok.1, ok.2.1, ok.2.2.1⟩ (fun q i _ _ => rfl)) (fun i q1 q2 => by
    rw [sJ_21, if_pos ⟨rfl, by omega⟩, show hCnt h 0 - i = 0 by omega]
    rfl)
  have p1' : f_X7_chooseGroups_L18 N o (fun μ49 => z_bd (z_setJ μ49 34 6 (-1 : Int64)) fun μ_4 => z_bd (z_setI μ_4 34 3 (0 : Int32)) fun μ_5 => z_bn (f_X7_place N 12 o (0 : Int32) (0 : Int32) (1 : Int64) μ_5) fun _ μ_6 => some ((), μ_6)) N (nI (hCnt h 0) - 1) (z_setJ μ 38 (hCnt h 0) (1 : Int64)) = z_bn (f_X7_place N 12 o (0 : Int32) (0 : Int32) (1 : Int64) (z_setI (z_setJ μ1 34 6 (-1 : Int64)) 34 3 (0 : Int32))) fun _ μ_6 => some ((), μ_6) := p1
  generalize hμ2 : z_setI (z_setJ μ1 34 6 (-1 : Int64)) 34 3 (0 : Int32) = μ2 at p1'
  have f2 : ∀ a j, ¬ (a = 34 ∧ j = 3) → μ2.1 a j = μ.1 a j := fun a j q => by rw [← hμ2, sI_1, if_neg q, sJ_1, p2]; rfl
  have g2 : ∀ a j, ¬ (a = 34 ∧ j = 6) → μ2.2.1 a j = μ1.2.1 a j := fun a j q => by rw [← hμ2, sI_2, sJ_21, if_neg q]
  have k2 : μ2.2.2 = μ.2.2 := by rw [← hμ2]; exact p3
  obtain ⟨b, μ3, q1, q2, q3, q4, q5⟩ := c_place ok hk ho N hN (hCnt h 0) 0 μ2 12 (fun _ => 0) none (by omega) (by omega) (cH_of hc ⟨ok.1, ok.2.1, ok.2.2.1⟩ (fun q i _ _ => f2 q i (by omega))) ⟨by rw [← hμ2]; rfl, fun R hR => absurd hR (by intro z; cases z)⟩ (fun i hi => by rw [g2 _ _ (by omega)]; exact p4 i hi) (fun q hq => by omega) (fun q hq => by omega)
  have q1' : f_X7_place N 12 o (0 : Int32) (0 : Int32) (1 : Int64) μ2 = some ((), μ3) := q1
  obtain ⟨R, rfl, hR⟩ := updO_K q5
  refine ⟨R, μ3, ?_, ⟨q2.1.trans k2, fun a j q => ?_⟩, (q3.2 R rfl).1, (q3.2 R rfl).2, hR⟩
  · unfold f_X7_chooseGroups
    rw [z_ko_ok hk, hc.1 0 (by decide), z_bd_eq, z_in_nI (show hCnt h 0 < 9 by omega) (by decide), nI_toNat (show hCnt h 0 < 2 ^ 31 by omega), z_bd_eq, z_bd_eq, p1', q1', z_bn_sm]
  · rw [q2.2.1 a j (by omega) (by omega) (by omega)]
    exact f2 a j (by omega)
/-! the reference goes through all groups -/
theorem m_oddsO {A : aS} {ν : z_S} (ok : okS A) (h : mS A ν) (N : Nat) (hN : 20 ≤ N) {R : Nat → Nat} (hR : rowM 298 R ν) (hRb : ∀ q, q < hCnt (sH A) 0 → R q ≤ 100) : f_X12_oddsIn N ν = some (lN (odO (sH A) R (hCnt (sH A) 0)), ν) := by
  have h8 := ok.2.2.1.1
  have hb := ok.2.2.1.2.2.2.2.2.2.2.2.2.2.2.2.1
  have hsy := ok.2.2.1.2.2.2.2.2.2.2.2.2.2.2.2.2.1
  have ho : ∀ a, a < 8 → ∀ b, b < 8 → ν.1 290 (64 + 8 * a + b) = nI (hOdds (sH A) a b) := h.2.2.2.2.2.2.1.2.2.2.2.2.1
  have inn : ∀ l, l < hCnt (sH A) 0 → ∀ (e : Int64 → z_S → Option (Int64 × z_S)) x f i, l < i → i ≤ hCnt (sH A) 0 → hCnt (sH A) 0 - i < f → f_X12_oddsIn_L17 N (nI l) e f (lN (x * prodL (fun i => if l < i then facO (sH A) R i l else 1) i)) (nI i) ν = e (lN (x * prodL (fun i => if l < i then facO (sH A) R i l else 1) (hCnt (sH A) 0))) ν := by
    intro l hl e x f
    induction f with
    | zero => intro i h1 h2 h3; omega
    | succ f ih =>
      intro i h1 h2 h3
      show b_X12_oddsIn_L17 N (nI l) (f_X12_oddsIn_L17 N (nI l) e f) e (lN (x * prodL (fun i => if l < i then facO (sH A) R i l else 1) i)) (nI i) ν = _
      unfold b_X12_oddsIn_L17 f_X12_oddsIn_B80 f_X12_oddsIn_B82
      rw [m_lM h, z_bn_sm]
      by_cases hlt : i < hCnt (sH A) 0
      · have ek : nI i + 1 = nI (i + 1) := nI_1 i
        have ei : ((64 : Int32) + (8 : Int32) * nI l) + nI i = nI (64 + 8 * l + i) := by
          rw [show (8 : Int32) * nI l = nI (8 * l) from pk_mul 8 l, show (64 : Int32) + nI (8 * l) = nI (64 + 8 * l) from nI_add 64 (8 * l), nI_add]
        have h11 := hb l i
        have b1 := hRb l hl
        have b2 := hRb i hlt
        have en := ih (i + 1) (by omega) (by omega) (by omega)
        have es : prodL (fun i => if l < i then facO (sH A) R i l else 1) (i + 1) = prodL (fun i => if l < i then facO (sH A) R i l else 1) i * facO (sH A) R i l := by
          show _ * (if l < i then facO (sH A) R i l else 1) = _
          rw [if_pos h1]
        have ef : facO (sH A) R i l = if hOdds (sH A) l i = 0 then 1 else if R i = R l then hOdds (sH A) l i - 1 else 11 - hOdds (sH A) l i := by unfold facO; rw [hsy i l]
        rw [es, ← Nat.mul_assoc, ef] at en
        simp only [z_bd_eq]
        rw [if_pos (nI_lt hlt (by omega)), ei, z_in_nI (show 64 + 8 * l + i < 128 by omega) (by decide), nI_toNat (show 64 + 8 * l + i < 2 ^ 31 by omega), ho l (by omega) i (by omega), z_in_nI (show l < 8 by omega) (by decide), z_in_nI (show i < 8 by omega) (by decide), nI_toNat (show l < 2 ^ 31 by omega), nI_toNat (show i < 2 ^ 31 by omega), hR l (by omega), hR i (by omega), ek]
        by_cases c0 : hOdds (sH A) l i = 0
        · rw [if_pos ((nI_m1 (by omega)).mpr c0)]
          rw [if_pos c0, Nat.mul_one] at en
          exact en
        · rw [if_neg (fun z => c0 ((nI_m1 (by omega)).mp z)), odd_10 h11 c0, odd_m1 h11 c0]
          rw [if_neg c0] at en
          by_cases c1 : R i = R l
          · rw [if_pos (by rw [c1]), nI_l (by omega), lN_mul]
            rw [if_pos c1] at en
            exact en
          · rw [if_neg (fun z => c1 ((nI_eq (by omega) (by omega)).mp z.symm)), nI_l (by omega), lN_mul]
            rw [if_neg c1] at en
            exact en
      · rw [if_neg (nI_nlt (by omega) (by omega)), show i = hCnt (sH A) 0 by omega]
  have out : ∀ f l, l ≤ hCnt (sH A) 0 → hCnt (sH A) 0 - l < f → f_X12_oddsIn_L4 N f (lN (prodL (fun i => prodL (fun l => if i < l then facO (sH A) R l i else 1) (hCnt (sH A) 0)) l)) (nI l) ν = some (lN (prodL (fun i => prodL (fun l => if i < l then facO (sH A) R l i else 1) (hCnt (sH A) 0)) (hCnt (sH A) 0)), ν) := by
    intro f
    induction f with
    | zero => intro l h1 h2; omega
    | succ f ih =>
      intro l h1 h2
      show b_X12_oddsIn_L4 N (f_X12_oddsIn_L4 N f) (lN (prodL (fun i => prodL (fun l => if i < l then facO (sH A) R l i else 1) (hCnt (sH A) 0)) l)) (nI l) ν = _
      unfold b_X12_oddsIn_L4
      rw [m_lM h, z_bn_sm]
      by_cases hlt : l < hCnt (sH A) 0
      · have ek : nI l + (1 : Int32) = nI (l + 1) := nI_1 l
        have q := inn l hlt (fun y88_1 μ88 => z_bd (nI l + 1) fun x7 => f_X12_oddsIn_L4 N f y88_1 x7 μ88) (prodL (fun i => prodL (fun l => if i < l then facO (sH A) R l i else 1) (hCnt (sH A) 0)) l) N (l + 1) (by omega) (by omega) (by omega)
        rw [prodL_one (f := fun i => if l < i then facO (sH A) R i l else 1) (l + 1) (fun k hk => if_neg (by omega)), Nat.mul_one] at q
        rw [show nI l + 1 = nI (l + 1) from ek] at q
        rw [if_pos (nI_lt hlt (by omega)), z_bd_eq, ek, q, z_bd_eq]
        exact ih (l + 1) (by omega) (by omega)
      · rw [if_neg (nI_nlt (by omega) (by omega)), show l = hCnt (sH A) 0 by omega]
  have q := out N 0 (Nat.zero_le _) (by omega)
  rw [← prodL_swap] at q
  exact q
