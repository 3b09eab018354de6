/-! the class groups letters -/
theorem c_odd {h : aH} {o : Nat} {μ : z_S} (hc : cH o h μ) {a b : Nat} (ha : a < 8) (hb : b < 8) : μ.1 (o + 20 + a) b = nI (hOdds h a b) - 1 := hc.2.2.2.2.2.1 a ha b hb
theorem odd_m1 {n : Nat} (h : n ≤ 11) (hn : ¬ n = 0) : nI n - 1 = nI (n - 1) := pk_sub (b := 1) (by omega)
theorem odd_10 {n : Nat} (h : n ≤ 11) (hn : ¬ n = 0) : (10 : Int32) - (nI n - 1) = nI (11 - n) := by
  rw [odd_m1 h hn, show (10 : Int32) - nI (n - 1) = nI (10 - (n - 1)) from pk_sub (a := 10) (by omega), show 10 - (n - 1) = 11 - n by omega]
theorem c_bestO {h : aH} {o : Nat} (ok : okH h) (hk : z_kw true o = (2, 0)) (N : Nat) (hN : 10 ≤ N) {μ : z_S} (hc : cH o h μ) {l : Nat} (hl : l < 8) : f_X7_bestOdds N o (nI l) μ = some (lN (bstO h l), μ) := by
  have hb := ok.2.2.2.2.2.2.2.2.2.2.2.2.1
  have key : ∀ f i, i ≤ l → l - i < f → f_X7_bestOdds_L5 N o (nI l) f (lN (prodL (mxO h l) i)) (nI i) μ = some (lN (bstO h l), μ) := by
    intro f
    induction f with
    | zero => intro i h1 h2; omega
    | succ f ih =>
      intro i h1 h2
      show b_X7_bestOdds_L5 N o (nI l) (f_X7_bestOdds_L5 N o (nI l) f) (lN (prodL (mxO h l) i)) (nI i) μ = _
      unfold b_X7_bestOdds_L5 f_X7_bestOdds_B44 f_J9_max_7cf53
      by_cases hlt : i < l
      · have ek : nI i + 1 = nI (i + 1) := nI_1 i
        have h11 := hb l i
        have en := ih (i + 1) (by omega) (by omega)
        simp only [z_bd_eq]
        rw [if_pos (nI_lt hlt (by omega)), z_in_nI (show l < 8 by omega) (by decide), z_in_nI (show i < 8 by omega) (by decide), nI_toNat (show i < 2 ^ 31 by omega), nI_toNat (show l < 2 ^ 31 by omega), c_odd hc hl (show i < 8 by omega), ek]
        by_cases c0 : hOdds h l i = 0
        · rw [if_pos ((nI_m1 (by omega)).mpr c0), show (1 : Int64) = lN 1 by decide, lN_mul]
          rw [show prodL (mxO h l) i * 1 = prodL (mxO h l) (i + 1) by
            show _ = prodL (mxO h l) i * mxO h l i
            unfold mxO
            rw [if_pos c0]]
          exact en
        · rw [if_neg (fun z => c0 ((nI_m1 (by omega)).mp z)), odd_10 h11 c0, odd_m1 h11 c0]
          have es : prodL (mxO h l) (i + 1) = prodL (mxO h l) i * (if hOdds h l i - 1 < 11 - hOdds h l i then 11 - hOdds h l i else hOdds h l i - 1) := by
            show prodL (mxO h l) i * mxO h l i = _
            rw [show mxO h l i = _ from if_neg c0]
          rw [es] at en
          by_cases c1 : hOdds h l i - 1 < 11 - hOdds h l i
          · rw [if_pos (nI_lt c1 (by omega)), z_bn_sm, nI_l (by omega), lN_mul]
            rw [if_pos c1] at en
            exact en
          · rw [if_neg (nI_nlt (by omega) (by omega)), z_bn_sm, nI_l (by omega), lN_mul]
            rw [if_neg c1] at en
            exact en
      · have : i = l := by omega
        subst this
        rw [if_neg (nI_nlt (Nat.le_refl _) (by omega))]
        rfl
  unfold f_X7_bestOdds
  rw [z_ko_ok hk]
  exact key N 0 (Nat.zero_le _) (by omega)
theorem c_oddsO {h : aH} {o : Nat} (ok : okH h) (hk : z_kw true o = (2, 0)) (N : Nat) (hN : 10 ≤ N) {μ : z_S} (hc : cH o h μ) {l : Nat} (hl : l < 8) {R : Nat → Nat} (hR : ∀ q, q ≤ l → μ.1 37 q = nI (R q) ∧ R q ≤ 100) : f_X7_oddsOf N o (nI l) μ = some (lN (rowO h R l), μ) := by
  have hb := ok.2.2.2.2.2.2.2.2.2.2.2.2.1
  have key : ∀ f i, i ≤ l → l - i < f → f_X7_oddsOf_L5 N o (nI l) f (lN (prodL (facO h R l) i)) (nI i) μ = some (lN (rowO h R l), μ) := by
    intro f
    induction f with
    | zero => intro i h1 h2; omega
    | succ f ih =>
      intro i h1 h2
      show b_X7_oddsOf_L5 N o (nI l) (f_X7_oddsOf_L5 N o (nI l) f) (lN (prodL (facO h R l) i)) (nI i) μ = _
      unfold b_X7_oddsOf_L5 f_X7_oddsOf_B57 f_X7_oddsOf_B59
      by_cases hlt : i < l
      · have ek : nI i + 1 = nI (i + 1) := nI_1 i
        have h11 := hb l i
        have en := ih (i + 1) (by omega) (by omega)
        obtain ⟨r1, r2⟩ := hR i (by omega)
        obtain ⟨r3, r4⟩ := hR l (by omega)
        have es : prodL (facO h R l) (i + 1) = prodL (facO h R l) i * facO h R l i := rfl
        rw [es] at en
        unfold facO at en
        simp only [z_bd_eq]
        rw [if_pos (nI_lt hlt (by omega)), z_in_nI (show l < 8 by omega) (by decide), z_in_nI (show i < 8 by omega) (by decide), z_in_nI (show l < 8 by omega) (by decide), z_in_nI (show i < 8 by omega) (by decide), nI_toNat (show i < 2 ^ 31 by omega), nI_toNat (show l < 2 ^ 31 by omega), c_odd hc hl (show i < 8 by omega), ek, r1, r3]
        by_cases c0 : hOdds h l i = 0
        · rw [if_pos ((nI_m1 (by omega)).mpr c0)]
          rw [if_pos c0, Nat.mul_one] at en
          exact en
        · rw [if_neg (fun z => c0 ((nI_m1 (by omega)).mp z)), odd_10 h11 c0, odd_m1 h11 c0]
          rw [if_neg c0] at en
          by_cases c1 : R l = R i
          · rw [if_pos (by rw [c1]), nI_l (by omega), lN_mul]
            rw [if_pos c1] at en
            exact en
          · rw [if_neg (fun z => c1 ((nI_eq (by omega) (by omega)).mp z)), nI_l (by omega), lN_mul]
            rw [if_neg c1] at en
            exact en
      · have : i = l := by omega
        subst this
        rw [if_neg (nI_nlt (Nat.le_refl _) (by omega))]
        rfl
  unfold f_X7_oddsOf
  rw [z_ko_ok hk]
  exact key N 0 (Nat.zero_le _) (by omega)
/-- the class' rows of the groups: the best so far -/
def gK (h : aH) (b : Option (Nat → Nat)) (μ : z_S) : Prop := μ.2.1 34 6 = iJ ((bvO h b : Int) - 1) ∧ ∀ R, b = some R → μ.1 34 3 = nI (grpN R (hCnt h 0)) ∧ ∀ q, q < hCnt h 0 → μ.1 36 q = nI (R q)
def kR (μ μ' : z_S) : Prop := μ'.2.2 = μ.2.2 ∧ (∀ a j, ¬ (a = 34 ∧ j = 3) → a ≠ 36 → a ≠ 37 → μ'.1 a j = μ.1 a j) ∧ ∀ a j, ¬ (a = 34 ∧ j = 6) → μ'.2.1 a j = μ.2.1 a j
theorem kR.tr {μ μ1 μ2 : z_S} (h : kR μ μ1) (g : kR μ1 μ2) : kR μ μ2 := ⟨g.1.trans h.1, fun a j h1 h2 h3 => (g.2.1 a j h1 h2 h3).trans (h.2.1 a j h1 h2 h3), fun a j h1 => (g.2.2 a j h1).trans (h.2.2 a j h1)⟩
theorem kR.rf (μ : z_S) : kR μ μ := ⟨rfl, fun _ _ _ _ _ => rfl, fun _ _ _ => rfl⟩
theorem kR.cH {o : Nat} {h : aH} {μ μ' : z_S} (ok : okH h) (ho : 56 ≤ o) (hc : cH o h μ) (g : kR μ μ') : cH o h μ' := cH_of hc ⟨ok.1, ok.2.1, ok.2.2.1⟩ (fun q j h1 h2 => g.2.1 q j (by omega) (by omega) (by omega))
theorem bvO_le {h : aH} (ok : okH h) (b : Option (Nat → Nat)) : bvO h b ≤ 10000000001 := by
  have hb := ok.2.2.2.2.2.2.2.2.2.2.2.2.1
  cases b with
  | none => exact Nat.zero_le _
  | some R =>
    have := Nat.le_trans (od_pow hb R (hCnt h 0)) (sumO_10 ok ok.1)
    show odO h R (hCnt h 0) + 1 ≤ _
    omega
theorem c_place {h : aH} {o : Nat} (ok : okH h) (hk : z_kw true o = (2, 0)) (ho : 56 ≤ o) (N : Nat) (hN : 20 ≤ N) : ∀ m l μ D (P : Nat → Nat) b, l + m = hCnt h 0 → m < D → cH o h μ → gK h b μ → (∀ i, i ≤ hCnt h 0 → μ.2.1 38 i = lN (hopO h i (hCnt h 0 - i))) → (∀ q, q < l → μ.1 37 q = nI (P q)) → (∀ q, q < l → P q ≤ grpN P q) → ∃ b' μ', f_X7_place N D o (nI l) (nI (grpN P l)) (lN (odO h P l)) μ = some ((), μ') ∧ kR μ μ' ∧ gK h b' μ' ∧ (∀ q, q < l → μ'.1 37 q = nI (P q)) ∧ updO h (fun S => rgs (hCnt h 0) S ∧ ∀ q, q < l → S q = P q) b b' := by
  have h8 := ok.1
  have hb11 := ok.2.2.2.2.2.2.2.2.2.2.2.2.1
  intro m
  induction m with
  | zero =>
    intro l μ D P b h1 h2 hc hg hh hP hr
    obtain ⟨D, rfl⟩ : ∃ D', D = D' + 1 := ⟨D - 1, by omega⟩
    have hl : l = hCnt h 0 := by omega
    have hbd := bvO_le ok b
    have hod := Nat.le_trans (od_pow hb11 P l) (sumO_10 ok (show l ≤ 8 by omega))
    have e38 : μ.2.1 38 l = lN 1 := by rw [hh l (by omega), show hCnt h 0 - l = 0 by omega]; rfl
    show ∃ b' μ', g_X7_place N (f_X7_place N D) o (nI l) (nI (grpN P l)) (lN (odO h P l)) μ = _ ∧ _
    unfold g_X7_place
    rw [z_ko_ok hk, z_in_nI (show l < 9 by omega) (by decide), nI_toNat (show l < 2 ^ 31 by omega), e38, lN_mul, Nat.mul_one, hg.1]
    by_cases c : bvO h b ≤ odO h P l
    · rw [if_pos ((ob_lt hbd hod).mpr c), hc.1 0 (by decide), if_neg (nI_nlt (by omega) (by omega)), z_bd_eq, z_bd_eq, cpin_nI (show l < 2 ^ 31 by omega) (show l ≤ 8 by omega) (show l ≤ 8 by omega), z_bd_eq]
      refine ⟨some P, _, rfl, ⟨rfl, fun a j q1 q2 q3 => ?_, fun a j q => ?_⟩, ⟨?_, fun R hR => ?_⟩, fun q hq => ?_, ⟨Or.inr ⟨P, rfl, ⟨fun q hq => hr q (by omega), fun _ _ => rfl⟩, by rw [← hl]; omega, fun S hS _ => Or.inl (fun q _ hq => (hS.2 q (by omega)).symm)⟩, fun S hS => ?_⟩⟩
      · rw [cpS_1, if_neg (fun z => q2 z.1), sI_1, if_neg q1, sJ_1]
      · rw [cpS_2, sI_2, sJ_21, if_neg q]
      · rw [cpS_2, sI_2, sJ_21, if_pos ⟨rfl, rfl⟩]
        show lN (odO h P l) = iJ (((odO h P (hCnt h 0) + 1 : Nat) : Int) - 1)
        rw [lN_iJ, ← hl, show ((odO h P l + 1 : Nat) : Int) - 1 = (odO h P l : Int) by omega]
      · obtain rfl : P = R := Option.some.inj hR
        refine ⟨?_, fun q hq => ?_⟩
        · rw [cpS_1, if_neg (by omega), sI_1, if_pos ⟨rfl, rfl⟩, ← hl]
        · rw [cpS_1, if_pos ⟨rfl, Nat.zero_le _, by show q < 0 + l; omega⟩]
          show (z_setI (z_setJ μ 34 6 (lN (odO h P l))) 34 3 (nI (grpN P l))).1 37 (0 + (q - 0)) = _
          rw [sI_1, if_neg (by omega), sJ_1, show 0 + (q - 0) = q by omega]
          exact hP q (by omega)
      · rw [cpS_1, if_neg (by omega), sI_1, if_neg (by omega), sJ_1]
        exact hP q hq
      · show odO h S (hCnt h 0) + 1 ≤ odO h P (hCnt h 0) + 1
        rw [od_same (R := S) (S := P) (hCnt h 0) (fun q hq => hS.2 q (by omega))]
        exact Nat.le_refl _
    · rw [if_neg (fun z => c ((ob_lt hbd hod).mp z))]
      refine ⟨b, μ, rfl, kR.rf μ, hg, hP, updO_no (fun S hS => ?_)⟩
      rw [od_same (R := S) (S := P) (hCnt h 0) (fun q hq => hS.2 q (by omega)), ← hl]
      omega
  | succ m ih =>
    intro l μ D P b h1 h2 hc hg hh hP hr
    obtain ⟨D, rfl⟩ : ∃ D', D = D' + 1 := ⟨D - 1, by omega⟩
    have hl : l < hCnt h 0 := by omega
    have hbd := bvO_le ok b
    have hgl := grp_le l hr
    have hod := Nat.le_trans (hop_pow hb11 (hCnt h 0 - l) l (odO h P l) (od_pow hb11 P l)) (sumO_10 ok (show l + (hCnt h 0 - l) ≤ 8 by omega))
    have el : nI l + (1 : Int32) = nI (l + 1) := nI_1 l
    have key : ∀ f c b1 μ1, c ≤ grpN P l + 1 → 10 - c < f → kR μ μ1 → gK h b1 μ1 → (∀ q, q < l → μ1.1 37 q = nI (P q)) → updO h (fun S => rgs (hCnt h 0) S ∧ (∀ q, q < l → S q = P q) ∧ S l < c) b b1 → ∃ b' μ', f_X7_place_L57 N o (f_X7_place N D) (nI l) (nI (grpN P l)) (lN (odO h P l)) f (nI c) μ1 = some ((), μ') ∧ kR μ μ' ∧ gK h b' μ' ∧ (∀ q, q < l → μ'.1 37 q = nI (P q)) ∧ updO h (fun S => rgs (hCnt h 0) S ∧ ∀ q, q < l → S q = P q) b b' := by
      intro f
      induction f with
      | zero => intro c b1 μ1 g1 g2; omega
      | succ f ih2 =>
        intro c b1 μ1 g1 g2 fr1 hg1 hP1 u1
        show ∃ b' μ', b_X7_place_L57 N o (f_X7_place N D) (nI l) (nI (grpN P l)) (lN (odO h P l)) (f_X7_place_L57 N o (f_X7_place N D) (nI l) (nI (grpN P l)) (lN (odO h P l)) f) (nI c) μ1 = _ ∧ _
        unfold b_X7_place_L57 f_J9_max_7cf53
        by_cases c1 : grpN P l < c
        · rw [if_pos (nI_lt c1 (by omega))]
          refine ⟨b1, μ1, rfl, fr1, hg1, hP1, updO_iff u1 (fun S hS => ⟨hS.1, hS.2.1⟩) (fun S hS => ⟨hS.1, hS.2, ?_⟩)⟩
          have := hS.1 l hl
          rw [grp_same l hS.2] at this
          omega
        · have ec : nI c + (1 : Int32) = nI (c + 1) := nI_1 c
          rw [if_neg (nI_nlt (by omega) (by omega)), z_in_nI (show l < 8 by omega) (by decide), nI_toNat (show l < 2 ^ 31 by omega), z_bd_eq, ec]
          generalize hμ2 : z_setI μ1 37 l (nI c) = μ2
          have fr2 : kR μ μ2 := by rw [← hμ2]; exact fr1.tr ⟨rfl, fun a j _ _ q => by rw [sI_1, if_neg (fun z => q z.1)], fun _ _ _ => rfl⟩
          have hP2 : ∀ q, q < l + 1 → μ2.1 37 q = nI (upS P l c q) := fun q hq => by
            rw [← hμ2, sI_1]
            show _ = nI (if q = l then c else P q)
            by_cases z : q = l
            · rw [if_pos ⟨rfl, z⟩, if_pos z]
            · rw [if_neg (fun y => z y.2), if_neg z]; exact hP1 q (by omega)
          have hup : ∀ q, q < l → upS P l c q = P q := fun q hq => if_neg (by omega)
          have hul : upS P l c l = c := if_pos rfl
          have hru : ∀ q, q < l + 1 → upS P l c q ≤ grpN (upS P l c) q := fun q hq => by
            rw [grp_same (R := upS P l c) (S := P) q (fun i hi => hup i (by omega))]
            by_cases z : q = l
            · rw [z, hul]; omega
            · rw [hup q (by omega)]; exact hr q (by omega)
          have hgu : grpN (upS P l c) (l + 1) = if grpN P l < c + 1 then c + 1 else grpN P l := by
            show (if upS P l c l < grpN (upS P l c) l then grpN (upS P l c) l else upS P l c l + 1) = _
            rw [hul, grp_same (R := upS P l c) (S := P) l (fun i hi => hup i (by omega))]
            by_cases z : grpN P l < c + 1
            · rw [if_neg (by omega), if_pos z]
            · rw [if_pos (by omega), if_neg z]
          have emax : (if nI (grpN P l) < nI (c + 1) then some (nI (c + 1), μ2) else some (nI (grpN P l), μ2)) = some (nI (grpN (upS P l c) (l + 1)), μ2) := by
            rw [hgu]
            by_cases z : grpN P l < c + 1
            · rw [if_pos (nI_lt z (by omega)), if_pos z]
            · rw [if_neg (nI_nlt (by omega) (by omega)), if_neg z]
          have hg2 : gK h b1 μ2 := by
            rw [← hμ2]
            refine ⟨hg1.1, fun R hR => ⟨?_, fun q hq => ?_⟩⟩
            · rw [sI_1, if_neg (by omega)]; exact (hg1.2 R hR).1
            · rw [sI_1, if_neg (by omega)]; exact (hg1.2 R hR).2 q hq
          have hc2 := fr2.cH ok ho hc
          rw [emax, z_bn_sm, c_oddsO ok hk N (by omega) hc2 (show l < 8 by omega) (R := upS P l c) (fun q hq => ⟨hP2 q (by omega), by
            have := hru q (by omega)
            have := grp_le q (fun i hi => hru i (by omega))
            omega⟩), z_bn_sm, lN_mul, el]
          rw [show odO h P l * rowO h (upS P l c) l = odO h (upS P l c) (l + 1) by
            show _ = odO h (upS P l c) l * rowO h (upS P l c) l
            rw [od_same (R := upS P l c) (S := P) l hup]]
          obtain ⟨b3, μ3, p1, p2, p3, p4, p5⟩ := ih (l + 1) μ2 D (upS P l c) b1 (by omega) (by omega) hc2 hg2 (fun i hi => by rw [fr2.2.2 _ _ (by omega)]; exact hh i hi) hP2 hru
          rw [p1, z_bn_sm, z_bd_eq]
          refine ih2 (c + 1) b3 μ3 (by omega) (by omega) (fr2.tr p2) p3 (fun q hq => by rw [p4 q (by omega), hup q hq]) (updO_tr u1 p5 (fun S hS => ⟨hS.1, hS.2.1, by omega⟩) (fun S hS => ⟨hS.1, fun q hq => by rw [hS.2 q (by omega), hup q hq], by rw [hS.2 l (by omega), hul]; omega⟩) (fun S hS => ?_) (fun R S hR hS => ?_))
          · by_cases z : S l = c
            · refine Or.inr ⟨hS.1, fun q hq => ?_⟩
              by_cases y : q = l
              · rw [y, hul]; exact z
              · rw [hup q (by omega)]; exact hS.2.1 q (by omega)
            · exact Or.inl ⟨hS.1, hS.2.1, by have := hS.2.2; omega⟩
          · refine Or.inr ⟨l, Nat.zero_le _, hl, fun i _ hi => ?_, ?_⟩
            · rw [hR.2.1 i hi, hS.2 i (by omega), hup i hi]
            · rw [hS.2 l (by omega), hul]
              exact hR.2.2
    show ∃ b' μ', g_X7_place N (f_X7_place N D) o (nI l) (nI (grpN P l)) (lN (odO h P l)) μ = _ ∧ _
    unfold g_X7_place
    rw [z_ko_ok hk, z_in_nI (show l < 9 by omega) (by decide), nI_toNat (show l < 2 ^ 31 by omega), hh l (by omega), lN_mul, hg.1]
    by_cases c : bvO h b ≤ odO h P l * hopO h l (hCnt h 0 - l)
    · rw [if_pos ((ob_lt hbd hod).mpr c), hc.1 0 (by decide), if_pos (nI_lt hl (by omega))]
      exact key N 0 b μ (by omega) (by omega) (kR.rf μ) hg hP (updO_no (fun S hS => absurd hS.2.2 (by omega)))
    · rw [if_neg (fun z => c ((ob_lt hbd hod).mp z))]
      refine ⟨b, μ, rfl, kR.rf μ, hg, hP, updO_no (fun S hS => ?_)⟩
      have := od_hop (h := h) S (hCnt h 0 - l) l
      rw [show l + (hCnt h 0 - l) = hCnt h 0 by omega, od_same (R := S) (S := P) l (fun q hq => hS.2 q hq)] at this
      omega
