/-! sets beside sets -/
theorem nI_or {a b : Nat} (ha : a < 2 ^ 31) (hb : b < 2 ^ 31) : nI a ||| nI b = nI (a ||| b) := by
  apply Int32.toBitVec_inj.mp
  apply BitVec.eq_of_toNat_eq
  have h := Nat.or_lt_two_pow ha hb
  rw [Int32.toBitVec_or, BitVec.toNat_or, pk_tn (by omega), pk_tn (by omega), pk_tn (by omega)]
theorem nI_xor {a b : Nat} (ha : a < 2 ^ 31) (hb : b < 2 ^ 31) : nI a ^^^ nI b = nI (a ^^^ b) := by
  apply Int32.toBitVec_inj.mp
  apply BitVec.eq_of_toNat_eq
  have h := Nat.xor_lt_two_pow ha hb
  rw [Int32.toBitVec_xor, BitVec.toNat_xor, pk_tn (by omega), pk_tn (by omega), pk_tn (by omega)]
theorem nI_and {a b : Nat} (ha : a < 2 ^ 31) (hb : b < 2 ^ 31) : nI a &&& nI b = nI (a &&& b) := by
  apply Int32.toBitVec_inj.mp
  apply BitVec.eq_of_toNat_eq
  have h := Nat.and_lt_two_pow a hb
  rw [Int32.toBitVec_and, BitVec.toNat_and, pk_tn (by omega), pk_tn (by omega), pk_tn (by omega)]
def subS (S R : Nat) : Prop := ∀ c, S.testBit c = true → R.testBit c = true
theorem sub_and {a b : Nat} (h : subS a b) : a &&& b = a := by
  refine Nat.eq_of_testBit_eq (fun i => ?_)
  rw [Nat.testBit_and]
  cases ha : a.testBit i
  · rfl
  · rw [h i ha]; rfl
theorem sub_half {a b : Nat} (h : subS a b) : subS (a / 2) (b / 2) := fun c hc => by
  rw [Nat.testBit_div_two] at hc ⊢
  exact h _ hc
theorem sub_next : ∀ (n set rest S : Nat), set ≤ n → subS set rest → subS S rest → S < set → S ≤ (set - 1) &&& rest := by
  intro n
  induction n with
  | zero => intro set rest S h1 _ _ h4; omega
  | succ n ih =>
    intro set rest S h1 h2 h3 h4
    have hd : ((set - 1) &&& rest) / 2 = (set - 1) / 2 &&& rest / 2 := Nat.and_div_two
    by_cases ho : set % 2 = 1
    · have e : (set - 1) / 2 = set / 2 := by omega
      rw [e, sub_and (sub_half h2)] at hd
      omega
    · have e : (set - 1) / 2 = set / 2 - 1 := by omega
      rw [e] at hd
      have i1 := ih (set / 2) (rest / 2) (S / 2) (by omega) (sub_half h2) (sub_half h3) (by omega)
      rw [← hd] at i1
      by_cases hs : S % 2 = 1
      · have hr : rest % 2 = 1 := by
          have h0 := h3 0 (by rw [Nat.testBit_zero]; exact decide_eq_true hs)
          rw [Nat.testBit_zero] at h0
          exact of_decide_eq_true h0
        have : ((set - 1) &&& rest) % 2 = 1 := Nat.and_mod_two_eq_one.mpr ⟨by omega, hr⟩
        omega
      · omega
theorem sub_and_r (a b : Nat) : subS (a &&& b) b := fun c hc => by
  rw [Nat.testBit_and, Bool.and_eq_true] at hc
  exact hc.2
def dsj (m S D : Nat) : Prop := ∀ c, c < m → S.testBit c = true → D.testBit c = false
theorem rest_sub {m S d : Nat} (hS : S < 2 ^ m) : subS S ((2 ^ m - 1) ^^^ d) ↔ dsj m S d := by
  constructor
  · intro h c hc hb
    have := h c hb
    rw [Nat.testBit_xor, Nat.testBit_two_pow_sub_one, decide_eq_true hc] at this
    cases hd : d.testBit c
    · rfl
    · rw [hd] at this; cases this
  · intro h c hb
    have hc : c < m := by
      rcases Nat.lt_or_ge c m with q | q
      · exact q
      · have : S < 2 ^ c := Nat.lt_of_lt_of_le hS (Nat.pow_le_pow_right (by decide) q)
        rw [Nat.testBit_lt_two_pow this] at hb
        cases hb
    rw [Nat.testBit_xor, Nat.testBit_two_pow_sub_one, decide_eq_true hc, h c hc hb]
    rfl
theorem dsj_ne {m S d : Nat} (hS : S < 2 ^ m) (h0 : S ≠ 0) (h : dsj m S d) : d ≠ d ||| S := by
  intro e
  apply h0
  refine bit_ext hS (Nat.two_pow_pos m) (fun c hc => ?_)
  rw [Nat.zero_testBit]
  cases hb : S.testBit c
  · rfl
  · have h1 := h c hc hb
    rw [e, Nat.testBit_or, hb, Bool.or_true] at h1
    cases h1
theorem addJ {x y : Int64} (hx : -4611686018427387904 ≤ x.toInt ∧ x.toInt ≤ 4611686018427387903) (hy : -4611686018427387904 ≤ y.toInt ∧ y.toInt ≤ 4611686018427387903) : (x + y).toInt = x.toInt + y.toInt := by
  rw [Int64.toInt_add]
  exact Int.bmod_eq_of_le (by omega) (by omega)
abbrev bB (μ : z_S) (T : Nat) : Int := (μ.2.1 20 T).toInt
abbrev gB (μ : z_S) (S : Nat) : Int := (μ.2.1 19 S).toInt
theorem m1J (x : Int64) : x = (-1 : Int64) ↔ x.toInt = -1 := by
  rw [← Int64.toInt_inj]
  exact Iff.rfl
/-- beside the row of best sums nothing has changed -/
def bFr (μ μ' : z_S) : Prop := μ'.2.2 = μ.2.2 ∧ μ'.1 = μ.1 ∧ ∀ a j, a ≠ 20 → μ'.2.1 a j = μ.2.1 a j
theorem c_spreadI {m : Nat} (hm : m ≤ 8) (N : Nat) (c1 : Int32) {d : Nat} (hd : d < 2 ^ m) {μ0 : z_S} (hbd : -1 ≤ bB μ0 d ∧ bB μ0 d ≤ 1125899906842624) (hg : ∀ S, S < 2 ^ m → -1 ≤ gB μ0 S ∧ gB μ0 S ≤ 1125899906842624) (e : z_S → Option (Unit × z_S)) : ∀ f set μ, set < 2 ^ m → set < f → subS set ((2 ^ m - 1) ^^^ d) → bFr μ0 μ → (∀ T, T < 2 ^ m → bB μ0 T ≤ bB μ T) → (∀ S, S < 2 ^ m → set < S → dsj m S d → gB μ0 S ≠ -1 → bB μ0 d + gB μ0 S ≤ bB μ (d ||| S)) → (∀ T, T < 2 ^ m → bB μ T = bB μ0 T ∨ ∃ S, S < 2 ^ m ∧ S ≠ 0 ∧ dsj m S d ∧ gB μ0 S ≠ -1 ∧ T = d ||| S ∧ bB μ T = bB μ0 d + gB μ0 S) → ∃ μ', f_X1_spread_L29 N c1 (nI d) (nI ((2 ^ m - 1) ^^^ d)) e f (nI set) μ = e μ' ∧ bFr μ0 μ' ∧ (∀ T, T < 2 ^ m → bB μ0 T ≤ bB μ' T) ∧ (∀ S, S < 2 ^ m → S ≠ 0 → dsj m S d → gB μ0 S ≠ -1 → bB μ0 d + gB μ0 S ≤ bB μ' (d ||| S)) ∧ (∀ T, T < 2 ^ m → bB μ' T = bB μ0 T ∨ ∃ S, S < 2 ^ m ∧ S ≠ 0 ∧ dsj m S d ∧ gB μ0 S ≠ -1 ∧ T = d ||| S ∧ bB μ' T = bB μ0 d + gB μ0 S) := by
  have hm2 : 2 ^ m ≤ 256 := Nat.le_trans (Nat.pow_le_pow_right (by decide) hm) (by decide)
  have hrl : (2 ^ m - 1) ^^^ d < 2 ^ m := Nat.xor_lt_two_pow (by omega) hd
  intro f
  induction f with
  | zero => intro set μ _ h; omega
  | succ f ih =>
    intro set μ s1 s2 s3 fr i1 i2 i3
    show ∃ μ', b_X1_spread_L29 N c1 (nI d) (nI ((2 ^ m - 1) ^^^ d)) (f_X1_spread_L29 N c1 (nI d) (nI ((2 ^ m - 1) ^^^ d)) e f) e (nI set) μ = _ ∧ _
    unfold b_X1_spread_L29 f_X1_spread_B83 f_J9_max_f86c9
    by_cases h0 : set = 0
    · subst h0
      rw [if_neg (show ¬ (0 : Int32) < nI 0 by decide)]
      exact ⟨μ, rfl, fr, i1, fun S a b c d => i2 S a (by omega) c d, i3⟩
    · have hpos : (0 : Int32) < nI set := nI_lt (a := 0) (by omega) (by omega)
      have es : nI set - (1 : Int32) = nI (set - 1) := pk_sub (b := 1) (by omega)
      have ea : nI (set - 1) &&& nI ((2 ^ m - 1) ^^^ d) = nI ((set - 1) &&& ((2 ^ m - 1) ^^^ d)) := nI_and (by omega) (by omega)
      have hnl : (set - 1) &&& ((2 ^ m - 1) ^^^ d) ≤ set - 1 := Nat.and_le_left
      have hdj : dsj m set d := (rest_sub s1).mp s3
      have eo : nI d ||| nI set = nI (d ||| set) := nI_or (by omega) (by omega)
      have hol : d ||| set < 2 ^ m := Nat.or_lt_two_pow hd s1
      simp only [z_bd_eq]
      rw [if_pos hpos, z_in_nI (show set < 256 by omega) (by decide), nI_toNat (show set < 2 ^ 31 by omega), es, ea, eo, z_in_nI (show d ||| set < 256 by omega) (by decide), z_in_nI (show d < 256 by omega) (by decide), z_in_nI (show set < 256 by omega) (by decide), nI_toNat (show d ||| set < 2 ^ 31 by omega), nI_toNat (show d < 2 ^ 31 by omega)]
      have hG : μ.2.1 19 set = μ0.2.1 19 set := fr.2.2 19 set (by decide)
      have next : ∀ μ1, bFr μ0 μ1 → (∀ T, T < 2 ^ m → bB μ T ≤ bB μ1 T) → (gB μ0 set ≠ -1 → bB μ0 d + gB μ0 set ≤ bB μ1 (d ||| set)) → (∀ T, T < 2 ^ m → bB μ1 T = bB μ T ∨ (gB μ0 set ≠ -1 ∧ T = d ||| set ∧ bB μ1 T = bB μ0 d + gB μ0 set)) → ∃ μ', f_X1_spread_L29 N c1 (nI d) (nI ((2 ^ m - 1) ^^^ d)) e f (nI ((set - 1) &&& ((2 ^ m - 1) ^^^ d))) μ1 = e μ' ∧ bFr μ0 μ' ∧ (∀ T, T < 2 ^ m → bB μ0 T ≤ bB μ' T) ∧ (∀ S, S < 2 ^ m → S ≠ 0 → dsj m S d → gB μ0 S ≠ -1 → bB μ0 d + gB μ0 S ≤ bB μ' (d ||| S)) ∧ (∀ T, T < 2 ^ m → bB μ' T = bB μ0 T ∨ ∃ S, S < 2 ^ m ∧ S ≠ 0 ∧ dsj m S d ∧ gB μ0 S ≠ -1 ∧ T = d ||| S ∧ bB μ' T = bB μ0 d + gB μ0 S) := by
        intro μ1 f1 k1 k2 k3
        refine ih _ μ1 (by omega) (by omega) (sub_and_r _ _) f1 (fun T hT => Int.le_trans (i1 T hT) (k1 T hT)) (fun S hS hlt hj hgS => ?_) (fun T hT => ?_)
        · have hoS : d ||| S < 2 ^ m := Nat.or_lt_two_pow hd hS
          rcases Nat.lt_trichotomy S set with q | q | q
          · have := sub_next set set ((2 ^ m - 1) ^^^ d) S (Nat.le_refl _) s3 ((rest_sub hS).mpr hj) q
            omega
          · subst q
            exact k2 hgS
          · exact Int.le_trans (i2 S hS q hj hgS) (k1 _ hoS)
        · rcases k3 T hT with q | ⟨q1, q2, q3⟩
          · rcases i3 T hT with z | ⟨S, z1, z2, z3, z4, z5, z6⟩
            · exact Or.inl (q.trans z)
            · exact Or.inr ⟨S, z1, z2, z3, z4, z5, q.trans z6⟩
          · exact Or.inr ⟨set, s1, h0, hdj, q1, q2, q3⟩
      by_cases hgm : μ.2.1 19 set = (-1 : Int64)
      · rw [if_pos hgm]
        have hgm' : gB μ0 set = -1 := by rw [hG] at hgm; exact (m1J _).mp hgm
        exact next μ fr (fun T _ => Int.le_refl _) (fun z => absurd hgm' z) (fun T _ => Or.inl rfl)
      · rw [if_neg hgm]
        have hgm' : gB μ0 set ≠ -1 := fun z => hgm (by rw [hG]; exact (m1J _).mpr z)
        have hbd' : bB μ d = bB μ0 d := by
          rcases i3 d hd with z | ⟨S, z1, z2, z3, z4, z5, z6⟩
          · exact z
          · exact absurd z5 (dsj_ne z1 z2 z3)
        have hgs := hg set s1
        have hsum : (μ.2.1 20 d + μ.2.1 19 set).toInt = bB μ0 d + gB μ0 set := by
          have e1 : (μ.2.1 20 d).toInt = bB μ0 d := hbd'
          have e2 : (μ.2.1 19 set).toInt = gB μ0 set := by rw [hG]
          rw [addJ (by rw [e1]; omega) (by rw [e2]; omega), e1, e2]
        have set1 : ∀ v, bFr μ0 (z_setJ μ 20 (d ||| set) v) := fun v => ⟨fr.1, fr.2.1, fun a j ha => by rw [sJ_21, if_neg (fun z => ha z.1)]; exact fr.2.2 a j ha⟩
        have rd : ∀ v T, bB (z_setJ μ 20 (d ||| set) v) T = if T = d ||| set then v.toInt else bB μ T := fun v T => by
          show ((z_setJ μ 20 (d ||| set) v).2.1 20 T).toInt = _
          rw [sJ_21]
          by_cases z : T = d ||| set
          · rw [if_pos ⟨rfl, z⟩, if_pos z]
          · rw [if_neg (fun q => z q.2), if_neg z]
        by_cases hlt : μ.2.1 20 (d ||| set) < μ.2.1 20 d + μ.2.1 19 set
        · rw [if_pos hlt, z_bn_sm, z_in_nI (show d ||| set < 256 by omega) (by decide)]
          rw [Int64.lt_iff_toInt_lt, hsum] at hlt
          refine next _ (set1 _) (fun T _ => ?_) (fun _ => ?_) (fun T _ => ?_)
          · rw [rd]
            by_cases z : T = d ||| set
            · rw [if_pos z, hsum, z]; exact Int.le_of_lt hlt
            · rw [if_neg z]; exact Int.le_refl _
          · rw [rd, if_pos rfl, hsum]; exact Int.le_refl _
          · rw [rd]
            by_cases z : T = d ||| set
            · rw [if_pos z, hsum]; exact Or.inr ⟨hgm', z, rfl⟩
            · rw [if_neg z]; exact Or.inl rfl
        · rw [if_neg hlt, z_bn_sm, z_in_nI (show d ||| set < 256 by omega) (by decide)]
          rw [Int64.lt_iff_toInt_lt, hsum] at hlt
          have same : ∀ T, bB (z_setJ μ 20 (d ||| set) (μ.2.1 20 (d ||| set))) T = bB μ T := fun T => by
            rw [rd]
            by_cases z : T = d ||| set
            · rw [if_pos z, z]
            · rw [if_neg z]
          refine next _ (set1 _) (fun T _ => ?_) (fun _ => ?_) (fun T _ => ?_)
          · rw [same]; exact Int.le_refl _
          · rw [same]; exact Int.not_lt.mp hlt
          · rw [same]; exact Or.inl rfl
theorem c_spread {m : Nat} (hm : m ≤ 8) (N : Nat) (hN : 300 ≤ N) {μ0 : z_S} (hb : ∀ T, T < 2 ^ m → -1 ≤ bB μ0 T ∧ bB μ0 T ≤ 1125899906842624) (hg : ∀ S, S < 2 ^ m → -1 ≤ gB μ0 S ∧ gB μ0 S ≤ 1125899906842624) : ∃ μ', f_X1_spread N (nI (2 ^ m - 1)) μ0 = some ((), μ') ∧ bFr μ0 μ' ∧ SprF m (gB μ0) (bB μ0) (bB μ') := by
  have hm2 : 2 ^ m ≤ 256 := Nat.le_trans (Nat.pow_le_pow_right (by decide) hm) (by decide)
  have hm1 : 1 ≤ 2 ^ m := Nat.one_le_two_pow
  have key : ∀ f k μ, k ≤ 2 ^ m → k < f → bFr μ0 μ → (∀ T, T < 2 ^ m → bB μ0 T ≤ bB μ T) → (∀ D S, k ≤ D → D < 2 ^ m → S < 2 ^ m → S ≠ 0 → dsj m S D → bB μ0 D ≠ -1 → gB μ0 S ≠ -1 → bB μ0 D + gB μ0 S ≤ bB μ (D ||| S)) → (∀ T, T < 2 ^ m → bB μ T = bB μ0 T ∨ ∃ D S, k ≤ D ∧ D < 2 ^ m ∧ S < 2 ^ m ∧ dsj m S D ∧ bB μ0 D ≠ -1 ∧ gB μ0 S ≠ -1 ∧ T = D ||| S ∧ bB μ T = bB μ0 D + gB μ0 S) → ∃ μ', f_X1_spread_L2 N (nI (2 ^ m - 1)) f (nI k - 1) μ = some ((), μ') ∧ bFr μ0 μ' ∧ SprF m (gB μ0) (bB μ0) (bB μ') := by
    intro f
    induction f with
    | zero => intro k μ _ h; omega
    | succ f ih =>
      intro k μ k1 k2 fr i1 i2 i3
      show ∃ μ', b_X1_spread_L2 N (nI (2 ^ m - 1)) (f_X1_spread_L2 N (nI (2 ^ m - 1)) f) (nI k - 1) μ = _ ∧ _
      unfold b_X1_spread_L2 f_X1_spread_B94
      cases k with
      | zero =>
        rw [if_pos (show nI 0 - (1 : Int32) < 0 by decide)]
        refine ⟨μ, rfl, fr, i1, fun D S a b c d e f => i2 D S (Nat.zero_le _) a b c d e f, fun T hT => ?_⟩
        rcases i3 T hT with z | ⟨D, S, -, z⟩
        · exact Or.inl z
        · exact Or.inr ⟨D, S, z⟩
      | succ d =>
        have ed : nI (d + 1) - (1 : Int32) = nI d := nI_pred d
        have em : nI d + (-1 : Int32) = nI d - 1 := (Int32.sub_eq_add_neg (nI d) 1).symm
        have hdl : d < 2 ^ m := by omega
        have hbd : bB μ d = bB μ0 d := by
          rcases i3 d hdl with z | ⟨D, S, z1, z2, z3, z4, z5, z6, z7, z8⟩
          · exact z
          · have : D ≤ D ||| S := Nat.left_le_or
            omega
        have er : nI (2 ^ m - 1) ^^^ nI d = nI ((2 ^ m - 1) ^^^ d) := nI_xor (by omega) (by omega)
        have hrl : (2 ^ m - 1) ^^^ d < 2 ^ m := Nat.xor_lt_two_pow (by omega) hdl
        simp only [z_bd_eq]
        rw [ed, if_neg (nI_pos (show d < 2 ^ 31 by omega)), z_in_nI (show d < 256 by omega) (by decide), nI_toNat (show d < 2 ^ 31 by omega), em, er]
        by_cases hm1 : μ.2.1 20 d = (-1 : Int64)
        · rw [if_pos hm1]
          have hb0 : bB μ0 d = -1 := by rw [← hbd]; exact (m1J _).mp hm1
          refine ih d μ (by omega) (by omega) fr i1 (fun D S a b c d' e g h => ?_) (fun T hT => ?_)
          · by_cases z : D = d
            · rw [z] at g; exact absurd hb0 g
            · exact i2 D S (by omega) b c d' e g h
          · rcases i3 T hT with z | ⟨D, S, z1, z⟩
            · exact Or.inl z
            · exact Or.inr ⟨D, S, by omega, z⟩
        · rw [if_neg hm1]
          have hb0 : bB μ0 d ≠ -1 := fun z => hm1 ((m1J _).mpr (hbd.trans z))
          have hG : ∀ S, gB μ S = gB μ0 S := fun S => by
            show (μ.2.1 19 S).toInt = _
            rw [fr.2.2 19 S (by decide)]
          obtain ⟨μ1, r1, r2, r3, r4, r5⟩ := c_spreadI hm N (nI (2 ^ m - 1)) hdl (μ0 := μ) (by rw [hbd]; exact hb d hdl) (fun S hS => by rw [hG]; exact hg S hS) (fun μ94 => f_X1_spread_L2 N (nI (2 ^ m - 1)) f (nI d - 1) μ94) N ((2 ^ m - 1) ^^^ d) μ hrl (by omega) (fun c hc => hc) ⟨rfl, rfl, fun _ _ _ => rfl⟩ (fun T _ => Int.le_refl _) (fun S hS hlt hj _ => by
            exfalso
            have h1 := (rest_sub hS).mpr hj
            have h2 := sub_and h1
            have : S &&& ((2 ^ m - 1) ^^^ d) ≤ (2 ^ m - 1) ^^^ d := Nat.and_le_right
            omega) (fun T _ => Or.inl rfl)
          rw [r1]
          refine ih d μ1 (by omega) (by omega) ⟨r2.1.trans fr.1, r2.2.1.trans fr.2.1, fun a j ha => (r2.2.2 a j ha).trans (fr.2.2 a j ha)⟩ (fun T hT => Int.le_trans (i1 T hT) (r3 T hT)) (fun D S a b c d' e g h => ?_) (fun T hT => ?_)
          · by_cases z : D = d
            · subst z
              have := r4 S c d' e (by rw [hG]; exact h)
              rw [hbd, hG] at this
              exact this
            · exact Int.le_trans (i2 D S (by omega) b c d' e g h) (r3 _ (Nat.or_lt_two_pow b c))
          · rcases r5 T hT with z | ⟨S, z1, z2, z3, z4, z5, z6⟩
            · rcases i3 T hT with y | ⟨D, S, y1, y2, y3, y4, y5, y6, y7, y8⟩
              · exact Or.inl (z.trans y)
              · exact Or.inr ⟨D, S, by omega, y2, y3, y4, y5, y6, y7, z.trans y8⟩
            · rw [hbd, hG] at z6
              rw [hG] at z4
              exact Or.inr ⟨d, S, Nat.le_refl _, hdl, z1, z3, hb0, z4, z5, z6⟩
  unfold f_X1_spread
  have e0 : nI (2 ^ m) - (1 : Int32) = nI (2 ^ m - 1) := pk_sub (b := 1) hm1
  rw [← e0]
  have := key N (2 ^ m) μ0 (Nat.le_refl _) (by omega) ⟨rfl, rfl, fun _ _ _ => rfl⟩ (fun T _ => Int.le_refl _) (fun D S a b => by omega) (fun T _ => Or.inl rfl)
  rw [← e0] at this
  exact this
