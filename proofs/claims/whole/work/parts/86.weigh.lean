/-! longs: shifts, masks; the weighing of a letter -/
theorem shlJ (x s : Int64) (k : Nat) (c : Int64) (hs : (s.toBitVec.smod 64).toNat = k) (hc : c.toBitVec = BitVec.twoPow 64 k) : x <<< s = x * c := by
  apply Int64.toBitVec_inj.mp
  show x.toBitVec <<< (s.toBitVec.smod 64).toNat = _
  rw [hs, BitVec.shiftLeft_eq_mul_twoPow, Int64.toBitVec_mul, hc]
theorem shrJ (x s : Int64) (k : Nat) (hs : (s.toBitVec.smod 64).toNat = k) : (x >>> s).toInt = x.toInt / 2 ^ k := by
  show (x.toBitVec.sshiftRight (s.toBitVec.smod 64).toNat).toInt = _
  rw [hs, BitVec.toInt_sshiftRight, Int.shiftRight_eq_div_pow]
  rfl
theorem andJ (a : Int) : iJ a &&& (65535 : Int64) = iJ (a % 65536) := by
  apply Int64.toBitVec_inj.mp
  apply BitVec.eq_of_toNat_eq
  rw [Int64.toBitVec_and, BitVec.toNat_and, show (65535 : Int64).toBitVec.toNat = 2 ^ 16 - 1 from rfl, Nat.and_two_pow_sub_one_eq_mod]
  show (BitVec.ofInt 64 a).toNat % 2 ^ 16 = (BitVec.ofInt 64 (a % 65536)).toNat
  rw [BitVec.toNat_ofInt, BitVec.toNat_ofInt]
  omega
theorem p4_mul (x : Int64) {l : Nat} (hl : l < 8) : x <<< (((14 : Int32) - (2 : Int32) * nI l).toInt64 &&& 63) = x * iJ (p4 l) := by
  have hs : l = 0 ∨ l = 1 ∨ l = 2 ∨ l = 3 ∨ l = 4 ∨ l = 5 ∨ l = 6 ∨ l = 7 := by omega
  rcases hs with rfl | rfl | rfl | rfl | rfl | rfl | rfl | rfl
  · exact shlJ x _ 14 _ (by decide) (by decide)
  · exact shlJ x _ 12 _ (by decide) (by decide)
  · exact shlJ x _ 10 _ (by decide) (by decide)
  · exact shlJ x _ 8 _ (by decide) (by decide)
  · exact shlJ x _ 6 _ (by decide) (by decide)
  · exact shlJ x _ 4 _ (by decide) (by decide)
  · exact shlJ x _ 2 _ (by decide) (by decide)
  · exact shlJ x _ 0 _ (by decide) (by decide)
theorem worth_J {w : Int} (hw : bdM w) {l i : Nat} (hl : l < 8) (hi : i < 3) : ((((268435456 : Int64) + (iI w).toInt64) <<< ((16 : Int32).toInt64 &&& 63)) - ((nI i + (1 : Int32)).toInt64 <<< (((14 : Int32) - (2 : Int32) * nI l).toInt64 &&& 63))) = iJ ((268435456 + w) * 65536 - (i + 1 : Int) * p4 l) := by
  have e1 : nI i + (1 : Int32) = nI (i + 1) := nI_1 i
  rw [p4_mul _ hl, e1, nI_J (by omega), iI_J hw, shlJ _ _ 16 (iJ 65536) (by decide) (by decide), show (268435456 : Int64) = iJ 268435456 from rfl, ← Int64.ofInt_add, ← Int64.ofInt_mul, ← Int64.ofInt_mul, ← Int64.ofInt_sub]
  congr 1
def ableB (h : aH) (n : aN) (l i : Nat) : Bool := decide (nDone n l = 0 ∧ hMail h l 2 ≤ hHelp h i 2 ∧ timeV h n l i ≤ nLeft n i)
theorem ableB_iff (h : aH) (n : aN) (l i : Nat) : ableB h n l i = true ↔ ableV h n l i := decide_eq_true_iff
def anyB (f : Nat → Bool) : Nat → Bool
  | 0 => false
  | k + 1 => anyB f k || f k
theorem anyB_iff (f : Nat → Bool) : ∀ n, anyB f n = true ↔ ∃ k, k < n ∧ f k = true
  | 0 => ⟨fun h => (Bool.noConfusion h), fun ⟨k, h, _⟩ => absurd h (Nat.not_lt_zero _)⟩
  | n + 1 => by
    have ih := anyB_iff f n
    show (anyB f n || f n) = true ↔ _
    rw [Bool.or_eq_true]
    constructor
    · rintro (h | h)
      · obtain ⟨k, h1, h2⟩ := ih.mp h
        exact ⟨k, by omega, h2⟩
      · exact ⟨n, by omega, h⟩
    · rintro ⟨k, h1, h2⟩
      by_cases e : k = n
      · rw [← e]; exact Or.inr h2
      · exact Or.inl (ih.mpr ⟨k, by omega, h2⟩)
/-- whether a letter is open and anybody can answer it -/
def opnB (h : aH) (n : aN) (l : Nat) : Bool := decide (l < hCnt h 0) && anyB (ableB h n l) (hCnt h 2)
/-- only the machine, and column c of the times and worths have changed -/
def eFr (c : Nat) (μ μ' : z_S) : Prop := μ'.2.2 = μ.2.2 ∧ (∀ a j, ¬ (4 ≤ a ∧ a ≤ 7) → ¬ (11 ≤ a ∧ a ≤ 13 ∧ j = c) → μ'.1 a j = μ.1 a j) ∧ ∀ a j, ¬ (15 ≤ a ∧ a ≤ 17 ∧ j = c) → μ'.2.1 a j = μ.2.1 a j
theorem eFr.rf (c : Nat) (μ : z_S) : eFr c μ μ := ⟨rfl, fun _ _ _ _ => rfl, fun _ _ _ => rfl⟩
theorem eFr.tr {c : Nat} {μ μ1 μ2 : z_S} (h : eFr c μ μ1) (g : eFr c μ1 μ2) : eFr c μ μ2 := ⟨g.1.trans h.1, fun a j h1 h2 => (g.2.1 a j h1 h2).trans (h.2.1 a j h1 h2), fun a j h1 => (g.2.2 a j h1).trans (h.2.2 a j h1)⟩
theorem cFr.e {μ μ' : z_S} (h : cFr μ μ') (c : Nat) : eFr c μ μ' := ⟨by rw [h.1], fun a j h1 _ => h.2 a j h1, fun a j _ => by rw [h.1]⟩
theorem eFr.cH {c o : Nat} {h : aH} {μ μ' : z_S} (ok : okH h) (ho : 56 ≤ o) (hc : cH o h μ) (g : eFr c μ μ') : cH o h μ' := cH_of hc ⟨ok.1, ok.2.1, ok.2.2.1⟩ (fun q j h1 h2 => g.2.1 q j (by omega) (by omega))
theorem eFr.cN {c s : Nat} {n : aN} {μ μ' : z_S} (hs : 39 ≤ s) (hc : cN s n μ) (g : eFr c μ μ') : cN s n μ' := cN_of hc (fun q j h1 h2 => g.2.1 q j (by omega) (by omega))
/-- a plan's heap and state -/
def plK (o s : Nat) : Prop := z_kw true o = (2, 0) ∧ z_kw true s = (8, 0) ∧ z_kw true (o + 32) = (0, 0) ∧ 56 ≤ o ∧ 39 ≤ s
theorem c_weighL {h : aH} {n : aN} {o s : Nat} (ok : okH h) (hn : okN h n) (hk : plK o s) (N : Nat) (hN : 1700 ≤ N) {l c : Nat} (hl : l < hCnt h 0) (hc8 : c < 8) : ∀ f i μ, i ≤ hCnt h 2 → hCnt h 2 - i < f → cH o h μ → cN s n μ → ∃ μ', f_X1_weigh_L6 N o s (nI l) (nI c) f (if anyB (ableB h n l) i then 1 else 0) (nI i) μ = some (if anyB (ableB h n l) (hCnt h 2) then 1 else 0, μ') ∧ eFr c μ μ' ∧ (∀ k, k < i → μ'.1 (11 + k) c = μ.1 (11 + k) c ∧ μ'.2.1 (15 + k) c = μ.2.1 (15 + k) c) ∧ ∀ k, i ≤ k → k < hCnt h 2 → (ableV h n l k ∧ μ'.1 (11 + k) c = nI (timeV h n l k) ∧ μ'.2.1 (15 + k) c = iJ (worV (warmV h n) l k)) ∨ (¬ ableV h n l k ∧ μ'.1 (11 + k) c = -1) := by
  obtain ⟨k1, k2, k3, k4, k5⟩ := hk
  have h3 := ok.2.2.1
  have h8 := ok.1
  intro f
  induction f with
  | zero => intro i μ h1 h2; omega
  | succ f ih =>
    intro i μ h1 h2 hc hcn
    show ∃ μ', b_X1_weigh_L6 N o s (nI l) (nI c) (f_X1_weigh_L6 N o s (nI l) (nI c) f) _ (nI i) μ = _ ∧ _
    unfold b_X1_weigh_L6 f_X1_weigh_B101 f_X1_rowShift
    rw [hc.1 2 (by decide)]
    by_cases hlt : i < hCnt h 2
    · have ek : nI i + 1 = nI (i + 1) := nI_1 i
      have ean : anyB (ableB h n l) (i + 1) = (anyB (ableB h n l) i || ableB h n l i) := rfl
      obtain ⟨r, μ1, p1, p2, p3⟩ := c_able ok hn k1 k2 k3 k4 k5 hc hcn N hN hl hlt
      rw [if_pos (nI_lt hlt (by omega)), p1, z_bn_sm, z_in_nI (show i < 3 by omega) (by decide), z_in_nI hc8 (by decide), z_bd_eq, nI_toNat (show i < 2 ^ 31 by omega), nI_toNat (show c < 2 ^ 31 by omega)]
      generalize hμ2 : z_setI μ1 (11 + i) c r = μ2
      have o2 : ∀ a j, ¬ (a = 11 + i ∧ j = c) → μ2.1 a j = μ1.1 a j := fun a j q => by rw [← hμ2, sI_1, if_neg q]
      have d2 : μ2.1 (11 + i) c = r := by rw [← hμ2, sI_1, if_pos ⟨rfl, rfl⟩]
      have b2 : μ2.2 = μ1.2 := by rw [← hμ2]; rfl
      have f2 : eFr c μ μ2 := ⟨by rw [b2, p2.1], fun a j q1 q2 => by rw [o2 _ _ (by omega)]; exact p2.2 a j q1, fun a j _ => by rw [b2, p2.1]⟩
      have hc2 := f2.cH ok k4 hc
      have hn2 := f2.cN k5 hcn
      rcases p3 with ⟨p3, rfl⟩ | ⟨p3, rfl⟩
      · have ht := timeV_bd h n l i
        rw [if_neg (nI_nm1 (by omega))]
        obtain ⟨μ3, q1, q2, q3⟩ := c_warm ok hn k1 k2 k3 k4 k5 hc2 hn2 N hN hl hlt
        rw [q1, z_bn_sm, z_bd_eq, z_bn_sm, z_bd_eq, z_in_nI (show i < 3 by omega) (by decide), z_in_nI hc8 (by decide), z_bd_eq, z_bd_eq, worth_J q2 (by omega) (by omega), ek]
        generalize hμ4 : z_setJ μ3 (15 + i) c (iJ ((268435456 + warmV h n l i) * 65536 - (i + 1 : Int) * p4 l)) = μ4
        have o4 : ∀ a j, ¬ (a = 15 + i ∧ j = c) → μ4.2.1 a j = μ3.2.1 a j := fun a j q => by rw [← hμ4, sJ_21, if_neg q]
        have d4 : μ4.2.1 (15 + i) c = iJ (worV (warmV h n) l i) := by rw [← hμ4, sJ_21, if_pos ⟨rfl, rfl⟩]; rfl
        have e4 : μ4.1 = μ3.1 := by rw [← hμ4]; rfl
        have b4 : μ4.2.2 = μ3.2.2 := by rw [← hμ4]; rfl
        have f4 : eFr c μ μ4 := ⟨by rw [b4, q3.1]; exact f2.1, fun a j w1 w2 => by rw [e4, q3.2 a j w1]; exact f2.2.1 a j w1 w2, fun a j w1 => by rw [o4 _ _ (by omega), q3.1]; exact f2.2.2 a j w1⟩
        obtain ⟨μ5, r1, r2, r3, r4⟩ := ih (i + 1) μ4 (by omega) (by omega) (f4.cH ok k4 hc) (f4.cN k5 hcn)
        have hab := (ableB_iff h n l i).mpr p3
        rw [ean, hab, Bool.or_true, if_pos rfl] at r1
        refine ⟨μ5, r1, f4.tr r2, fun k hk => ?_, fun k w1 w2 => ?_⟩
        · obtain ⟨v1, v2⟩ := r3 k (by omega)
          refine ⟨v1.trans ?_, v2.trans ?_⟩
          · rw [e4, q3.2 _ _ (by omega), o2 _ _ (by omega)]; exact p2.2 _ _ (by omega)
          · rw [o4 _ _ (by omega), q3.1, b2, p2.1]
        · by_cases e : k = i
          · subst e
            obtain ⟨v1, v2⟩ := r3 k (by omega)
            exact Or.inl ⟨p3, by rw [v1, e4, q3.2 _ _ (by omega)]; exact d2, v2.trans d4⟩
          · exact r4 k (by omega) w2
      · rw [if_pos rfl, z_bd_eq, ek]
        obtain ⟨μ5, r1, r2, r3, r4⟩ := ih (i + 1) μ2 (by omega) (by omega) hc2 hn2
        have hab : ableB h n l i = false := by
          cases hq : ableB h n l i
          · rfl
          · exact absurd ((ableB_iff h n l i).mp hq) p3
        rw [ean, hab, Bool.or_false] at r1
        refine ⟨μ5, r1, f2.tr r2, fun k hk => ?_, fun k w1 w2 => ?_⟩
        · obtain ⟨v1, v2⟩ := r3 k (by omega)
          refine ⟨v1.trans ?_, v2.trans ?_⟩
          · rw [o2 _ _ (by omega)]; exact p2.2 _ _ (by omega)
          · rw [b2, p2.1]
        · by_cases e : k = i
          · subst e
            obtain ⟨v1, v2⟩ := r3 k (by omega)
            exact Or.inr ⟨p3, v1.trans d2⟩
          · exact r4 k (by omega) w2
    · have : i = hCnt h 2 := by omega
      subst this
      rw [if_neg (nI_nlt (Nat.le_refl _) (by omega)), z_zb_ok ifzb]
      exact ⟨μ, rfl, eFr.rf c μ, fun k _ => ⟨rfl, rfl⟩, fun k w1 w2 => by omega⟩
/-- the columns up to letter l are laid -/
def colM (h : aH) (n : aN) (l : Nat) (μ : z_S) : Prop := ∀ q, q < l → opnB h n q = true → ∀ k, k < hCnt h 2 → (ableV h n q k ∧ μ.1 (11 + k) (colI (opnB h n) q) = nI (timeV h n q k) ∧ μ.2.1 (15 + k) (colI (opnB h n) q) = iJ (worV (warmV h n) q k)) ∨ (¬ ableV h n q k ∧ μ.1 (11 + k) (colI (opnB h n) q) = -1)
/-- the machine's and the evening's own objects alone have changed -/
def pFr (μ μ' : z_S) : Prop := μ'.2.2 = μ.2.2 ∧ ∀ a j, ¬ (4 ≤ a ∧ a ≤ 20) → μ'.1 a j = μ.1 a j
theorem pFr.rf (μ : z_S) : pFr μ μ := ⟨rfl, fun _ _ _ => rfl⟩
theorem pFr.tr {μ μ1 μ2 : z_S} (h : pFr μ μ1) (g : pFr μ1 μ2) : pFr μ μ2 := ⟨g.1.trans h.1, fun a j h1 => (g.2 a j h1).trans (h.2 a j h1)⟩
theorem eFr.p {c : Nat} {μ μ' : z_S} (h : eFr c μ μ') : pFr μ μ' := ⟨h.1, fun a j h1 => h.2.1 a j (by omega) (by omega)⟩
theorem pFr.cH {o : Nat} {h : aH} {μ μ' : z_S} (ok : okH h) (ho : 56 ≤ o) (hc : cH o h μ) (g : pFr μ μ') : cH o h μ' := cH_of hc ⟨ok.1, ok.2.1, ok.2.2.1⟩ (fun q j h1 h2 => g.2 q j (by omega))
theorem pFr.cN {s : Nat} {n : aN} {μ μ' : z_S} (hs : 39 ≤ s) (hc : cN s n μ) (g : pFr μ μ') : cN s n μ' := cN_of hc (fun q j h1 h2 => g.2 q j (by omega))
theorem pFr.cS {A : aS} {μ μ' : z_S} (ok : okS A) (h : cS A μ) (g : pFr μ μ') : cS A μ' := cS_scr ok h (by rw [g.1]) (fun o j ho => g.2 o j (by unfold cRel at ho; omega))
theorem c_planL {h : aH} {n : aN} {o s : Nat} (ok : okH h) (hn : okN h n) (hk : plK o s) (N : Nat) (hN : 1700 ≤ N) (e : Int32 → z_S → Option (Unit × z_S)) : ∀ f l μ, l ≤ hCnt h 0 → hCnt h 0 - l < f → cH o h μ → cN s n μ → colM h n l μ → ∃ μ', f_X1_plan_L5 N o s e f (nI (colI (opnB h n) l)) (nI l) μ = e (nI (colI (opnB h n) (hCnt h 0))) μ' ∧ pFr μ μ' ∧ colM h n (hCnt h 0) μ' := by
  have hk' := hk
  obtain ⟨k1, k2, k3, k4, k5⟩ := hk
  have h3 := ok.2.2.1
  have h8 := ok.1
  intro f
  induction f with
  | zero => intro i μ h1 h2; omega
  | succ f ih =>
    intro l μ h1 h2 hc hcn hcol
    show ∃ μ', b_X1_plan_L5 N o s (f_X1_plan_L5 N o s e f) e (nI (colI (opnB h n) l)) (nI l) μ = _ ∧ _
    unfold b_X1_plan_L5 f_X1_plan_B31
    rw [hc.1 0 (by decide)]
    by_cases hlt : l < hCnt h 0
    · have ek : nI l + 1 = nI (l + 1) := nI_1 l
      have hcl := colI_le (opnB h n) l
      have ec : nI (colI (opnB h n) l) + 1 = nI (colI (opnB h n) l + 1) := nI_1 _
      obtain ⟨μ1, p1, p2, p3, p4⟩ := c_weighL ok hn hk' N hN hlt (c := colI (opnB h n) l) (by omega) N 0 μ (Nat.zero_le _) (by omega) hc hcn
      have p1' : f_X1_weigh N o s (nI l) (nI (colI (opnB h n) l)) μ = some (if anyB (ableB h n l) (hCnt h 2) then 1 else 0, μ1) := by
        unfold f_X1_weigh
        rw [z_ko_ok k1, z_ko_ok k2]
        exact p1
      have hop : opnB h n l = anyB (ableB h n l) (hCnt h 2) := by unfold opnB; rw [decide_eq_true hlt, Bool.true_and]
      rw [if_pos (nI_lt hlt (by omega)), p1', z_bn_sm]
      simp only [z_bd_eq]
      rw [ek, ec]
      have old : ∀ q, q < l → opnB h n q = true → ∀ k, k < hCnt h 2 → (ableV h n q k ∧ μ1.1 (11 + k) (colI (opnB h n) q) = nI (timeV h n q k) ∧ μ1.2.1 (15 + k) (colI (opnB h n) q) = iJ (worV (warmV h n) q k)) ∨ (¬ ableV h n q k ∧ μ1.1 (11 + k) (colI (opnB h n) q) = -1) := by
        intro q hq ho k hk
        have hlt2 := colI_lt (opnB h n) hq ho
        rw [p2.2.1 (11 + k) (colI (opnB h n) q) (by omega) (by omega), p2.2.2 (15 + k) (colI (opnB h n) q) (by omega)]
        exact hcol q hq ho k hk
      have ecI : colI (opnB h n) (l + 1) = if opnB h n l = true then colI (opnB h n) l + 1 else colI (opnB h n) l := rfl
      have hcol' : colM h n (l + 1) μ1 := by
        intro q hq ho k hk
        by_cases e : q = l
        · subst e
          exact p4 k (Nat.zero_le _) hk
        · exact old q (by omega) ho k hk
      obtain ⟨μ2, r1, r2, r3⟩ := ih (l + 1) μ1 (by omega) (by omega) (p2.cH ok k4 hc) (p2.cN k5 hcn) hcol'
      rw [ecI, hop] at r1
      by_cases ca : anyB (ableB h n l) (hCnt h 2) = true
      · rw [if_pos ca] at r1 ⊢
        rw [if_neg (by decide)]
        exact ⟨μ2, r1, p2.p.tr r2, r3⟩
      · rw [if_neg ca] at r1 ⊢
        rw [if_pos rfl]
        exact ⟨μ2, r1, p2.p.tr r2, r3⟩
    · have : l = hCnt h 0 := by omega
      subst this
      rw [if_neg (nI_nlt (Nat.le_refl _) (by omega))]
      exact ⟨μ, rfl, pFr.rf μ, hcol⟩
