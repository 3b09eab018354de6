/-! rows of columns, rows of letters -/
def bearV (h : aH) (n : aN) (l i : Nat) : Prop := nDone n l = 0 ∧ hMail h l 2 ≤ hHelp h i 2
def colC (h : aH) (n : aN) (c : Nat) : Nat := colL (opnB h n) (hCnt h 0) c
def colN (h : aH) (n : aN) : Nat := colI (opnB h n) (hCnt h 0)
def abC (h : aH) (n : aN) (i c : Nat) : Prop := ableV h n (colC h n c) i
def tmC (h : aH) (n : aN) (i c : Nat) : Nat := timeV h n (colC h n c) i
def woC (h : aH) (n : aN) (i c : Nat) : Int := if i < 3 then worV (warmW h n) (colC h n c) i else 0
theorem woC_bd {h : aH} {n : aN} (ok : okH h) (hn : okN h n) (i c : Nat) : 0 ≤ woC h n i c ∧ woC h n i c ≤ 35184372088832 := by
  unfold woC
  by_cases hi : i < 3
  · rw [if_pos hi]
    refine ⟨wor_nn (warmW_bd ok hn) _ i hi, ?_⟩
    have hw := warmW_bd ok hn (colC h n c) i
    unfold bdM at hw
    have hp : 1 ≤ p4 (colC h n c) := by
      unfold p4
      repeat' split
      all_goals omega
    unfold worV
    have : 0 ≤ (i + 1 : Int) * p4 (colC h n c) := Int.mul_nonneg (by omega) (by omega)
    omega
  · rw [if_neg hi]
    exact ⟨Int.le_refl 0, by decide⟩
theorem opn_lt {h : aH} {n : aN} {l : Nat} (ho : opnB h n l = true) : l < hCnt h 0 := by
  unfold opnB at ho
  rw [Bool.and_eq_true] at ho
  exact of_decide_eq_true ho.1
theorem opn_of {h : aH} {n : aN} {l i : Nat} (hl : l < hCnt h 0) (hi : i < hCnt h 2) (ha : ableV h n l i) : opnB h n l = true := by
  unfold opnB
  rw [decide_eq_true hl, Bool.true_and]
  exact (anyB_iff _ _).mpr ⟨i, hi, (ableB_iff h n l i).mpr ha⟩
theorem sumL_to8 {L : Nat} (hL : L ≤ 8) {F : Nat → Nat} (h : ∀ l, L ≤ l → F l = 0) : sumL F 8 = sumL F L := sumL_stop h 8 hL
theorem sumC_to8 {L : Nat} {F : Nat → Int} (h : ∀ l, L ≤ l → F l = 0) : ∀ m, L ≤ m → sumC F m = sumC F L := by
  intro m hm
  induction m with
  | zero => rw [show L = 0 by omega]
  | succ m ih =>
    by_cases e : L = m + 1
    · rw [e]
    · show sumC F m + F m = _
      rw [h m (by omega), ih (by omega)]
      omega
theorem row_feas {h : aH} {n : aN} (ok : okH h) {r : Nat → Nat} (hr : RowC (colN h n) (abC h n) (tmC h n) (nLeft n) (hCnt h 2) r) : ∃ R, Feas (hCnt h 0) (hCnt h 2) (bearV h n) (timeV h n) (nLeft n) R ∧ valR (warmW h n) R = valC (colN h n) (woC h n) r := by
  have h8 := ok.1
  have h3 := ok.2.2.1
  obtain ⟨r1, r2, r3, r4⟩ := hr
  have hcol : ∀ l, opnB h n l = true → colI (opnB h n) l < colN h n ∧ colC h n (colI (opnB h n) l) = l := fun l ho => ⟨colI_lt _ (opn_lt ho) ho, colL_of _ ho _ (opn_lt ho)⟩
  have hcl : ∀ c, c < colN h n → opnB h n (colC h n c) = true ∧ colI (opnB h n) (colC h n c) = c ∧ colC h n c < hCnt h 0 := fun c hc => colL_op _ _ c hc
  have hz : ∀ l, hCnt h 0 ≤ l → (if opnB h n l = true then r (colI (opnB h n) l) else 0) = 0 := fun l hl => if_neg (fun z => by have := opn_lt z; omega)
  refine ⟨fun l => if opnB h n l = true then r (colI (opnB h n) l) else 0, ⟨fun l hl => ?_, hz, fun l hl hp => ?_, fun i hi => ?_⟩, ?_⟩
  · show (if opnB h n l = true then r (colI (opnB h n) l) else 0) ≤ hCnt h 2
    by_cases ho : opnB h n l = true
    · rw [if_pos ho]; exact r1 _ (hcol l ho).1
    · rw [if_neg ho]; exact Nat.zero_le _
  · have hp' : 0 < (if opnB h n l = true then r (colI (opnB h n) l) else 0) := hp
    show bearV h n l ((if opnB h n l = true then r (colI (opnB h n) l) else 0) - 1)
    by_cases ho : opnB h n l = true
    · rw [if_pos ho] at hp' ⊢
      have := r3 _ (hcol l ho).1 hp'
      unfold abC at this
      rw [(hcol l ho).2] at this
      exact ⟨this.1, this.2.1⟩
    · rw [if_neg ho] at hp'; omega
  · rw [sumL_to8 h8 (fun l hl => by
      show (if (if opnB h n l = true then r (colI (opnB h n) l) else 0) = i + 1 then timeV h n l i else 0) = 0
      rw [hz l hl, if_neg (by omega)])]
    rw [← col_sumL (opnB h n) (fun l => if (if opnB h n l = true then r (colI (opnB h n) l) else 0) = i + 1 then timeV h n l i else 0) (hCnt h 0) (fun l hl ho => by
      show (if (if opnB h n l = true then r (colI (opnB h n) l) else 0) = i + 1 then timeV h n l i else 0) = 0
      rw [if_neg (c := opnB h n l = true) (by rw [ho]; decide), if_neg (by omega)])]
    refine Nat.le_trans (Nat.le_of_eq (sumL_ext _ (fun c hc => ?_))) (r4 i hi)
    obtain ⟨c1, c2, c3⟩ := hcl c hc
    show (if (if opnB h n (colC h n c) = true then r (colI (opnB h n) (colC h n c)) else 0) = i + 1 then timeV h n (colC h n c) i else 0) = _
    rw [if_pos c1, c2]
    rfl
  · rw [← valR_sum]
    unfold valC
    rw [sumC_to8 (L := hCnt h 0) (fun l hl => by
      show (if 0 < (if opnB h n l = true then r (colI (opnB h n) l) else 0) then worV (warmW h n) l ((if opnB h n l = true then r (colI (opnB h n) l) else 0) - 1) else 0) = 0
      rw [hz l hl, if_neg (Nat.lt_irrefl 0)]) 8 h8]
    rw [← col_sumC (opnB h n) (fun l => if 0 < (if opnB h n l = true then r (colI (opnB h n) l) else 0) then worV (warmW h n) l ((if opnB h n l = true then r (colI (opnB h n) l) else 0) - 1) else 0) (hCnt h 0) (fun l hl ho => by
      show (if 0 < (if opnB h n l = true then r (colI (opnB h n) l) else 0) then worV (warmW h n) l ((if opnB h n l = true then r (colI (opnB h n) l) else 0) - 1) else 0) = 0
      rw [if_neg (c := opnB h n l = true) (by rw [ho]; decide), if_neg (Nat.lt_irrefl 0)])]
    refine sumC_ext _ (fun c hc => ?_)
    obtain ⟨c1, c2, c3⟩ := hcl c hc
    have hrc := r1 c hc
    show (if 0 < (if opnB h n (colC h n c) = true then r (colI (opnB h n) (colC h n c)) else 0) then worV (warmW h n) (colC h n c) ((if opnB h n (colC h n c) = true then r (colI (opnB h n) (colC h n c)) else 0) - 1) else 0) = (if 0 < r c then woC h n (r c - 1) c else 0)
    rw [if_pos c1, c2]
    by_cases hp : 0 < r c
    · rw [if_pos hp, if_pos hp]
      unfold woC
      rw [if_pos (by omega)]
    · rw [if_neg hp, if_neg hp]
theorem feas_row {h : aH} {n : aN} (ok : okH h) {R : Nat → Nat} (hR : Feas (hCnt h 0) (hCnt h 2) (bearV h n) (timeV h n) (nLeft n) R) : ∃ r, RowC (colN h n) (abC h n) (tmC h n) (nLeft n) (hCnt h 2) r ∧ valR (warmW h n) R = valC (colN h n) (woC h n) r := by
  have h8 := ok.1
  have h3 := ok.2.2.1
  obtain ⟨R1, R2, R3, R4⟩ := hR
  have hcl : ∀ c, c < colN h n → opnB h n (colC h n c) = true ∧ colI (opnB h n) (colC h n c) = c ∧ colC h n c < hCnt h 0 := fun c hc => colL_op _ _ c hc
  have hab : ∀ l, l < hCnt h 0 → 0 < R l → ableV h n l (R l - 1) ∧ R l - 1 < hCnt h 2 := by
    intro l hl hp
    have h1 := R1 l hl
    obtain ⟨b1, b2⟩ := R3 l hl hp
    have h4 := R4 (R l - 1) (by omega)
    have := sumL_one (f := fun q => if R q = R l - 1 + 1 then timeV h n q (R l - 1) else 0) 8 l (by omega)
    have this' : (if R l = R l - 1 + 1 then timeV h n l (R l - 1) else 0) ≤ sumL (fun q => if R q = R l - 1 + 1 then timeV h n q (R l - 1) else 0) 8 := this
    rw [if_pos (by omega)] at this'
    exact ⟨⟨b1, b2, by omega⟩, by omega⟩
  have hop : ∀ l, opnB h n l = false → R l = 0 := by
    intro l ho
    rcases Nat.lt_or_ge l (hCnt h 0) with q | q
    · rcases Nat.eq_zero_or_pos (R l) with z | z
      · exact z
      · obtain ⟨a1, a2⟩ := hab l q z
        rw [opn_of q a2 a1] at ho
        cases ho
    · exact R2 l q
  refine ⟨fun c => if c < colN h n then R (colC h n c) else 0, ⟨fun c hc => ?_, fun c hc => if_neg (by omega), fun c hc hp => ?_, fun i hi => ?_⟩, ?_⟩
  · show (if c < colN h n then R (colC h n c) else 0) ≤ hCnt h 2
    rw [if_pos hc]
    exact R1 _ (hcl c hc).2.2
  · have hp' : 0 < (if c < colN h n then R (colC h n c) else 0) := hp
    show abC h n ((if c < colN h n then R (colC h n c) else 0) - 1) c
    rw [if_pos hc] at hp' ⊢
    exact (hab _ (hcl c hc).2.2 hp').1
  · refine Nat.le_trans (Nat.le_of_eq ?_) (R4 i hi)
    rw [sumL_to8 h8 (fun l hl => by
      show (if R l = i + 1 then timeV h n l i else 0) = 0
      rw [R2 l hl, if_neg (by omega)])]
    rw [← col_sumL (opnB h n) (fun l => if R l = i + 1 then timeV h n l i else 0) (hCnt h 0) (fun l hl ho => by
      show (if R l = i + 1 then timeV h n l i else 0) = 0
      rw [hop l ho, if_neg (by omega)])]
    refine sumL_ext _ (fun c hc => ?_)
    show (if (if c < colN h n then R (colC h n c) else 0) = i + 1 then tmC h n i c else 0) = _
    rw [if_pos hc]
    rfl
  · rw [← valR_sum]
    unfold valC
    rw [sumC_to8 (L := hCnt h 0) (fun l hl => by
      show (if 0 < R l then worV (warmW h n) l (R l - 1) else 0) = 0
      rw [R2 l hl, if_neg (Nat.lt_irrefl 0)]) 8 h8]
    rw [← col_sumC (opnB h n) (fun l => if 0 < R l then worV (warmW h n) l (R l - 1) else 0) (hCnt h 0) (fun l hl ho => by
      show (if 0 < R l then worV (warmW h n) l (R l - 1) else 0) = 0
      rw [hop l ho, if_neg (Nat.lt_irrefl 0)])]
    refine sumC_ext _ (fun c hc => ?_)
    obtain ⟨c1, c2, c3⟩ := hcl c hc
    have hrc := R1 _ c3
    show _ = (if 0 < (if c < colN h n then R (colC h n c) else 0) then woC h n ((if c < colN h n then R (colC h n c) else 0) - 1) c else 0)
    rw [if_pos (c := c < colN h n) hc]
    show (if 0 < R (colC h n c) then worV (warmW h n) (colC h n c) (R (colC h n c) - 1) else 0) = _
    by_cases hp : 0 < R (colC h n c)
    · rw [if_pos hp, if_pos hp]
      unfold woC
      rw [if_pos (by omega)]
    · rw [if_neg hp, if_neg hp]
theorem valC_bd {m : Nat} (hm : m ≤ 8) {w : Nat → Nat → Int} (hw : ∀ i c, 0 ≤ w i c ∧ w i c ≤ 35184372088832) (r : Nat → Nat) : 0 ≤ valC m w r ∧ valC m w r ≤ 281474976710656 := by
  refine ⟨sumC_nn m (fun c _ => ?_), ?_⟩
  · show 0 ≤ (if 0 < r c then w (r c - 1) c else 0)
    split
    · exact (hw _ c).1
    · exact Int.le_refl 0
  · have := sumC_le (f := fun c => if 0 < r c then w (r c - 1) c else 0) (B := 35184372088832) m (fun c _ => by
      show (if 0 < r c then w (r c - 1) c else 0) ≤ _
      split
      · exact (hw _ c).2
      · decide)
    unfold valC
    omega
theorem colF_of {h : aH} {n : aN} (ok : okH h) {μ : z_S} (hcol : colM h n (hCnt h 0) μ) {i : Nat} (hi : i < hCnt h 2) : colF (colN h n) (abC h n) (tmC h n) (woC h n) i μ := by
  have h8 := ok.1
  have h3 := ok.2.2.1
  intro c hc
  obtain ⟨c1, c2, c3⟩ := colL_op (opnB h n) (hCnt h 0) c hc
  have := hcol (colC h n c) c3 c1 i hi
  rw [show colI (opnB h n) (colC h n c) = c from c2] at this
  have ew : woC h n i c = worV (warmV h n) (colC h n c) i := by
    unfold woC worV warmW
    rw [if_pos (by omega), if_pos (show colC h n c < 8 from Nat.lt_of_lt_of_le c3 h8)]
  rw [ew]
  exact this
theorem c_helpL {h : aH} {n : aN} {o s : Nat} (ok : okH h) (hn : okN h n) (hk : plK o s) (N : Nat) (hN : 1700 ≤ N) (hm : 0 < colN h n) (e : z_S → Option (Unit × z_S)) : ∀ f i μ, i ≤ hCnt h 2 → hCnt h 2 - i < f → cH o h μ → cN s n μ → colM h n (hCnt h 0) μ → InvB (colN h n) (abC h n) (tmC h n) (woC h n) (nLeft n) i (bB μ) → ∃ μ', f_X1_plan_L69 N o s (nI (colN h n)) (nI (2 ^ colN h n - 1)) e f (nI i) μ = e μ' ∧ pFr μ μ' ∧ InvB (colN h n) (abC h n) (tmC h n) (woC h n) (nLeft n) (hCnt h 2) (bB μ') := by
  obtain ⟨k1, k2, k3, k4, k5⟩ := hk
  have h8 := ok.1
  have h3 := ok.2.2.1
  have hm8 : colN h n ≤ 8 := Nat.le_trans (colI_le _ _) h8
  have hwb := woC_bd ok hn
  intro f
  induction f with
  | zero => intro i μ h1 h2; omega
  | succ f ih =>
    intro i μ h1 h2 hc hcn hcol hinv
    show ∃ μ', b_X1_plan_L69 N o s (nI (colN h n)) (nI (2 ^ colN h n - 1)) (f_X1_plan_L69 N o s (nI (colN h n)) (nI (2 ^ colN h n - 1)) e f) e (nI i) μ = _ ∧ _
    unfold b_X1_plan_L69
    rw [hc.1 2 (by decide)]
    by_cases hlt : i < hCnt h 2
    · have ek : nI i + 1 = nI (i + 1) := nI_1 i
      obtain ⟨μ1, p1, p2, p3, p4, p5⟩ := c_price hm8 (show i < 3 by omega) (fun i c => timeV_bd h n (colC h n c) i) hwb (hn.2.1 i) N (by omega) (colF_of ok hcol hlt)
      have eb : bB μ1 = bB μ := funext fun T => by
        show (μ1.2.1 20 T).toInt = (μ.2.1 20 T).toInt
        rw [p5 20 T (by decide)]
      have hg : ∀ S, S < 2 ^ colN h n → (gOK (colN h n) (abC h n) (tmC h n) (nLeft n) i S ∧ gB μ1 S = gW (colN h n) (woC h n) i S) ∨ (¬ gOK (colN h n) (abC h n) (tmC h n) (nLeft n) i S ∧ gB μ1 S = -1) := by
        intro S hS
        have gb := gW_bd hm8 hwb i S
        rcases p2 S hS with ⟨g1, g2⟩ | ⟨g1, g2⟩
        · refine Or.inl ⟨g1, ?_⟩
          show (μ1.2.1 19 S).toInt = _
          rw [g2, Int64.toInt_ofInt_of_le (by omega) (by omega)]
        · refine Or.inr ⟨g1, ?_⟩
          show (μ1.2.1 19 S).toInt = _
          rw [g2]
          rfl
      have hbb : ∀ T, T < 2 ^ colN h n → -1 ≤ bB μ1 T ∧ bB μ1 T ≤ 1125899906842624 := by
        intro T hT
        rw [eb]
        by_cases z : bB μ T = -1
        · rw [z]; decide
        · obtain ⟨r, -, -, r3⟩ := hinv.1 T hT z
          have := valC_bd hm8 hwb r
          rw [r3]
          omega
      have hgb : ∀ S, S < 2 ^ colN h n → -1 ≤ gB μ1 S ∧ gB μ1 S ≤ 1125899906842624 := by
        intro S hS
        have gb := gW_bd hm8 hwb i S
        rcases hg S hS with ⟨-, g⟩ | ⟨-, g⟩
        · rw [g]; omega
        · rw [g]; decide
      obtain ⟨μ2, q1, q2, q3⟩ := c_spread hm8 N (by omega) hbb hgb
      rw [eb] at q3
      have hinv2 := dp_step (fun i c => (hwb i c).1) hinv hg q3
      have fr : pFr μ μ2 := ⟨q2.1.trans p3, fun a j ha => by rw [q2.2.1]; exact p4 a j (by omega)⟩
      have hcol2 : colM h n (hCnt h 0) μ2 := by
        intro q hq ho k hk
        rw [q2.2.1, q2.2.2 _ _ (by omega), p4 _ _ (by omega), p5 _ _ (by omega)]
        exact hcol q hq ho k hk
      obtain ⟨μ3, r1, r2, r3⟩ := ih (i + 1) μ2 (by omega) (by omega) (fr.cH ok k4 hc) (fr.cN k5 hcn) hcol2 hinv2
      rw [if_pos (nI_lt hlt (by omega)), if_pos (show (0 : Int32) < nI (colN h n) from nI_lt (a := 0) hm (by omega)), z_in_nI (show i < 3 by omega) (by decide), nI_toNat (by omega), hcn.2.1 i (by omega), p1, z_bn_sm, q1, z_bn_sm, z_bd_eq, ek]
      exact ⟨μ3, r1, fr.tr r2, r3⟩
    · have : i = hCnt h 2 := by omega
      subst this
      rw [if_neg (nI_nlt (Nat.le_refl _) (by omega))]
      exact ⟨μ, rfl, pFr.rf μ, hinv⟩
theorem c_plan {h : aH} {n : aN} {o s : Nat} (ok : okH h) (hn : okN h n) (hk : plK o s) (N : Nat) (hN : 1700 ≤ N) {μ : z_S} (hc : cH o h μ) (hcn : cN s n μ) : ∃ R μ', f_X1_plan N o s μ = some ((), μ') ∧ pFr μ μ' ∧ isBest (hCnt h 0) (hCnt h 2) (bearV h n) (timeV h n) (nLeft n) (warmW h n) R ∧ (∀ l, l < 8 → μ'.1 9 l = nI (R l) - 1) ∧ μ'.1 8 2 = nI (cntP R 8) ∧ μ'.2.1 8 3 = iJ (wrmR (warmW h n) R 8) := by
  have hk' := hk
  obtain ⟨k1, k2, k3, k4, k5⟩ := hk
  have h8 := ok.1
  have h3 := ok.2.2.1
  have hm8 : colN h n ≤ 8 := Nat.le_trans (colI_le _ _) h8
  have hwb := woC_bd ok hn
  have hm2 : 2 ^ colN h n ≤ 256 := Nat.le_trans (Nat.pow_le_pow_right (by decide) hm8) (by decide)
  have hm1 : 1 ≤ 2 ^ colN h n := Nat.one_le_two_pow
  have fin : ∀ μ3, pFr μ μ3 → InvB (colN h n) (abC h n) (tmC h n) (woC h n) (nLeft n) (hCnt h 2) (bB μ3) → ∃ R μ', f_X1_plan_B111 N o s (nI (2 ^ colN h n - 1)) μ3 = some ((), μ') ∧ pFr μ μ' ∧ isBest (hCnt h 0) (hCnt h 2) (bearV h n) (timeV h n) (nLeft n) (warmW h n) R ∧ (∀ l, l < 8 → μ'.1 9 l = nI (R l) - 1) ∧ μ'.1 8 2 = nI (cntP R 8) ∧ μ'.2.1 8 3 = iJ (wrmR (warmW h n) R 8) := by
    intro μ3 f3 hinv
    obtain ⟨v', q1, q2, q3, q4⟩ := c_mostL hm8 N o s μ3 (fun y144_5 μ144 => z_bn (f_X1_readOff N y144_5 μ144) fun _ μ_7 => some ((), μ_7)) N 1 0 (Nat.le_refl _) hm1 (by omega)
    have q2' : 0 ≤ v'.toInt := q2
    have hex : ∃ r, RowC (colN h n) (abC h n) (tmC h n) (nLeft n) (hCnt h 2) r ∧ valC (colN h n) (woC h n) r = v'.toInt := by
      rcases q4 with z | ⟨S, z1, z2, z3⟩
      · refine ⟨fun _ => 0, ⟨fun _ _ => Nat.zero_le _, fun _ _ => rfl, fun _ _ h => absurd h (Nat.lt_irrefl 0), fun i hi => ?_⟩, ?_⟩
        · rw [sumL_0 _ (fun c hc => if_neg (show ¬ (0 : Nat) = i + 1 by omega))]; exact Nat.zero_le _
        · rw [z]
          exact sumC_0 _ (fun c hc => if_neg (Nat.lt_irrefl 0))
      · obtain ⟨r, r1, -, r3⟩ := hinv.1 S z2 (by omega)
        exact ⟨r, r1, by rw [z3, r3]⟩
    have hup : ∀ r, RowC (colN h n) (abC h n) (tmC h n) (nLeft n) (hCnt h 2) r → valC (colN h n) (woC h n) r ≤ v'.toInt := by
      intro r hr
      by_cases z : bkm (fun c => decide (0 < r c)) (colN h n) = 0
      · have : valC (colN h n) (woC h n) r = 0 := by
          refine sumC_0 _ (fun c hc => if_neg (fun hp => ?_))
          have hb := bkm_bit (fun c => decide (0 < r c)) (colN h n) c
          rw [z, Nat.zero_testBit, decide_eq_true hc, Bool.true_and, decide_eq_true hp] at hb
          cases hb
        rw [this]
        exact q2'
      · exact Int.le_trans (hinv.2 r hr) (q3 _ (by omega) (bkm_lt _ _))
    obtain ⟨r, r1, r2⟩ := hex
    obtain ⟨R, R1, R2⟩ := row_feas ok r1
    have hv : v' = iJ (valR (warmW h n) R) := by rw [R2, r2]; exact (Int64.ofInt_toInt v').symm
    have hR3 : ∀ l, R l ≤ 3 := Feas_3 h3 R1
    obtain ⟨μ4, s1, s2, s3, s4, s5, s6⟩ := c_readOff (warmW_bd ok hn) hR3 N (by omega) μ3
    refine ⟨R, μ4, ?_, f3.tr ⟨s5, fun a j ha => s6 a j (by omega) (by omega)⟩, ⟨R1, fun S hS => ?_⟩, s2, s3, s4⟩
    · unfold f_X1_plan_B111
      have q1' : f_X1_plan_L117 N o s (nI (2 ^ colN h n - 1)) (fun y144_5 μ144 => z_bn (f_X1_readOff N y144_5 μ144) fun _ μ_7 => some ((), μ_7)) N (0 : Int64) (1 : Int32) μ3 = _ := q1
      rw [q1', hv, s1, z_bn_sm]
    · obtain ⟨t, t1, t2⟩ := feas_row ok hS
      rw [t2, R2, r2]
      exact hup t t1
  obtain ⟨μ1, p1, p2, p3⟩ := c_planL ok hn hk' N hN (fun y37_3 μ37 => z_bd (((1 : Int32) <<< (y37_3 &&& 31)) - (1 : Int32)) fun x4 => z_bn (f_J7_fill_bad5a N 20 (0 : Int32) (x4 + (1 : Int32)) (-1 : Int64) μ37) fun _ μ_2 => z_bd (z_setJ μ_2 20 0 (0 : Int64)) fun μ_3 => f_X1_plan_L69 N o s y37_3 x4 (fun μ111 => f_X1_plan_B111 N o s x4 μ111) N (0 : Int32) μ_3) N 0 μ (Nat.zero_le _) (by omega) hc hcn (fun q hq => by omega)
  have p1' : f_X1_plan_L5 N o s (fun y37_3 μ37 => z_bd (((1 : Int32) <<< (y37_3 &&& 31)) - (1 : Int32)) fun x4 => z_bn (f_J7_fill_bad5a N 20 (0 : Int32) (x4 + (1 : Int32)) (-1 : Int64) μ37) fun _ μ_2 => z_bd (z_setJ μ_2 20 0 (0 : Int64)) fun μ_3 => f_X1_plan_L69 N o s y37_3 x4 (fun μ111 => f_X1_plan_B111 N o s x4 μ111) N (0 : Int32) μ_3) N (0 : Int32) (0 : Int32) μ = _ := p1
  have e1 : ((1 : Int32) <<< (nI (colN h n) &&& 31)) - (1 : Int32) = nI (2 ^ colN h n - 1) := by
    rw [one_shl _ (by omega)]
    exact pk_sub (b := 1) hm1
  have e2 : nI (2 ^ colN h n - 1) + (1 : Int32) = nI (2 ^ colN h n) := by
    rw [nI_1, Nat.sub_add_cancel hm1]
  obtain ⟨μ2, q1, q2, q3, q4⟩ := c_fillJ N (by omega) hm2 (-1) μ1
  generalize hμ3 : z_setJ μ2 20 0 0 = μ3
  have l3 : ∀ a j, μ3.2.1 a j = if a = 20 ∧ j = 0 then 0 else if a = 20 ∧ j < 2 ^ colN h n then -1 else μ1.2.1 a j := fun a j => by rw [← hμ3, sJ_21, q4]
  have i3 : μ3.1 = μ1.1 := by rw [← hμ3]; exact q2
  have f3 : pFr μ μ3 := p2.tr ⟨by rw [← hμ3]; exact q3, fun a j _ => by rw [i3]⟩
  have inv0 : InvB (colN h n) (abC h n) (tmC h n) (woC h n) (nLeft n) 0 (bB μ3) := by
    refine dp_0 _ _ _ _ _ ?_ (fun T hT h0 => ?_)
    · show (μ3.2.1 20 0).toInt = 0
      rw [l3, if_pos ⟨rfl, rfl⟩]; rfl
    · show (μ3.2.1 20 T).toInt = -1
      rw [l3, if_neg (fun z => h0 z.2), if_pos ⟨rfl, hT⟩]; rfl
  have hcol3 : colM h n (hCnt h 0) μ3 := by
    intro q hq ho k hk
    rw [i3, l3, if_neg (by omega), if_neg (by omega)]
    exact p3 q hq ho k hk
  unfold f_X1_plan
  rw [z_ko_ok k1, z_ko_ok k2, p1', show colI (opnB h n) (hCnt h 0) = colN h n from rfl, e1, z_bd_eq, e2, q1, z_bn_sm, z_bd_eq, hμ3]
  by_cases hm : 0 < colN h n
  · obtain ⟨μ4, r1, r2, r3⟩ := c_helpL ok hn hk' N hN hm (fun μ111 => f_X1_plan_B111 N o s (nI (2 ^ colN h n - 1)) μ111) N 0 μ3 (Nat.zero_le _) (by omega) (f3.cH ok k4 hc) (f3.cN k5 hcn) hcol3 inv0
    have r1' : f_X1_plan_L69 N o s (nI (colN h n)) (nI (2 ^ colN h n - 1)) (fun μ111 => f_X1_plan_B111 N o s (nI (2 ^ colN h n - 1)) μ111) N (0 : Int32) μ3 = _ := r1
    rw [r1']
    exact fin μ4 (f3.tr r2) r3
  · have hm0 : colN h n = 0 := by omega
    have invK : InvB (colN h n) (abC h n) (tmC h n) (woC h n) (nLeft n) (hCnt h 2) (bB μ3) := by
      refine ⟨fun T hT hn => ?_, fun r hr => ?_⟩
      · obtain ⟨r, r1, r2, r3⟩ := inv0.1 T hT hn
        refine ⟨r, ⟨fun c hc => by omega, r1.2.1, fun c hc => by omega, fun i hi => ?_⟩, r2, r3⟩
        rw [hm0]; exact Nat.zero_le _
      · refine inv0.2 r ⟨fun c hc => by omega, hr.2.1, fun c hc => by omega, fun i hi => by omega⟩
    have step : f_X1_plan_L69 N o s (nI (colN h n)) (nI (2 ^ colN h n - 1)) (fun μ111 => f_X1_plan_B111 N o s (nI (2 ^ colN h n - 1)) μ111) N (0 : Int32) μ3 = f_X1_plan_B111 N o s (nI (2 ^ colN h n - 1)) μ3 := by
      obtain ⟨N', rfl⟩ : ∃ N', N = N' + 1 := ⟨N - 1, by omega⟩
      show b_X1_plan_L69 (N' + 1) o s (nI (colN h n)) (nI (2 ^ colN h n - 1)) (f_X1_plan_L69 (N' + 1) o s (nI (colN h n)) (nI (2 ^ colN h n - 1)) (fun μ111 => f_X1_plan_B111 (N' + 1) o s (nI (2 ^ colN h n - 1)) μ111) N') (fun μ111 => f_X1_plan_B111 (N' + 1) o s (nI (2 ^ colN h n - 1)) μ111) (0 : Int32) μ3 = _
      unfold b_X1_plan_L69
      rw [hm0, if_neg (show ¬ (0 : Int32) < nI 0 by decide)]
      split <;> rfl
    rw [step]
    exact fin μ3 f3 invK
