/-! rows: sums, masks; the best sum for each set, helper by helper -/
def sumC (g : Nat → Int) : Nat → Int
  | 0 => 0
  | c + 1 => sumC g c + g c
theorem sumC_ext {f g : Nat → Int} : ∀ n, (∀ c, c < n → f c = g c) → sumC f n = sumC g n
  | 0, _ => rfl
  | n + 1, h => by
    show sumC f n + f n = sumC g n + g n
    rw [sumC_ext n (fun c hc => h c (by omega)), h n (by omega)]
theorem sumC_add {f g k : Nat → Int} : ∀ n, (∀ c, c < n → k c = f c + g c) → sumC k n = sumC f n + sumC g n
  | 0, _ => rfl
  | n + 1, h => by
    show sumC k n + k n = (sumC f n + f n) + (sumC g n + g n)
    rw [sumC_add n (fun c hc => h c (by omega)), h n (by omega)]
    omega
theorem sumC_0 {f : Nat → Int} : ∀ n, (∀ c, c < n → f c = 0) → sumC f n = 0
  | 0, _ => rfl
  | n + 1, h => by
    show sumC f n + f n = 0
    rw [sumC_0 n (fun c hc => h c (by omega)), h n (by omega)]
    rfl
theorem sumC_nn {f : Nat → Int} : ∀ n, (∀ c, c < n → 0 ≤ f c) → 0 ≤ sumC f n
  | 0, _ => Int.le_refl 0
  | n + 1, h => by
    show 0 ≤ sumC f n + f n
    have h1 := sumC_nn n (fun c hc => h c (by omega))
    have h2 := h n (by omega)
    omega
theorem sumL_ext {f g : Nat → Nat} : ∀ n, (∀ c, c < n → f c = g c) → sumL f n = sumL g n
  | 0, _ => rfl
  | n + 1, h => by
    show sumL f n + f n = sumL g n + g n
    rw [sumL_ext n (fun c hc => h c (by omega)), h n (by omega)]
theorem sumL_0 {f : Nat → Nat} : ∀ n, (∀ c, c < n → f c = 0) → sumL f n = 0
  | 0, _ => rfl
  | n + 1, h => by
    show sumL f n + f n = 0
    rw [sumL_0 n (fun c hc => h c (by omega)), h n (by omega)]
theorem sumL_one {f : Nat → Nat} : ∀ n c, c < n → f c ≤ sumL f n
  | 0, c, hc => by omega
  | n + 1, c, hc => by
    show f c ≤ sumL f n + f n
    by_cases e : c = n
    · rw [e]; omega
    · have := sumL_one (f := f) n c (by omega); omega
theorem sumL_mono {f g : Nat → Nat} : ∀ n, (∀ c, c < n → f c ≤ g c) → sumL f n ≤ sumL g n
  | 0, _ => Nat.le_refl 0
  | n + 1, h => by
    show sumL f n + f n ≤ sumL g n + g n
    have h1 := sumL_mono n (fun c hc => h c (by omega))
    have h2 := h n (by omega)
    omega
/-- a set of columns as bits -/
def bkm (p : Nat → Bool) : Nat → Nat
  | 0 => 0
  | n + 1 => bkm p n + (if p n then 2 ^ n else 0)
theorem bkm_lt (p : Nat → Bool) : ∀ n, bkm p n < 2 ^ n
  | 0 => Nat.zero_lt_one
  | n + 1 => by
    have h := bkm_lt p n
    show bkm p n + (if p n = true then 2 ^ n else 0) < 2 ^ (n + 1)
    have e : 2 ^ (n + 1) = 2 ^ n + 2 ^ n := by rw [Nat.pow_succ]; omega
    rw [e]
    split <;> omega
theorem bkm_bit (p : Nat → Bool) : ∀ n i, (bkm p n).testBit i = (decide (i < n) && p i)
  | 0, i => by
    show (0 : Nat).testBit i = _
    rw [Nat.zero_testBit]
    rfl
  | n + 1, i => by
    show (bkm p n + (if p n = true then 2 ^ n else 0)).testBit i = _
    have h := bkm_lt p n
    rcases Nat.lt_trichotomy i n with q | q | q
    · have e : decide (i < n + 1) = decide (i < n) := by rw [decide_eq_true (by omega : i < n + 1), decide_eq_true q]
      rw [e, ← bkm_bit p n i]
      split
      · rw [Nat.add_comm, Nat.testBit_two_pow_add_gt q]
      · rw [Nat.add_zero]
    · subst q
      rw [decide_eq_true (by omega : i < i + 1), Bool.true_and]
      cases hp : p i with
      | true =>
        rw [if_pos rfl, Nat.add_comm, Nat.testBit_two_pow_add_eq, Nat.testBit_lt_two_pow h]
        rfl
      | false => rw [if_neg (by decide), Nat.add_zero, Nat.testBit_lt_two_pow h]
    · have h2 : bkm p (n + 1) < 2 ^ i := Nat.lt_of_lt_of_le (bkm_lt p (n + 1)) (Nat.pow_le_pow_right (by decide) (by omega))
      have h2' : bkm p n + (if p n = true then 2 ^ n else 0) < 2 ^ i := h2
      rw [Nat.testBit_lt_two_pow h2', decide_eq_false (by omega)]
      rfl
def RowC (m : Nat) (ab : Nat → Nat → Prop) (t : Nat → Nat → Nat) (lf : Nat → Nat) (h : Nat) (r : Nat → Nat) : Prop := (∀ c, c < m → r c ≤ h) ∧ (∀ c, m ≤ c → r c = 0) ∧ (∀ c, c < m → 0 < r c → ab (r c - 1) c) ∧ ∀ i, i < h → sumL (fun c => if r c = i + 1 then t i c else 0) m ≤ lf i
def valC (m : Nat) (w : Nat → Nat → Int) (r : Nat → Nat) : Int := sumC (fun c => if 0 < r c then w (r c - 1) c else 0) m
def gOK (m : Nat) (ab : Nat → Nat → Prop) (t : Nat → Nat → Nat) (lf : Nat → Nat) (i S : Nat) : Prop := (∀ c, c < m → S.testBit c = true → ab i c) ∧ sumL (fun c => if S.testBit c = true then t i c else 0) m ≤ lf i
def gW (m : Nat) (w : Nat → Nat → Int) (i S : Nat) : Int := sumC (fun c => if S.testBit c = true then w i c else 0) m
def InvB (m : Nat) (ab : Nat → Nat → Prop) (t : Nat → Nat → Nat) (w : Nat → Nat → Int) (lf : Nat → Nat) (h : Nat) (best : Nat → Int) : Prop :=
  (∀ T, T < 2 ^ m → best T ≠ -1 → ∃ r, RowC m ab t lf h r ∧ (∀ c, c < m → T.testBit c = decide (0 < r c)) ∧ best T = valC m w r) ∧
  ∀ r, RowC m ab t lf h r → valC m w r ≤ best (bkm (fun c => decide (0 < r c)) m)
def SprF (m : Nat) (gain best best' : Nat → Int) : Prop :=
  (∀ T, T < 2 ^ m → best T ≤ best' T) ∧
  (∀ D S, D < 2 ^ m → S < 2 ^ m → S ≠ 0 → (∀ c, c < m → S.testBit c = true → D.testBit c = false) → best D ≠ -1 → gain S ≠ -1 → best D + gain S ≤ best' (D ||| S)) ∧
  ∀ T, T < 2 ^ m → best' T = best T ∨ ∃ D S, D < 2 ^ m ∧ S < 2 ^ m ∧ (∀ c, c < m → S.testBit c = true → D.testBit c = false) ∧ best D ≠ -1 ∧ gain S ≠ -1 ∧ T = D ||| S ∧ best' T = best D + gain S
theorem bit_ext {m A B : Nat} (ha : A < 2 ^ m) (hb : B < 2 ^ m) (h : ∀ c, c < m → A.testBit c = B.testBit c) : A = B := by
  refine Nat.eq_of_testBit_eq (fun i => ?_)
  by_cases hi : i < m
  · exact h i hi
  · have h1 : A < 2 ^ i := Nat.lt_of_lt_of_le ha (Nat.pow_le_pow_right (by decide) (by omega))
    have h2 : B < 2 ^ i := Nat.lt_of_lt_of_le hb (Nat.pow_le_pow_right (by decide) (by omega))
    rw [Nat.testBit_lt_two_pow h1, Nat.testBit_lt_two_pow h2]
theorem dp_0 (m : Nat) (ab : Nat → Nat → Prop) (t : Nat → Nat → Nat) (w : Nat → Nat → Int) (lf : Nat → Nat) {best : Nat → Int} (hb0 : best 0 = 0) (hb : ∀ T, T < 2 ^ m → T ≠ 0 → best T = -1) : InvB m ab t w lf 0 best := by
  refine ⟨fun T hT hn => ?_, fun r hr => ?_⟩
  · have : T = 0 := by
      rcases Nat.eq_zero_or_pos T with q | q
      · exact q
      · exact absurd (hb T hT (by omega)) hn
    subst this
    refine ⟨fun _ => 0, ⟨fun _ _ => Nat.le_refl 0, fun _ _ => rfl, fun _ _ h => absurd h (Nat.lt_irrefl 0), fun i hi => by omega⟩, fun c hc => by rw [Nat.zero_testBit]; rfl, ?_⟩
    rw [hb0]
    exact (sumC_0 m (fun c hc => if_neg (Nat.lt_irrefl 0))).symm
  · have hz : ∀ c, c < m → r c = 0 := fun c hc => by have := hr.1 c hc; omega
    have e1 : valC m w r = 0 := sumC_0 m (fun c hc => if_neg (by rw [hz c hc]; decide))
    have e2 : bkm (fun c => decide (0 < r c)) m = 0 := bit_ext (bkm_lt _ _) (Nat.two_pow_pos m) (fun c hc => by rw [bkm_bit, Nat.zero_testBit, hz c hc]; simp)
    rw [e1, e2, hb0]
    exact Int.le_refl 0
theorem dp_step {m : Nat} {ab : Nat → Nat → Prop} {t : Nat → Nat → Nat} {w : Nat → Nat → Int} {lf : Nat → Nat} {h : Nat} {gain best best' : Nat → Int} (hw : ∀ i c, 0 ≤ w i c) (hi : InvB m ab t w lf h best) (hg : ∀ S, S < 2 ^ m → (gOK m ab t lf h S ∧ gain S = gW m w h S) ∨ (¬ gOK m ab t lf h S ∧ gain S = -1)) (hs : SprF m gain best best') : InvB m ab t w lf (h + 1) best' := by
  obtain ⟨ha, hb⟩ := hi
  obtain ⟨s1, s2, s3⟩ := hs
  refine ⟨fun T hT hn => ?_, fun r hr => ?_⟩
  · rcases s3 T hT with q | ⟨D, S, hD, hS, hd, hbD, hgS, hTe, hv⟩
    · obtain ⟨r, r1, r2, r3⟩ := ha T hT (by rw [← q]; exact hn)
      refine ⟨r, ⟨fun c hc => Nat.le_succ_of_le (r1.1 c hc), r1.2.1, r1.2.2.1, fun i hi => ?_⟩, r2, by rw [q]; exact r3⟩
      by_cases e : i < h
      · exact r1.2.2.2 i e
      · rw [sumL_0 m (fun c hc => if_neg (by have := r1.1 c hc; omega))]
        exact Nat.zero_le _
    · obtain ⟨r0, r1, r2, r3⟩ := ha D hD hbD
      have hgo : gOK m ab t lf h S ∧ gain S = gW m w h S := by
        rcases hg S hS with z | z
        · exact z
        · exact absurd z.2 hgS
      obtain ⟨⟨g1, g2⟩, g3⟩ := hgo
      have r0z : ∀ c, c < m → S.testBit c = true → r0 c = 0 := fun c hc hb => by
        have := r2 c hc
        rw [hd c hc hb] at this
        have := of_decide_eq_false this.symm
        omega
      refine ⟨fun c => if c < m ∧ S.testBit c = true then h + 1 else r0 c, ⟨fun c hc => ?_, fun c hc => ?_, fun c hc hp => ?_, fun i hi => ?_⟩, fun c hc => ?_, ?_⟩
      · show (if c < m ∧ S.testBit c = true then h + 1 else r0 c) ≤ h + 1
        split
        · exact Nat.le_refl _
        · exact Nat.le_succ_of_le (r1.1 c hc)
      · show (if c < m ∧ S.testBit c = true then h + 1 else r0 c) = 0
        rw [if_neg (by omega)]
        exact r1.2.1 c hc
      · have hp' : 0 < (if c < m ∧ S.testBit c = true then h + 1 else r0 c) := hp
        show ab ((if c < m ∧ S.testBit c = true then h + 1 else r0 c) - 1) c
        by_cases e : c < m ∧ S.testBit c = true
        · rw [if_pos e]
          exact g1 c hc e.2
        · rw [if_neg e] at hp' ⊢
          exact r1.2.2.1 c hc hp'
      · by_cases e : i = h
        · rw [e]
          refine Nat.le_trans (Nat.le_of_eq ?_) g2
          refine sumL_ext m (fun c hc => ?_)
          show (if (if c < m ∧ S.testBit c = true then h + 1 else r0 c) = h + 1 then t h c else 0) = _
          by_cases e2 : S.testBit c = true
          · rw [if_pos (c := c < m ∧ S.testBit c = true) ⟨hc, e2⟩, if_pos rfl, if_pos e2]
          · rw [if_neg (c := c < m ∧ S.testBit c = true) (fun z => e2 z.2), if_neg (by have := r1.1 c hc; omega), if_neg e2]
        · refine Nat.le_trans (Nat.le_of_eq ?_) (r1.2.2.2 i (by omega))
          refine sumL_ext m (fun c hc => ?_)
          show (if (if c < m ∧ S.testBit c = true then h + 1 else r0 c) = i + 1 then t i c else 0) = _
          by_cases e2 : S.testBit c = true
          · rw [if_pos (c := c < m ∧ S.testBit c = true) ⟨hc, e2⟩, if_neg (by omega), if_neg (by rw [r0z c hc e2]; omega)]
          · rw [if_neg (c := c < m ∧ S.testBit c = true) (fun z => e2 z.2)]
      · show T.testBit c = decide (0 < (if c < m ∧ S.testBit c = true then h + 1 else r0 c))
        rw [hTe, Nat.testBit_or, r2 c hc]
        by_cases e2 : S.testBit c = true
        · rw [if_pos ⟨hc, e2⟩, e2, Bool.or_true]
          exact (decide_eq_true (by omega)).symm
        · rw [if_neg (fun z => e2 z.2)]
          cases hsb : S.testBit c
          · rw [Bool.or_false]
          · exact absurd hsb e2
      · rw [hv, r3, g3]
        unfold valC gW
        refine (sumC_add m (fun c hc => ?_)).symm
        show (if 0 < (if c < m ∧ S.testBit c = true then h + 1 else r0 c) then w ((if c < m ∧ S.testBit c = true then h + 1 else r0 c) - 1) c else 0) = _
        by_cases e2 : S.testBit c = true
        · rw [if_pos (c := c < m ∧ S.testBit c = true) ⟨hc, e2⟩, if_pos (by omega), if_neg (by rw [r0z c hc e2]; omega), if_pos e2]
          show w h c = 0 + w h c
          omega
        · rw [if_neg (c := c < m ∧ S.testBit c = true) (fun z => e2 z.2), if_neg e2]
          omega
  · -- a row of helpers up to h
    have hr0 : RowC m ab t lf h (fun c => if r c = h + 1 then 0 else r c) := by
      refine ⟨fun c hc => ?_, fun c hc => ?_, fun c hc hp => ?_, fun i hi => ?_⟩
      · show (if r c = h + 1 then 0 else r c) ≤ h
        have := hr.1 c hc
        split <;> omega
      · show (if r c = h + 1 then 0 else r c) = 0
        rw [hr.2.1 c hc]
        split <;> rfl
      · have hp' : 0 < (if r c = h + 1 then 0 else r c) := hp
        show ab ((if r c = h + 1 then 0 else r c) - 1) c
        by_cases e : r c = h + 1
        · rw [if_pos e] at hp'; omega
        · rw [if_neg e] at hp' ⊢
          exact hr.2.2.1 c hc hp'
      · refine Nat.le_trans (sumL_mono m (fun c hc => ?_)) (hr.2.2.2 i (by omega))
        show (if (if r c = h + 1 then 0 else r c) = i + 1 then t i c else 0) ≤ _
        by_cases e : r c = h + 1
        · rw [if_pos (c := r c = h + 1) e, if_neg (by omega)]; exact Nat.zero_le _
        · rw [if_neg (c := r c = h + 1) e]; exact Nat.le_refl _
    have hb0 := hb _ hr0
    generalize hD : bkm (fun c => decide (0 < (if r c = h + 1 then 0 else r c))) m = D at hb0
    have hDl : D < 2 ^ m := by rw [← hD]; exact bkm_lt _ _
    have hDb : ∀ c, c < m → D.testBit c = decide (0 < (if r c = h + 1 then 0 else r c)) := fun c hc => by rw [← hD, bkm_bit, decide_eq_true hc, Bool.true_and]
    have hv0 : 0 ≤ valC m w (fun c => if r c = h + 1 then 0 else r c) := sumC_nn m (fun c hc => by
      show 0 ≤ (if _ then w _ c else 0)
      split
      · exact hw _ _
      · exact Int.le_refl 0)
    have hSb : ∀ c, c < m → (bkm (fun c => decide (r c = h + 1)) m).testBit c = decide (r c = h + 1) := fun c hc => by rw [bkm_bit, decide_eq_true hc, Bool.true_and]
    generalize hS : bkm (fun c => decide (r c = h + 1)) m = S at hSb
    have hSl : S < 2 ^ m := by rw [← hS]; exact bkm_lt _ _
    have hgo : gOK m ab t lf h S := by
      refine ⟨fun c hc hb => ?_, ?_⟩
      · rw [hSb c hc] at hb
        have e := of_decide_eq_true hb
        have := hr.2.2.1 c hc (by omega)
        rw [e] at this
        exact this
      · refine Nat.le_trans (Nat.le_of_eq ?_) (hr.2.2.2 h (by omega))
        refine sumL_ext m (fun c hc => ?_)
        rw [hSb c hc]
        by_cases e : r c = h + 1
        · rw [if_pos (decide_eq_true e), if_pos e]
        · rw [if_neg (by rw [decide_eq_false e]; decide), if_neg e]
    have hge : gain S = gW m w h S := by
      rcases hg S hSl with z | z
      · exact z.2
      · exact absurd hgo z.1
    have hgn : 0 ≤ gW m w h S := sumC_nn m (fun c hc => by
      show 0 ≤ (if _ then w h c else 0)
      split
      · exact hw _ _
      · exact Int.le_refl 0)
    have hval : valC m w r = valC m w (fun c => if r c = h + 1 then 0 else r c) + gW m w h S := by
      unfold valC gW
      refine sumC_add m (fun c hc => ?_)
      rw [hSb c hc]
      by_cases e : r c = h + 1
      · rw [if_pos (by omega), if_pos (decide_eq_true e)]
        show _ = (if 0 < (if r c = h + 1 then 0 else r c) then w ((if r c = h + 1 then 0 else r c) - 1) c else 0) + _
        rw [if_pos (c := r c = h + 1) e, if_neg (by omega), e]
        show w h c = 0 + w h c
        omega
      · rw [if_neg (c := decide (r c = h + 1) = true) (by rw [decide_eq_false e]; decide)]
        show _ = (if 0 < (if r c = h + 1 then 0 else r c) then w ((if r c = h + 1 then 0 else r c) - 1) c else 0) + _
        rw [if_neg (c := r c = h + 1) e]
        omega
    have hTe : bkm (fun c => decide (0 < r c)) m = D ||| S := by
      refine bit_ext (bkm_lt _ _) (Nat.or_lt_two_pow hDl hSl) (fun c hc => ?_)
      rw [bkm_bit, decide_eq_true hc, Bool.true_and, Nat.testBit_or, hDb c hc, hSb c hc]
      by_cases e : r c = h + 1
      · rw [if_pos e, decide_eq_true e, Bool.or_true]
        exact decide_eq_true (by omega)
      · rw [if_neg e, decide_eq_false e, Bool.or_false]
    rw [hTe, hval]
    by_cases hS0 : S = 0
    · have : gW m w h S = 0 := by
        refine sumC_0 m (fun c hc => ?_)
        rw [hS0, Nat.zero_testBit]
        rfl
      rw [this, hS0, Nat.or_zero]
      have := s1 D hDl
      omega
    · have := s2 D S hDl hSl hS0 (fun c hc hb => by
        rw [hSb c hc] at hb
        have e := of_decide_eq_true hb
        rw [hDb c hc, if_pos e]
        rfl) (by omega) (by omega)
      omega
