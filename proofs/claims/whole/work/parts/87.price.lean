/-! what each set of columns is worth for a helper -/
theorem sumL_add {f g k : Nat → Nat} : ∀ n, (∀ c, c < n → k c = f c + g c) → sumL k n = sumL f n + sumL g n
  | 0, _ => rfl
  | n + 1, h => by
    show sumL k n + k n = (sumL f n + f n) + (sumL g n + g n)
    rw [sumL_add n (fun c hc => h c (by omega)), h n (by omega)]
    omega
theorem sumL_single (x c : Nat) : ∀ n, c < n → sumL (fun k => if k = c then x else 0) n = x
  | 0, h => by omega
  | n + 1, h => by
    show sumL (fun k => if k = c then x else 0) n + (if n = c then x else 0) = x
    by_cases e : n = c
    · rw [if_pos e, sumL_0 n (fun k hk => if_neg (by omega))]; omega
    · rw [if_neg e, sumL_single x c n (by omega)]; omega
theorem sumC_single (x : Int) (c : Nat) : ∀ n, c < n → sumC (fun k => if k = c then x else 0) n = x
  | 0, h => by omega
  | n + 1, h => by
    show sumC (fun k => if k = c then x else 0) n + (if n = c then x else 0) = x
    by_cases e : n = c
    · rw [if_pos e, sumC_0 n (fun k hk => if_neg (by omega))]; omega
    · rw [if_neg e, sumC_single x c n (by omega)]; omega
theorem sumC_le {f : Nat → Int} {B : Int} : ∀ n : Nat, (∀ c, c < n → f c ≤ B) → sumC f n ≤ (n : Int) * B
  | 0, _ => by
    show (0 : Int) ≤ ((0 : Nat) : Int) * B
    rw [show ((0 : Nat) : Int) = 0 from rfl, Int.zero_mul]
    exact Int.le_refl 0
  | n + 1, h => by
    have h1 := sumC_le n (fun c hc => h c (by omega))
    have h2 := h n (by omega)
    show sumC f n + f n ≤ ((n + 1 : Nat) : Int) * B
    rw [show ((n + 1 : Nat) : Int) = (n : Int) + 1 from rfl, Int.add_mul, Int.one_mul]
    omega
theorem sumL_le {f : Nat → Nat} {B : Nat} : ∀ n, (∀ c, c < n → f c ≤ B) → sumL f n ≤ n * B
  | 0, _ => Nat.zero_le _
  | n + 1, h => by
    have h1 := sumL_le n (fun c hc => h c (by omega))
    have h2 := h n (by omega)
    show sumL f n + f n ≤ (n + 1) * B
    rw [Nat.add_mul, Nat.one_mul]
    omega
theorem top_bits {c R : Nat} (h : R < 2 ^ c) (k : Nat) : (2 ^ c + R).testBit k = if k = c then true else R.testBit k := by
  rcases Nat.lt_trichotomy k c with q | q | q
  · rw [if_neg (by omega), Nat.testBit_two_pow_add_gt q]
  · subst q
    rw [if_pos rfl, Nat.testBit_two_pow_add_eq, Nat.testBit_lt_two_pow h]
    rfl
  · have e : 2 ^ (c + 1) = 2 ^ c + 2 ^ c := by rw [Nat.pow_succ]; omega
    have h1 : 2 ^ (c + 1) ≤ 2 ^ k := Nat.pow_le_pow_right (by decide) q
    rw [if_neg (by omega), Nat.testBit_lt_two_pow (show R < 2 ^ k by omega), Nat.testBit_lt_two_pow (show 2 ^ c + R < 2 ^ k by omega)]
theorem top_sumL {c R m : Nat} (h : R < 2 ^ c) (hc : c < m) (t : Nat → Nat) : sumL (fun k => if (2 ^ c + R).testBit k = true then t k else 0) m = sumL (fun k => if R.testBit k = true then t k else 0) m + t c := by
  rw [← sumL_single (t c) c m hc]
  refine sumL_add m (fun k hk => ?_)
  rw [top_bits h k]
  by_cases e : k = c
  · subst e
    rw [if_pos rfl, if_pos rfl, if_pos rfl, Nat.testBit_lt_two_pow h]
    show t k = 0 + t k
    omega
  · rw [if_neg e, if_neg e]
    rfl
theorem top_sumC {c R m : Nat} (h : R < 2 ^ c) (hc : c < m) (w : Nat → Int) : sumC (fun k => if (2 ^ c + R).testBit k = true then w k else 0) m = sumC (fun k => if R.testBit k = true then w k else 0) m + w c := by
  rw [← sumC_single (w c) c m hc]
  refine sumC_add m (fun k hk => ?_)
  rw [top_bits h k]
  by_cases e : k = c
  · subst e
    rw [if_pos rfl, if_pos rfl, if_pos rfl, Nat.testBit_lt_two_pow h]
    show w k = 0 + w k
    omega
  · rw [if_neg e, if_neg e]
    omega
theorem two_shl : ∀ c, c < 8 → (2 : Int32) <<< (nI c &&& 31) = nI (2 ^ (c + 1)) := by decide +kernel
theorem one_shl : ∀ c, c < 9 → (1 : Int32) <<< (nI c &&& 31) = nI (2 ^ c) := by decide +kernel
theorem xor_top : ∀ c, c < 8 → ∀ R, R < 128 → R < 2 ^ c → nI (2 ^ c + R) ^^^ ((1 : Int32) <<< (nI c &&& 31)) = nI R := by decide +kernel
/-- the times and worths of helper i stand in their rows -/
def colF (m : Nat) (ab : Nat → Nat → Prop) (t : Nat → Nat → Nat) (w : Nat → Nat → Int) (i : Nat) (μ : z_S) : Prop := ∀ c, c < m → (ab i c ∧ μ.1 (11 + i) c = nI (t i c) ∧ μ.2.1 (15 + i) c = iJ (w i c)) ∨ (¬ ab i c ∧ μ.1 (11 + i) c = -1)
def gainF (m : Nat) (ab : Nat → Nat → Prop) (t : Nat → Nat → Nat) (w : Nat → Nat → Int) (lf : Nat → Nat) (i R : Nat) (μ : z_S) : Prop := (gOK m ab t lf i R ∧ μ.2.1 19 R = iJ (gW m w i R)) ∨ (¬ gOK m ab t lf i R ∧ μ.2.1 19 R = -1)
def spentF (m : Nat) (ab : Nat → Nat → Prop) (t : Nat → Nat → Nat) (i R : Nat) (μ : z_S) : Prop := (∀ c, c < m → R.testBit c = true → ab i c) → μ.1 18 R = nI (sumL (fun c => if R.testBit c = true then t i c else 0) m)
theorem gW_bd {m : Nat} (hm : m ≤ 8) {w : Nat → Nat → Int} (hw : ∀ i c, 0 ≤ w i c ∧ w i c ≤ 35184372088832) (i S : Nat) : 0 ≤ gW m w i S ∧ gW m w i S ≤ 281474976710656 := by
  refine ⟨sumC_nn m (fun c _ => ?_), ?_⟩
  · show 0 ≤ (if S.testBit c = true then w i c else 0)
    split
    · exact (hw i c).1
    · exact Int.le_refl 0
  · have := sumC_le (f := fun c => if S.testBit c = true then w i c else 0) (B := 35184372088832) m (fun c _ => by
      show (if S.testBit c = true then w i c else 0) ≤ _
      split
      · exact (hw i c).2
      · decide)
    unfold gW
    omega
theorem nm1J {v : Int} (h0 : 0 ≤ v) (h1 : v ≤ 4611686018427387904) : ¬ iJ v = (-1 : Int64) := fun z => by
  have := congrArg Int64.toInt z
  rw [Int64.toInt_ofInt_of_le (by omega) (by omega), show (-1 : Int64).toInt = -1 from rfl] at this
  omega
theorem c_priceL {m : Nat} (hm : m ≤ 8) {ab : Nat → Nat → Prop} {t : Nat → Nat → Nat} {w : Nat → Nat → Int} {lf : Nat → Nat} {i : Nat} (hi : i < 3) (ht : ∀ i c, 1 ≤ t i c ∧ t i c ≤ 999) (hw : ∀ i c, 0 ≤ w i c ∧ w i c ≤ 35184372088832) (hlf : lf i ≤ 240) (N : Nat) : ∀ f S c μ, 1 ≤ S → S ≤ 2 ^ m → 2 ^ m - S < f → 2 ^ c ≤ S → S ≤ 2 ^ (c + 1) → colF m ab t w i μ → (∀ R, R < S → spentF m ab t i R μ ∧ gainF m ab t w lf i R μ) → ∃ μ', f_X1_price_L20 N (nI i) (nI (2 ^ m - 1)) (nI (lf i)) f (nI c) (nI S) μ = some ((), μ') ∧ (∀ R, R < 2 ^ m → gainF m ab t w lf i R μ') ∧ μ'.2.2 = μ.2.2 ∧ (∀ a j, a ≠ 18 → μ'.1 a j = μ.1 a j) ∧ ∀ a j, a ≠ 19 → μ'.2.1 a j = μ.2.1 a j := by
  have hm2 : 2 ^ m ≤ 256 := Nat.le_trans (Nat.pow_le_pow_right (by decide) hm) (by decide)
  intro f
  induction f with
  | zero => intro S c μ _ h1 h2; omega
  | succ f ih =>
    intro S c μ s1 s2 s3 c1 c2 hcol hinv
    show ∃ μ', b_X1_price_L20 N (nI i) (nI (2 ^ m - 1)) (nI (lf i)) (f_X1_price_L20 N (nI i) (nI (2 ^ m - 1)) (nI (lf i)) f) (nI c) (nI S) μ = _ ∧ _
    unfold b_X1_price_L20
    by_cases hlt : 2 ^ m - 1 < S
    · have : S = 2 ^ m := by omega
      subst this
      rw [if_pos (nI_lt hlt (by omega))]
      exact ⟨μ, rfl, fun R hR => (hinv R hR).2, rfl, fun _ _ _ => rfl, fun _ _ _ => rfl⟩
    · rw [if_neg (nI_nlt (by omega) (by omega))]
      have hc8 : c < 8 := by
        rcases Nat.lt_or_ge c 8 with q | q
        · exact q
        · have : 2 ^ 8 ≤ 2 ^ c := Nat.pow_le_pow_right (by decide) q
          omega
      have main : ∀ c, 2 ^ c ≤ S → S < 2 ^ (c + 1) → ∃ μ', f_X1_price_B38 N (nI i) (nI (2 ^ m - 1)) (nI (lf i)) (f_X1_price_L20 N (nI i) (nI (2 ^ m - 1)) (nI (lf i)) f) (nI c) (nI S) μ = some ((), μ') ∧ (∀ R, R < 2 ^ m → gainF m ab t w lf i R μ') ∧ μ'.2.2 = μ.2.2 ∧ (∀ a j, a ≠ 18 → μ'.1 a j = μ.1 a j) ∧ ∀ a j, a ≠ 19 → μ'.2.1 a j = μ.2.1 a j := by
        intro c c1 c2
        have e2 : 2 ^ (c + 1) = 2 ^ c + 2 ^ c := by rw [Nat.pow_succ]; omega
        have hcm : c < m := by
          rcases Nat.lt_or_ge c m with q | q
          · exact q
          · have : 2 ^ m ≤ 2 ^ c := Nat.pow_le_pow_right (by decide) q
            omega
        obtain ⟨R, hR⟩ : ∃ R, S = 2 ^ c + R := ⟨S - 2 ^ c, by omega⟩
        have hRl : R < 2 ^ c := by omega
        have hc7 : 2 ^ c ≤ 128 := Nat.le_trans (Nat.pow_le_pow_right (by decide) (show c ≤ 7 by omega)) (by decide)
        have ex := xor_top c (by omega) R (by omega) hRl
        have ek : nI S + 1 = nI (S + 1) := nI_1 S
        obtain ⟨iR1, iR2⟩ := hinv R (by omega)
        have hcolc := hcol c hcm
        have tsum := top_sumL hRl hcm (t i)
        have wsum := top_sumC hRl hcm (w i)
        have gsub : gOK m ab t lf i S → gOK m ab t lf i R := by
          rintro ⟨z1, z2⟩
          rw [hR] at z1 z2
          refine ⟨fun k hk hb => z1 k hk (by rw [top_bits hRl k]; by_cases e : k = c; rw [if_pos e]; rw [if_neg e]; exact hb), ?_⟩
          rw [tsum] at z2
          omega
        have gtop : gOK m ab t lf i S → ab i c := fun z => z.1 c hcm (by rw [hR, top_bits hRl c, if_pos rfl])
        have gwb := gW_bd hm hw i R
        unfold f_X1_price_B38 f_X1_price_B110 f_X1_price_B111 f_X1_price_B147
        simp only [z_bd_eq]
        rw [ek, hR, ex, ← hR, z_in_nI (show i < 3 from hi) (by decide), z_in_nI (show c < 8 by omega) (by decide), z_in_nI (show R < 256 by omega) (by decide), z_in_nI (show S < 256 by omega) (by decide), z_in_nI (show R < 256 by omega) (by decide), nI_toNat (show i < 2 ^ 31 by omega), nI_toNat (show c < 2 ^ 31 by omega), nI_toNat (show R < 2 ^ 31 by omega), nI_toNat (show S < 2 ^ 31 by omega)]
        generalize hμ3 : z_setI μ 18 S (μ.1 18 R + μ.1 (11 + i) c) = μ3
        have o3 : ∀ a j, ¬ (a = 18 ∧ j = S) → μ3.1 a j = μ.1 a j := fun a j q => by rw [← hμ3, sI_1, if_neg q]
        have d3 : μ3.1 18 S = μ.1 18 R + μ.1 (11 + i) c := by rw [← hμ3, sI_1, if_pos ⟨rfl, rfl⟩]
        have b3 : μ3.2 = μ.2 := by rw [← hμ3]; rfl
        have kb : ∀ v, (gainF m ab t w lf i S (z_setJ μ3 19 S v)) → (spentF m ab t i S μ3) → ∃ μ', f_X1_price_L20 N (nI i) (nI (2 ^ m - 1)) (nI (lf i)) f (nI c) (nI (S + 1)) (z_setJ μ3 19 S v) = some ((), μ') ∧ (∀ R, R < 2 ^ m → gainF m ab t w lf i R μ') ∧ μ'.2.2 = μ.2.2 ∧ (∀ a j, a ≠ 18 → μ'.1 a j = μ.1 a j) ∧ ∀ a j, a ≠ 19 → μ'.2.1 a j = μ.2.1 a j := by
          intro v hgS hsS
          obtain ⟨μ', r1, r2, r3, r4, r5⟩ := ih (S + 1) c (z_setJ μ3 19 S v) (by omega) (by omega) (by omega) (by omega) (by omega) (fun k hk => by
            rw [sJ_1, o3 _ _ (by omega), sJ_21, if_neg (by omega), b3]
            exact hcol k hk) (fun q hq => by
            by_cases e : q = S
            · subst e
              exact ⟨fun z => by rw [sJ_1]; exact hsS z, hgS⟩
            · obtain ⟨j1, j2⟩ := hinv q (by omega)
              refine ⟨fun z => ?_, ?_⟩
              · rw [sJ_1, o3 _ _ (by omega)]; exact j1 z
              · unfold gainF
                rw [sJ_21, if_neg (by omega), b3]
                exact j2)
          refine ⟨μ', r1, r2, ?_, fun a j ha => ?_, fun a j ha => ?_⟩
          · rw [r3]
            show μ3.2.2 = _
            rw [b3]
          · rw [r4 a j ha, sJ_1, o3 _ _ (by omega)]
          · rw [r5 a j ha, sJ_21, if_neg (by omega), b3]
        have hbad : ¬ gOK m ab t lf i S → gainF m ab t w lf i S (z_setJ μ3 19 S (-1)) := fun z => Or.inr ⟨z, by rw [sJ_21, if_pos ⟨rfl, rfl⟩]⟩
        have hspS : spentF m ab t i S μ3 := by
          intro z
          have hRall : ∀ k, k < m → R.testBit k = true → ab i k := fun k hk hb => z k hk (by rw [hR, top_bits hRl k]; by_cases e : k = c; rw [if_pos e]; rw [if_neg e]; exact hb)
          have habc := z c hcm (by rw [hR, top_bits hRl c, if_pos rfl])
          rcases hcolc with ⟨q1, q2, q3⟩ | ⟨q1, q2⟩
          · rw [d3, iR1 hRall, q2, nI_add, hR, tsum]
          · exact absurd habc q1
        rw [b3]
        rcases iR2 with ⟨g1, g2⟩ | ⟨g1, g2⟩
        · rw [g2, if_neg (nm1J gwb.1 (by omega))]
          rcases hcolc with ⟨q1, q2, q3⟩ | ⟨q1, q2⟩
          · have htc := ht i c
            have hts : μ3.1 18 S = nI (sumL (fun k => if S.testBit k = true then t i k else 0) m) := hspS (fun k hk hb => by
              rw [hR, top_bits hRl k] at hb
              by_cases e : k = c
              · rw [e]; exact q1
              · rw [if_neg e] at hb; exact g1.1 k hk hb)
            have htb : sumL (fun k => if S.testBit k = true then t i k else 0) m ≤ 8 * 999 := by
              have := sumL_le (f := fun k => if S.testBit k = true then t i k else 0) (B := 999) m (fun k _ => by
                show (if S.testBit k = true then t i k else 0) ≤ 999
                split
                · exact (ht i k).2
                · exact Nat.zero_le _)
              exact Nat.le_trans this (Nat.mul_le_mul_right 999 hm)
            rw [q2, if_neg (nI_nm1 (by omega)), z_in_nI (show S < 256 by omega) (by decide), hts]
            by_cases cl : sumL (fun k => if S.testBit k = true then t i k else 0) m ≤ lf i
            · rw [if_neg (nI_nlt cl (by omega)), if_neg (by decide), z_in_nI (show R < 256 by omega) (by decide), z_in_nI (show i < 3 from hi) (by decide), z_in_nI (show c < 8 by omega) (by decide), z_in_nI (show S < 256 by omega) (by decide), q3, ← Int64.ofInt_add]
              refine kb _ (Or.inl ⟨⟨fun k hk hb => ?_, cl⟩, ?_⟩) hspS
              · rw [hR, top_bits hRl k] at hb
                by_cases e : k = c
                · rw [e]; exact q1
                · rw [if_neg e] at hb; exact g1.1 k hk hb
              · rw [sJ_21, if_pos ⟨rfl, rfl⟩]
                unfold gW
                rw [hR, wsum]
            · rw [if_pos (nI_lt (by omega) (by omega)), if_pos True.intro, z_in_nI (show S < 256 by omega) (by decide)]
              exact kb _ (hbad (fun z => cl z.2)) hspS
          · rw [q2, if_pos rfl, if_pos True.intro, z_in_nI (show S < 256 by omega) (by decide)]
            exact kb _ (hbad (fun z => q1 (gtop z))) hspS
        · rw [g2, if_pos rfl, if_pos True.intro, z_in_nI (show S < 256 by omega) (by decide)]
          exact kb _ (hbad (fun z => g1 (gsub z))) hspS
      rw [two_shl c hc8]
      have hp : 2 ^ (c + 1) ≤ 256 := by
        have : 2 ^ (c + 1) ≤ 2 ^ 8 := Nat.pow_le_pow_right (by decide) (by omega)
        omega
      by_cases e : S = 2 ^ (c + 1)
      · rw [if_pos (by rw [e])]
        have ec : nI c + 1 = nI (c + 1) := nI_1 c
        rw [z_bd_eq, ec]
        refine main (c + 1) (by omega) ?_
        have : 2 ^ (c + 1 + 1) = 2 ^ (c + 1) + 2 ^ (c + 1) := by rw [Nat.pow_succ 2 (c + 1)]; omega
        omega
      · rw [if_neg (fun z => e ((nI_eq (by omega) (by omega)).mp z))]
        exact main c c1 (by omega)
theorem c_price {m : Nat} (hm : m ≤ 8) {ab : Nat → Nat → Prop} {t : Nat → Nat → Nat} {w : Nat → Nat → Int} {lf : Nat → Nat} {i : Nat} (hi : i < 3) (ht : ∀ i c, 1 ≤ t i c ∧ t i c ≤ 999) (hw : ∀ i c, 0 ≤ w i c ∧ w i c ≤ 35184372088832) (hlf : lf i ≤ 240) (N : Nat) (hN : 300 ≤ N) {μ : z_S} (hcol : colF m ab t w i μ) : ∃ μ', f_X1_price N (nI i) (nI (2 ^ m - 1)) (nI (lf i)) μ = some ((), μ') ∧ (∀ R, R < 2 ^ m → gainF m ab t w lf i R μ') ∧ μ'.2.2 = μ.2.2 ∧ (∀ a j, a ≠ 18 → μ'.1 a j = μ.1 a j) ∧ ∀ a j, a ≠ 19 → μ'.2.1 a j = μ.2.1 a j := by
  have hm2 : 2 ^ m ≤ 256 := Nat.le_trans (Nat.pow_le_pow_right (by decide) hm) (by decide)
  have hm1 : 1 ≤ 2 ^ m := Nat.one_le_two_pow
  unfold f_X1_price
  simp only [z_bd_eq]
  have z0 : ∀ c, c < m → ¬ (0 : Nat).testBit c = true := fun c _ => by rw [Nat.zero_testBit]; decide
  have hs0 : sumL (fun c => if (0 : Nat).testBit c = true then t i c else 0) m = 0 := sumL_0 m (fun c hc => if_neg (z0 c hc))
  have hg0 : gW m w i 0 = 0 := sumC_0 m (fun c hc => if_neg (z0 c hc))
  obtain ⟨μ', r1, r2, r3, r4, r5⟩ := c_priceL hm hi ht hw hlf N N 1 0 (z_setI (z_setJ μ 19 0 0) 18 0 0) (by omega) (by omega) (by omega) (by decide) (by decide) (fun k hk => by
    rw [sI_1, if_neg (by omega), sI_21, sJ_1, sJ_21, if_neg (by omega)]
    exact hcol k hk) (fun R hR => by
    have : R = 0 := by omega
    subst this
    refine ⟨fun _ => ?_, Or.inl ⟨⟨fun c hc hb => absurd hb (z0 c hc), ?_⟩, ?_⟩⟩
    · rw [sI_1, if_pos ⟨rfl, rfl⟩, hs0]; rfl
    · rw [hs0]; exact Nat.zero_le _
    · rw [sI_21, sJ_21, if_pos ⟨rfl, rfl⟩, hg0]; rfl)
  refine ⟨μ', r1, r2, r3, fun a j ha => ?_, fun a j ha => ?_⟩
  · rw [r4 a j ha, sI_1, if_neg (by omega), sJ_1]
  · rw [r5 a j ha, sI_21, sJ_21, if_neg (by omega)]
