/-! the class' next token -/
theorem c_blank {t : Nat → Nat} {n : Nat} (N : Nat) (c1 : Int32) (e : z_S → Option (Unit × z_S)) : ∀ f p μ, p ≤ n → n - p < f → cX t n μ → μ.1 1 5 = nI p → ∃ μ', f_X10_next_L30 N c1 e f μ = e μ' ∧ xFr μ μ' ∧ μ'.1 1 5 = nI (endE n (blB t) p) ∧ ∀ j, j ≠ 5 → μ'.1 1 j = μ.1 1 j := by
  intro f
  induction f with
  | zero => intro p μ h1 h2; omega
  | succ f ih =>
    intro p μ h1 h2 hx hp
    have hn := hx.1
    show ∃ μ', b_X10_next_L30 N c1 (f_X10_next_L30 N c1 e f) e μ = _ ∧ _
    unfold b_X10_next_L30 f_X10_next_B69
    rw [hp, hx.2.1]
    by_cases hlt : p < n
    · have ek : nI p + (1 : Int32) = nI (p + 1) := nI_1 p
      rw [if_pos (nI_lt hlt (by omega)), z_in_nI (show p < 1600 by omega) (by decide), z_in_nI (show p < 1600 by omega) (by decide), nI_toNat (show p < 2 ^ 31 by omega), hx.2.2.1 p, z_bd_eq, ek, endE_lt hlt]
      have hb := hx.2.2.2.1 p
      have go : ∃ μ', f_X10_next_L30 N c1 e f (z_setI μ 1 5 (nI (p + 1))) = e μ' ∧ xFr μ μ' ∧ μ'.1 1 5 = nI (endE n (blB t) (p + 1)) ∧ ∀ j, j ≠ 5 → μ'.1 1 j = μ.1 1 j := by
        have fr := xFr.set μ (j := 5) (nI (p + 1)) (by omega)
        obtain ⟨μ', r1, r2, r3, r4⟩ := ih (p + 1) (z_setI μ 1 5 (nI (p + 1))) (by omega) (by omega) (fr.cX hx) (by rw [sI_1, if_pos ⟨rfl, rfl⟩])
        exact ⟨μ', r1, fr.tr r2, r3, fun j hj => by rw [r4 j hj, sI_1, if_neg (fun z => hj z.2)]⟩
      by_cases c32 : t p = 32
      · rw [if_pos (show nI (t p) = (32 : Int32) by rw [c32]; rfl), if_pos (blB_t.mpr (Or.inl c32))]
        exact go
      · rw [if_neg (show ¬ nI (t p) = (32 : Int32) from fun z => c32 ((nI_eq (b := 32) (by omega) (by decide)).mp z))]
        by_cases c10 : t p = 10
        · rw [if_pos (show nI (t p) = (10 : Int32) by rw [c10]; rfl), if_pos (blB_t.mpr (Or.inr c10))]
          exact go
        · rw [if_neg (show ¬ nI (t p) = (10 : Int32) from fun z => c10 ((nI_eq (b := 10) (by omega) (by decide)).mp z)), if_neg (fun z => by rcases blB_t.mp z with y | y; exact c32 y; exact c10 y)]
          exact ⟨μ, rfl, xFr.rf μ, hp, fun _ _ => rfl⟩
    · rw [if_neg (nI_nlt (by omega) (by omega)), endE_ge (by omega)]
      exact ⟨μ, rfl, xFr.rf μ, hp, fun _ _ => rfl⟩
/-- what the class has packed of a word, i of it read -/
def wpk (t : Nat → Nat) (q i : Nat) : Int32 := if i ≤ q + 6 then nI (f32 t q (i - q)) else -1
theorem f32_lt {t : Nat → Nat} {q : Nat} : ∀ m, (∀ k, q ≤ k → k < q + m → ltB t k = true) → f32 t q m < 32 ^ m
  | 0, _ => by show 0 < 1; omega
  | m + 1, h => by
    have h1 := f32_lt m (fun k a b => h k a (by omega))
    have h2 := ltB_t.mp (h (q + m) (by omega) (by omega))
    show 32 * f32 t q m + (t (q + m) - 96) < 32 ^ (m + 1)
    rw [Nat.pow_succ]; omega
theorem c_wordL {t : Nat → Nat} {n q : Nat} (N : Nat) (e : Int32 → z_S → Option (Unit × z_S)) : ∀ f i μ, q ≤ i → i ≤ n → n - i < f → cX t n μ → μ.1 1 5 = nI q → μ.1 1 9 = nI i → (∀ k, q ≤ k → k < i → ltB t k = true) → ∃ μ', f_X10_readWord_L2 N e f (wpk t q i) μ = e (wpk t q (endE n (ltB t) i)) μ' ∧ xFr μ μ' ∧ μ'.1 1 9 = nI (endE n (ltB t) i) ∧ ∀ j, j ≠ 9 → μ'.1 1 j = μ.1 1 j := by
  intro f
  induction f with
  | zero => intro i μ h0 h1 h2; omega
  | succ f ih =>
    intro i μ h0 h1 h2 hx h5 h9 hl
    have hn := hx.1
    show ∃ μ', b_X10_readWord_L2 N (f_X10_readWord_L2 N e f) e (wpk t q i) μ = _ ∧ _
    unfold b_X10_readWord_L2 f_X10_readWord_B78
    rw [h9, hx.2.1, h5]
    by_cases hlt : i < n
    · have ek : nI i + (1 : Int32) = nI (i + 1) := nI_1 i
      have hb := hx.2.2.2.1 i
      rw [if_pos (nI_lt hlt (by omega)), z_in_nI (show i < 1600 by omega) (by decide), z_in_nI (show i < 1600 by omega) (by decide), z_in_nI (show i < 1600 by omega) (by decide), nI_toNat (show i < 2 ^ 31 by omega), hx.2.2.1 i, endE_lt hlt]
      simp only [z_bd_eq]
      rw [ek]
      have stop : ¬ ltB t i = true → ∃ μ', e (wpk t q i) μ = e (wpk t q (if ltB t i = true then endE n (ltB t) (i + 1) else i)) μ' ∧ xFr μ μ' ∧ μ'.1 1 9 = nI (if ltB t i = true then endE n (ltB t) (i + 1) else i) ∧ ∀ j, j ≠ 9 → μ'.1 1 j = μ.1 1 j := fun c => by
        rw [if_neg c]
        exact ⟨μ, rfl, xFr.rf μ, h9, fun _ _ => rfl⟩
      by_cases c1 : t i < 97
      · rw [if_pos (show nI (t i) < (97 : Int32) from nI_lt (b := 97) c1 (by decide))]
        exact stop (fun z => by have := ltB_t.mp z; omega)
      · rw [if_neg (show ¬ nI (t i) < (97 : Int32) from nI_nlt (b := 97) (by omega) (by omega))]
        by_cases c2 : 122 < t i
        · rw [if_pos (show (122 : Int32) < nI (t i) from nI_lt (a := 122) c2 (by omega))]
          exact stop (fun z => by have := ltB_t.mp z; omega)
        · rw [if_neg (show ¬ (122 : Int32) < nI (t i) from nI_nlt (a := 122) (by omega) (by decide))]
          have ct : ltB t i = true := ltB_t.mpr ⟨by omega, by omega⟩
          rw [if_pos ct]
          have hl' : ∀ k, q ≤ k → k < i + 1 → ltB t k = true := fun k a b => by
            by_cases z : k = i
            · rw [z]; exact ct
            · exact hl k a (by omega)
          have fr := xFr.set μ (j := 9) (nI (i + 1)) (by omega)
          obtain ⟨μ', r1, r2, r3, r4⟩ := ih (i + 1) (z_setI μ 1 9 (nI (i + 1))) (by omega) (by omega) (by omega) (fr.cX hx) (by rw [sI_1, if_neg (by omega)]; exact h5) (by rw [sI_1, if_pos ⟨rfl, rfl⟩]) hl'
          have fin : ∃ μ', f_X10_readWord_L2 N e f (wpk t q (i + 1)) (z_setI μ 1 9 (nI (i + 1))) = e (wpk t q (endE n (ltB t) (i + 1))) μ' ∧ xFr μ μ' ∧ μ'.1 1 9 = nI (endE n (ltB t) (i + 1)) ∧ ∀ j, j ≠ 9 → μ'.1 1 j = μ.1 1 j :=
            ⟨μ', r1, fr.tr r2, r3, fun j hj => by rw [r4 j hj, sI_1, if_neg (fun z => hj z.2)]⟩
          have e6 : nI q + (6 : Int32) = nI (q + 6) := nI_add q 6
          rw [e6]
          by_cases c3 : i < q + 6
          · have hlt2 := f32_lt (t := t) (q := q) (i - q) (fun k a b => hl k a (by omega))
            have hp := Nat.pow_le_pow_right (show 0 < 32 by decide) (show i - q ≤ 5 by omega)
            have ev : ((32 : Int32) * wpk t q i + nI (t i)) - (97 : Int32) + (1 : Int32) = wpk t q (i + 1) := by
              unfold wpk
              rw [if_pos (by omega), if_pos (by omega), show i + 1 - q = (i - q) + 1 by omega]
              show _ = nI (32 * f32 t q (i - q) + (t (q + (i - q)) - 96))
              rw [show q + (i - q) = i by omega, show (32 : Int32) * nI (f32 t q (i - q)) = nI (32 * f32 t q (i - q)) from pk_mul 32 _, nI_add, show nI (32 * f32 t q (i - q) + t i) - (97 : Int32) = nI (32 * f32 t q (i - q) + t i - 97) from pk_sub (b := 97) (by omega), show ∀ x, nI x + (1 : Int32) = nI (x + 1) from nI_1, show 32 * f32 t q (i - q) + t i - 97 + 1 = 32 * f32 t q (i - q) + (t i - 96) by omega]
            rw [if_pos (nI_lt c3 (by omega)), ev]
            exact fin
          · have ev : (-1 : Int32) = wpk t q (i + 1) := by
              unfold wpk
              rw [if_neg (by omega)]
            rw [if_neg (nI_nlt (by omega) (by omega)), ev]
            exact fin
    · rw [if_neg (nI_nlt (by omega) (by omega)), endE_ge (by omega)]
      exact ⟨μ, rfl, xFr.rf μ, h9, fun _ _ => rfl⟩
theorem c_wix {t : Nat → Nat} {n : Nat} (N : Nat) {l : List Nat} (hl : l.length ≤ 6 ∧ ∀ c ∈ l, 1 ≤ c ∧ c ≤ 26) : ∀ f k μ W, wordsL.drop k = W → k ≤ 34 → 34 - k < f → cX t n μ → μ.1 1 7 = -1 → μ.1 1 8 = nI (pk32 l 6) → ∃ μ', f_X10_readWord_L120 N f (nI k) μ = some ((), μ') ∧ xFr μ μ' ∧ μ'.1 1 7 = wixG W k l ∧ ∀ j, j ≠ 7 → μ'.1 1 j = μ.1 1 j := by
  intro f
  induction f with
  | zero => intro k μ W h0 h1 h2; omega
  | succ f ih =>
    intro k μ W h0 h1 h2 hx h7 hv
    show ∃ μ', b_X10_readWord_L120 N (f_X10_readWord_L120 N f) (nI k) μ = _ ∧ _
    unfold b_X10_readWord_L120 f_X10_readWord_B156
    have l34 : wordsL.length = 34 := by decide
    by_cases hlt : k < 34
    · have ek : nI k + 1 = nI (k + 1) := nI_1 k
      have hk : k < wordsL.length := by omega
      have ew : W = wordsL[k] :: wordsL.drop (k + 1) := by rw [← h0]; exact List.drop_eq_getElem_cons hk
      have h3 : μ.1 3 k = nI (pk32 wordsL[k] 6) := hx.2.2.2.2 k _ (by rw [words_c, List.getElem?_map, List.getElem?_eq_getElem hk]; rfl)
      have hwk := words_ok wordsL[k] (List.getElem_mem hk)
      have lt1 := pk32_lt 6 wordsL[k] (fun c hc => (hwk.2.2 c hc).2)
      have lt2 := pk32_lt 6 l (fun c hc => (hl.2 c hc).2)
      have p6 : 32 ^ 6 = 1073741824 := by decide
      rw [if_pos (show nI k < (34 : Int32) from nI_lt (b := 34) hlt (by decide)), if_pos h7, z_in_nI (show k < 34 by omega) (by decide), nI_toNat (show k < 2 ^ 31 by omega), h3, hv, z_bd_eq, z_bd_eq, z_bd_eq, z_bd_eq, ek, ew]
      by_cases c : wordsL[k] = l
      · rw [if_pos (by rw [c])]
        have fr := xFr.set μ (j := 7) (nI k) (by omega)
        have e7 : (z_setI μ 1 7 (nI k)).1 1 7 = nI k := by rw [sI_1, if_pos ⟨rfl, rfl⟩]
        refine ⟨z_setI μ 1 7 (nI k), ?_, fr, ?_, fun j hj => by rw [sI_1, if_neg (fun z => hj z.2)]⟩
        · obtain ⟨f, rfl⟩ : ∃ g, f = g + 1 := ⟨f - 1, by omega⟩
          show b_X10_readWord_L120 N (f_X10_readWord_L120 N f) (nI (k + 1)) (z_setI μ 1 7 (nI k)) = _
          unfold b_X10_readWord_L120
          by_cases c2 : k + 1 < 34
          · rw [if_pos (show nI (k + 1) < (34 : Int32) from nI_lt (b := 34) c2 (by decide)), e7, if_neg (nI_nm1 (by omega))]
          · rw [if_neg (show ¬ nI (k + 1) < (34 : Int32) from nI_nlt (b := 34) (by omega) (by omega))]
        · rw [e7]
          show _ = if wordsL[k] = l then nI k else _
          rw [if_pos c]
      · rw [if_neg (fun z => c (pk32_inj ⟨hwk.2.1, hwk.2.2⟩ hl ((nI_eq (by omega) (by omega)).mp z)))]
        have fr := xFr.set μ (j := 7) (-1) (by omega)
        obtain ⟨μ', r1, r2, r3, r4⟩ := ih (k + 1) (z_setI μ 1 7 (-1)) (wordsL.drop (k + 1)) rfl (by omega) (by omega) (fr.cX hx) (by rw [sI_1, if_pos ⟨rfl, rfl⟩]) (by rw [sI_1, if_neg (by omega)]; exact hv)
        refine ⟨μ', r1, fr.tr r2, ?_, fun j hj => by rw [r4 j hj, sI_1, if_neg (fun z => hj z.2)]⟩
        rw [r3]
        show _ = if wordsL[k] = l then nI k else wixG (wordsL.drop (k + 1)) (k + 1) l
        rw [if_neg c]
    · rw [if_neg (show ¬ nI k < (34 : Int32) from nI_nlt (b := 34) (by omega) (by omega))]
      refine ⟨μ, rfl, xFr.rf μ, ?_, fun _ _ => rfl⟩
      rw [← h0, List.drop_eq_nil_of_le (by omega), h7]
      rfl
theorem shl_ok : ∀ m, m ≤ 6 → ((((5 : Int32) * ((6 : Int32) - nI m)) &&& 31).toBitVec.smod 32).toNat = 5 * (6 - m) := by decide +kernel
theorem c_word {t : Nat → Nat} {n q : Nat} (N : Nat) (hN : 1700 ≤ N) {μ : z_S} (hx : cX t n μ) (hq : q < n) (hl : ltB t q = true) (h5 : μ.1 1 5 = nI q) (h9 : μ.1 1 9 = nI q) (h7 : μ.1 1 7 = -1) : ∃ μ', f_X10_readWord N μ = some ((), μ') ∧ xFr μ μ' ∧ μ'.1 1 9 = nI (endE n (ltB t) q) ∧ μ'.1 1 7 = wix (lts t q (endE n (ltB t) q - q)) ∧ (endE n (ltB t) q ≤ q + 6 → μ'.1 1 8 = nI (pk32 (lts t q (endE n (ltB t) q - q)) 6)) ∧ ∀ j, j ≠ 7 → j ≠ 8 → j ≠ 9 → μ'.1 1 j = μ.1 1 j := by
  have hn := hx.1
  obtain ⟨b1, b2, b3, b4⟩ := endE_b (P := ltB t) (show q ≤ n by omega)
  obtain ⟨μ1, r1, r2, r3, r4⟩ := c_wordL (q := q) N (fun y92_1 μ92 => f_X10_readWord_B92 N y92_1 μ92) N q μ (Nat.le_refl _) (by omega) (by omega) hx h5 h9 (fun k a b => by omega)
  have e0 : wpk t q q = 0 := by
    unfold wpk
    rw [if_pos (by omega), Nat.sub_self]
    rfl
  rw [e0] at r1
  have r1' : f_X10_readWord N μ = f_X10_readWord_B92 N (wpk t q (endE n (ltB t) q)) μ1 := r1
  generalize hE : endE n (ltB t) q = E at *
  rw [r1']
  unfold f_X10_readWord_B92
  have m7 : μ1.1 1 7 = -1 := by rw [r4 7 (by decide)]; exact h7
  by_cases c : E ≤ q + 6
  · have hlt := f32_lt (t := t) (q := q) (E - q) (fun k a z => b3 k a (by omega))
    have hp := Nat.pow_le_pow_right (show 0 < 32 by decide) (show E - q ≤ 6 by omega)
    have p6 : 32 ^ 6 = 1073741824 := by decide
    have pf : pk32 (lts t q (E - q)) 6 = f32 t q (E - q) * 32 ^ (6 - (E - q)) := by
      have := pk32_f32 t q (E - q) (6 - (E - q))
      rw [show E - q + (6 - (E - q)) = 6 by omega] at this
      exact this
    have h26 : ∀ x ∈ lts t q (E - q), 1 ≤ x ∧ x ≤ 26 := lts_26 (fun k a z => b3 k a (by omega))
    have plt := pk32_lt 6 (lts t q (E - q)) (fun x hx => (h26 x hx).2)
    have ew : wpk t q E = nI (f32 t q (E - q)) := if_pos c
    have esh : nI (f32 t q (E - q)) <<< (((5 : Int32) * ((6 : Int32) - (nI E - nI q))) &&& 31) = nI (pk32 (lts t q (E - q)) 6) := by
      rw [show nI E - nI q = nI (E - q) from pk_sub (by omega), pk_shlN _ (5 * (6 - (E - q))) (shl_ok (E - q) (by omega)) (by rw [Nat.pow_mul, show 2 ^ 5 = 32 by decide, ← pf]; omega), Nat.pow_mul, show 2 ^ 5 = 32 by decide, ← pf]
    rw [ew, if_neg (nI_nm1 (by omega)), r3, r4 5 (by decide), h5, esh, z_bd_eq]
    have fr := xFr.set μ1 (j := 8) (nI (pk32 (lts t q (E - q)) 6)) (by omega)
    obtain ⟨μ2, s1, s2, s3, s4⟩ := c_wix N (l := lts t q (E - q)) ⟨by rw [lts_len]; omega, h26⟩ N 0 (z_setI μ1 1 8 (nI (pk32 (lts t q (E - q)) 6))) wordsL rfl (by omega) (by omega) ((r2.tr fr).cX hx) (by rw [sI_1, if_neg (by omega)]; exact m7) (by rw [sI_1, if_pos ⟨rfl, rfl⟩])
    have s1' : f_X10_readWord_L120 N N (0 : Int32) (z_setI μ1 1 8 (nI (pk32 (lts t q (E - q)) 6))) = some ((), μ2) := s1
    refine ⟨μ2, s1', r2.tr (fr.tr s2), ?_, s3, fun _ => ?_, fun j a b z => ?_⟩
    · rw [s4 9 (by decide), sI_1, if_neg (by omega)]; exact r3
    · rw [s4 8 (by decide), sI_1, if_pos ⟨rfl, rfl⟩]
    · rw [s4 j a, sI_1, if_neg (by omega), r4 j z]
  · have ew : wpk t q E = -1 := if_neg c
    rw [ew, if_pos rfl]
    refine ⟨μ1, rfl, r2, r3, ?_, fun z => absurd z c, fun j _ _ z => r4 j z⟩
    rw [m7, wix_long (by rw [lts_len]; omega)]
theorem numV_lt {t : Nat → Nat} {q : Nat} : ∀ m, (∀ k, q ≤ k → k < q + m → dgB t k = true) → numV t q m < 10 ^ m
  | 0, _ => by show 0 < 1; omega
  | m + 1, h => by
    have h1 := numV_lt m (fun k a b => h k a (by omega))
    have h2 := dgB_t.mp (h (q + m) (by omega) (by omega))
    show 10 * numV t q m + (t (q + m) - 48) < 10 ^ (m + 1)
    rw [Nat.pow_succ]; omega
theorem c_digL {t : Nat → Nat} {n q : Nat} (N : Nat) : ∀ f i μ, q ≤ i → i ≤ n → n - i < f → cX t n μ → μ.1 1 5 = nI q → μ.1 1 9 = nI i → (i ≤ q + 4 → μ.1 1 8 = nI (numV t q (i - q))) → (∀ k, q ≤ k → k < i → dgB t k = true) → ∃ μ', f_X10_readDigits_L5 N f μ = some ((), μ') ∧ xFr μ μ' ∧ μ'.1 1 9 = nI (endE n (dgB t) i) ∧ (endE n (dgB t) i ≤ q + 4 → μ'.1 1 8 = nI (numV t q (endE n (dgB t) i - q))) ∧ ∀ j, j ≠ 8 → j ≠ 9 → μ'.1 1 j = μ.1 1 j := by
  intro f
  induction f with
  | zero => intro i μ h0 h1 h2; omega
  | succ f ih =>
    intro i μ h0 h1 h2 hx h5 h9 hv hl
    have hn := hx.1
    show ∃ μ', b_X10_readDigits_L5 N (f_X10_readDigits_L5 N f) μ = _ ∧ _
    unfold b_X10_readDigits_L5 f_X10_readDigits_B82
    rw [h9, hx.2.1, h5]
    by_cases hlt : i < n
    · have ek : nI i + (1 : Int32) = nI (i + 1) := nI_1 i
      have hb := hx.2.2.2.1 i
      rw [if_pos (nI_lt hlt (by omega)), z_in_nI (show i < 1600 by omega) (by decide), z_in_nI (show i < 1600 by omega) (by decide), z_in_nI (show i < 1600 by omega) (by decide), nI_toNat (show i < 2 ^ 31 by omega), hx.2.2.1 i, endE_lt hlt]
      simp only [z_bd_eq]
      have stop : ¬ dgB t i = true → ∃ μ', some ((), μ) = some ((), μ') ∧ xFr μ μ' ∧ μ'.1 1 9 = nI (if dgB t i = true then endE n (dgB t) (i + 1) else i) ∧ ((if dgB t i = true then endE n (dgB t) (i + 1) else i) ≤ q + 4 → μ'.1 1 8 = nI (numV t q ((if dgB t i = true then endE n (dgB t) (i + 1) else i) - q))) ∧ ∀ j, j ≠ 8 → j ≠ 9 → μ'.1 1 j = μ.1 1 j := fun c => by
        rw [if_neg c]
        exact ⟨μ, rfl, xFr.rf μ, h9, hv, fun _ _ _ => rfl⟩
      by_cases c1 : t i < 48
      · rw [if_pos (show nI (t i) < (48 : Int32) from nI_lt (b := 48) c1 (by decide))]
        exact stop (fun z => by have := dgB_t.mp z; omega)
      · rw [if_neg (show ¬ nI (t i) < (48 : Int32) from nI_nlt (b := 48) (by omega) (by omega))]
        by_cases c2 : 57 < t i
        · rw [if_pos (show (57 : Int32) < nI (t i) from nI_lt (a := 57) c2 (by omega))]
          exact stop (fun z => by have := dgB_t.mp z; omega)
        · rw [if_neg (show ¬ (57 : Int32) < nI (t i) from nI_nlt (a := 57) (by omega) (by decide))]
          have ct : dgB t i = true := dgB_t.mpr ⟨by omega, by omega⟩
          rw [if_pos ct]
          have hl' : ∀ k, q ≤ k → k < i + 1 → dgB t k = true := fun k a b => by
            by_cases z : k = i
            · rw [z]; exact ct
            · exact hl k a (by omega)
          have go : ∀ x, (i + 1 ≤ q + 4 → x = nI (numV t q (i + 1 - q))) → ∃ μ', f_X10_readDigits_L5 N f (z_setI (z_setI μ 1 8 x) 1 9 ((z_setI μ 1 8 x).1 1 9 + (1 : Int32))) = some ((), μ') ∧ xFr μ μ' ∧ μ'.1 1 9 = nI (endE n (dgB t) (i + 1)) ∧ (endE n (dgB t) (i + 1) ≤ q + 4 → μ'.1 1 8 = nI (numV t q (endE n (dgB t) (i + 1) - q))) ∧ ∀ j, j ≠ 8 → j ≠ 9 → μ'.1 1 j = μ.1 1 j := fun x hxv => by
            rw [show (z_setI μ 1 8 x).1 1 9 = nI i by rw [sI_1, if_neg (by omega)]; exact h9, ek]
            have fr := (xFr.set μ (j := 8) x (by omega)).tr (xFr.set (z_setI μ 1 8 x) (j := 9) (nI (i + 1)) (by omega))
            obtain ⟨μ', r1, r2, r3, r4, r5⟩ := ih (i + 1) (z_setI (z_setI μ 1 8 x) 1 9 (nI (i + 1))) (by omega) (by omega) (by omega) (fr.cX hx) (by rw [sI_1, if_neg (by omega), sI_1, if_neg (by omega)]; exact h5) (by rw [sI_1, if_pos ⟨rfl, rfl⟩]) (fun z => by rw [sI_1, if_neg (by omega), sI_1, if_pos ⟨rfl, rfl⟩]; exact hxv z) hl'
            exact ⟨μ', r1, fr.tr r2, r3, r4, fun j a b => by rw [r5 j a b, sI_1, if_neg (fun z => b z.2), sI_1, if_neg (fun z => a z.2)]⟩
          have e4 : nI q + (4 : Int32) = nI (q + 4) := nI_add q 4
          rw [e4]
          by_cases c3 : i < q + 4
          · rw [if_pos (nI_lt c3 (by omega))]
            refine go _ (fun _ => ?_)
            rw [hv (by omega), show i + 1 - q = (i - q) + 1 by omega]
            show _ = nI (10 * numV t q (i - q) + (t (q + (i - q)) - 48))
            rw [show q + (i - q) = i by omega, show (10 : Int32) * nI (numV t q (i - q)) = nI (10 * numV t q (i - q)) from pk_mul 10 _, nI_add, show nI (10 * numV t q (i - q) + t i) - (48 : Int32) = nI (10 * numV t q (i - q) + t i - 48) from pk_sub (b := 48) (by omega), show 10 * numV t q (i - q) + t i - 48 = 10 * numV t q (i - q) + (t i - 48) by omega]
          · rw [if_neg (nI_nlt (by omega) (by omega))]
            exact go _ (fun z => by omega)
    · rw [if_neg (nI_nlt (by omega) (by omega)), endE_ge (by omega)]
      exact ⟨μ, rfl, xFr.rf μ, h9, hv, fun _ _ _ => rfl⟩
