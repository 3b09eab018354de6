/-! on: the reference's tests -/
def bdS (h : aH) (t : Nat → Nat) (b l j : Nat) : Prop := 0 < t (b + 3 * l + 1) ∧ t (b + 3 * l + 1) = t (b + 3 * j + 1) ∧ hNear h l j = true
def okM (h : aH) (t : Nat → Nat) (b l : Nat) : Prop := t (b + 3 * l) ≤ hCnt h 2 ∧ t (b + 3 * l + 1) ≤ 4 ∧ t (b + 3 * l + 2) ≤ hCnt h 1 ∧ ∀ j, j < l → ¬ bdS h t b l j
theorem okLM {h : aH} {t : Nat → Nat} (ok : okH h) : (∀ l, l < hCnt h 0 → okL h (tN h t) l) ↔ ∀ l, l < hCnt h 0 → okM h t (2 + hCnt h 2 + hCnt h 1) l := by
  have eD : ∀ l, l < hCnt h 0 → nDone (tN h t) l = t (2 + hCnt h 2 + hCnt h 1 + 3 * l) := fun l hl => if_pos hl
  have eS : ∀ l, l < hCnt h 0 → nSheet (tN h t) l = t (2 + hCnt h 2 + hCnt h 1 + 3 * l + 1) := fun l hl => if_pos hl
  have eG : ∀ l, l < hCnt h 0 → nGift (tN h t) l = t (2 + hCnt h 2 + hCnt h 1 + 3 * l + 2) := fun l hl => if_pos hl
  constructor
  · intro H l hl
    obtain ⟨h1, h2, h3, h4⟩ := H l hl
    rw [eD l hl] at h1
    rw [eG l hl] at h2
    rw [eS l hl] at h3
    refine ⟨h1, h3, h2, fun j hj hb => ?_⟩
    obtain ⟨b1, b2, b3⟩ := hb
    rw [eS l hl] at h4
    rcases h4 with h4 | h4
    · omega
    · rw [shN_true b3 (by rw [eS j (by omega)]; exact b2.symm) (hCnt h 0) (by omega)] at h4
      cases h4
  · intro H l hl
    obtain ⟨h1, h2, h3, h4⟩ := H l hl
    refine ⟨by rw [eD l hl]; exact h1, by rw [eG l hl]; exact h3, by rw [eS l hl]; exact h2, ?_⟩
    by_cases hz : nSheet (tN h t) l = 0
    · exact Or.inl hz
    · refine Or.inr (shN_false _ (fun k hk hb => ?_))
      obtain ⟨b1, b2⟩ := hb
      rw [eS k hk, eS l hl] at b2
      rw [eS l hl] at hz
      rcases Nat.lt_trichotomy k l with q | q | q
      · exact h4 k q ⟨by omega, b2.symm, b1⟩
      · subst q
        rw [ok.2.2.2.2.2.2.2.2.2.2.1 k] at b1
        cases b1
      · refine (H k hk).2.2.2 l q ⟨by omega, b2, ?_⟩
        rw [ok.2.2.2.2.2.2.2.2.2.1 k l]
        exact b1
theorem m_al1 {A : aS} {ν : z_S} (ok : okS A) (h : mS A ν) (N : Nat) {b l : Nat} (hb : b ≤ 9) (hl : l < hCnt (sH A) 0) (e : z_S → Option (Int32 × z_S)) : ∀ n i, i ≤ l → l - i < n → ((∃ j, i ≤ j ∧ j < l ∧ bdS (sH A) (sTape A) b l j) ∧ f_X12_areLettersTold_L61 N (nI b) (nI l) (nI (b + 3 * l)) e n (nI i) ν = some (0, ν)) ∨ ((∀ j, i ≤ j → j < l → ¬ bdS (sH A) (sTape A) b l j) ∧ f_X12_areLettersTold_L61 N (nI b) (nI l) (nI (b + 3 * l)) e n (nI i) ν = e ν) := by
  have h8 := ok.2.2.1.1
  have ht := h.2.1
  have htb := ok.2.1
  intro n
  induction n with
  | zero => intro i h1 h2; omega
  | succ n ih =>
    intro i h1 h2
    show (_ ∧ b_X12_areLettersTold_L61 N (nI b) (nI l) (nI (b + 3 * l)) (f_X12_areLettersTold_L61 N (nI b) (nI l) (nI (b + 3 * l)) e n) e (nI i) ν = _) ∨ (_ ∧ b_X12_areLettersTold_L61 N (nI b) (nI l) (nI (b + 3 * l)) (f_X12_areLettersTold_L61 N (nI b) (nI l) (nI (b + 3 * l)) e n) e (nI i) ν = _)
    by_cases hlt : i < l
    · have step : ¬ bdS (sH A) (sTape A) b l i → b_X12_areLettersTold_L61 N (nI b) (nI l) (nI (b + 3 * l)) (f_X12_areLettersTold_L61 N (nI b) (nI l) (nI (b + 3 * l)) e n) e (nI i) ν = f_X12_areLettersTold_L61 N (nI b) (nI l) (nI (b + 3 * l)) e n (nI (i + 1)) ν := by
        intro hbd
        unfold b_X12_areLettersTold_L61 f_X12_areLettersTold_B122
        have e1 : nI (b + 3 * l) + (1 : Int32) = nI (b + 3 * l + 1) := nI_1 _
        have e2 : (nI b + (3 : Int32) * nI i) + (1 : Int32) = nI (b + 3 * i + 1) := ix3 b 3 i 1
        have e3 : (8 : Int32) + nI l = nI (8 + l) := ix1 8 l
        have e4 : nI i + (1 : Int32) = nI (i + 1) := nI_1 i
        simp only [z_bd_eq]
        rw [if_pos (nI_lt hlt (by omega)), e1, z_in_nI (show b + 3 * l + 1 < 1600 by omega) (by decide), nI_toNat (show b + 3 * l + 1 < 2 ^ 31 by omega), ht, e4]
        have hb1 := htb (b + 3 * l + 1)
        have hb2 := htb (b + 3 * i + 1)
        by_cases c1 : 0 < sTape A (b + 3 * l + 1)
        · rw [if_pos (show (0 : Int32) < nI (sTape A (b + 3 * l + 1)) from nI_lt (a := 0) c1 (by omega)), z_in_nI (show b + 3 * l + 1 < 1600 by omega) (by decide), e2, z_in_nI (show b + 3 * i + 1 < 1600 by omega) (by decide), nI_toNat (show b + 3 * i + 1 < 2 ^ 31 by omega), ht]
          by_cases c2 : sTape A (b + 3 * l + 1) = sTape A (b + 3 * i + 1)
          · rw [if_pos (by rw [c2]), e3, z_in_nI (show 8 + l < 16 by omega) (by decide), nI_toNat (show 8 + l < 2 ^ 31 by omega), h.2.2.2.2.2.2.1.2.2.2.1 l (by omega), if_neg (fun z => hbd ⟨c1, c2, (near_bit (sH A) l (show i < 8 by omega)).mp z⟩)]
          · rw [if_neg (fun z => c2 ((nI_eq (by omega) (by omega)).mp z))]
        · rw [if_neg (show ¬ (0 : Int32) < nI (sTape A (b + 3 * l + 1)) from nI_nlt (a := 0) (by omega) (by decide))]
      by_cases hbd : bdS (sH A) (sTape A) b l i
      · refine Or.inl ⟨⟨i, Nat.le_refl _, hlt, hbd⟩, ?_⟩
        obtain ⟨c1, c2, c3⟩ := hbd
        unfold b_X12_areLettersTold_L61
        have e1 : nI (b + 3 * l) + (1 : Int32) = nI (b + 3 * l + 1) := nI_1 _
        have e2 : (nI b + (3 : Int32) * nI i) + (1 : Int32) = nI (b + 3 * i + 1) := ix3 b 3 i 1
        have e3 : (8 : Int32) + nI l = nI (8 + l) := ix1 8 l
        have hb1 := htb (b + 3 * l + 1)
        rw [if_pos (nI_lt hlt (by omega)), e1, z_in_nI (show b + 3 * l + 1 < 1600 by omega) (by decide), nI_toNat (show b + 3 * l + 1 < 2 ^ 31 by omega), ht, if_pos (show (0 : Int32) < nI (sTape A (b + 3 * l + 1)) from nI_lt (a := 0) c1 (by omega)), z_in_nI (show b + 3 * l + 1 < 1600 by omega) (by decide), e2, z_in_nI (show b + 3 * i + 1 < 1600 by omega) (by decide), nI_toNat (show b + 3 * i + 1 < 2 ^ 31 by omega), ht, if_pos (by rw [c2]), e3, z_in_nI (show 8 + l < 16 by omega) (by decide), nI_toNat (show 8 + l < 2 ^ 31 by omega), h.2.2.2.2.2.2.1.2.2.2.1 l (by omega), if_pos ((near_bit (sH A) l (show i < 8 by omega)).mpr c3)]
      · rw [step hbd]
        rcases ih (i + 1) (by omega) (by omega) with ⟨⟨j, g1, g2, g3⟩, g4⟩ | ⟨g1, g2⟩
        · exact Or.inl ⟨⟨j, by omega, g2, g3⟩, g4⟩
        · refine Or.inr ⟨fun j k1 k2 => ?_, g2⟩
          by_cases hj : j = i
          · rw [hj]; exact hbd
          · exact g1 j (by omega) k2
    · refine Or.inr ⟨fun j k1 k2 => by omega, ?_⟩
      unfold b_X12_areLettersTold_L61
      rw [if_neg (nI_nlt (by omega) (by omega))]
theorem m_al2 {A : aS} {ν : z_S} (ok : okS A) (h : mS A ν) (N : Nat) (hN : 9 ≤ N) {b : Nat} (hb : b ≤ 9) : ∀ n l, l ≤ hCnt (sH A) 0 → hCnt (sH A) 0 - l < n → ((∃ j, l ≤ j ∧ j < hCnt (sH A) 0 ∧ ¬ okM (sH A) (sTape A) b j) ∧ f_X12_areLettersTold_L2 N (nI b) n (nI l) ν = some (0, ν)) ∨ ((∀ j, l ≤ j → j < hCnt (sH A) 0 → okM (sH A) (sTape A) b j) ∧ f_X12_areLettersTold_L2 N (nI b) n (nI l) ν = some (1, ν)) := by
  have h8 := ok.2.2.1.1
  have h4 := ok.2.2.1.2.1
  have h3 := ok.2.2.1.2.2.1
  have ht := h.2.1
  have htb := ok.2.1
  intro n
  induction n with
  | zero => intro i h1 h2; omega
  | succ n ih =>
    intro l h1 h2
    show (_ ∧ b_X12_areLettersTold_L2 N (nI b) (f_X12_areLettersTold_L2 N (nI b) n) (nI l) ν = _) ∨ (_ ∧ b_X12_areLettersTold_L2 N (nI b) (f_X12_areLettersTold_L2 N (nI b) n) (nI l) ν = _)
    unfold b_X12_areLettersTold_L2 f_X12_letterMany f_X12_helperMany f_X12_giftMany
    rw [z_bn_sm, h.2.2.2.2.2.2.1.1 0 (by decide)]
    by_cases hlt : l < hCnt (sH A) 0
    · have e1 : nI b + (3 : Int32) * nI l = nI (b + 3 * l) := ix2 b 3 l
      have e2 : nI (b + 3 * l) + (1 : Int32) = nI (b + 3 * l + 1) := nI_1 _
      have e3 : nI (b + 3 * l) + (2 : Int32) = nI (b + 3 * l + 2) := ix1 _ 2
      have e4 : nI l + (1 : Int32) = nI (l + 1) := nI_1 l
      have t0 := htb (b + 3 * l)
      have t1 := htb (b + 3 * l + 1)
      have t2 := htb (b + 3 * l + 2)
      rw [if_pos (nI_lt hlt (by omega)), z_bd_eq, e1, z_in_nI (show b + 3 * l < 1600 by omega) (by decide), nI_toNat (show b + 3 * l < 2 ^ 31 by omega), z_bn_sm, h.2.2.2.2.2.2.1.1 2 (by decide), ht]
      by_cases c1 : sTape A (b + 3 * l) ≤ hCnt (sH A) 2
      · rw [if_neg (nI_nlt c1 (by omega)), e2, z_in_nI (show b + 3 * l + 1 < 1600 by omega) (by decide), nI_toNat (show b + 3 * l + 1 < 2 ^ 31 by omega), ht]
        by_cases c2 : sTape A (b + 3 * l + 1) ≤ 4
        · rw [if_neg (show ¬ (4 : Int32) < nI (sTape A (b + 3 * l + 1)) from nI_nlt (a := 4) c2 (by decide)), e3, z_in_nI (show b + 3 * l + 2 < 1600 by omega) (by decide), nI_toNat (show b + 3 * l + 2 < 2 ^ 31 by omega), z_bn_sm, h.2.2.2.2.2.2.1.1 1 (by decide), ht]
          by_cases c3 : sTape A (b + 3 * l + 2) ≤ hCnt (sH A) 1
          · rw [if_neg (nI_nlt c3 (by omega))]
            rcases m_al1 ok h N hb hlt (fun μ128 => z_bd (nI l + 1) fun x6 => f_X12_areLettersTold_L2 N (nI b) n x6 μ128) N 0 (Nat.zero_le _) (by omega) with ⟨⟨j, g1, g2, g3⟩, g4⟩ | ⟨g1, g2⟩
            · refine Or.inl ⟨⟨l, Nat.le_refl _, hlt, fun z => z.2.2.2 j g2 g3⟩, ?_⟩
              exact g4
            · have g2' : f_X12_areLettersTold_L61 N (nI b) (nI l) (nI (b + 3 * l)) (fun μ128 => z_bd (nI l + 1) fun x6 => f_X12_areLettersTold_L2 N (nI b) n x6 μ128) N (0 : Int32) ν = _ := g2
              rw [g2', z_bd_eq, e4]
              have okl : okM (sH A) (sTape A) b l := ⟨c1, c2, c3, fun j hj => g1 j (Nat.zero_le _) hj⟩
              rcases ih (l + 1) (by omega) (by omega) with ⟨⟨j, k1, k2, k3⟩, k4⟩ | ⟨k1, k2⟩
              · exact Or.inl ⟨⟨j, by omega, k2, k3⟩, k4⟩
              · refine Or.inr ⟨fun j q1 q2 => ?_, k2⟩
                by_cases hj : j = l
                · rw [hj]; exact okl
                · exact k1 j (by omega) q2
          · rw [if_pos (nI_lt (by omega) (by omega))]
            exact Or.inl ⟨⟨l, Nat.le_refl _, hlt, fun z => c3 z.2.2.1⟩, rfl⟩
        · rw [if_pos (show (4 : Int32) < nI (sTape A (b + 3 * l + 1)) from nI_lt (a := 4) (by omega) (by omega))]
          exact Or.inl ⟨⟨l, Nat.le_refl _, hlt, fun z => c2 z.2.1⟩, rfl⟩
      · rw [if_pos (nI_lt (by omega) (by omega))]
        exact Or.inl ⟨⟨l, Nat.le_refl _, hlt, fun z => c1 z.1⟩, rfl⟩
    · rw [if_neg (nI_nlt (by omega) (by omega))]
      exact Or.inr ⟨fun j q1 q2 => by omega, rfl⟩
theorem m_ii1 {A : aS} {ν : z_S} (ok : okS A) (h : mS A ν) (N : Nat) (c2 c3 : Int32) (e : z_S → Option (Int32 × z_S)) : ∀ n i, i ≤ hCnt (sH A) 2 → hCnt (sH A) 2 - i < n → ((∃ j, i ≤ j ∧ j < hCnt (sH A) 2 ∧ ¬ sTape A (2 + j) ≤ hHelp (sH A) j 0) ∧ f_X12_isImage_L77 N c2 c3 e n (nI i) ν = some (0, ν)) ∨ ((∀ j, i ≤ j → j < hCnt (sH A) 2 → sTape A (2 + j) ≤ hHelp (sH A) j 0) ∧ f_X12_isImage_L77 N c2 c3 e n (nI i) ν = e ν) := by
  have h3 := ok.2.2.1.2.2.1
  have ht := h.2.1
  have htb := ok.2.1
  intro n
  induction n with
  | zero => intro i h1 h2; omega
  | succ n ih =>
    intro i h1 h2
    show (_ ∧ b_X12_isImage_L77 N c2 c3 (f_X12_isImage_L77 N c2 c3 e n) e (nI i) ν = _) ∨ (_ ∧ b_X12_isImage_L77 N c2 c3 (f_X12_isImage_L77 N c2 c3 e n) e (nI i) ν = _)
    unfold b_X12_isImage_L77 f_X12_helperMany
    rw [z_bn_sm, h.2.2.2.2.2.2.1.1 2 (by decide)]
    by_cases hlt : i < hCnt (sH A) 2
    · have e1 : (2 : Int32) + nI i = nI (2 + i) := ix1 2 i
      have e2 : (9 : Int32) + (3 : Int32) * nI i = nI (9 + 3 * i) := ix2 9 3 i
      have e4 : nI i + (1 : Int32) = nI (i + 1) := nI_1 i
      have t1 := htb (2 + i)
      have hh := (ok.2.2.1.2.2.2.2.2.2.2.2.2.2.2.2.2.2.2.2.2.1 i).2.1
      have q9 : ν.1 291 (9 + 3 * i) = nI (hHelp (sH A) i 0) := h.2.2.2.2.2.2.1.2.2.2.2.2.2.2.1 i hlt 0 (by decide)
      rw [if_pos (nI_lt hlt (by omega)), e1, z_in_nI (show 2 + i < 1600 by omega) (by decide), e2, z_in_nI (show 9 + 3 * i < 18 by omega) (by decide), nI_toNat (show 2 + i < 2 ^ 31 by omega), nI_toNat (show 9 + 3 * i < 2 ^ 31 by omega), ht, q9, z_bd_eq, e4]
      by_cases c : sTape A (2 + i) ≤ hHelp (sH A) i 0
      · rw [if_neg (nI_nlt c (by omega))]
        rcases ih (i + 1) (by omega) (by omega) with ⟨⟨j, g1, g2, g3⟩, g4⟩ | ⟨g1, g2⟩
        · exact Or.inl ⟨⟨j, by omega, g2, g3⟩, g4⟩
        · refine Or.inr ⟨fun j k1 k2 => ?_, g2⟩
          by_cases hj : j = i
          · rw [hj]; exact c
          · exact g1 j (by omega) k2
      · rw [if_pos (nI_lt (by omega) (by omega))]
        exact Or.inl ⟨⟨i, Nat.le_refl _, hlt, c⟩, rfl⟩
    · rw [if_neg (nI_nlt (by omega) (by omega))]
      exact Or.inr ⟨fun j q1 q2 => by omega, rfl⟩
theorem m_ii2 {A : aS} {ν : z_S} (ok : okS A) (h : mS A ν) (N : Nat) {b : Nat} (hb : b ≤ 5) (c3 : Int32) (e : z_S → Option (Int32 × z_S)) : ∀ n i, i ≤ hCnt (sH A) 1 → hCnt (sH A) 1 - i < n → ((∃ j, i ≤ j ∧ j < hCnt (sH A) 1 ∧ ¬ sTape A (b + j) ≤ hStock (sH A) j) ∧ f_X12_isImage_L121 N (nI b) c3 e n (nI i) ν = some (0, ν)) ∨ ((∀ j, i ≤ j → j < hCnt (sH A) 1 → sTape A (b + j) ≤ hStock (sH A) j) ∧ f_X12_isImage_L121 N (nI b) c3 e n (nI i) ν = e ν) := by
  have h4 := ok.2.2.1.2.1
  have ht := h.2.1
  have htb := ok.2.1
  intro n
  induction n with
  | zero => intro i h1 h2; omega
  | succ n ih =>
    intro i h1 h2
    show (_ ∧ b_X12_isImage_L121 N (nI b) c3 (f_X12_isImage_L121 N (nI b) c3 e n) e (nI i) ν = _) ∨ (_ ∧ b_X12_isImage_L121 N (nI b) c3 (f_X12_isImage_L121 N (nI b) c3 e n) e (nI i) ν = _)
    unfold b_X12_isImage_L121 f_X12_giftMany
    rw [z_bn_sm, h.2.2.2.2.2.2.1.1 1 (by decide)]
    by_cases hlt : i < hCnt (sH A) 1
    · have e1 : nI b + nI i = nI (b + i) := ix1 b i
      have e2 : (4 : Int32) + nI i = nI (4 + i) := ix1 4 i
      have e4 : nI i + (1 : Int32) = nI (i + 1) := nI_1 i
      have t1 := htb (b + i)
      have hh := ok.2.2.1.2.2.2.2.2.2.2.2.2.2.2.2.2.2.2.2.1 i
      have q9 : ν.1 287 (4 + i) = nI (hStock (sH A) i) := h.2.2.2.2.2.2.1.2.2.2.2.2.2.1 i hlt
      rw [if_pos (nI_lt hlt (by omega)), e1, z_in_nI (show b + i < 1600 by omega) (by decide), e2, z_in_nI (show 4 + i < 8 by omega) (by decide), nI_toNat (show b + i < 2 ^ 31 by omega), nI_toNat (show 4 + i < 2 ^ 31 by omega), ht, q9, z_bd_eq, e4]
      by_cases c : sTape A (b + i) ≤ hStock (sH A) i
      · rw [if_neg (nI_nlt c (by omega))]
        rcases ih (i + 1) (by omega) (by omega) with ⟨⟨j, g1, g2, g3⟩, g4⟩ | ⟨g1, g2⟩
        · exact Or.inl ⟨⟨j, by omega, g2, g3⟩, g4⟩
        · refine Or.inr ⟨fun j k1 k2 => ?_, g2⟩
          by_cases hj : j = i
          · rw [hj]; exact c
          · exact g1 j (by omega) k2
      · rw [if_pos (nI_lt (by omega) (by omega))]
        exact Or.inl ⟨⟨i, Nat.le_refl _, hlt, c⟩, rfl⟩
    · rw [if_neg (nI_nlt (by omega) (by omega))]
      exact Or.inr ⟨fun j q1 q2 => by omega, rfl⟩
def imgN (A : aS) : Nat := 2 + hCnt (sH A) 2 + hCnt (sH A) 1 + 3 * hCnt (sH A) 0
theorem m_isImage {A : aS} {ν : z_S} (ok : okS A) (h : mS A ν) (N : Nat) (hN : 60 ≤ N) {n : Nat} (hn : n ≤ 1600) :
    (n = imgN A + 1 ∧ chk (segN (sTape A) 0 (imgN A)) = sTape A (imgN A) → ∃ b, flg (okT (sH A) (tN (sH A) (sTape A))) b ∧ f_X12_isImage N (nI n) ν = some (b, ν)) ∧
    (¬ (n = imgN A + 1 ∧ chk (segN (sTape A) 0 (imgN A)) = sTape A (imgN A)) → f_X12_isImage N (nI n) ν = some (0, ν)) := by
  have h8 := ok.2.2.1.1
  have h4 := ok.2.2.1.2.1
  have h3 := ok.2.2.1.2.2.1
  have ht := h.2.1
  have htb := ok.2.1
  have him : imgN A = 2 + hCnt (sH A) 2 + hCnt (sH A) 1 + 3 * hCnt (sH A) 0 := rfl
  have e1 : (2 : Int32) + nI (hCnt (sH A) 2) = nI (2 + hCnt (sH A) 2) := ix1 2 _
  have e2 : nI (2 + hCnt (sH A) 2) + nI (hCnt (sH A) 1) = nI (2 + hCnt (sH A) 2 + hCnt (sH A) 1) := ix1 _ _
  have e3 : (nI (2 + hCnt (sH A) 2 + hCnt (sH A) 1) + (3 : Int32) * nI (hCnt (sH A) 0)) + (1 : Int32) = nI (imgN A + 1) := ix3 _ 3 _ 1
  have hseg : (segN (sTape A) 0 (imgN A)).length = imgN A := segN_len _ _ _
  have hget : ∀ (f : Nat → Nat) m i k, k < m → (segN f i m).getD k 0 = f (i + k) := by
    intro f m
    induction m with
    | zero => intro i k hk; omega
    | succ m ih =>
      intro i k hk
      show (f i :: segN f (i + 1) m).getD k 0 = _
      cases k with
      | zero => rfl
      | succ k =>
        show (segN f (i + 1) m).getD k 0 = _
        rw [ih (i + 1) k (by omega), show i + 1 + k = i + (k + 1) by omega]
  have hchk : f_X12_checked N 254 (nI (imgN A)) ν = some (nI (chk (segN (sTape A) 0 (imgN A))), ν) := by
    have := m_chk (o := 254) (μ := ν) (L := segN (sTape A) 0 (imgN A)) N (by omega) (by omega) (by decide) (by rw [hseg]; show _ ≤ 1600; omega) (by decide) (fun x hx => by obtain ⟨k, hk⟩ := segN_mem _ _ hx; rw [hk]; exact htb k) (fun k hk => by rw [ht, hget _ _ _ _ (by omega), Nat.zero_add])
    rw [hseg] at this
    exact this
  have hcl := chk_lt (segN (sTape A) 0 (imgN A))
  have htl := htb (imgN A)
  have em : n = imgN A + 1 → nI n - (1 : Int32) = nI (imgN A) := fun e => by rw [e]; exact nI_pred _
  unfold f_X12_isImage f_X12_helperMany f_X12_giftMany f_X12_letterMany
  simp only [z_bn_sm, z_bd_eq]
  rw [h.2.2.2.2.2.2.1.1 2 (by decide), h.2.2.2.2.2.2.1.1 1 (by decide), h.2.2.2.2.2.2.1.1 0 (by decide), e1, e2, e3]
  by_cases c1 : n = imgN A + 1
  · rw [if_pos (by rw [c1]), em c1, z_in_nI (show imgN A < 1600 by omega) (by decide), hchk, z_bn_sm, nI_toNat (show imgN A < 2 ^ 31 by omega), ht]
    by_cases c2 : chk (segN (sTape A) 0 (imgN A)) = sTape A (imgN A)
    · rw [if_pos (by rw [c2])]
      refine ⟨fun _ => ?_, fun z => absurd ⟨c1, c2⟩ z⟩
      have t0 := htb 0
      have t1 := htb 1
      have e5 : (256 : Int32) * nI (sTape A 0) + nI (sTape A 1) = nI (256 * sTape A 0 + sTape A 1) := by
        rw [show (256 : Int32) = nI 256 from rfl, pk_mul, nI_add]
      rw [ht, ht, e5]
      have eD : nDay (tN (sH A) (sTape A)) = 256 * sTape A 0 + sTape A 1 := rfl
      by_cases c3 : 256 * sTape A 0 + sTape A 1 ≤ 999
      · rw [if_neg (show ¬ (999 : Int32) < nI (256 * sTape A 0 + sTape A 1) from nI_nlt (a := 999) c3 (by decide))]
        rcases m_ii1 ok h N (nI (2 + hCnt (sH A) 2)) (nI (2 + hCnt (sH A) 2 + hCnt (sH A) 1)) (fun μ118 => f_X12_isImage_L121 N (nI (2 + hCnt (sH A) 2)) (nI (2 + hCnt (sH A) 2 + hCnt (sH A) 1)) (fun μ159 => z_bn (f_X12_areLettersTold N (nI (2 + hCnt (sH A) 2 + hCnt (sH A) 1)) μ159) fun x11 μ_7 => z_zb x11 (some (x11, μ_7))) N (0 : Int32) μ118) N 0 (Nat.zero_le _) (by omega) with ⟨⟨j, g1, g2, g3⟩, g4⟩ | ⟨g1, g2⟩
        · refine ⟨0, Or.inr ⟨rfl, fun z => g3 ?_⟩, g4⟩
          have := z.2.1 j g2
          rw [show nLeft (tN (sH A) (sTape A)) j = sTape A (2 + j) from if_pos g2] at this
          exact this
        · have g2' : f_X12_isImage_L77 N (nI (2 + hCnt (sH A) 2)) (nI (2 + hCnt (sH A) 2 + hCnt (sH A) 1)) (fun μ118 => f_X12_isImage_L121 N (nI (2 + hCnt (sH A) 2)) (nI (2 + hCnt (sH A) 2 + hCnt (sH A) 1)) (fun μ159 => z_bn (f_X12_areLettersTold N (nI (2 + hCnt (sH A) 2 + hCnt (sH A) 1)) μ159) fun x11 μ_7 => z_zb x11 (some (x11, μ_7))) N (0 : Int32) μ118) N (0 : Int32) ν = _ := g2
          rw [g2']
          rcases m_ii2 ok h N (b := 2 + hCnt (sH A) 2) (by omega) (nI (2 + hCnt (sH A) 2 + hCnt (sH A) 1)) (fun μ159 => z_bn (f_X12_areLettersTold N (nI (2 + hCnt (sH A) 2 + hCnt (sH A) 1)) μ159) fun x11 μ_7 => z_zb x11 (some (x11, μ_7))) N 0 (Nat.zero_le _) (by omega) with ⟨⟨j, k1, k2, k3⟩, k4⟩ | ⟨k1, k2⟩
          · refine ⟨0, Or.inr ⟨rfl, fun z => k3 ?_⟩, k4⟩
            have := z.2.2.1 j k2
            rw [show nStock (tN (sH A) (sTape A)) j = sTape A (2 + hCnt (sH A) 2 + j) from if_pos k2] at this
            exact this
          · have k2' : f_X12_isImage_L121 N (nI (2 + hCnt (sH A) 2)) (nI (2 + hCnt (sH A) 2 + hCnt (sH A) 1)) (fun μ159 => z_bn (f_X12_areLettersTold N (nI (2 + hCnt (sH A) 2 + hCnt (sH A) 1)) μ159) fun x11 μ_7 => z_zb x11 (some (x11, μ_7))) N (0 : Int32) ν = _ := k2
            rw [k2']
            unfold f_X12_areLettersTold
            rcases m_al2 ok h N (by omega) (b := 2 + hCnt (sH A) 2 + hCnt (sH A) 1) (by omega) N 0 (Nat.zero_le _) (by omega) with ⟨⟨j, q1, q2, q3⟩, q4⟩ | ⟨q1, q2⟩
            · have q4' : f_X12_areLettersTold_L2 N (nI (2 + hCnt (sH A) 2 + hCnt (sH A) 1)) N (0 : Int32) ν = _ := q4
              rw [q4', z_bn_sm, z_zb_0]
              exact ⟨0, Or.inr ⟨rfl, fun z => q3 ((okLM ok.2.2.1).mp z.2.2.2 j q2)⟩, rfl⟩
            · have q2' : f_X12_areLettersTold_L2 N (nI (2 + hCnt (sH A) 2 + hCnt (sH A) 1)) N (0 : Int32) ν = _ := q2
              rw [q2', z_bn_sm, z_zb_1]
              refine ⟨1, Or.inl ⟨rfl, c3, fun k hk => ?_, fun k hk => ?_, (okLM ok.2.2.1).mpr (fun l hl => q1 l (Nat.zero_le _) hl)⟩, rfl⟩
              · rw [show nLeft (tN (sH A) (sTape A)) k = sTape A (2 + k) from if_pos hk]; exact g1 k (Nat.zero_le _) hk
              · rw [show nStock (tN (sH A) (sTape A)) k = sTape A (2 + hCnt (sH A) 2 + k) from if_pos hk]; exact k1 k (Nat.zero_le _) hk
      · rw [if_pos (show (999 : Int32) < nI (256 * sTape A 0 + sTape A 1) from nI_lt (a := 999) (by omega) (by omega))]
        exact ⟨0, Or.inr ⟨rfl, fun z => c3 z.1⟩, rfl⟩
    · rw [if_neg (fun z => c2 ((nI_eq (by omega) (by omega)).mp z).symm)]
      exact ⟨fun z => absurd z.2 c2, fun _ => rfl⟩
  · rw [if_neg (fun z => c1 ((nI_eq (by omega) (by omega)).mp z))]
    exact ⟨fun z => absurd z.1 c1, fun _ => rfl⟩
