theorem sumL_pre {f : Nat → Nat} {a : Nat} : ∀ b, a ≤ b → sumL f a ≤ sumL f b
  | 0, h => by rw [show a = 0 by omega]; exact Nat.le_refl _
  | b + 1, h => by
    by_cases e : a = b + 1
    · rw [e]; exact Nat.le_refl _
    · have := sumL_pre (f := f) b (show a ≤ b by omega)
      show sumL f a ≤ sumL f b + f b
      omega
def canP (h : aH) (n : aN) (R : Nat → Nat) : Prop := (∀ l, l < hCnt h 0 → 0 < R l → hMail h l 2 ≤ hHelp h (R l - 1) 2) ∧ ∀ i, i < hCnt h 2 → sumL (fun q => if R q = i + 1 then timeV h n q i else 0) (hCnt h 0) ≤ nLeft n i
def cRFr (ν ν' : z_S) : Prop := ν'.2 = ν.2 ∧ ∀ a j, a ≠ 303 → ν'.1 a j = ν.1 a j
theorem cRFr.w {ν ν' : z_S} (h : cRFr ν ν') : wFr ν ν' := ⟨by rw [h.1], fun a j _ q => h.2 a j (by omega), fun a j _ _ _ => by rw [h.1]⟩
theorem m_canL {A : aS} (ok : okS A) (N : Nat) {R : Nat → Nat} (hR : ∀ l, R l ≤ hCnt (sH A) 2) : ∀ f l ν, l ≤ hCnt (sH A) 0 → hCnt (sH A) 0 - l < f → mS A ν → rowM 298 R ν → tmM (sH A) (sN A) ν → (∀ i, i < hCnt (sH A) 2 → sumL (fun q => if R q = i + 1 then timeV (sH A) (sN A) q i else 0) l ≤ nLeft (sN A) i ∧ ν.1 303 i = nI (nLeft (sN A) i - sumL (fun q => if R q = i + 1 then timeV (sH A) (sN A) q i else 0) l)) → (∀ q, q < l → 0 < R q → hMail (sH A) q 2 ≤ hHelp (sH A) (R q - 1) 2) → ∃ b ν', f_X12_canRow_L29 N f (nI l) ν = some (b, ν') ∧ cRFr ν ν' ∧ ((canP (sH A) (sN A) R ∧ b = 1) ∨ (¬ canP (sH A) (sN A) R ∧ b = 0)) := by
  have h8 := ok.2.2.1.1
  have h3 := ok.2.2.1.2.2.1
  intro f
  induction f with
  | zero => intro l ν h1 h2; omega
  | succ f ih =>
    intro l ν h1 h2 h hr ht hs hb
    show ∃ b ν', b_X12_canRow_L29 N (f_X12_canRow_L29 N f) (nI l) ν = _ ∧ _
    unfold b_X12_canRow_L29 f_X12_canRow_B97 f_X12_letterMany
    rw [z_bn_sm, h.2.2.2.2.2.2.1.1 0 (by decide)]
    by_cases hlt : l < hCnt (sH A) 0
    · have ek : nI l + 1 = nI (l + 1) := nI_1 l
      have hRl := hR l
      simp only [z_bd_eq]
      rw [if_pos (nI_lt hlt (by omega)), z_in_nI (show l < 8 by omega) (by decide), z_in_nI (show l < 8 by omega) (by decide), nI_toNat (show l < 2 ^ 31 by omega), hr l (by omega), ek]
      by_cases hz : R l = 0
      · rw [if_pos ((nI_z (by omega)).mpr hz)]
        refine ih (l + 1) ν (by omega) (by omega) h hr ht (fun i hi => ?_) (fun q hq hp => ?_)
        · have e1 : sumL (fun q => if R q = i + 1 then timeV (sH A) (sN A) q i else 0) (l + 1) = sumL (fun q => if R q = i + 1 then timeV (sH A) (sN A) q i else 0) l := by
            show sumL _ l + (if R l = i + 1 then timeV (sH A) (sN A) l i else 0) = _
            rw [if_neg (by omega)]; rfl
          rw [e1]; exact hs i hi
        · by_cases z : q = l
          · rw [z] at hp; omega
          · exact hb q (by omega) hp
      · obtain ⟨i, hi⟩ : ∃ i, R l = i + 1 := ⟨R l - 1, by omega⟩
        have hik : i < hCnt (sH A) 2 := by omega
        have ei : nI (R l) - (1 : Int32) = nI i := by rw [hi]; exact nI_pred i
        have e3 : (3 : Int32) * nI l + nI i = nI (3 * l + i) := by rw [show (3 : Int32) = nI 3 from rfl, pk_mul, nI_add]
        have htb := timeV_bd (sH A) (sN A) l i
        have hlf := ok.2.2.2.1.2.1 i
        obtain ⟨s1, s2⟩ := hs i hik
        have e1 : sumL (fun q => if R q = i + 1 then timeV (sH A) (sN A) q i else 0) (l + 1) = sumL (fun q => if R q = i + 1 then timeV (sH A) (sN A) q i else 0) l + timeV (sH A) (sN A) l i := by
          show sumL _ l + (if R l = i + 1 then timeV (sH A) (sN A) l i else 0) = _
          rw [if_pos hi]
        have pre := sumL_pre (f := fun q => if R q = i + 1 then timeV (sH A) (sN A) q i else 0) (hCnt (sH A) 0) (show l + 1 ≤ hCnt (sH A) 0 by omega)
        rw [if_neg (fun z => hz ((nI_z (by omega)).mp z)), ei, z_in_nI (show i < 3 by omega) (by decide), z_in_nI (show i < 3 by omega) (by decide), e3, z_in_nI (show 3 * l + i < 24 by omega) (by decide), z_in_nI (show i < 3 by omega) (by decide), nI_toNat (show i < 2 ^ 31 by omega), nI_toNat (show 3 * l + i < 2 ^ 31 by omega), s2, (ht l hlt i hik).1]
        generalize hS : sumL (fun q => if R q = i + 1 then timeV (sH A) (sN A) q i else 0) l = S at *
        generalize hν2 : z_setI ν 303 i (nI (nLeft (sN A) i - S) - nI (timeV (sH A) (sN A) l i)) = ν2
        have o2 : ∀ a j, ¬ (a = 303 ∧ j = i) → ν2.1 a j = ν.1 a j := fun a j q => by rw [← hν2, sI_1, if_neg q]
        have d2 : ν2.1 303 i = nI (nLeft (sN A) i - S) - nI (timeV (sH A) (sN A) l i) := by rw [← hν2, sI_1, if_pos ⟨rfl, rfl⟩]
        have f2 : cRFr ν ν2 := ⟨by rw [← hν2]; rfl, fun a j ha => o2 a j (fun z => ha z.1)⟩
        rw [d2]
        by_cases hc : timeV (sH A) (sN A) l i ≤ nLeft (sN A) i - S
        · rw [pk_sub hc, if_neg (nI_pos (by omega)), m_bear ok (f2.w.mS h) N hlt hik, z_bn_sm]
          by_cases hbr : hMail (sH A) l 2 ≤ hHelp (sH A) i 2
          · rw [if_pos hbr, if_neg (by decide)]
            obtain ⟨b, ν3, r1, r2, r3⟩ := ih (l + 1) ν2 (by omega) (by omega) (f2.w.mS h) (fun q hq => by rw [o2 _ _ (by omega)]; exact hr q hq) (fun q hq k hk => by rw [o2 _ _ (by omega), f2.1]; exact ht q hq k hk) (fun k hk => by
              by_cases z : k = i
              · subst z
                rw [e1, d2, pk_sub hc]
                exact ⟨by omega, by congr 1; omega⟩
              · have e4 : sumL (fun q => if R q = k + 1 then timeV (sH A) (sN A) q k else 0) (l + 1) = sumL (fun q => if R q = k + 1 then timeV (sH A) (sN A) q k else 0) l := by
                  show sumL _ l + (if R l = k + 1 then timeV (sH A) (sN A) l k else 0) = _
                  rw [if_neg (by omega)]; rfl
                rw [e4, o2 _ _ (by omega)]
                exact hs k hk) (fun q hq hp => by
              by_cases z : q = l
              · rw [z, hi]; exact hbr
              · exact hb q (by omega) hp)
            exact ⟨b, ν3, r1, ⟨r2.1.trans f2.1, fun a j ha => (r2.2 a j ha).trans (f2.2 a j ha)⟩, r3⟩
          · rw [if_neg hbr, if_pos rfl]
            refine ⟨0, ν2, rfl, f2, Or.inr ⟨fun z => hbr ?_, rfl⟩⟩
            have := z.1 l hlt (by omega)
            rw [hi] at this
            exact this
        · rw [if_pos (pk_sneg (by omega) (by omega))]
          refine ⟨0, ν2, rfl, f2, Or.inr ⟨fun z => ?_, rfl⟩⟩
          have := z.2 i hik
          omega
    · have : l = hCnt (sH A) 0 := by omega
      subst this
      rw [if_neg (nI_nlt (Nat.le_refl _) (by omega))]
      exact ⟨1, ν, rfl, ⟨rfl, fun _ _ _ => rfl⟩, Or.inl ⟨⟨hb, fun i hi => (hs i hi).1⟩, rfl⟩⟩
theorem m_canRow {A : aS} {ν : z_S} (ok : okS A) (h : mS A ν) (N : Nat) (hN : 20 ≤ N) {R : Nat → Nat} (hR : ∀ l, R l ≤ hCnt (sH A) 2) (hr : rowM 298 R ν) (ht : tmM (sH A) (sN A) ν) : ∃ b ν', f_X12_canRow N ν = some (b, ν') ∧ cRFr ν ν' ∧ ((canP (sH A) (sN A) R ∧ b = 1) ∨ (¬ canP (sH A) (sN A) R ∧ b = 0)) := by
  have h8 := ok.2.2.1.1
  have h3 := ok.2.2.1.2.2.1
  have key : ∀ f i ν1, i ≤ hCnt (sH A) 2 → hCnt (sH A) 2 - i < f → cRFr ν ν1 → (∀ k, k < i → ν1.1 303 k = nI (nLeft (sN A) k)) → ∀ e, ∃ ν', f_X12_canRow_L2 N e f (nI i) ν1 = e ν' ∧ cRFr ν ν' ∧ (∀ k, k < hCnt (sH A) 2 → ν'.1 303 k = nI (nLeft (sN A) k)) := by
    intro f
    induction f with
    | zero => intro i ν1 h1 h2; omega
    | succ f ih =>
      intro i ν1 h1 h2 fr hk e
      show ∃ ν', b_X12_canRow_L2 N (f_X12_canRow_L2 N e f) e (nI i) ν1 = _ ∧ _
      unfold b_X12_canRow_L2 f_X12_helperMany
      have h1S := fr.w.mS h
      rw [z_bn_sm, h1S.2.2.2.2.2.2.1.1 2 (by decide)]
      by_cases hlt : i < hCnt (sH A) 2
      · have ek : nI i + 1 = nI (i + 1) := nI_1 i
        rw [if_pos (nI_lt hlt (by omega)), m_left h1S N (show i < 3 by omega), z_bn_sm, z_in_nI (show i < 3 by omega) (by decide), z_bd_eq, z_bd_eq, ek, nI_toNat (by omega)]
        refine ih (i + 1) (z_setI ν1 303 i (nI (nLeft (sN A) i))) (by omega) (by omega) ⟨fr.1, fun a j ha => by rw [sI_1, if_neg (fun z => ha z.1)]; exact fr.2 a j ha⟩ (fun k hk1 => ?_) e
        rw [sI_1]
        by_cases z : k = i
        · rw [if_pos ⟨rfl, z⟩, z]
        · rw [if_neg (fun q => z q.2)]; exact hk k (by omega)
      · have : i = hCnt (sH A) 2 := by omega
        subst this
        rw [if_neg (nI_nlt (Nat.le_refl _) (by omega))]
        exact ⟨ν1, rfl, fr, hk⟩
  obtain ⟨ν1, p1, p2, p3⟩ := key N 0 ν (Nat.zero_le _) (by omega) ⟨rfl, fun _ _ _ => rfl⟩ (fun k hk => by omega) (fun μ27 => f_X12_canRow_L29 N N (0 : Int32) μ27)
  have p1' : f_X12_canRow N ν = f_X12_canRow_L29 N N (0 : Int32) ν1 := p1
  rw [p1']
  obtain ⟨b, ν2, q1, q2, q3⟩ := m_canL ok N hR N 0 ν1 (Nat.zero_le _) (by omega) (p2.w.mS h) (fun q hq => by rw [p2.2 _ _ (by decide)]; exact hr q hq) (fun q hq k hk => by rw [p2.2 _ _ (by decide), p2.1]; exact ht q hq k hk) (fun i hi => ⟨Nat.zero_le _, by rw [p3 i hi]; rfl⟩) (fun q hq => by omega)
  exact ⟨b, ν2, q1, ⟨q2.1.trans p2.1, fun a j ha => (q2.2 a j ha).trans (p2.2 a j ha)⟩, q3⟩
def figV (h : aH) (n : aN) (l : Nat) : Nat := if l < hCnt h 0 ∧ nDone n l = 0 then hCnt h 2 else 0
def kFr (ν ν' : z_S) : Prop := ν'.2.2 = ν.2.2 ∧ (∀ a j, a ≠ 298 → a ≠ 300 → a ≠ 303 → ν'.1 a j = ν.1 a j) ∧ ∀ a j, ¬ (a = 253 ∧ j = 63) → ν'.2.1 a j = ν.2.1 a j
theorem kFr.rf (ν : z_S) : kFr ν ν := ⟨rfl, fun _ _ _ _ _ => rfl, fun _ _ _ => rfl⟩
theorem kFr.w {ν ν' : z_S} (h : kFr ν ν') : wFr ν ν' := ⟨h.1, fun a j _ q => h.2.1 a j (by omega) (by omega) (by omega), fun a j _ _ q => h.2.2 a j q⟩
theorem kFr.tr {ν ν1 ν2 : z_S} (h : kFr ν ν1) (g : kFr ν1 ν2) : kFr ν ν2 := ⟨g.1.trans h.1, fun a j h1 h2 h3 => (g.2.1 a j h1 h2 h3).trans (h.2.1 a j h1 h2 h3), fun a j h1 => (g.2.2 a j h1).trans (h.2.2 a j h1)⟩
theorem cRFr.k {ν ν' : z_S} (h : cRFr ν ν') : kFr ν ν' := ⟨by rw [h.1], fun a j _ _ q => h.2 a j q, fun a j _ => by rw [h.1]⟩
theorem kFr.tm {h : aH} {n : aN} {ν ν' : z_S} (g : kFr ν ν') (ht : tmM h n ν) : tmM h n ν' := fun l hl i hi => by rw [g.2.1 _ _ (by decide) (by decide) (by decide), g.2.2 _ _ (by omega)]; exact ht l hl i hi
theorem m_copyB (N : Nat) (hN : 20 ≤ N) (c1 : Int32) {R : Nat → Nat} (e : z_S → Option (Int32 × z_S)) {ν : z_S} (hr : rowM 298 R ν) : ∃ ν', f_X12_laysWarmest_L136 N c1 e N (0 : Int32) ν = e ν' ∧ ν'.2 = ν.2 ∧ rowM 300 R ν' ∧ ∀ a j, a ≠ 300 → ν'.1 a j = ν.1 a j := by
  have key : ∀ f l ν1, l ≤ 8 → 8 - l < f → ν1.2 = ν.2 → (∀ a j, a ≠ 300 → ν1.1 a j = ν.1 a j) → (∀ k, k < l → ν1.1 300 k = nI (R k)) → ∃ ν', f_X12_laysWarmest_L136 N c1 e f (nI l) ν1 = e ν' ∧ ν'.2 = ν.2 ∧ rowM 300 R ν' ∧ ∀ a j, a ≠ 300 → ν'.1 a j = ν.1 a j := by
    intro f
    induction f with
    | zero => intro l ν1 h1 h2; omega
    | succ f ih =>
      intro l ν1 h1 h2 h3 h4 h5
      show ∃ ν', b_X12_laysWarmest_L136 N c1 (f_X12_laysWarmest_L136 N c1 e f) e (nI l) ν1 = _ ∧ _
      unfold b_X12_laysWarmest_L136
      by_cases hlt : l < 8
      · have ek : nI l + 1 = nI (l + 1) := nI_1 l
        rw [if_pos (show nI l < (8 : Int32) from nI_lt (b := 8) hlt (by decide)), z_in_nI hlt (by decide), z_in_nI hlt (by decide), z_bd_eq, z_bd_eq, ek, nI_toNat (by omega), h4 _ _ (by decide), hr l hlt]
        refine ih (l + 1) _ (by omega) (by omega) h3 (fun a j ha => by rw [sI_1, if_neg (fun z => ha z.1)]; exact h4 a j ha) (fun k hk => ?_)
        rw [sI_1]
        by_cases z : k = l
        · rw [if_pos ⟨rfl, z⟩, z]
        · rw [if_neg (fun q => z q.2)]; exact h5 k (by omega)
      · have : l = 8 := by omega
        subst this
        rw [if_neg (show ¬ nI 8 < (8 : Int32) by decide)]
        exact ⟨ν1, rfl, h3, h5, h4⟩
  exact key N 0 ν (by omega) (by omega) rfl (fun _ _ _ => rfl) (fun k hk => by omega)
theorem feas_fig {h : aH} {n : aN} {s : Nat → Nat} (hs : Feas (hCnt h 0) (hCnt h 2) (bearV h n) (timeV h n) (nLeft n) s) (l : Nat) : s l ≤ figV h n l := by
  unfold figV
  rcases Nat.lt_or_ge l (hCnt h 0) with q | q
  · by_cases z : nDone n l = 0
    · rw [if_pos ⟨q, z⟩]; exact hs.1 l q
    · rw [if_neg (fun y => z y.2)]
      rcases Nat.eq_zero_or_pos (s l) with y | y
      · omega
      · exact absurd (hs.2.2.1 l q y).1 z
  · rw [if_neg (by omega), hs.2.1 l q]; exact Nat.le_refl 0
theorem feas_can {h : aH} {n : aN} (h8 : hCnt h 0 ≤ 8) {R : Nat → Nat} (hf : ∀ l, R l ≤ figV h n l) : Feas (hCnt h 0) (hCnt h 2) (bearV h n) (timeV h n) (nLeft n) R ↔ canP h n R := by
  have hz : ∀ l, hCnt h 0 ≤ l → R l = 0 := fun l hl => by
    have := hf l
    unfold figV at this
    rw [if_neg (by omega)] at this
    omega
  have e8 : ∀ i, sumL (fun q => if R q = i + 1 then timeV h n q i else 0) 8 = sumL (fun q => if R q = i + 1 then timeV h n q i else 0) (hCnt h 0) := fun i => sumL_to8 h8 (fun l hl => by
    show (if R l = i + 1 then timeV h n l i else 0) = 0
    rw [hz l hl, if_neg (by omega)])
  constructor
  · intro H
    exact ⟨fun l hl hp => (H.2.2.1 l hl hp).2, fun i hi => by rw [← e8]; exact H.2.2.2 i hi⟩
  · intro H
    refine ⟨fun l hl => ?_, hz, fun l hl hp => ⟨?_, H.1 l hl hp⟩, fun i hi => by rw [e8]; exact H.2 i hi⟩
    · have := hf l
      unfold figV at this
      split at this <;> omega
    · have := hf l
      unfold figV at this
      by_cases z : nDone n l = 0
      · exact z
      · rw [if_neg (fun y => z y.2)] at this
        omega
theorem m_warmL {A : aS} (ok : okS A) (N : Nat) (hN : 1700 ≤ N) : ∀ f (R B : Nat → Nat) ν, 65536 - codN R 8 < f → mS A ν → tmM (sH A) (sN A) ν → (∀ l, l < hCnt (sH A) 0 → ν.1 299 l = nI (figV (sH A) (sN A) l)) → rowM 298 R ν → rowM 300 B ν → ν.2.1 253 63 = iJ (wrmR (warmW (sH A) (sN A)) B 8) → (∀ l, R l ≤ figV (sH A) (sN A) l) → Feas (hCnt (sH A) 0) (hCnt (sH A) 2) (bearV (sH A) (sN A)) (timeV (sH A) (sN A)) (nLeft (sN A)) B → codN B 8 ≤ codN R 8 → (∀ s, Feas (hCnt (sH A) 0) (hCnt (sH A) 2) (bearV (sH A) (sN A)) (timeV (sH A) (sN A)) (nLeft (sN A)) s → codN s 8 ≤ codN R 8 → valR (warmW (sH A) (sN A)) s ≤ valR (warmW (sH A) (sN A)) B) → ∃ B' ν', f_X12_laysWarmest_L77 N f (nI (cntP B 8)) ν = some (nI (cntP B' 8), ν') ∧ kFr ν ν' ∧ isBest (hCnt (sH A) 0) (hCnt (sH A) 2) (bearV (sH A) (sN A)) (timeV (sH A) (sN A)) (nLeft (sN A)) (warmW (sH A) (sN A)) B' ∧ rowM 300 B' ν' ∧ ν'.2.1 253 63 = iJ (wrmR (warmW (sH A) (sN A)) B' 8) := by
  have h8 := ok.2.2.1.1
  have h3 := ok.2.2.1.2.2.1
  have hW := warmW_bd ok.2.2.1 ok.2.2.2.1
  have hF3 : ∀ l, figV (sH A) (sN A) l ≤ 3 := fun l => by unfold figV; split <;> omega
  have hFK : ∀ l, figV (sH A) (sN A) l ≤ hCnt (sH A) 2 := fun l => by unfold figV; split <;> omega
  have hF0 : ∀ l, hCnt (sH A) 0 ≤ l → figV (sH A) (sN A) l = 0 := fun l hl => by unfold figV; rw [if_neg (by omega)]
  intro f
  induction f with
  | zero => intro R B ν h; omega
  | succ f ih =>
    intro R B ν hf h ht hfig hr hb hj hRF hB hcod hall
    show ∃ B' ν', b_X12_laysWarmest_L77 N (f_X12_laysWarmest_L77 N f) (nI (cntP B 8)) ν = _ ∧ _
    unfold b_X12_laysWarmest_L77 f_X12_laysWarmest_B126
    have hR3 : ∀ l, R l ≤ 3 := fun l => Nat.le_trans (hRF l) (hF3 l)
    have hz : ∀ l, hCnt (sH A) 0 ≤ l → R l = 0 := fun l hl => by have := hRF l; rw [hF0 l hl] at this; omega
    have hB3 : ∀ l, B l ≤ 3 := Feas_3 h3 hB
    obtain ⟨ν1, n1, n2, n3⟩ := m_next ok h N (by omega) (fun l => Nat.le_trans (hR3 l) (by decide)) (fun l => Nat.le_trans (hF3 l) (by decide)) hRF hz hfig hr
    have fr1 : kFr ν ν1 := ⟨by rw [n1], fun a j q _ _ => n2 a j q, fun a j _ => by rw [n1]⟩
    have h1 := fr1.w.mS h
    rcases n3 with ⟨k, k1, k2, k3, k4, k5⟩ | ⟨k1, k2⟩
    · have hnF : ∀ l, rowN R k l ≤ figV (sH A) (sN A) l := fun l => by
        unfold rowN
        split
        · exact hRF l
        · split
          · next z => rw [z]; omega
          · exact Nat.zero_le _
      have hn3 : ∀ l, rowN R k l ≤ 3 := fun l => Nat.le_trans (hnF l) (hF3 l)
      have hnK : ∀ l, rowN R k l ≤ hCnt (sH A) 2 := fun l => Nat.le_trans (hnF l) (hFK l)
      have hnz : ∀ l, hCnt (sH A) 0 ≤ l → rowN R k l = 0 := fun l hl => by have := hnF l; rw [hF0 l hl] at this; omega
      have nxt := cod_next (f := figV (sH A) (sN A)) (r := R) (r' := rowN R k) (k := k) (fun l hl => if_pos hl) (by unfold rowN; rw [if_neg (Nat.lt_irrefl k), if_pos rfl]) 8 (by omega) (fun l q1 q2 => by
        refine ⟨?_, ?_, hF3 l⟩
        · rcases Nat.lt_or_ge l (hCnt (sH A) 0) with y | y
          · exact k3 l q1 y
          · rw [hz l y, hF0 l y]
        · unfold rowN
          rw [if_neg (by omega), if_neg (by omega)])
      obtain ⟨x1, x2⟩ := nxt
      have cl := cod_lt (r := rowN R k) 8 (fun l _ => hn3 l)
      have c4 : 4 ^ 8 = 65536 := by decide
      rw [c4] at cl
      have cover : ∀ s, Feas (hCnt (sH A) 0) (hCnt (sH A) 2) (bearV (sH A) (sN A)) (timeV (sH A) (sN A)) (nLeft (sN A)) s → codN s 8 ≤ codN (rowN R k) 8 → codN s 8 ≤ codN R 8 ∨ ∀ l, s l = rowN R k l := by
        intro s hs hle
        rcases Nat.lt_or_ge (codN R 8) (codN s 8) with y | y
        · right
          have := x2 s (fun l _ => feas_fig hs l) y
          intro l
          rcases Nat.lt_or_ge l 8 with w | w
          · exact cod_inj 8 (fun l _ => Feas_3 h3 hs l) (fun l _ => hn3 l) (by omega) l w
          · rw [hs.2.1 l (by omega), hnz l (by omega)]
        · exact Or.inl y
      have same : ∀ s, (∀ l, s l = rowN R k l) → s = rowN R k := fun s hs => funext hs
      -- the row is passed over
      have skip : ∀ ν2, kFr ν1 ν2 → rowM 298 (rowN R k) ν2 → (∀ l, l < 8 → ν2.1 300 l = ν1.1 300 l) → ν2.2.1 253 63 = ν1.2.1 253 63 → (Feas (hCnt (sH A) 0) (hCnt (sH A) 2) (bearV (sH A) (sN A)) (timeV (sH A) (sN A)) (nLeft (sN A)) (rowN R k) → valR (warmW (sH A) (sN A)) (rowN R k) ≤ valR (warmW (sH A) (sN A)) B) → ∃ B' ν', f_X12_laysWarmest_L77 N f (nI (cntP B 8)) ν2 = some (nI (cntP B' 8), ν') ∧ kFr ν ν' ∧ isBest (hCnt (sH A) 0) (hCnt (sH A) 2) (bearV (sH A) (sN A)) (timeV (sH A) (sN A)) (nLeft (sN A)) (warmW (sH A) (sN A)) B' ∧ rowM 300 B' ν' ∧ ν'.2.1 253 63 = iJ (wrmR (warmW (sH A) (sN A)) B' 8) := by
        intro ν2 g1 g2 g3 g4 g5
        have fr2 := fr1.tr g1
        obtain ⟨B', ν', r1, r2, r3⟩ := ih (rowN R k) B ν2 (by omega) (fr2.w.mS h) (fr2.tm ht) (fun l hl => by rw [fr2.2.1 _ _ (by decide) (by decide) (by decide)]; exact hfig l hl) g2 (fun l hl => by rw [g3 l hl, n2 _ _ (by decide)]; exact hb l hl) (by rw [g4, n1]; exact hj) hnF hB (by omega) (fun s hs hle => by
          rcases cover s hs hle with y | y
          · exact hall s hs y
          · rw [same s y] at hs ⊢
            exact g5 hs)
        exact ⟨B', ν', r1, fr2.tr r2, r3⟩
      rw [k4, z_bn_sm, if_neg (by decide), m_ansIn ok h1 N (by omega) hn3 hnz k5, z_bn_sm]
      have cb1 := cntP_le (rowN R k) 8
      have cb2 := cntP_le B 8
      by_cases ca : cntP (rowN R k) 8 < cntP B 8
      · rw [if_pos (nI_lt ca (by omega))]
        exact skip ν1 (kFr.rf ν1) k5 (fun _ _ => rfl) rfl (fun _ => val_lt hW hB3 hn3 (by omega) (Or.inl ca))
      · rw [if_neg (nI_nlt (by omega) (by omega))]
        obtain ⟨b, ν2, c1, c2, c3⟩ := m_canRow ok h1 N (by omega) hnK k5 (fr1.tm ht)
        rw [c1, z_bn_sm]
        have r298 : rowM 298 (rowN R k) ν2 := fun l hl => by rw [c2.2 _ _ (by decide)]; exact k5 l hl
        rcases c3 with ⟨c3, rfl⟩ | ⟨c3, rfl⟩
        · have hFe := (feas_can h8 hnF).mpr c3
          have h2 := (fr1.tr c2.k).w.mS h
          have ht2 := (fr1.tr c2.k).tm ht
          rw [if_neg (by decide), m_warmIn ok h2 N (by omega) hnK hnz r298 ht2, z_bn_sm]
          have w1 := wrm_bd hW (rowN R k) 8
          have w2 := wrm_bd hW B 8
          -- a better row
          have take : (cntP B 8 < cntP (rowN R k) 8 ∨ (cntP (rowN R k) 8 = cntP B 8 ∧ wrmR (warmW (sH A) (sN A)) B 8 < wrmR (warmW (sH A) (sN A)) (rowN R k) 8)) → ∃ B' ν', (z_bd (z_setJ ν2 253 63 (iJ (wrmR (warmW (sH A) (sN A)) (rowN R k) 8))) fun μ_13 => f_X12_laysWarmest_L136 N (nI (cntP (rowN R k) 8)) (fun μ163 => f_X12_laysWarmest_L77 N f (nI (cntP (rowN R k) 8)) μ163) N (0 : Int32) μ_13) = some (nI (cntP B' 8), ν') ∧ kFr ν ν' ∧ isBest (hCnt (sH A) 0) (hCnt (sH A) 2) (bearV (sH A) (sN A)) (timeV (sH A) (sN A)) (nLeft (sN A)) (warmW (sH A) (sN A)) B' ∧ rowM 300 B' ν' ∧ ν'.2.1 253 63 = iJ (wrmR (warmW (sH A) (sN A)) B' 8) := by
            intro hbet
            rw [z_bd_eq]
            generalize hν3 : z_setJ ν2 253 63 (iJ (wrmR (warmW (sH A) (sN A)) (rowN R k) 8)) = ν3
            have e3 : ν3.1 = ν2.1 := by rw [← hν3]; rfl
            have j3 : ν3.2.1 253 63 = iJ (wrmR (warmW (sH A) (sN A)) (rowN R k) 8) := by rw [← hν3, sJ_21, if_pos ⟨rfl, rfl⟩]
            have fr3 : kFr ν2 ν3 := ⟨by rw [← hν3]; rfl, fun a j _ _ _ => by rw [e3], fun a j q => by rw [← hν3, sJ_21, if_neg q]⟩
            obtain ⟨ν4, d1, d2, d3, d4⟩ := m_copyB N (by omega) (nI (cntP (rowN R k) 8)) (fun μ163 => f_X12_laysWarmest_L77 N f (nI (cntP (rowN R k) 8)) μ163) (ν := ν3) (R := rowN R k) (fun l hl => by rw [e3]; exact r298 l hl)
            rw [d1]
            have fr4 : kFr ν3 ν4 := ⟨by rw [d2], fun a j _ q _ => d4 a j q, fun a j _ => by rw [d2]⟩
            have frA := fr1.tr (c2.k.tr (fr3.tr fr4))
            obtain ⟨B', ν', r1, r2, r3⟩ := ih (rowN R k) (rowN R k) ν4 (by omega) (frA.w.mS h) (frA.tm ht) (fun l hl => by rw [frA.2.1 _ _ (by decide) (by decide) (by decide)]; exact hfig l hl) (fun l hl => by rw [d4 _ _ (by decide), e3]; exact r298 l hl) d3 (by rw [d2]; exact j3) hnF hFe (Nat.le_refl _) (fun s hs hle => by
              rcases cover s hs hle with y | y
              · exact Int.le_trans (hall s hs y) (val_gt hW hB3 hn3 hbet)
              · rw [same s y]; exact Int.le_refl _)
            exact ⟨B', ν', r1, frA.tr r2, r3⟩
          have j2 : ν2.2.1 253 63 = iJ (wrmR (warmW (sH A) (sN A)) B 8) := by rw [c2.1, n1]; exact hj
          by_cases cq : cntP (rowN R k) 8 = cntP B 8
          · rw [if_pos (by rw [cq]), j2]
            by_cases cw : wrmR (warmW (sH A) (sN A)) B 8 < wrmR (warmW (sH A) (sN A)) (rowN R k) 8
            · rw [if_pos ((big_lt (by omega) (by omega)).mpr cw)]
              exact take (Or.inr ⟨cq, cw⟩)
            · rw [if_neg (fun z => cw ((big_lt (by omega) (by omega)).mp z))]
              exact skip ν2 c2.k r298 (fun l _ => c2.2 _ _ (by decide)) (by rw [c2.1]) (fun _ => val_lt hW hB3 hn3 (by omega) (Or.inr ⟨cq, by omega⟩))
          · rw [if_neg (fun z => cq ((nI_eq (by omega) (by omega)).mp z))]
            exact take (Or.inl (by omega))
        · rw [if_pos rfl]
          exact skip ν2 c2.k r298 (fun l _ => c2.2 _ _ (by decide)) (by rw [c2.1]) (fun z => absurd ((feas_can h8 hnF).mp z) c3)
    · rw [k2, z_bn_sm, if_pos rfl]
      refine ⟨B, ν1, rfl, fr1, ⟨hB, fun s hs => hall s hs ?_⟩, fun l hl => by rw [n2 _ _ (by decide)]; exact hb l hl, by rw [n1]; exact hj⟩
      refine cod_le (f := figV (sH A) (sN A)) 8 (fun l hl => ?_) (fun l _ => feas_fig hs l)
      rcases Nat.lt_or_ge l (hCnt (sH A) 0) with y | y
      · exact k1 l y
      · rw [hz l y, hF0 l y]
