/-! the reference goes through all rows -/
def wFr (ν ν' : z_S) : Prop := ν'.2.2 = ν.2.2 ∧ (∀ a j, a ≠ 253 ∨ (j ≠ 56 ∧ j ≠ 53 ∧ j ≠ 101) → ¬ (298 ≤ a ∧ a ≤ 304) → ν'.1 a j = ν.1 a j) ∧ ∀ a j, a ≠ 332 → a ≠ 302 → ¬ (a = 253 ∧ j = 63) → ν'.2.1 a j = ν.2.1 a j
theorem wFr.rf (ν : z_S) : wFr ν ν := ⟨rfl, fun _ _ _ _ => rfl, fun _ _ _ _ _ => rfl⟩
theorem wFr.tr {ν ν1 ν2 : z_S} (h : wFr ν ν1) (g : wFr ν1 ν2) : wFr ν ν2 := ⟨g.1.trans h.1, fun a j h1 h2 => (g.2.1 a j h1 h2).trans (h.2.1 a j h1 h2), fun a j h1 h2 h3 => (g.2.2 a j h1 h2 h3).trans (h.2.2 a j h1 h2 h3)⟩
theorem mFr.w {ν ν' : z_S} (h : mFr ν ν') : wFr ν ν' := ⟨h.1, fun a j h1 _ => h.2.1 a j h1, fun a j h1 _ _ => h.2.2 a j h1⟩
theorem wFr.mS {A : aS} {ν ν' : z_S} (h : mS A ν) (g : wFr ν ν') : mS A ν' := mS_scr h (fun o j ho => g.2.1 o j (by unfold mRel at ho; omega) (by unfold mRel at ho; omega)) (fun j => g.2.2 _ _ (by decide) (by decide) (by omega)) (g.2.2 _ _ (by decide) (by decide) (by omega))
def tmM (h : aH) (n : aN) (ν : z_S) : Prop := ∀ l, l < hCnt h 0 → ∀ i, i < hCnt h 2 → ν.1 301 (3 * l + i) = nI (timeV h n l i) ∧ ν.2.1 302 (3 * l + i) = iJ (warmV h n l i)
theorem m_timesI {A : aS} (ok : okS A) (N : Nat) (hN : 1700 ≤ N) {l : Nat} (hl : l < hCnt (sH A) 0) (e : z_S → Option (Unit × z_S)) : ∀ f i ν, i ≤ hCnt (sH A) 2 → hCnt (sH A) 2 - i < f → mS A ν → ∃ ν', f_X12_laysTimes_L12 N (nI l) e f (nI i) ν = e ν' ∧ wFr ν ν' ∧ (∀ a j, a = 298 ∨ a = 299 ∨ a = 300 → ν'.1 a j = ν.1 a j) ∧ ν'.2.1 253 63 = ν.2.1 253 63 ∧ (∀ j, ¬ (3 * l + i ≤ j ∧ j < 3 * l + hCnt (sH A) 2) → ν'.1 301 j = ν.1 301 j ∧ ν'.2.1 302 j = ν.2.1 302 j) ∧ ∀ k, i ≤ k → k < hCnt (sH A) 2 → ν'.1 301 (3 * l + k) = nI (timeV (sH A) (sN A) l k) ∧ ν'.2.1 302 (3 * l + k) = iJ (warmV (sH A) (sN A) l k) := by
  have h8 := ok.2.2.1.1
  have h3 := ok.2.2.1.2.2.1
  intro f
  induction f with
  | zero => intro i ν h1 h2; omega
  | succ f ih =>
    intro i ν h1 h2 h
    show ∃ ν', b_X12_laysTimes_L12 N (nI l) (f_X12_laysTimes_L12 N (nI l) e f) e (nI i) ν = _ ∧ _
    unfold b_X12_laysTimes_L12 f_X12_helperMany
    rw [z_bn_sm, h.2.2.2.2.2.2.1.1 2 (by decide)]
    by_cases hlt : i < hCnt (sH A) 2
    · have ek : nI i + 1 = nI (i + 1) := nI_1 i
      have e3 : (3 : Int32) * nI l + nI i = nI (3 * l + i) := by rw [show (3 : Int32) = nI 3 from rfl, pk_mul, nI_add]
      obtain ⟨ν1, p1, p2⟩ := m_time ok h N hN hl hlt
      generalize hν2 : z_setI ν1 301 (3 * l + i) (nI (timeV (sH A) (sN A) l i)) = ν2
      have o2 : ∀ a j, ¬ (a = 301 ∧ j = 3 * l + i) → ν2.1 a j = ν1.1 a j := fun a j q => by rw [← hν2, sI_1, if_neg q]
      have d2 : ν2.1 301 (3 * l + i) = nI (timeV (sH A) (sN A) l i) := by rw [← hν2, sI_1, if_pos ⟨rfl, rfl⟩]
      have b2 : ν2.2 = ν1.2 := by rw [← hν2]; rfl
      have f2 : wFr ν ν2 := p2.w.tr ⟨by rw [b2], fun a j _ q => o2 a j (by omega), fun a j _ _ _ => by rw [b2]⟩
      obtain ⟨ν3, q1, q2⟩ := m_warm ok (f2.mS h) N hN hl hlt
      generalize hν4 : z_setJ ν3 302 (3 * l + i) (iJ (warmV (sH A) (sN A) l i)) = ν4
      have o4 : ∀ a j, ¬ (a = 302 ∧ j = 3 * l + i) → ν4.2.1 a j = ν3.2.1 a j := fun a j q => by rw [← hν4, sJ_21, if_neg q]
      have d4 : ν4.2.1 302 (3 * l + i) = iJ (warmV (sH A) (sN A) l i) := by rw [← hν4, sJ_21, if_pos ⟨rfl, rfl⟩]
      have e4 : ν4.1 = ν3.1 := by rw [← hν4]; rfl
      have b4 : ν4.2.2 = ν3.2.2 := by rw [← hν4]; rfl
      have f4 : wFr ν ν4 := f2.tr (q2.w.tr ⟨b4, fun a j _ _ => by rw [e4], fun a j _ q _ => o4 a j (fun z => q z.1)⟩)
      obtain ⟨ν5, r1, r2, r3, r4, r5, r6⟩ := ih (i + 1) ν4 (by omega) (by omega) (f4.mS h)
      rw [if_pos (nI_lt hlt (by omega)), p1, z_bn_sm, e3, z_in_nI (show 3 * l + i < 24 by omega) (by decide), nI_toNat (show 3 * l + i < 2 ^ 31 by omega), z_bd_eq, hν2, q1, z_bn_sm, z_in_nI (show 3 * l + i < 24 by omega) (by decide), z_bd_eq, hν4, z_bd_eq, ek]
      refine ⟨ν5, r1, f4.tr r2, fun a j ha => ?_, ?_, fun j hj => ?_, fun k w1 w2 => ?_⟩
      · rw [r3 a j ha, e4, q2.2.1 a j (by omega), o2 a j (by omega), p2.2.1 a j (by omega)]
      · rw [r4, o4 _ _ (by omega), q2.2.2 _ _ (by decide), b2, p2.2.2 _ _ (by decide)]
      · obtain ⟨v1, v2⟩ := r5 j (by omega)
        refine ⟨v1.trans ?_, v2.trans ?_⟩
        · rw [e4, q2.2.1 _ _ (by omega), o2 _ _ (by omega), p2.2.1 _ _ (by omega)]
        · rw [o4 _ _ (by omega), q2.2.2 _ _ (by decide), b2, p2.2.2 _ _ (by decide)]
      · by_cases z : k = i
        · subst z
          obtain ⟨v1, v2⟩ := r5 (3 * l + k) (by omega)
          refine ⟨v1.trans ?_, v2.trans d4⟩
          rw [e4, q2.2.1 _ _ (by omega)]; exact d2
        · exact r6 k (by omega) w2
    · have : i = hCnt (sH A) 2 := by omega
      subst this
      rw [if_neg (nI_nlt (Nat.le_refl _) (by omega))]
      exact ⟨ν, rfl, wFr.rf ν, fun _ _ _ => rfl, rfl, fun _ _ => ⟨rfl, rfl⟩, fun k w1 w2 => by omega⟩
theorem m_times {A : aS} (ok : okS A) (N : Nat) (hN : 1700 ≤ N) {ν : z_S} (h : mS A ν) : ∃ ν', f_X12_laysTimes N ν = some ((), ν') ∧ wFr ν ν' ∧ tmM (sH A) (sN A) ν' := by
  have h8 := ok.2.2.1.1
  have h3 := ok.2.2.1.2.2.1
  have key : ∀ f l ν1, l ≤ hCnt (sH A) 0 → hCnt (sH A) 0 - l < f → mS A ν1 → (∀ q, q < l → ∀ i, i < hCnt (sH A) 2 → ν1.1 301 (3 * q + i) = nI (timeV (sH A) (sN A) q i) ∧ ν1.2.1 302 (3 * q + i) = iJ (warmV (sH A) (sN A) q i)) → ∃ ν', f_X12_laysTimes_L2 N f (nI l) ν1 = some ((), ν') ∧ wFr ν1 ν' ∧ tmM (sH A) (sN A) ν' := by
    intro f
    induction f with
    | zero => intro i ν h1 h2; omega
    | succ f ih =>
      intro l ν1 h1 h2 h hq
      show ∃ ν', b_X12_laysTimes_L2 N (f_X12_laysTimes_L2 N f) (nI l) ν1 = _ ∧ _
      unfold b_X12_laysTimes_L2 f_X12_letterMany
      rw [z_bn_sm, h.2.2.2.2.2.2.1.1 0 (by decide)]
      by_cases hlt : l < hCnt (sH A) 0
      · have ek : nI l + 1 = nI (l + 1) := nI_1 l
        obtain ⟨ν2, p1, p2, p3, p4, p5, p6⟩ := m_timesI ok N hN hlt (fun μ58 => z_bd (nI l + 1) fun x6 => f_X12_laysTimes_L2 N f x6 μ58) N 0 ν1 (Nat.zero_le _) (by omega) h
        have p1' : f_X12_laysTimes_L12 N (nI l) (fun μ58 => z_bd (nI l + 1) fun x6 => f_X12_laysTimes_L2 N f x6 μ58) N (0 : Int32) ν1 = _ := p1
        obtain ⟨ν3, r1, r2, r3⟩ := ih (l + 1) ν2 (by omega) (by omega) (p2.mS h) (fun q hq1 i hi => by
          by_cases z : q = l
          · subst z; exact p6 i (Nat.zero_le _) hi
          · obtain ⟨v1, v2⟩ := p5 (3 * q + i) (by omega)
            rw [v1, v2]
            exact hq q (by omega) i hi)
        rw [if_pos (nI_lt hlt (by omega)), p1', z_bd_eq, ek]
        exact ⟨ν3, r1, p2.tr r2, r3⟩
      · have : l = hCnt (sH A) 0 := by omega
        subst this
        rw [if_neg (nI_nlt (Nat.le_refl _) (by omega))]
        exact ⟨ν1, rfl, wFr.rf _, hq⟩
  exact key N 0 ν (Nat.zero_le _) (by omega) h (fun q hq => by omega)
def rowM (o : Nat) (R : Nat → Nat) (ν : z_S) : Prop := ∀ l, l < 8 → ν.1 o l = nI (R l)
/-- the rows 298 to 303 alone have changed, of them these stay -/
def rFr (ν ν' : z_S) : Prop := ν'.2 = ν.2 ∧ ∀ a j, a ≠ 298 → a ≠ 300 → a ≠ 303 → ν'.1 a j = ν.1 a j
theorem rFr.w {ν ν' : z_S} (h : rFr ν ν') : wFr ν ν' := ⟨by rw [h.1], fun a j _ q => h.2 a j (by omega) (by omega) (by omega), fun a j _ _ _ => by rw [h.1]⟩
theorem rFr.tr {ν ν1 ν2 : z_S} (h : rFr ν ν1) (g : rFr ν1 ν2) : rFr ν ν2 := ⟨g.1.trans h.1, fun a j h1 h2 h3 => (g.2 a j h1 h2 h3).trans (h.2 a j h1 h2 h3)⟩
theorem m_nextL (N : Nat) {L : Nat} (hL : L ≤ 8) {R F : Nat → Nat} (hR : ∀ l, R l ≤ 7) (hF : ∀ l, F l ≤ 7) (e : Int32 → z_S → Option (Int32 × z_S)) : ∀ f j ν, j ≤ L → j < f → (∀ l, l < L → ν.1 299 l = nI (F l)) → (∀ l, l < 8 → ν.1 298 l = if l < j then nI (R l) else 0) → (∀ l, j ≤ l → l < L → R l = F l) → ∃ ν', ν'.2 = ν.2 ∧ (∀ a q, a ≠ 298 → ν'.1 a q = ν.1 a q) ∧ ((∃ k, k < L ∧ R k ≠ F k ∧ (∀ l, k < l → l < L → R l = F l) ∧ f_X12_isNextRow_L7 N e f (nI j - 1) ν = e (nI k) ν' ∧ ∀ l, l < 8 → ν'.1 298 l = if l ≤ k then nI (R l) else 0) ∨ ((∀ l, l < L → R l = F l) ∧ f_X12_isNextRow_L7 N e f (nI j - 1) ν = e (-1) ν')) := by
  intro f
  induction f with
  | zero => intro j ν _ h; omega
  | succ f ih =>
    intro j ν h1 h2 h3 h4 h5
    show ∃ ν', _ ∧ _ ∧ ((∃ k, _ ∧ _ ∧ _ ∧ b_X12_isNextRow_L7 N (f_X12_isNextRow_L7 N e f) e (nI j - 1) ν = _ ∧ _) ∨ (_ ∧ b_X12_isNextRow_L7 N (f_X12_isNextRow_L7 N e f) e (nI j - 1) ν = _))
    unfold b_X12_isNextRow_L7
    cases j with
    | zero =>
      rw [if_pos (show nI 0 - (1 : Int32) < 0 by decide)]
      exact ⟨ν, rfl, fun _ _ _ => rfl, Or.inr ⟨fun l hl => h5 l (Nat.zero_le _) hl, rfl⟩⟩
    | succ d =>
      have ed : nI (d + 1) - (1 : Int32) = nI d := nI_pred d
      have em : nI d + (-1 : Int32) = nI d - 1 := (Int32.sub_eq_add_neg (nI d) 1).symm
      have hRd := hR d
      have hFd := hF d
      rw [ed, if_neg (nI_pos (show d < 2 ^ 31 by omega)), z_in_nI (show d < 8 by omega) (by decide), z_in_nI (show d < 8 by omega) (by decide), nI_toNat (by omega), h4 d (by omega), if_pos (c := d < d + 1) (by omega), h3 d (by omega)]
      by_cases hc : R d = F d
      · rw [if_pos (by rw [hc]), z_in_nI (show d < 8 by omega) (by decide), z_bd_eq, z_bd_eq, em]
        obtain ⟨ν', r1, r2, r3⟩ := ih d (z_setI ν 298 d 0) (by omega) (by omega) (fun l hl => by rw [sI_1, if_neg (by omega)]; exact h3 l hl) (fun l hl => by
          rw [sI_1]
          by_cases z : l = d
          · rw [if_pos ⟨rfl, z⟩, if_neg (by omega)]
          · rw [if_neg (fun q => z q.2), h4 l hl]
            by_cases y : l < d
            · rw [if_pos (by omega), if_pos y]
            · rw [if_neg (by omega), if_neg y]) (fun l q1 q2 => by
          by_cases z : l = d
          · rw [z]; exact hc
          · exact h5 l (by omega) q2)
        exact ⟨ν', r1, fun a q ha => by rw [r2 a q ha, sI_1, if_neg (fun z => ha z.1)], r3⟩
      · rw [if_neg (fun z => hc ((nI_eq (by omega) (by omega)).mp z))]
        refine ⟨ν, rfl, fun _ _ _ => rfl, Or.inl ⟨d, by omega, hc, fun l q1 q2 => h5 l (by omega) q2, rfl, fun l hl => ?_⟩⟩
        rw [h4 l hl]
        by_cases y : l ≤ d
        · rw [if_pos (by omega), if_pos y]
        · rw [if_neg (by omega), if_neg y]
/-- the row behind R: one more at place k, none behind it -/
def rowN (R : Nat → Nat) (k l : Nat) : Nat := if l < k then R l else if l = k then R k + 1 else 0
theorem m_next {A : aS} {ν : z_S} (ok : okS A) (h : mS A ν) (N : Nat) (hN : 20 ≤ N) {R F : Nat → Nat} (hR : ∀ l, R l ≤ 7) (hF : ∀ l, F l ≤ 7) (hRF : ∀ l, R l ≤ F l) (hz : ∀ l, hCnt (sH A) 0 ≤ l → R l = 0) (hf : ∀ l, l < hCnt (sH A) 0 → ν.1 299 l = nI (F l)) (hr : rowM 298 R ν) : ∃ ν', ν'.2 = ν.2 ∧ (∀ a q, a ≠ 298 → ν'.1 a q = ν.1 a q) ∧ ((∃ k, k < hCnt (sH A) 0 ∧ R k < F k ∧ (∀ l, k < l → l < hCnt (sH A) 0 → R l = F l) ∧ f_X12_isNextRow N ν = some (1, ν') ∧ rowM 298 (rowN R k) ν') ∨ ((∀ l, l < hCnt (sH A) 0 → R l = F l) ∧ f_X12_isNextRow N ν = some (0, ν'))) := by
  have h8 := ok.2.2.1.1
  have eL : f_X12_isNextRow N ν = f_X12_isNextRow_L7 N (fun y39_1 μ39 => f_X12_isNextRow_B39 N y39_1 μ39) N (nI (hCnt (sH A) 0) - 1) ν := by
    unfold f_X12_isNextRow f_X12_letterMany
    rw [z_bn_sm, h.2.2.2.2.2.2.1.1 0 (by decide), z_bd_eq]
  rw [eL]
  obtain ⟨ν1, r1, r2, r3⟩ := m_nextL N h8 hR hF (fun y39_1 μ39 => f_X12_isNextRow_B39 N y39_1 μ39) N (hCnt (sH A) 0) ν (Nat.le_refl _) (by omega) hf (fun l hl => by
    rw [hr l hl]
    by_cases y : l < hCnt (sH A) 0
    · rw [if_pos y]
    · rw [if_neg y, hz l (by omega)]; rfl) (fun l q1 q2 => by omega)
  rcases r3 with ⟨k, k1, k2, k3, k4, k5⟩ | ⟨k1, k2⟩
  · have hRk := hR k
    have e1 : nI (R k) + (1 : Int32) = nI (R k + 1) := nI_1 _
    refine ⟨z_setI ν1 298 k (nI (R k + 1)), r1, fun a q ha => by rw [sI_1, if_neg (fun z => ha z.1)]; exact r2 a q ha, Or.inl ⟨k, k1, by have := hRF k; omega, k3, ?_, fun l hl => ?_⟩⟩
    · rw [k4]
      unfold f_X12_isNextRow_B39
      rw [if_neg (nI_pos (show k < 2 ^ 31 by omega)), z_in_nI (show k < 8 by omega) (by decide), z_in_nI (show k < 8 by omega) (by decide), nI_toNat (by omega), k5 k (by omega), if_pos (Nat.le_refl k), e1, z_bd_eq]
    · rw [sI_1]
      unfold rowN
      by_cases z : l = k
      · rw [if_pos ⟨rfl, z⟩, if_neg (by omega), if_pos z]
      · rw [if_neg (fun q => z q.2), k5 l hl]
        by_cases y : l < k
        · rw [if_pos (by omega), if_pos y]
        · rw [if_neg (by omega), if_neg y, if_neg z]; rfl
  · refine ⟨ν1, r1, r2, Or.inr ⟨k1, ?_⟩⟩
    rw [k2]
    unfold f_X12_isNextRow_B39
    rw [if_pos (by decide)]
theorem m_ansIn {A : aS} {ν : z_S} (ok : okS A) (h : mS A ν) (N : Nat) (hN : 20 ≤ N) {R : Nat → Nat} (hR : ∀ l, R l ≤ 3) (hz : ∀ l, hCnt (sH A) 0 ≤ l → R l = 0) (hr : rowM 298 R ν) : f_X12_answeredIn N ν = some (nI (cntP R 8), ν) := by
  have h8 := ok.2.2.1.1
  have key : ∀ f l, l ≤ hCnt (sH A) 0 → hCnt (sH A) 0 - l < f → f_X12_answeredIn_L4 N f (nI (cntP R l)) (nI l) ν = some (nI (cntP R (hCnt (sH A) 0)), ν) := by
    intro f
    induction f with
    | zero => intro l h1 h2; omega
    | succ f ih =>
      intro l h1 h2
      show b_X12_answeredIn_L4 N (f_X12_answeredIn_L4 N f) (nI (cntP R l)) (nI l) ν = _
      unfold b_X12_answeredIn_L4 f_X12_answeredIn_B24 f_X12_letterMany
      rw [z_bn_sm, h.2.2.2.2.2.2.1.1 0 (by decide)]
      by_cases hlt : l < hCnt (sH A) 0
      · have ek : nI l + 1 = nI (l + 1) := nI_1 l
        have ec : nI (cntP R l) + 1 = nI (cntP R l + 1) := nI_1 _
        have e1 : cntP R (l + 1) = if 0 < R l then cntP R l + 1 else cntP R l := rfl
        have hRl := hR l
        have ih' := ih (l + 1) (by omega) (by omega)
        rw [e1] at ih'
        simp only [z_bd_eq]
        rw [if_pos (nI_lt hlt (by omega)), z_in_nI (show l < 8 by omega) (by decide), nI_toNat (by omega), hr l (by omega), ek, ec]
        by_cases c : 0 < R l
        · rw [if_pos c] at ih'
          rw [if_pos (show (0 : Int32) < nI (R l) from nI_lt (a := 0) c (by omega))]
          exact ih'
        · rw [if_neg c] at ih'
          rw [if_neg (show ¬ (0 : Int32) < nI (R l) from nI_nlt (a := 0) (by omega) (by decide))]
          exact ih'
      · have : l = hCnt (sH A) 0 := by omega
        subst this
        rw [if_neg (nI_nlt (Nat.le_refl _) (by omega))]
  have := key N 0 (Nat.zero_le _) (by omega)
  rw [cntP_stop hz 8 h8]
  exact this
theorem m_warmIn {A : aS} {ν : z_S} (ok : okS A) (h : mS A ν) (N : Nat) (hN : 20 ≤ N) {R : Nat → Nat} (hR : ∀ l, R l ≤ hCnt (sH A) 2) (hz : ∀ l, hCnt (sH A) 0 ≤ l → R l = 0) (hr : rowM 298 R ν) (ht : tmM (sH A) (sN A) ν) : f_X12_warmIn N ν = some (iJ (wrmR (warmW (sH A) (sN A)) R 8), ν) := by
  have h8 := ok.2.2.1.1
  have h3 := ok.2.2.1.2.2.1
  have key : ∀ f l, l ≤ hCnt (sH A) 0 → hCnt (sH A) 0 - l < f → f_X12_warmIn_L4 N f (iJ (wrmR (warmW (sH A) (sN A)) R l)) (nI l) ν = some (iJ (wrmR (warmW (sH A) (sN A)) R (hCnt (sH A) 0)), ν) := by
    intro f
    induction f with
    | zero => intro l h1 h2; omega
    | succ f ih =>
      intro l h1 h2
      show b_X12_warmIn_L4 N (f_X12_warmIn_L4 N f) (iJ (wrmR (warmW (sH A) (sN A)) R l)) (nI l) ν = _
      unfold b_X12_warmIn_L4 f_X12_warmIn_B41 f_X12_letterMany
      rw [z_bn_sm, h.2.2.2.2.2.2.1.1 0 (by decide)]
      by_cases hlt : l < hCnt (sH A) 0
      · have ek : nI l + 1 = nI (l + 1) := nI_1 l
        have e1 : wrmR (warmW (sH A) (sN A)) R (l + 1) = wrmR (warmW (sH A) (sN A)) R l + (if 0 < R l then warmW (sH A) (sN A) l (R l - 1) else 0) := rfl
        have hRl := hR l
        have ih' := ih (l + 1) (by omega) (by omega)
        rw [e1] at ih'
        simp only [z_bd_eq]
        rw [if_pos (nI_lt hlt (by omega)), z_in_nI (show l < 8 by omega) (by decide), z_in_nI (show l < 8 by omega) (by decide), nI_toNat (by omega), hr l (by omega), ek]
        by_cases c : 0 < R l
        · rw [if_pos c] at ih'
          have e3 : (3 : Int32) * nI l + nI (R l) - (1 : Int32) = nI (3 * l + (R l - 1)) := by
            rw [show (3 : Int32) = nI 3 from rfl, pk_mul, nI_add, show (1 : Int32) = nI 1 from rfl, pk_sub (by omega)]
            congr 1
            omega
          rw [if_pos (show (0 : Int32) < nI (R l) from nI_lt (a := 0) c (by omega)), e3, z_in_nI (show 3 * l + (R l - 1) < 24 by omega) (by decide), nI_toNat (by omega), (ht l hlt (R l - 1) (by omega)).2, ← Int64.ofInt_add]
          unfold warmW at ih'
          rw [if_pos (show l < 8 by omega)] at ih'
          exact ih'
        · rw [if_neg c, Int.add_zero] at ih'
          rw [if_neg (show ¬ (0 : Int32) < nI (R l) from nI_nlt (a := 0) (by omega) (by decide))]
          exact ih'
      · have : l = hCnt (sH A) 0 := by omega
        subst this
        rw [if_neg (nI_nlt (Nat.le_refl _) (by omega))]
  have := key N 0 (Nat.zero_le _) (by omega)
  have e8 : wrmR (warmW (sH A) (sN A)) R 8 = wrmR (warmW (sH A) (sN A)) R (hCnt (sH A) 0) := sumC_to8 (fun l hl => by
    show (if 0 < R l then warmW (sH A) (sN A) l (R l - 1) else 0) = 0
    rw [hz l hl, if_neg (Nat.lt_irrefl 0)]) 8 h8
  rw [e8]
  exact this
