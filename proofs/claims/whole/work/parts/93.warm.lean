/-! warmest, warms -/
theorem m_zeroL (N : Nat) (e : z_S → Option (Int32 × z_S)) : ∀ f l ν, l ≤ 8 → 8 - l < f → (∀ k, k < l → ν.1 298 k = 0 ∧ ν.1 300 k = 0) → ∃ ν', f_X12_laysWarmest_L6 N e f (nI l) ν = e ν' ∧ ν'.2 = ν.2 ∧ (∀ a j, a ≠ 298 → a ≠ 300 → ν'.1 a j = ν.1 a j) ∧ ∀ k, k < 8 → ν'.1 298 k = 0 ∧ ν'.1 300 k = 0 := by
  intro f
  induction f with
  | zero => intro l ν h1 h2; omega
  | succ f ih =>
    intro l ν h1 h2 h3
    show ∃ ν', b_X12_laysWarmest_L6 N (f_X12_laysWarmest_L6 N e f) e (nI l) ν = _ ∧ _
    unfold b_X12_laysWarmest_L6
    by_cases hlt : l < 8
    · have ek : nI l + 1 = nI (l + 1) := nI_1 l
      rw [if_pos (show nI l < (8 : Int32) from nI_lt (b := 8) hlt (by decide)), z_in_nI hlt (by decide), z_bd_eq, z_in_nI hlt (by decide), z_bd_eq, z_bd_eq, ek, nI_toNat (by omega)]
      obtain ⟨ν', r1, r2, r3, r4⟩ := ih (l + 1) (z_setI (z_setI ν 298 l 0) 300 l 0) (by omega) (by omega) (fun k hk => by
        rw [sI_1, sI_1, sI_1, sI_1]
        by_cases z : k = l
        · rw [if_neg (by omega), if_pos ⟨rfl, z⟩, if_pos ⟨rfl, z⟩]; exact ⟨rfl, rfl⟩
        · rw [if_neg (by omega), if_neg (fun q => z q.2), if_neg (fun q => z q.2), if_neg (by omega)]
          exact h3 k (by omega))
      exact ⟨ν', r1, r2, fun a j q1 q2 => by rw [r3 a j q1 q2, sI_1, if_neg (fun z => q2 z.1), sI_1, if_neg (fun z => q1 z.1)], r4⟩
    · have : l = 8 := by omega
      subst this
      rw [if_neg (show ¬ nI 8 < (8 : Int32) by decide)]
      exact ⟨ν, rfl, rfl, fun _ _ _ _ => rfl, h3⟩
theorem m_figL {A : aS} (ok : okS A) (N : Nat) (e : z_S → Option (Int32 × z_S)) : ∀ f l ν, l ≤ hCnt (sH A) 0 → hCnt (sH A) 0 - l < f → mS A ν → (∀ k, k < l → ν.1 299 k = nI (figV (sH A) (sN A) k)) → ∃ ν', f_X12_laysWarmest_L34 N e f (nI l) ν = e ν' ∧ ν'.2 = ν.2 ∧ (∀ a j, a ≠ 299 → ν'.1 a j = ν.1 a j) ∧ ∀ k, k < hCnt (sH A) 0 → ν'.1 299 k = nI (figV (sH A) (sN A) k) := by
  have h8 := ok.2.2.1.1
  have h3 := ok.2.2.1.2.2.1
  intro f
  induction f with
  | zero => intro l ν h1 h2; omega
  | succ f ih =>
    intro l ν h1 h2 h hf
    show ∃ ν', b_X12_laysWarmest_L34 N (f_X12_laysWarmest_L34 N e f) e (nI l) ν = _ ∧ _
    unfold b_X12_laysWarmest_L34 f_X12_laysWarmest_B63 f_X12_letterMany f_X12_helperMany
    rw [z_bn_sm, h.2.2.2.2.2.2.1.1 0 (by decide)]
    by_cases hlt : l < hCnt (sH A) 0
    · have ek : nI l + 1 = nI (l + 1) := nI_1 l
      have hd := ok.2.2.2.1.2.2.2.2.2.1 l
      have go : ∀ v, v = nI (figV (sH A) (sN A) l) → ∃ ν', f_X12_laysWarmest_L34 N e f (nI (l + 1)) (z_setI ν 299 l v) = e ν' ∧ ν'.2 = ν.2 ∧ (∀ a j, a ≠ 299 → ν'.1 a j = ν.1 a j) ∧ ∀ k, k < hCnt (sH A) 0 → ν'.1 299 k = nI (figV (sH A) (sN A) k) := by
        intro v hv
        have fr : wFr ν (z_setI ν 299 l v) := ⟨rfl, fun a j _ q => by rw [sI_1, if_neg (by omega)], fun _ _ _ _ _ => rfl⟩
        obtain ⟨ν', r1, r2, r3, r4⟩ := ih (l + 1) (z_setI ν 299 l v) (by omega) (by omega) (fr.mS h) (fun k hk => by
          rw [sI_1]
          by_cases z : k = l
          · rw [if_pos ⟨rfl, z⟩, z]; exact hv
          · rw [if_neg (fun q => z q.2)]; exact hf k (by omega))
        exact ⟨ν', r1, r2, fun a j q => by rw [r3 a j q, sI_1, if_neg (fun z => q z.1)], r4⟩
      simp only [z_bd_eq]
      rw [if_pos (nI_lt hlt (by omega)), (m_now h N (show l < 8 by omega)).1, z_bn_sm, z_bn_sm, z_in_nI (show l < 8 by omega) (by decide), z_in_nI (show l < 8 by omega) (by decide), nI_toNat (by omega), ek, h.2.2.2.2.2.2.1.1 2 (by decide)]
      by_cases c : nDone (sN A) l = 0
      · rw [if_pos ((nI_z (by omega)).mpr c)]
        exact go _ (by unfold figV; rw [if_pos ⟨hlt, c⟩])
      · rw [if_neg (fun z => c ((nI_z (by omega)).mp z))]
        exact go _ (by unfold figV; rw [if_neg (fun z => c z.2)]; rfl)
    · have : l = hCnt (sH A) 0 := by omega
      subst this
      rw [if_neg (nI_nlt (Nat.le_refl _) (by omega))]
      exact ⟨ν, rfl, rfl, fun _ _ _ => rfl, hf⟩
theorem m_lays {A : aS} {ν : z_S} (ok : okS A) (h : mS A ν) (N : Nat) (hN : 70000 ≤ N) : ∃ B ν', f_X12_laysWarmest N ν = some (nI (cntP B 8), ν') ∧ wFr ν ν' ∧ isBest (hCnt (sH A) 0) (hCnt (sH A) 2) (bearV (sH A) (sN A)) (timeV (sH A) (sN A)) (nLeft (sN A)) (warmW (sH A) (sN A)) B ∧ rowM 300 B ν' ∧ ν'.2.1 253 63 = iJ (wrmR (warmW (sH A) (sN A)) B 8) := by
  have h8 := ok.2.2.1.1
  have h3 := ok.2.2.1.2.2.1
  obtain ⟨ν1, p1, p2, p3⟩ := m_times ok N (by omega) h
  obtain ⟨ν2, q1, q2, q3, q4⟩ := m_zeroL N (fun μ32 => f_X12_laysWarmest_L34 N (fun μ70 => z_bd (z_setJ μ70 253 63 (0 : Int64)) fun μ_8 => f_X12_laysWarmest_L77 N N (0 : Int32) μ_8) N (0 : Int32) μ32) N 0 ν1 (by omega) (by omega) (fun k hk => by omega)
  have q1' : f_X12_laysWarmest_L6 N (fun μ32 => f_X12_laysWarmest_L34 N (fun μ70 => z_bd (z_setJ μ70 253 63 (0 : Int64)) fun μ_8 => f_X12_laysWarmest_L77 N N (0 : Int32) μ_8) N (0 : Int32) μ32) N (0 : Int32) ν1 = _ := q1
  have fr2 : wFr ν ν2 := p2.tr ⟨by rw [q2], fun a j _ z => q3 a j (by omega) (by omega), fun a j _ _ _ => by rw [q2]⟩
  obtain ⟨ν3, r1, r2, r3, r4⟩ := m_figL ok N (fun μ70 => z_bd (z_setJ μ70 253 63 (0 : Int64)) fun μ_8 => f_X12_laysWarmest_L77 N N (0 : Int32) μ_8) N 0 ν2 (Nat.zero_le _) (by omega) (fr2.mS h) (fun k hk => by omega)
  have r1' : f_X12_laysWarmest_L34 N (fun μ70 => z_bd (z_setJ μ70 253 63 (0 : Int64)) fun μ_8 => f_X12_laysWarmest_L77 N N (0 : Int32) μ_8) N (0 : Int32) ν2 = _ := r1
  generalize hν4 : z_setJ ν3 253 63 0 = ν4
  have e4 : ν4.1 = ν3.1 := by rw [← hν4]; rfl
  have l4 : ∀ a j, ¬ (a = 253 ∧ j = 63) → ν4.2.1 a j = ν3.2.1 a j := fun a j z => by rw [← hν4, sJ_21, if_neg z]
  have fr4 : wFr ν ν4 := fr2.tr ⟨by rw [← hν4, show (z_setJ ν3 253 63 0).2.2 = ν3.2.2 from rfl, r2], fun a j _ z => by rw [e4]; exact r3 a j (by omega), fun a j _ _ z => by rw [l4 a j z, r2]⟩
  have zw : wrmR (warmW (sH A) (sN A)) (fun _ => 0) 8 = 0 := sumC_0 8 (fun c hc => if_neg (Nat.lt_irrefl 0))
  have zf : Feas (hCnt (sH A) 0) (hCnt (sH A) 2) (bearV (sH A) (sN A)) (timeV (sH A) (sN A)) (nLeft (sN A)) (fun _ => 0) := ⟨fun _ _ => Nat.zero_le _, fun _ _ => rfl, fun _ _ z => absurd z (Nat.lt_irrefl 0), fun i hi => by
    rw [sumL_0 8 (fun c hc => if_neg (show ¬ (0 : Nat) = i + 1 by omega))]; exact Nat.zero_le _⟩
  obtain ⟨B, ν5, s1, s2, s3, s4, s5⟩ := m_warmL ok N (by omega) N (fun _ => 0) (fun _ => 0) ν4 (by omega) (fr4.mS h) (fun l hl i hi => by
    rw [e4, r3 _ _ (by decide), q3 _ _ (by decide) (by decide), l4 _ _ (by omega), r2, q2]
    exact p3 l hl i hi) (fun l hl => by rw [e4]; exact r4 l hl) (fun l hl => by rw [e4, r3 _ _ (by decide)]; exact (q4 l hl).1) (fun l hl => by rw [e4, r3 _ _ (by decide)]; exact (q4 l hl).2) (by rw [zw, ← hν4, sJ_21, if_pos ⟨rfl, rfl⟩]; rfl) (fun _ => Nat.zero_le _) zf (Nat.le_refl _) (fun s hs hle => by
    have e0 : codN (fun _ => 0) 8 = 0 := rfl
    have es : s = fun _ => 0 := funext fun l => by
      rcases Nat.lt_or_ge l 8 with y | y
      · exact cod_inj 8 (fun l _ => Feas_3 h3 hs l) (fun l _ => Nat.zero_le 3) (by omega) l y
      · exact hs.2.1 l (by omega)
    rw [es]
    exact Int.le_refl _)
  have s1' : f_X12_laysWarmest_L77 N N (0 : Int32) ν4 = _ := s1
  refine ⟨B, ν5, ?_, fr4.tr s2.w, s3, s4, s5⟩
  unfold f_X12_laysWarmest
  rw [p1, z_bn_sm, q1', r1', z_bd_eq, hν4, s1']
theorem plK39 (c : Bool) : plK (z_hn c) 39 := ⟨z_hn_k _, k39, hn32 _, hn56 _, by decide⟩
theorem k45 : z_kw true 45 = (8, 0) := by decide +kernel
theorem plK45 (c : Bool) : plK (z_hn c) 45 := ⟨z_hn_k _, k45, hn32 _, hn56 _, by decide⟩
theorem op_warms {A : aS} {μ ν : z_S} (ok : okS A) (hc : cS A μ) (hm : mS A ν) (N : Nat) (hN : 70000 ≤ N) : z_Op (f_X11_warms N μ) (f_X12_warms N ν) := by
  obtain ⟨R, μ', p1, p2, p3, p4, p5, p6⟩ := c_plan ok.2.2.1 ok.2.2.2.1 (plK39 μ.2.2.1) N (by omega) hc.2.2.2.2.2.2.2.1 hc.2.2.2.2.2.2.2.2.1
  obtain ⟨B, ν', q1, q2, q3, q4, q5⟩ := m_lays ok hm N hN
  have e : R = B := funext (best_uniq ok.2.2.1.2.2.1 ok.2.2.1.1 p3 q3)
  subst e
  unfold f_X11_warms f_X12_warms
  rw [p1, z_bn_sm, q1, z_bn_sm, p6, q5]
  exact ⟨_, _, _, rfl, rfl, A, ok, p2.cS ok hc, q2.mS hm⟩
theorem op_warmest {A : aS} {μ ν : z_S} (ok : okS A) (hc : cS A μ) (hm : mS A ν) (N : Nat) (hN : 70000 ≤ N) (a : Int32) : z_Op (f_X11_warmest N a μ) (f_X12_warmest N a ν) := by
  have h8 := ok.2.2.1.1
  obtain ⟨R, μ', p1, p2, p3, p4, p5, p6⟩ := c_plan ok.2.2.1 ok.2.2.2.1 (plK39 μ.2.2.1) N (by omega) hc.2.2.2.2.2.2.2.1 hc.2.2.2.2.2.2.2.2.1
  obtain ⟨B, ν', q1, q2, q3, q4, q5⟩ := m_lays ok hm N hN
  have e : R = B := funext (best_uniq ok.2.2.1.2.2.1 ok.2.2.1.1 p3 q3)
  subst e
  unfold f_X11_warmest f_X12_warmest f_X11_warmest_B15 f_X12_warmest_B15
  by_cases c : a = (-1 : Int32)
  · rw [if_pos c, if_pos c, p1, z_bn_sm, q1, z_bn_sm, if_pos c, if_pos c, p5]
    exact ⟨_, _, _, rfl, rfl, A, ok, p2.cS ok hc, q2.mS hm⟩
  · rw [if_neg c, if_neg c, c_isL ok hc, z_bn_sm, m_isL ok hm, z_bn_sm]
    by_cases hl : 0 ≤ a.toInt ∧ a.toInt < hCnt (sH A) 0
    · obtain ⟨l, hl1, rfl⟩ := small hl (by omega)
      rw [if_pos hl, if_neg (by decide), if_neg (by decide), p1, z_bn_sm, q1, z_bn_sm, if_neg c, if_neg c, z_in_nI (show l < 8 by omega) (by decide), z_in_nI (show l < 8 by omega) (by decide), nI_toNat (by omega), p4 l (by omega), q4 l (by omega)]
      exact ⟨_, _, _, rfl, rfl, A, ok, p2.cS ok hc, q2.mS hm⟩
    · rw [if_neg hl, if_pos rfl, if_pos rfl]
      exact ⟨_, _, _, rfl, rfl, A, ok, hc, hm⟩
