/-- places of the class' memory that tell the state -/
def cRel (o j : Nat) : Prop := (o = 0 ∧ 15 ≤ j ∧ j ≤ 19) ∨ (o = 1 ∧ 1 ≤ j ∧ j ≤ 3) ∨ o = 2 ∨ o = 3 ∨ (39 ≤ o ∧ o ≤ 44) ∨ (52 ≤ o ∧ o ≤ 91) ∨ (96 ≤ o ∧ o ≤ 131) ∨ (133 ≤ o ∧ o ≤ 252)
theorem cS_scr {A : aS} {μ μ' : z_S} (ok : okS A) (h : cS A μ) (hb : μ'.2.2 = μ.2.2) (e : ∀ o j, cRel o j → μ'.1 o j = μ.1 o j) : cS A μ' := by
  have h' := h
  obtain ⟨a1, a2, a3, a4, a5, a6, a7, a8, a9, b1, ⟨old, b2, b3, b4⟩, c1, c2, d1, d2, d3⟩ := h'
  have hp := ok.2.2.2.2.1
  refine cS_of ok h hb rfl (fun q j h1 h2 g1 g2 g3 g4 => e _ _ (by unfold cRel; omega)) (fun j => e _ _ (by unfold cRel; omega)) ?_ (fun k => ?_) (fun k hk => ?_) ?_ ?_ ?_ ?_ ⟨old, b2, ?_, fun i a hi => ?_⟩ ?_ (fun k q hq => ?_) ?_ (fun k x hx => ?_) ?_
  · rw [e _ _ (by unfold cRel; omega)]; exact a1
  · rw [e _ _ (by unfold cRel; omega)]; exact a2 k
  · rw [e _ _ (by unfold cRel; omega)]; exact a4 k hk
  · rw [e _ _ (by unfold cRel; omega)]; exact a5
  · rw [e _ _ (by unfold cRel; omega)]; exact a6
  · exact cN_of a9 (fun o j h1 h2 => e _ _ (by unfold cRel; omega))
  · rw [e _ _ (by unfold cRel; omega)]; exact b1
  · rw [e _ _ (by unfold cRel; omega)]; exact b3
  · exact cN_of (b4 i a hi) (fun o j h1 h2 => e _ _ (by unfold cRel; omega))
  · rw [e _ _ (by unfold cRel; omega)]; exact c1
  · rw [e _ _ (by unfold cRel; omega), e _ _ (by unfold cRel; omega)]; exact c2 k q hq
  · rw [e _ _ (by unfold cRel; omega)]; exact d1
  · rw [e _ _ (by unfold cRel; omega)]; exact d2 k x hx
  · rw [e _ _ (by unfold cRel; omega)]; exact d3
theorem mS_of {A A' : aS} {ν ν' : z_S} (h : mS A ν) (hH : sH A' = sH A) (hHm : ∀ q j, 284 ≤ q → q < 296 → ν'.1 q j = ν.1 q j) (hJ : ∀ j, ν'.2.1 285 j = ν.2.1 285 j) (hw : ∀ q j, (256 ≤ q ∧ q ≤ 283) ∨ (307 ≤ q ∧ q ≤ 329) → ν'.1 q j = ν.1 q j)
    (t1 : ν'.1 253 1 = nI (sLen A')) (t2 : ∀ k, ν'.1 254 k = nI (sTape A' k)) (r1 : ∀ k, k < 6 → ν'.1 255 k = sRef A' k) (f1 : ν'.1 253 7 = sFault A') (f2 : ν'.1 253 8 = sPlace A') (n1 : mN 296 0 (sN A') ν')
    (p1 : ν'.1 253 68 = nI (sPast A').length) (p2 : ∃ nw : Nat, nw < 20 ∧ ν'.1 253 69 = nI nw ∧ ∀ i a, (sPast A')[i]? = some a → mN 306 (32 * ((nw + 20 - i) % 20)) a ν')
    (s1 : ν'.1 253 65 = nI (sSeen A').length) (s2 : ∀ k q, (sSeen A')[k]? = some q → ν'.1 305 (3 * k) = nI q.1 ∧ ∃ a b : Nat, a < 256 ∧ b < 256 ∧ q.2 = 256 * a + b ∧ ν'.1 305 (3 * k + 1) = nI a ∧ ν'.1 305 (3 * k + 2) = nI b)
    (i1 : ν'.1 253 105 = nI (sImg A').length) (i2 : ∀ k x, (sImg A')[k]? = some x → ν'.1 333 k = nI x) (d1 : ν'.2.1 253 70 = lN (sSeed A')) : mS A' ν' := by
  obtain ⟨a1, a2, a3, a4, a5, a6, a7, a8⟩ := h
  refine ⟨t1, t2, fun q hq k c hc => ?_, r1, f1, f2, by rw [hH]; exact mH_of a7 hHm hJ, n1, p1, p2, s1, s2, i1, i2, d1⟩
  have hr : ∀ q ∈ mWords, (256 ≤ q.1 ∧ q.1 ≤ 283) ∨ (307 ≤ q.1 ∧ q.1 ≤ 329) := by decide
  rw [hw _ _ (hr q hq)]
  exact a3 q hq k c hc
/-- places of the reference's memory that tell the state -/
def mRel (o j : Nat) : Prop := (o = 253 ∧ (j = 1 ∨ j = 7 ∨ j = 8 ∨ j = 65 ∨ j = 68 ∨ j = 69 ∨ j = 105)) ∨ (254 ≤ o ∧ o ≤ 296) ∨ o = 305 ∨ o = 306 ∨ (307 ≤ o ∧ o ≤ 329) ∨ o = 333
theorem mS_scr {A : aS} {ν ν' : z_S} (h : mS A ν) (e : ∀ o j, mRel o j → ν'.1 o j = ν.1 o j) (e2 : ∀ j, ν'.2.1 285 j = ν.2.1 285 j) (e3 : ν'.2.1 253 70 = ν.2.1 253 70) : mS A ν' := by
  have h' := h
  obtain ⟨a1, a2, a3, a4, a5, a6, a7, a8, b1, ⟨nw, b2, b3, b4⟩, c1, c2, d1, d2, d3⟩ := h'
  refine mS_of h rfl (fun q j h1 h2 => e _ _ (by unfold mRel; omega)) e2 (fun q j hq => e _ _ (by unfold mRel; omega)) ?_ (fun k => ?_) (fun k hk => ?_) ?_ ?_ ?_ ?_ ⟨nw, b2, ?_, fun i a hi => ?_⟩ ?_ (fun k q hq => ?_) ?_ (fun k x hx => ?_) ?_
  · rw [e _ _ (by unfold mRel; omega)]; exact a1
  · rw [e _ _ (by unfold mRel; omega)]; exact a2 k
  · rw [e _ _ (by unfold mRel; omega)]; exact a4 k hk
  · rw [e _ _ (by unfold mRel; omega)]; exact a5
  · rw [e _ _ (by unfold mRel; omega)]; exact a6
  · exact mN_of a8 (fun j h1 h2 => e _ _ (by unfold mRel; omega))
  · rw [e _ _ (by unfold mRel; omega)]; exact b1
  · rw [e _ _ (by unfold mRel; omega)]; exact b3
  · exact mN_of (b4 i a hi) (fun j h1 h2 => e _ _ (by unfold mRel; omega))
  · rw [e _ _ (by unfold mRel; omega)]; exact c1
  · rw [e _ _ (by unfold mRel; omega), e _ _ (by unfold mRel; omega), e _ _ (by unfold mRel; omega)]; exact c2 k q hq
  · rw [e _ _ (by unfold mRel; omega)]; exact d1
  · rw [e _ _ (by unfold mRel; omega)]; exact d2 k x hx
  · rw [e3]; exact d3
/-! refusals -/
theorem c_refN {A : aS} {μ : z_S} (ok : okS A) (h : cS A μ) (N : Nat) {k : Nat} (hk : k < 6) : ∃ μ', f_X11_refuseNumber N (nI k) μ = some (-1, μ') ∧ cS (aRef A k) μ' := by
  refine ⟨z_setI μ 55 k (μ.1 55 k + 1), ?_, ?_⟩
  · unfold f_X11_refuseNumber
    rw [z_in_nI hk (by decide), z_in_nI hk (by decide), nI_toNat (by omega)]
    rfl
  · have h' := h
    obtain ⟨a1, a2, a3, a4, a5, a6, a7, a8, a9, b1, ⟨old, b2, b3, b4⟩, c1, c2, d1, d2, d3⟩ := h'
    refine cS_of ok h rfl rfl (fun q j h1 h2 g1 g2 g3 g4 => by rw [sI_1, if_neg (by omega)]) (fun j => by rw [sI_1, if_neg (by omega)]) ?_ (fun k => ?_) (fun j hj => ?_) ?_ ?_ (cN_of a9 (fun o j h1 h2 => by rw [sI_1, if_neg (by omega)])) ?_ ⟨old, b2, ?_, fun i a hi => cN_of (b4 i a hi) (fun o j h1 h2 => by rw [sI_1, if_neg (by omega)])⟩ ?_ (fun k q hq => ?_) ?_ (fun k x hx => ?_) ?_
    · rw [sI_1, if_neg (by omega)]; exact a1
    · rw [sI_1, if_neg (by omega)]; exact a2 k
    · rw [sI_1]
      show _ = if j = k then sRef A k + 1 else sRef A j
      by_cases hjk : j = k
      · rw [if_pos ⟨rfl, hjk⟩, if_pos hjk, a4 k hk]
      · rw [if_neg (fun q => hjk q.2), if_neg hjk]; exact a4 j hj
    · rw [sI_1, if_neg (by omega)]; exact a5
    · rw [sI_1, if_neg (by omega)]; exact a6
    · rw [sI_1, if_neg (by omega)]; exact b1
    · rw [sI_1, if_neg (by omega)]; exact b3
    · rw [sI_1, if_neg (by omega)]; exact c1
    · rw [sI_1, if_neg (by omega), sI_1, if_neg (by omega)]; exact c2 k q hq
    · rw [sI_1, if_neg (by omega)]; exact d1
    · rw [sI_1, if_neg (by omega)]; exact d2 k x hx
    · rw [sI_1, if_neg (by omega)]; exact d3
theorem c_refZ {A : aS} {μ : z_S} (ok : okS A) (h : cS A μ) (N : Nat) {k : Nat} (hk : k < 6) : ∃ μ', f_X11_refuse N (nI k) μ = some (0, μ') ∧ cS (aRef A k) μ' := by
  obtain ⟨μ', h1, h2⟩ := c_refN ok h N hk
  refine ⟨μ', ?_, h2⟩
  unfold f_X11_refuseNumber at h1
  unfold f_X11_refuse
  rw [z_in_nI hk (by decide), z_in_nI hk (by decide)] at h1 ⊢
  cases h1
  rfl
theorem m_refs {A : aS} {ν : z_S} (h : mS A ν) {k : Nat} (hk : k < 6) : mS (aRef A k) (z_setI ν 255 k (ν.1 255 k + 1)) := by
  have h' := h
  obtain ⟨a1, a2, a3, a4, a5, a6, a7, a8, b1, ⟨nw, b2, b3, b4⟩, c1, c2, d1, d2, d3⟩ := h'
  refine mS_of h rfl (fun q j h1 h2 => by rw [sI_1, if_neg (by omega)]) (fun _ => rfl) (fun q j hq => by rw [sI_1, if_neg (by omega)]) ?_ (fun k => ?_) (fun j hj => ?_) ?_ ?_ (mN_of a8 (fun j h1 h2 => by rw [sI_1, if_neg (by omega)])) ?_ ⟨nw, b2, ?_, fun i a hi => mN_of (b4 i a hi) (fun j h1 h2 => by rw [sI_1, if_neg (by omega)])⟩ ?_ (fun k q hq => ?_) ?_ (fun k x hx => ?_) ?_
  · rw [sI_1, if_neg (by omega)]; exact a1
  · rw [sI_1, if_neg (by omega)]; exact a2 k
  · rw [sI_1]
    show _ = if j = k then sRef A k + 1 else sRef A j
    by_cases hjk : j = k
    · rw [if_pos ⟨rfl, hjk⟩, if_pos hjk, a4 k hk]
    · rw [if_neg (fun q => hjk q.2), if_neg hjk]; exact a4 j hj
  · rw [sI_1, if_neg (by omega)]; exact a5
  · rw [sI_1, if_neg (by omega)]; exact a6
  · rw [sI_1, if_neg (by omega)]; exact b1
  · rw [sI_1, if_neg (by omega)]; exact b3
  · rw [sI_1, if_neg (by omega)]; exact c1
  · rw [sI_1, if_neg (by omega), sI_1, if_neg (by omega), sI_1, if_neg (by omega)]; exact c2 k q hq
  · rw [sI_1, if_neg (by omega)]; exact d1
  · rw [sI_1, if_neg (by omega)]; exact d2 k x hx
  · exact d3
theorem m_refuses {A : aS} {ν : z_S} (h : mS A ν) (N : Nat) {k : Nat} (hk : k < 6) : ∃ ν', f_X12_refuses N (nI k) ν = some (-1, ν') ∧ mS (aRef A k) ν' := by
  refine ⟨_, ?_, m_refs h hk⟩
  unfold f_X12_refuses
  rw [z_in_nI hk (by decide), z_in_nI hk (by decide), nI_toNat (by omega)]
  rfl
theorem ok_ref {A : aS} (ok : okS A) (k : Nat) : okS (aRef A k) := ok
/-! status -/
def p_status (A : aS) (w : Int32) : Int32 := if w < 0 then -1 else if w < 6 then sRef A w.toNatClampNeg else -1
theorem z_in6 {w : Int32} {n : Nat} (hn : n < 2 ^ 31) (h0 : ¬ w < 0) (h1 : w < nI n) : vp_in w n ∧ w.toNatClampNeg < n := by
  obtain ⟨j, hj, rfl⟩ := nI_of h0
  have hjn := (nI_ltI hj hn).mp h1
  exact ⟨vp_in_nI hjn hn, by rw [nI_toNat hj]; exact hjn⟩
theorem c_status {A : aS} {μ : z_S} (h : cS A μ) (N : Nat) (w : Int32) : f_X11_status N w μ = some (p_status A w, μ) := by
  unfold f_X11_status f_X11_status_B13 p_status
  by_cases h0 : w < 0
  · rw [if_pos h0, if_pos h0]
  · rw [if_neg h0, if_neg h0]
    by_cases h1 : w < 6
    · rw [if_pos h1, if_pos h1]
      obtain ⟨g1, g2⟩ := z_in6 (n := 6) (by decide) h0 h1
      rw [z_in_ok g1, h.2.2.2.1 _ g2]
    · rw [if_neg h1, if_neg h1]

