/-! a state with one piece changed -/
def aTape (A : aS) (n : Nat) (t : Nat → Nat) : aS := ((n, t), A.2)
def aRef (A : aS) (k : Nat) : aS := (A.1, (fun j => if j = k then sRef A k + 1 else sRef A j), A.2.2)
/-! fault -/
def p_fault (A : aS) (w : Int32) : Int32 := if w = 0 then sFault A else if w = 1 then sPlace A else -1
theorem c_fault {A : aS} {μ : z_S} (h : cS A μ) (N : Nat) (w : Int32) : f_X11_fault N w μ = some (p_fault A w, μ) := by
  unfold f_X11_fault p_fault
  rw [h.2.2.2.2.1, h.2.2.2.2.2.1]
  split
  · rfl
  · split <;> rfl
theorem m_fault {A : aS} {ν : z_S} (h : mS A ν) (N : Nat) (w : Int32) : f_X12_fault N w ν = some (p_fault A w, ν) := by
  unfold f_X12_fault p_fault
  rw [h.2.2.2.2.1, h.2.2.2.2.2.1]
  split
  · rfl
  · split <;> rfl
/-! refusals -/
theorem cN_of {s : Nat} {a : aN} {μ μ' : z_S} (h : cN s a μ) (e : ∀ o j, s ≤ o → o < s + 6 → μ'.1 o j = μ.1 o j) : cN s a μ' := by
  obtain ⟨h1, h2, h3, h4, h5, h6⟩ := h
  refine ⟨?_, fun k hk => ?_, fun k hk => ?_, fun k hk => ?_, fun k hk => ?_, fun k hk => ?_⟩
  · rw [e _ _ (by omega) (by omega)]; exact h1
  · rw [e _ _ (by omega) (by omega)]; exact h2 k hk
  · rw [e _ _ (by omega) (by omega)]; exact h3 k hk
  · rw [e _ _ (by omega) (by omega)]; exact h4 k hk
  · rw [e _ _ (by omega) (by omega)]; exact h5 k hk
  · rw [e _ _ (by omega) (by omega)]; exact h6 k hk
theorem cH_of {o : Nat} {h : aH} {μ μ' : z_S} (hh : cH o h μ) (hok : hCnt h 0 ≤ 8 ∧ hCnt h 1 ≤ 4 ∧ hCnt h 2 ≤ 3) (e : ∀ q j, o ≤ q → q < o + 36 → μ'.1 q j = μ.1 q j) : cH o h μ' := by
  obtain ⟨h1, h2, h3, h4, h5, h6, h7, h8, h9, h10, h11⟩ := hh
  refine ⟨fun k hk => ?_, fun k hk i hi => ?_, fun l hl => ?_, fun l hl => ?_, fun l hl g hg => ?_, fun a ha b hb => ?_, fun g hg => ?_, fun i hi => ?_, ?_, ?_, fun f hf => ?_⟩
  · rw [e _ _ (by omega) (by omega)]; exact h1 k hk
  · rw [e _ _ (by omega) (by omega)]; exact h2 k hk i hi
  · rw [e _ _ (by omega) (by omega), e _ _ (by omega) (by omega), e _ _ (by omega) (by omega)]; exact h3 l hl
  · rw [e _ _ (by omega) (by omega)]; exact h4 l hl
  · rw [e _ _ (by omega) (by omega)]; exact h5 l hl g hg
  · rw [e _ _ (by omega) (by omega)]; exact h6 a ha b hb
  · rw [e _ _ (by omega) (by omega)]; exact h7 g hg
  · rw [e _ _ (by omega) (by omega), e _ _ (by omega) (by omega), e _ _ (by omega) (by omega)]; exact h8 i hi
  · rw [e _ _ (by omega) (by omega)]; exact h9
  · rw [e _ _ (by omega) (by omega)]; exact h10
  · obtain ⟨a, b, g1, g2, g3, g4, g5⟩ := h11 f hf
    refine ⟨a, b, ?_, ?_, g3, g4, fun k c hc => ?_⟩
    · rw [e _ _ (by omega) (by omega)]; exact g1
    · rw [e _ _ (by omega) (by omega)]; exact g2
    · rw [e _ _ (by omega) (by omega)]; exact g5 k c hc
theorem mN_of {o b : Nat} {a : aN} {ν ν' : z_S} (h : mN o b a ν) (e : ∀ j, b ≤ j → j < b + 32 → ν'.1 o j = ν.1 o j) : mN o b a ν' := by
  obtain ⟨h1, h2, h3, h4⟩ := h
  refine ⟨?_, fun k hk => ?_, fun k hk => ?_, fun k hk => ⟨?_, ?_, ?_⟩⟩
  · rw [e _ (by omega) (by omega)]; exact h1
  · rw [e _ (by omega) (by omega)]; exact h2 k hk
  · rw [e _ (by omega) (by omega)]; exact h3 k hk
  · rw [e _ (by omega) (by omega)]; exact (h4 k hk).1
  · rw [e _ (by omega) (by omega)]; exact (h4 k hk).2.1
  · rw [e _ (by omega) (by omega)]; exact (h4 k hk).2.2
theorem mH_of {h : aH} {ν ν' : z_S} (hh : mH h ν) (e : ∀ q j, 284 ≤ q → q < 296 → ν'.1 q j = ν.1 q j) (e2 : ∀ j, ν'.2.1 285 j = ν.2.1 285 j) : mH h ν' := by
  obtain ⟨h1, h2, h3, h4, h5, h6, h7, h8, h9, h10, h11⟩ := hh
  refine ⟨fun k hk => ?_, fun k hk i hi => ?_, fun l hl w hw => ?_, fun l hl => ?_, fun l hl g hg => ?_, fun a ha b hb => ?_, fun g hg => ?_, fun i hi w hw => ?_, ?_, ?_, fun f hf => ?_⟩
  · rw [e _ _ (by omega) (by omega)]; exact h1 k hk
  · rw [e2]; exact h2 k hk i hi
  · rw [e _ _ (by omega) (by omega)]; exact h3 l hl w hw
  · rw [e _ _ (by omega) (by omega)]; exact h4 l hl
  · rw [e _ _ (by omega) (by omega)]; exact h5 l hl g hg
  · rw [e _ _ (by omega) (by omega)]; exact h6 a ha b hb
  · rw [e _ _ (by omega) (by omega)]; exact h7 g hg
  · rw [e _ _ (by omega) (by omega)]; exact h8 i hi w hw
  · rw [e _ _ (by omega) (by omega)]; exact h9
  · rw [e _ _ (by omega) (by omega)]; exact h10
  · have h := h11 f hf
    revert h
    cases hForm h f with
    | none => intro h; show ν'.1 293 (2 + f) = -1; rw [e _ _ (by omega) (by omega)]; exact h
    | some cs =>
      rintro ⟨a, b, g1, g2, g3, g4, g5⟩
      refine ⟨a, b, ?_, ?_, g3, g4, fun k c hc => ?_⟩
      · rw [e _ _ (by omega) (by omega)]; exact g1
      · rw [e _ _ (by omega) (by omega)]; exact g2
      · rw [e _ _ (by omega) (by omega)]; exact g5 k c hc
/-- the class' memory with other places changed: what must be kept, what must be told anew -/
theorem cS_of {A A' : aS} {μ μ' : z_S} (ok : okS A) (h : cS A μ) (hb : μ'.2.2 = μ.2.2) (hH : sH A' = sH A) (hHm : ∀ q j, 56 ≤ q → q < 132 → q ≠ 92 → q ≠ 93 → q ≠ 94 → q ≠ 95 → μ'.1 q j = μ.1 q j) (hw : ∀ j, μ'.1 3 j = μ.1 3 j)
    (t1 : μ'.1 1 1 = nI (sLen A')) (t2 : ∀ k, μ'.1 2 k = nI (sTape A' k)) (r1 : ∀ k, k < 6 → μ'.1 55 k = sRef A' k) (f1 : μ'.1 1 2 = sFault A') (f2 : μ'.1 1 3 = sPlace A') (n1 : cN 39 (sN A') μ')
    (p1 : μ'.1 0 17 = nI (sPast A').length) (p2 : ∃ old : Nat, old < 20 ∧ μ'.1 0 18 = nI old ∧ ∀ i a, (sPast A')[i]? = some a → cN (133 + 6 * ((old + (sPast A').length - 1 - i) % 20)) a μ')
    (s1 : μ'.1 0 15 = nI (sSeen A').length) (s2 : ∀ k q, (sSeen A')[k]? = some q → μ'.1 52 k = nI q.1 ∧ μ'.1 53 k = nI q.2) (i1 : μ'.1 0 16 = nI (sImg A').length) (i2 : ∀ k x, (sImg A')[k]? = some x → μ'.1 54 k = nI x) (d1 : μ'.1 0 19 = nI (sSeed A')) : cS A' μ' := by
  obtain ⟨a1, a2, a3, a4, a5, a6, a7, a8, a9⟩ := h
  refine ⟨t1, t2, fun k c hc => by rw [hw]; exact a3 k c hc, r1, f1, f2, by rw [hb]; exact a7, ?_, n1, p1, p2, s1, s2, i1, i2, d1⟩
  rw [hH, hb]
  have hk := ok.2.2.1
  refine cH_of a8 ⟨hk.1, hk.2.1, hk.2.2.1⟩ (fun q j h1 h2 => ?_)
  have hz := z_hn_lt μ.2.2.1
  have q1 : q ≠ 92 ∧ q ≠ 93 ∧ q ≠ 94 ∧ q ≠ 95 := by omega
  exact hHm q j (by omega) (by omega) q1.1 q1.2.1 q1.2.2.1 q1.2.2.2
