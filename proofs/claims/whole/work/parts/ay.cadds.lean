/-! the class' heap with one more letter -/
theorem cH_let {o : Nat} {h : aH} {μ μ' : z_S} (ok : okH h) (hc : cH o h μ) {l : List Nat} {a n g : Nat} (h0 : μ'.1 (o + 1) 0 = nI (hCnt h 0 + 1)) (h1 : μ'.1 (o + 3) (hCnt h 0) = nI (pk32 l 6)) (h2 : μ'.1 (o + 6) (hCnt h 0) = nI a) (h3 : μ'.1 (o + 7) (hCnt h 0) = nI n) (h4 : μ'.1 (o + 8) (hCnt h 0) = nI g) (e : ∀ c j, o ≤ c → c < o + 40 → ¬ (c = o + 1 ∧ j = 0) → ¬ (c = o + 3 ∧ j = hCnt h 0) → ¬ ((c = o + 6 ∨ c = o + 7 ∨ c = o + 8) ∧ j = hCnt h 0) → μ'.1 c j = μ.1 c j) : cH o (hLet h l a n g) μ' := by
  have q8 := ok.1
  have q2 := ok.2.1
  have q3 := ok.2.2.1
  obtain ⟨p1, p2, p3, p4, p5, p6, p7, p8, p9, p10, p11⟩ := hc
  have hcnt : ∀ k, hCnt (hLet h l a n g) k = if k = 0 then hCnt h 0 + 1 else hCnt h k := fun _ => rfl
  refine ⟨fun k hk => ?_, fun k hk i hi => ?_, fun i hi => ?_, fun i hi => ?_, fun i hi w hw => ?_, fun x hx y hy => ?_, fun w hw => ?_, fun i hi => ?_, ?_, ?_, fun f hf => ?_⟩
  · rw [hcnt]
    by_cases c : k = 0
    · rw [if_pos c, c]; exact h0
    · rw [if_neg c, e _ _ (by omega) (by omega) (by omega) (by omega) (by omega)]; exact p1 k hk
  · rw [hcnt] at hi
    show _ = nI (pk32 (up2 (hName h) 0 (hCnt h 0) l k i) 6)
    unfold up2
    by_cases c : k = 0
    · subst c
      rw [if_pos rfl] at hi
      by_cases d : i = hCnt h 0
      · rw [if_pos ⟨rfl, d⟩, d]; exact h1
      · rw [if_neg (fun z => d z.2), e _ _ (by omega) (by omega) (by omega) (by omega) (by omega)]; exact p2 0 (by omega) i (by omega)
    · rw [if_neg c] at hi
      rw [if_neg (fun z => c z.1), e _ _ (by omega) (by omega) (by omega) (by omega) (by omega)]; exact p2 k hk i hi
  · rw [hcnt, if_pos rfl] at hi
    have em : ∀ w, hMail (hLet h l a n g) i w = if i = hCnt h 0 then (if w = 0 then a else if w = 1 then n else if w = 2 then g else hMail h i w) else hMail h i w := fun _ => rfl
    rw [em, em, em]
    by_cases d : i = hCnt h 0
    · rw [if_pos d, if_pos d, if_pos d, d]
      exact ⟨h2, h3, h4⟩
    · rw [if_neg d, if_neg d, if_neg d, e _ _ (by omega) (by omega) (by omega) (by omega) (by omega), e _ _ (by omega) (by omega) (by omega) (by omega) (by omega), e _ _ (by omega) (by omega) (by omega) (by omega) (by omega)]
      exact p3 i (by omega)
  · rw [e _ _ (by omega) (by omega) (by omega) (by omega) (by omega)]; exact p4 i hi
  · rw [e _ _ (by omega) (by omega) (by omega) (by omega) (by omega)]; exact p5 i hi w hw
  · rw [e _ _ (by omega) (by omega) (by omega) (by omega) (by omega)]; exact p6 x hx y hy
  · rw [e _ _ (by omega) (by omega) (by omega) (by omega) (by omega)]; exact p7 w hw
  · rw [e _ _ (by omega) (by omega) (by omega) (by omega) (by omega), e _ _ (by omega) (by omega) (by omega) (by omega) (by omega), e _ _ (by omega) (by omega) (by omega) (by omega) (by omega)]; exact p8 i hi
  · rw [e _ _ (by omega) (by omega) (by omega) (by omega) (by omega)]; exact p9
  · rw [e _ _ (by omega) (by omega) (by omega) (by omega) (by omega)]; exact p10
  · obtain ⟨x, y, z1, z2, z3, z4, z5⟩ := p11 f hf
    exact ⟨x, y, by rw [e _ _ (by omega) (by omega) (by omega) (by omega) (by omega)]; exact z1, by rw [e _ _ (by omega) (by omega) (by omega) (by omega) (by omega)]; exact z2, z3, z4, fun k c hkc => by rw [e _ _ (by omega) (by omega) (by omega) (by omega) (by omega)]; exact z5 k c hkc⟩
