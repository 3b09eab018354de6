theorem cH_hlp {o : Nat} {h : aH} {μ μ' : z_S} (ok : okH h) (hc : cH o h μ) {l : List Nat} {a n g : Nat} (h0 : μ'.1 (o + 1) 2 = nI (hCnt h 2 + 1)) (h1 : μ'.1 (o + 5) (hCnt h 2) = nI (pk32 l 6)) (h2 : μ'.1 (o + 29) (hCnt h 2) = nI a) (h3 : μ'.1 (o + 30) (hCnt h 2) = nI n) (h4 : μ'.1 (o + 31) (hCnt h 2) = nI g) (e : ∀ c j, o ≤ c → c < o + 40 → ¬ (c = o + 1 ∧ j = 2) → ¬ ((c = o + 5 ∨ c = o + 29 ∨ c = o + 30 ∨ c = o + 31) ∧ j = hCnt h 2) → μ'.1 c j = μ.1 c j) : cH o (hHlp h l a n g) μ' := by
  have q8 := ok.1
  have q2 := ok.2.1
  have q3 := ok.2.2.1
  obtain ⟨p1, p2, p3, p4, p5, p6, p7, p8, p9, p10, p11⟩ := hc
  have hcnt : ∀ k, hCnt (hHlp h l a n g) k = if k = 2 then hCnt h 2 + 1 else hCnt h k := fun _ => rfl
  refine ⟨fun k hk => ?_, fun k hk i hi => ?_, fun i hi => ?_, fun i hi => ?_, fun i hi w hw => ?_, fun x hx y hy => ?_, fun w hw => ?_, fun i hi => ?_, ?_, ?_, fun f hf => ?_⟩
  · rw [hcnt]
    by_cases c : k = 2
    · rw [if_pos c, c]; exact h0
    · rw [if_neg c, e _ _ (by omega) (by omega) (by omega) (by omega)]; exact p1 k hk
  · rw [hcnt] at hi
    show _ = nI (pk32 (up2 (hName h) 2 (hCnt h 2) l k i) 6)
    unfold up2
    by_cases c : k = 2
    · subst c
      rw [if_pos rfl] at hi
      by_cases d : i = hCnt h 2
      · rw [if_pos ⟨rfl, d⟩, d]; exact h1
      · rw [if_neg (fun z => d z.2), e _ _ (by omega) (by omega) (by omega) (by omega)]; exact p2 2 (by omega) i (by omega)
    · rw [if_neg c] at hi
      rw [if_neg (fun z => c z.1), e _ _ (by omega) (by omega) (by omega) (by omega)]; exact p2 k hk i hi
  · have hi' : i < hCnt h 0 := hi
    rw [e _ _ (by omega) (by omega) (by omega) (by omega), e _ _ (by omega) (by omega) (by omega) (by omega), e _ _ (by omega) (by omega) (by omega) (by omega)]
    exact p3 i hi'
  · rw [e _ _ (by omega) (by omega) (by omega) (by omega)]; exact p4 i hi
  · rw [e _ _ (by omega) (by omega) (by omega) (by omega)]; exact p5 i hi w hw
  · rw [e _ _ (by omega) (by omega) (by omega) (by omega)]; exact p6 x hx y hy
  · have hw' : w < hCnt h 1 := hw
    rw [e _ _ (by omega) (by omega) (by omega) (by omega)]; exact p7 w hw'
  · rw [hcnt, if_pos rfl] at hi
    have em : ∀ w, hHelp (hHlp h l a n g) i w = if i = hCnt h 2 then (if w = 0 then a else if w = 1 then n else if w = 2 then g else hHelp h i w) else hHelp h i w := fun _ => rfl
    rw [em, em, em]
    by_cases d : i = hCnt h 2
    · rw [if_pos d, if_pos d, if_pos d, d]
      exact ⟨h2, h3, h4⟩
    · rw [if_neg d, if_neg d, if_neg d, e _ _ (by omega) (by omega) (by omega) (by omega), e _ _ (by omega) (by omega) (by omega) (by omega), e _ _ (by omega) (by omega) (by omega) (by omega)]
      exact p8 i (by omega)
  · rw [e _ _ (by omega) (by omega) (by omega) (by omega)]; exact p9
  · rw [e _ _ (by omega) (by omega) (by omega) (by omega)]; exact p10
  · obtain ⟨x, y, z1, z2, z3, z4, z5⟩ := p11 f hf
    exact ⟨x, y, by rw [e _ _ (by omega) (by omega) (by omega) (by omega)]; exact z1, by rw [e _ _ (by omega) (by omega) (by omega) (by omega)]; exact z2, z3, z4, fun k c hkc => by rw [e _ _ (by omega) (by omega) (by omega) (by omega)]; exact z5 k c hkc⟩
