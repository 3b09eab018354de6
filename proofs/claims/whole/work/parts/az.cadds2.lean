theorem cH_gft {o : Nat} {h : aH} {μ μ' : z_S} (ok : okH h) (hc : cH o h μ) {l : List Nat} {s : Nat} (h0 : μ'.1 (o + 1) 1 = nI (hCnt h 1 + 1)) (h1 : μ'.1 (o + 4) (hCnt h 1) = nI (pk32 l 6)) (h2 : μ'.1 (o + 28) (hCnt h 1) = nI s) (e : ∀ c j, o ≤ c → c < o + 40 → ¬ (c = o + 1 ∧ j = 1) → ¬ ((c = o + 4 ∨ c = o + 28) ∧ j = hCnt h 1) → μ'.1 c j = μ.1 c j) (h4 : hCnt h 1 < 4) : cH o (hGft h l s) μ' := by
  have q8 := ok.1
  have q2 := ok.2.1
  have q3 := ok.2.2.1
  obtain ⟨p1, p2, p3, p4, p5, p6, p7, p8, p9, p10, p11⟩ := hc
  have hcnt : ∀ k, hCnt (hGft h l s) k = if k = 1 then hCnt h 1 + 1 else hCnt h k := fun _ => rfl
  have ew : ∀ l' g, l' < 8 → g < 4 → μ'.1 (o + 11 + l') g = μ.1 (o + 11 + l') g := fun l' g a b => e _ _ (by omega) (by omega) (by omega) (by omega)
  refine ⟨fun k hk => ?_, fun k hk i hi => ?_, fun i hi => ?_, fun i hi => ?_, fun i hi w hw => ?_, fun x hx y hy => ?_, fun w hw => ?_, fun i hi => ?_, ?_, ?_, fun f hf => ?_⟩
  · rw [hcnt]
    by_cases c : k = 1
    · rw [if_pos c, c]; exact h0
    · rw [if_neg c, e _ _ (by omega) (by omega) (by omega) (by omega)]; exact p1 k hk
  · rw [hcnt] at hi
    show _ = nI (pk32 (up2 (hName h) 1 (hCnt h 1) l k i) 6)
    unfold up2
    by_cases c : k = 1
    · subst c
      rw [if_pos rfl] at hi
      by_cases d : i = hCnt h 1
      · rw [if_pos ⟨rfl, d⟩, d]; exact h1
      · rw [if_neg (fun z => d z.2), e _ _ (by omega) (by omega) (by omega) (by omega)]; exact p2 1 (by omega) i (by omega)
    · rw [if_neg c] at hi
      rw [if_neg (fun z => c z.1), e _ _ (by omega) (by omega) (by omega) (by omega)]; exact p2 k hk i hi
  · have hi' : i < hCnt h 0 := hi
    rw [e _ _ (by omega) (by omega) (by omega) (by omega), e _ _ (by omega) (by omega) (by omega) (by omega), e _ _ (by omega) (by omega) (by omega) (by omega)]
    exact p3 i hi'
  · rw [e _ _ (by omega) (by omega) (by omega) (by omega)]; exact p4 i hi
  · rw [ew i w hi hw]; exact p5 i hi w hw
  · rw [e _ _ (by omega) (by omega) (by omega) (by omega)]; exact p6 x hx y hy
  · rw [hcnt, if_pos rfl] at hw
    show _ = nI (if w = hCnt h 1 then s else hStock h w)
    by_cases d : w = hCnt h 1
    · rw [if_pos d, d]; exact h2
    · rw [if_neg d, e _ _ (by omega) (by omega) (by omega) (by omega)]; exact p7 w (by omega)
  · have hi' : i < hCnt h 2 := hi
    rw [e _ _ (by omega) (by omega) (by omega) (by omega), e _ _ (by omega) (by omega) (by omega) (by omega), e _ _ (by omega) (by omega) (by omega) (by omega)]; exact p8 i hi'
  · rw [e _ _ (by omega) (by omega) (by omega) (by omega)]; exact p9
  · rw [e _ _ (by omega) (by omega) (by omega) (by omega)]; exact p10
  · obtain ⟨x, y, z1, z2, z3, z4, z5⟩ := p11 f hf
    exact ⟨x, y, by rw [e _ _ (by omega) (by omega) (by omega) (by omega)]; exact z1, by rw [e _ _ (by omega) (by omega) (by omega) (by omega)]; exact z2, z3, z4, fun k c hkc => by rw [e _ _ (by omega) (by omega) (by omega) (by omega)]; exact z5 k c hkc⟩
