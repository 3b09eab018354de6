/-! the reference's heap with one more letter -/
theorem mK_let {h : aH} {cd : Nat} {ν ν' : z_S} (ok : okH h) (hm : mK h cd ν) {l : List Nat} {a n g : Nat} (hlt : hCnt h 0 < 8) (h0 : ν'.1 284 0 = nI (hCnt h 0 + 1)) (h1 : ν'.2.1 285 (hCnt h 0) = lN (pk27 l)) (h2 : ν'.1 286 (3 * hCnt h 0) = nI a) (h3 : ν'.1 286 (3 * hCnt h 0 + 1) = nI n) (h4 : ν'.1 286 (3 * hCnt h 0 + 2) = nI g) (e : ∀ c j, (284 ≤ c ∧ c ≤ 295) ∨ (c = 253 ∧ j = 51) → ¬ (c = 284 ∧ j = 0) → ¬ (c = 286 ∧ 3 * hCnt h 0 ≤ j ∧ j < 3 * hCnt h 0 + 3) → ν'.1 c j = ν.1 c j) (eJ : ∀ j, j ≠ hCnt h 0 → ν'.2.1 285 j = ν.2.1 285 j) : mK (hLet h l a n g) cd ν' := by
  have q8 := ok.1
  have q2 := ok.2.1
  have q3 := ok.2.2.1
  obtain ⟨p1, p2, p3, p4, p5, p6, p7, p8, p9, p10, p12, p11⟩ := hm
  have hcnt : ∀ k, hCnt (hLet h l a n g) k = if k = 0 then hCnt h 0 + 1 else hCnt h k := fun _ => rfl
  refine ⟨fun k hk => ?_, fun k hk i hi => ?_, fun i hi w hw => ?_, fun i hi => ?_, fun i hi w hw => ?_, fun x hx y hy => ?_, fun w hw => ?_, fun i hi w hw => ?_, ?_, ?_, ?_, fun f hf => ?_⟩
  · rw [hcnt]
    by_cases c : k = 0
    · rw [if_pos c, c]; exact h0
    · rw [if_neg c, e _ _ (by omega) (by omega) (by omega)]; exact p1 k hk
  · rw [hcnt] at hi
    show _ = lN (pk27 (up2 (hName h) 0 (hCnt h 0) l k i))
    unfold up2
    by_cases c : k = 0
    · subst c
      rw [if_pos rfl] at hi
      by_cases d : i = hCnt h 0
      · rw [if_pos ⟨rfl, d⟩, d, show 8 * 0 + hCnt h 0 = hCnt h 0 by omega]; exact h1
      · rw [if_neg (fun z => d z.2), eJ _ (by omega)]; exact p2 0 (by omega) i (by omega)
    · rw [if_neg c] at hi
      rw [if_neg (fun z => c z.1), eJ _ (by omega)]; exact p2 k hk i hi
  · rw [hcnt, if_pos rfl] at hi
    show _ = nI (if i = hCnt h 0 then (if w = 0 then a else if w = 1 then n else if w = 2 then g else hMail h i w) else hMail h i w)
    by_cases d : i = hCnt h 0
    · rw [if_pos d, d]
      have : w = 0 ∨ w = 1 ∨ w = 2 := by omega
      rcases this with rfl | rfl | rfl
      · exact h2
      · exact h3
      · exact h4
    · rw [if_neg d, e _ _ (by omega) (by omega) (by omega)]; exact p3 i (by omega) w hw
  · rw [e _ _ (by omega) (by omega) (by omega)]; exact p4 i hi
  · rw [e _ _ (by omega) (by omega) (by omega)]; exact p5 i hi w hw
  · rw [e _ _ (by omega) (by omega) (by omega)]; exact p6 x hx y hy
  · rw [e _ _ (by omega) (by omega) (by omega)]; exact p7 w hw
  · rw [e _ _ (by omega) (by omega) (by omega)]; exact p8 i hi w hw
  · rw [e _ _ (by omega) (by omega) (by omega)]; exact p9
  · rw [e _ _ (by omega) (by omega) (by omega)]; exact p10
  · rw [e _ _ (by omega) (by omega) (by omega)]; exact p12
  · have pf := p11 f hf
    show match hForm h f with
      | none => ν'.1 293 f = -1
      | some cs => ∃ a b : Nat, ν'.1 293 f = nI a ∧ ν'.1 294 f = nI b ∧ b ≤ cd ∧ b = a + cs.length ∧ ∀ k c, cs[k]? = some c → ν'.1 295 (a + k) = cmap c
    cases hf2 : hForm h f with
    | none =>
      rw [hf2] at pf
      show ν'.1 293 f = -1
      rw [e _ _ (by omega) (by omega) (by omega)]
      exact pf
    | some cs =>
      rw [hf2] at pf
      obtain ⟨x, y, z1, z2, z3, z4, z5⟩ := pf
      exact ⟨x, y, by rw [e _ _ (by omega) (by omega) (by omega)]; exact z1, by rw [e _ _ (by omega) (by omega) (by omega)]; exact z2, z3, z4, fun k c hkc => by rw [e _ _ (by omega) (by omega) (by omega)]; exact z5 k c hkc⟩
