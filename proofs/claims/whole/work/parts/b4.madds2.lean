/-! the reference's heap with one more told -/
theorem mK_gft {h : aH} {cd : Nat} {ν ν' : z_S} (ok : okH h) (hm : mK h cd ν) {l : List Nat} {s : Nat} (hlt : hCnt h 1 < 4) (h0 : ν'.1 284 1 = nI (hCnt h 1 + 1)) (h1 : ν'.2.1 285 (8 * 1 + hCnt h 1) = lN (pk27 l)) (h2 : ν'.1 287 (hCnt h 1) = nI s) (e : ∀ c j, (284 ≤ c ∧ c ≤ 295) ∨ (c = 253 ∧ j = 51) → ¬ (c = 284 ∧ j = 1) → ¬ (c = 287 ∧ j = hCnt h 1) → ν'.1 c j = ν.1 c j) (eJ : ∀ j, j ≠ 8 * 1 + hCnt h 1 → ν'.2.1 285 j = ν.2.1 285 j) : mK (hGft h l s) cd ν' := by
  have q8 := ok.1
  have q2 := ok.2.1
  have q3 := ok.2.2.1
  obtain ⟨p1, p2, p3, p4, p5, p6, p7, p8, p9, p10, p12, p11⟩ := hm
  have hcnt : ∀ k, hCnt (hGft h l s) k = if k = 1 then hCnt h 1 + 1 else hCnt h k := fun _ => rfl
  refine ⟨fun k hk => ?_, fun k hk i hi => ?_, fun i hi w hw => ?_, fun i hi => ?_, fun i hi w hw => ?_, fun x hx y hy => ?_, fun w hw => ?_, fun i hi w hw => ?_, ?_, ?_, ?_, fun f hf => ?_⟩
  · rw [hcnt]
    by_cases c : k = 1
    · rw [if_pos c, c]; exact h0
    · rw [if_neg c, e _ _ (by omega) (by omega) (by omega)]; exact p1 k hk
  · rw [hcnt] at hi
    show _ = lN (pk27 (up2 (hName h) 1 (hCnt h 1) l k i))
    unfold up2
    by_cases c : k = 1
    · subst c
      rw [if_pos rfl] at hi
      by_cases d : i = hCnt h 1
      · rw [if_pos ⟨rfl, d⟩, d]; exact h1
      · rw [if_neg (fun z => d z.2), eJ _ (by omega)]; exact p2 1 (by omega) i (by omega)
    · rw [if_neg c] at hi
      have := ok_8 ok hk
      rw [if_neg (fun z => c z.1), eJ _ (by omega)]; exact p2 k hk i hi
  · have hi' : i < hCnt h 0 := hi
    rw [e _ _ (by omega) (by omega) (by omega)]; exact p3 i hi' w hw
  · rw [e _ _ (by omega) (by omega) (by omega)]; exact p4 i hi
  · rw [e _ _ (by omega) (by omega) (by omega)]; exact p5 i hi w hw
  · rw [e _ _ (by omega) (by omega) (by omega)]; exact p6 x hx y hy
  · rw [hcnt, if_pos rfl] at hw
    show _ = nI (if w = hCnt h 1 then s else hStock h w)
    by_cases d : w = hCnt h 1
    · rw [if_pos d, d]; exact h2
    · rw [if_neg d, e _ _ (by omega) (by omega) (by omega)]; exact p7 w (by omega)
  · have hi' : i < hCnt h 2 := hi
    rw [e _ _ (by omega) (by omega) (by omega)]; exact p8 i hi' w hw
  · rw [e _ _ (by omega) (by omega) (by omega)]; exact p9
  · rw [e _ _ (by omega) (by omega) (by omega)]; exact p10
  · rw [e _ _ (by omega) (by omega) (by omega)]; exact p12
  · have pf := p11 f hf
    show match hForm h f with
      | none => ν'.1 293 f = -1
      | some cs => ∃ a b : Nat, ν'.1 293 f = nI a ∧ ν'.1 294 f = nI b ∧ b ≤ cd ∧ b = a + cs.length ∧ ∀ k c, cs[k]? = some c → ν'.1 295 (a + k) = cmap c
    cases hf2 : hForm h f with
    | none =>
      rw [hf2] at pf
      show ν'.1 293 f = -1
      rw [e _ _ (by omega) (by omega) (by omega)]
      exact pf
    | some cs =>
      rw [hf2] at pf
      obtain ⟨x, y, z1, z2, z3, z4, z5⟩ := pf
      exact ⟨x, y, by rw [e _ _ (by omega) (by omega) (by omega)]; exact z1, by rw [e _ _ (by omega) (by omega) (by omega)]; exact z2, z3, z4, fun k c hkc => by rw [e _ _ (by omega) (by omega) (by omega)]; exact z5 k c hkc⟩
theorem mK_hlp {h : aH} {cd : Nat} {ν ν' : z_S} (ok : okH h) (hm : mK h cd ν) {l : List Nat} {a n g : Nat} (hlt : hCnt h 2 < 3) (h0 : ν'.1 284 2 = nI (hCnt h 2 + 1)) (h1 : ν'.2.1 285 (8 * 2 + hCnt h 2) = lN (pk27 l)) (h2 : ν'.1 291 (3 * hCnt h 2) = nI a) (h3 : ν'.1 291 (3 * hCnt h 2 + 1) = nI n) (h4 : ν'.1 291 (3 * hCnt h 2 + 2) = nI g) (e : ∀ c j, (284 ≤ c ∧ c ≤ 295) ∨ (c = 253 ∧ j = 51) → ¬ (c = 284 ∧ j = 2) → ¬ (c = 291 ∧ 3 * hCnt h 2 ≤ j ∧ j < 3 * hCnt h 2 + 3) → ν'.1 c j = ν.1 c j) (eJ : ∀ j, j ≠ 8 * 2 + hCnt h 2 → ν'.2.1 285 j = ν.2.1 285 j) : mK (hHlp h l a n g) cd ν' := by
  have q8 := ok.1
  have q2 := ok.2.1
  have q3 := ok.2.2.1
  obtain ⟨p1, p2, p3, p4, p5, p6, p7, p8, p9, p10, p12, p11⟩ := hm
  have hcnt : ∀ k, hCnt (hHlp h l a n g) k = if k = 2 then hCnt h 2 + 1 else hCnt h k := fun _ => rfl
  refine ⟨fun k hk => ?_, fun k hk i hi => ?_, fun i hi w hw => ?_, fun i hi => ?_, fun i hi w hw => ?_, fun x hx y hy => ?_, fun w hw => ?_, fun i hi w hw => ?_, ?_, ?_, ?_, fun f hf => ?_⟩
  · rw [hcnt]
    by_cases c : k = 2
    · rw [if_pos c, c]; exact h0
    · rw [if_neg c, e _ _ (by omega) (by omega) (by omega)]; exact p1 k hk
  · rw [hcnt] at hi
    show _ = lN (pk27 (up2 (hName h) 2 (hCnt h 2) l k i))
    unfold up2
    by_cases c : k = 2
    · subst c
      rw [if_pos rfl] at hi
      by_cases d : i = hCnt h 2
      · rw [if_pos ⟨rfl, d⟩, d]; exact h1
      · rw [if_neg (fun z => d z.2), eJ _ (by omega)]; exact p2 2 (by omega) i (by omega)
    · rw [if_neg c] at hi
      have := ok_8 ok hk
      rw [if_neg (fun z => c z.1), eJ _ (by omega)]; exact p2 k hk i hi
  · have hi' : i < hCnt h 0 := hi
    rw [e _ _ (by omega) (by omega) (by omega)]; exact p3 i hi' w hw
  · rw [e _ _ (by omega) (by omega) (by omega)]; exact p4 i hi
  · rw [e _ _ (by omega) (by omega) (by omega)]; exact p5 i hi w hw
  · rw [e _ _ (by omega) (by omega) (by omega)]; exact p6 x hx y hy
  · have hw' : w < hCnt h 1 := hw
    rw [e _ _ (by omega) (by omega) (by omega)]; exact p7 w hw'
  · rw [hcnt, if_pos rfl] at hi
    show _ = nI (if i = hCnt h 2 then (if w = 0 then a else if w = 1 then n else if w = 2 then g else hHelp h i w) else hHelp h i w)
    by_cases d : i = hCnt h 2
    · rw [if_pos d, d]
      have : w = 0 ∨ w = 1 ∨ w = 2 := by omega
      rcases this with rfl | rfl | rfl
      · exact h2
      · exact h3
      · exact h4
    · rw [if_neg d, e _ _ (by omega) (by omega) (by omega)]; exact p8 i (by omega) w hw
  · rw [e _ _ (by omega) (by omega) (by omega)]; exact p9
  · rw [e _ _ (by omega) (by omega) (by omega)]; exact p10
  · rw [e _ _ (by omega) (by omega) (by omega)]; exact p12
  · have pf := p11 f hf
    show match hForm h f with
      | none => ν'.1 293 f = -1
      | some cs => ∃ a b : Nat, ν'.1 293 f = nI a ∧ ν'.1 294 f = nI b ∧ b ≤ cd ∧ b = a + cs.length ∧ ∀ k c, cs[k]? = some c → ν'.1 295 (a + k) = cmap c
    cases hf2 : hForm h f with
    | none =>
      rw [hf2] at pf
      show ν'.1 293 f = -1
      rw [e _ _ (by omega) (by omega) (by omega)]
      exact pf
    | some cs =>
      rw [hf2] at pf
      obtain ⟨x, y, z1, z2, z3, z4, z5⟩ := pf
      exact ⟨x, y, by rw [e _ _ (by omega) (by omega) (by omega)]; exact z1, by rw [e _ _ (by omega) (by omega) (by omega)]; exact z2, z3, z4, fun k c hkc => by rw [e _ _ (by omega) (by omega) (by omega)]; exact z5 k c hkc⟩
theorem mK_nr {h : aH} {cd : Nat} {ν ν' : z_S} (ok : okH h) (hm : mK h cd ν) {a b : Nat} (hab : a ≠ b) (h0 : ν'.1 284 3 = nI (hCnt h 3 + 1)) (h1 : ν'.1 289 a = nI (nearB (hNr h a b) a)) (h2 : ν'.1 289 b = nI (nearB (hNr h a b) b)) (e : ∀ c j, (284 ≤ c ∧ c ≤ 295) ∨ (c = 253 ∧ j = 51) → ¬ (c = 284 ∧ j = 3) → ¬ (c = 289 ∧ (j = a ∨ j = b)) → ν'.1 c j = ν.1 c j) (eJ : ν'.2.1 = ν.2.1) : mK (hNr h a b) cd ν' := by
  have q8 := ok.1
  have q2 := ok.2.1
  have q3 := ok.2.2.1
  obtain ⟨p1, p2, p3, p4, p5, p6, p7, p8, p9, p10, p12, p11⟩ := hm
  have hcnt : ∀ k, hCnt (hNr h a b) k = if k = 3 then hCnt h 3 + 1 else hCnt h k := fun _ => rfl
  refine ⟨fun k hk => ?_, fun k hk i hi => ?_, fun i hi w hw => ?_, fun i hi => ?_, fun i hi w hw => ?_, fun x hx y hy => ?_, fun w hw => ?_, fun i hi w hw => ?_, ?_, ?_, ?_, fun f hf => ?_⟩
  · rw [hcnt]
    by_cases c : k = 3
    · rw [if_pos c, c]; exact h0
    · rw [if_neg c, e _ _ (by omega) (by omega) (by omega)]; exact p1 k hk
  · show _ = lN (pk27 (if k < 3 then hName h k i else [1]))
    rw [if_pos hk, eJ]
    exact p2 k hk i (by have hi' := hi; rw [hcnt, if_neg (by omega)] at hi'; exact hi')
  · have hi' : i < hCnt h 0 := hi
    rw [e _ _ (by omega) (by omega) (by omega)]; exact p3 i hi' w hw
  · by_cases c : i = a
    · rw [c]; exact h1
    · by_cases d : i = b
      · rw [d]; exact h2
      · rw [e _ _ (by omega) (by omega) (by omega), nearB_o c d]; exact p4 i hi
  · rw [e _ _ (by omega) (by omega) (by omega)]; exact p5 i hi w hw
  · rw [e _ _ (by omega) (by omega) (by omega)]; exact p6 x hx y hy
  · have hw' : w < hCnt h 1 := hw
    rw [e _ _ (by omega) (by omega) (by omega)]; exact p7 w hw'
  · have hi' : i < hCnt h 2 := hi
    rw [e _ _ (by omega) (by omega) (by omega)]; exact p8 i hi' w hw
  · rw [e _ _ (by omega) (by omega) (by omega)]; exact p9
  · rw [e _ _ (by omega) (by omega) (by omega)]; exact p10
  · rw [e _ _ (by omega) (by omega) (by omega)]; exact p12
  · have pf := p11 f hf
    show match hForm h f with
      | none => ν'.1 293 f = -1
      | some cs => ∃ a b : Nat, ν'.1 293 f = nI a ∧ ν'.1 294 f = nI b ∧ b ≤ cd ∧ b = a + cs.length ∧ ∀ k c, cs[k]? = some c → ν'.1 295 (a + k) = cmap c
    cases hf2 : hForm h f with
    | none =>
      rw [hf2] at pf
      show ν'.1 293 f = -1
      rw [e _ _ (by omega) (by omega) (by omega)]
      exact pf
    | some cs =>
      rw [hf2] at pf
      obtain ⟨x, y, z1, z2, z3, z4, z5⟩ := pf
      exact ⟨x, y, by rw [e _ _ (by omega) (by omega) (by omega)]; exact z1, by rw [e _ _ (by omega) (by omega) (by omega)]; exact z2, z3, z4, fun k c hkc => by rw [e _ _ (by omega) (by omega) (by omega)]; exact z5 k c hkc⟩
theorem mK_lk {h : aH} {cd : Nat} {ν ν' : z_S} (ok : okH h) (hm : mK h cd ν) {a b v : Nat} (ha8 : a < 8) (hb8 : b < 8) (h0 : ν'.1 284 4 = nI (hCnt h 4 + 1)) (h1 : ν'.1 290 (8 * a + b) = nI (v + 1)) (h2 : ν'.1 290 (8 * b + a) = nI (v + 1)) (e : ∀ c j, (284 ≤ c ∧ c ≤ 295) ∨ (c = 253 ∧ j = 51) → ¬ (c = 284 ∧ j = 4) → ¬ (c = 290 ∧ (j = 8 * a + b ∨ j = 8 * b + a)) → ν'.1 c j = ν.1 c j) (eJ : ν'.2.1 = ν.2.1) : mK (hLk h a b v) cd ν' := by
  have q8 := ok.1
  have q2 := ok.2.1
  have q3 := ok.2.2.1
  obtain ⟨p1, p2, p3, p4, p5, p6, p7, p8, p9, p10, p12, p11⟩ := hm
  have hcnt : ∀ k, hCnt (hLk h a b v) k = if k = 4 then hCnt h 4 + 1 else hCnt h k := fun _ => rfl
  refine ⟨fun k hk => ?_, fun k hk i hi => ?_, fun i hi w hw => ?_, fun i hi => ?_, fun i hi w hw => ?_, fun x hx y hy => ?_, fun w hw => ?_, fun i hi w hw => ?_, ?_, ?_, ?_, fun f hf => ?_⟩
  · rw [hcnt]
    by_cases c : k = 4
    · rw [if_pos c, c]; exact h0
    · rw [if_neg c, e _ _ (by omega) (by omega) (by omega)]; exact p1 k hk
  · show _ = lN (pk27 (if k < 3 then hName h k i else [1]))
    rw [if_pos hk, eJ]
    exact p2 k hk i (by have hi' := hi; rw [hcnt, if_neg (by omega)] at hi'; exact hi')
  · have hi' : i < hCnt h 0 := hi
    rw [e _ _ (by omega) (by omega) (by omega)]; exact p3 i hi' w hw
  · rw [e _ _ (by omega) (by omega) (by omega)]; exact p4 i hi
  · rw [e _ _ (by omega) (by omega) (by omega)]; exact p5 i hi w hw
  · show _ = nI (if (x = a ∧ y = b) ∨ (x = b ∧ y = a) then v + 1 else hOdds h x y) 
    by_cases c : (x = a ∧ y = b) ∨ (x = b ∧ y = a)
    · rw [if_pos c]
      rcases c with ⟨c1, c2⟩ | ⟨c1, c2⟩
      · rw [c1, c2]; exact h1
      · rw [c1, c2]; exact h2
    · rw [if_neg c, e _ _ (by omega) (by omega) (by omega)]; exact p6 x hx y hy
  · have hw' : w < hCnt h 1 := hw
    rw [e _ _ (by omega) (by omega) (by omega)]; exact p7 w hw'
  · have hi' : i < hCnt h 2 := hi
    rw [e _ _ (by omega) (by omega) (by omega)]; exact p8 i hi' w hw
  · rw [e _ _ (by omega) (by omega) (by omega)]; exact p9
  · rw [e _ _ (by omega) (by omega) (by omega)]; exact p10
  · rw [e _ _ (by omega) (by omega) (by omega)]; exact p12
  · have pf := p11 f hf
    show match hForm h f with
      | none => ν'.1 293 f = -1
      | some cs => ∃ a b : Nat, ν'.1 293 f = nI a ∧ ν'.1 294 f = nI b ∧ b ≤ cd ∧ b = a + cs.length ∧ ∀ k c, cs[k]? = some c → ν'.1 295 (a + k) = cmap c
    cases hf2 : hForm h f with
    | none =>
      rw [hf2] at pf
      show ν'.1 293 f = -1
      rw [e _ _ (by omega) (by omega) (by omega)]
      exact pf
    | some cs =>
      rw [hf2] at pf
      obtain ⟨x, y, z1, z2, z3, z4, z5⟩ := pf
      exact ⟨x, y, by rw [e _ _ (by omega) (by omega) (by omega)]; exact z1, by rw [e _ _ (by omega) (by omega) (by omega)]; exact z2, z3, z4, fun k c hkc => by rw [e _ _ (by omega) (by omega) (by omega)]; exact z5 k c hkc⟩
theorem mK_ws {h : aH} {cd : Nat} {ν ν' : z_S} (ok : okH h) (hm : mK h cd ν) {l g v : Nat} (hg4 : g < 4) (h1 : ν'.1 288 (4 * l + g) = nI v) (e : ∀ c j, (284 ≤ c ∧ c ≤ 295) ∨ (c = 253 ∧ j = 51) → ¬ (c = 288 ∧ j = 4 * l + g) → ν'.1 c j = ν.1 c j) (eJ : ν'.2.1 = ν.2.1) : mK (hWs h l g v) cd ν' := by
  have q8 := ok.1
  have q2 := ok.2.1
  have q3 := ok.2.2.1
  obtain ⟨p1, p2, p3, p4, p5, p6, p7, p8, p9, p10, p12, p11⟩ := hm
  refine ⟨fun k hk => ?_, fun k hk i hi => ?_, fun i hi w hw => ?_, fun i hi => ?_, fun i hi w hw => ?_, fun x hx y hy => ?_, fun w hw => ?_, fun i hi w hw => ?_, ?_, ?_, ?_, fun f hf => ?_⟩
  · rw [e _ _ (by omega) (by omega)]; exact p1 k hk
  · rw [eJ]; exact p2 k hk i hi
  · have hi' : i < hCnt h 0 := hi
    rw [e _ _ (by omega) (by omega)]; exact p3 i hi' w hw
  · rw [e _ _ (by omega) (by omega)]; exact p4 i hi
  · show _ = nI (if i = l ∧ w = g then v else hWish h i w)
    by_cases c : i = l ∧ w = g
    · rw [if_pos c, c.1, c.2]; exact h1
    · rw [if_neg c, e _ _ (by omega) (by omega)]; exact p5 i hi w hw
  · rw [e _ _ (by omega) (by omega)]; exact p6 x hx y hy
  · have hw' : w < hCnt h 1 := hw
    rw [e _ _ (by omega) (by omega)]; exact p7 w hw'
  · have hi' : i < hCnt h 2 := hi
    rw [e _ _ (by omega) (by omega)]; exact p8 i hi' w hw
  · rw [e _ _ (by omega) (by omega)]; exact p9
  · rw [e _ _ (by omega) (by omega)]; exact p10
  · rw [e _ _ (by omega) (by omega)]; exact p12
  · have pf := p11 f hf
    show match hForm h f with
      | none => ν'.1 293 f = -1
      | some cs => ∃ a b : Nat, ν'.1 293 f = nI a ∧ ν'.1 294 f = nI b ∧ b ≤ cd ∧ b = a + cs.length ∧ ∀ k c, cs[k]? = some c → ν'.1 295 (a + k) = cmap c
    cases hf2 : hForm h f with
    | none =>
      rw [hf2] at pf
      show ν'.1 293 f = -1
      rw [e _ _ (by omega) (by omega)]
      exact pf
    | some cs =>
      rw [hf2] at pf
      obtain ⟨x, y, z1, z2, z3, z4, z5⟩ := pf
      exact ⟨x, y, by rw [e _ _ (by omega) (by omega)]; exact z1, by rw [e _ _ (by omega) (by omega)]; exact z2, z3, z4, fun k c hkc => by rw [e _ _ (by omega) (by omega)]; exact z5 k c hkc⟩
theorem mK_ms {h : aH} {cd : Nat} {ν ν' : z_S} (ok : okH h) (hm : mK h cd ν) {v : Nat} (h1 : ν'.1 292 0 = nI v) (e : ∀ c j, (284 ≤ c ∧ c ≤ 295) ∨ (c = 253 ∧ j = 51) → ¬ (c = 292 ∧ j = 0) → ν'.1 c j = ν.1 c j) (eJ : ν'.2.1 = ν.2.1) : mK (hMs h v) cd ν' := by
  have q8 := ok.1
  have q2 := ok.2.1
  have q3 := ok.2.2.1
  obtain ⟨p1, p2, p3, p4, p5, p6, p7, p8, p9, p10, p12, p11⟩ := hm
  refine ⟨fun k hk => ?_, fun k hk i hi => ?_, fun i hi w hw => ?_, fun i hi => ?_, fun i hi w hw => ?_, fun x hx y hy => ?_, fun w hw => ?_, fun i hi w hw => ?_, ?_, ?_, ?_, fun f hf => ?_⟩
  · rw [e _ _ (by omega) (by omega)]; exact p1 k hk
  · rw [eJ]; exact p2 k hk i hi
  · have hi' : i < hCnt h 0 := hi
    rw [e _ _ (by omega) (by omega)]; exact p3 i hi' w hw
  · rw [e _ _ (by omega) (by omega)]; exact p4 i hi
  · rw [e _ _ (by omega) (by omega)]; exact p5 i hi w hw
  · rw [e _ _ (by omega) (by omega)]; exact p6 x hx y hy
  · have hw' : w < hCnt h 1 := hw
    rw [e _ _ (by omega) (by omega)]; exact p7 w hw'
  · have hi' : i < hCnt h 2 := hi
    rw [e _ _ (by omega) (by omega)]; exact p8 i hi' w hw
  · exact h1
  · rw [e _ _ (by omega) (by omega)]; exact p10
  · rw [e _ _ (by omega) (by omega)]; exact p12
  · have pf := p11 f hf
    show match hForm h f with
      | none => ν'.1 293 f = -1
      | some cs => ∃ a b : Nat, ν'.1 293 f = nI a ∧ ν'.1 294 f = nI b ∧ b ≤ cd ∧ b = a + cs.length ∧ ∀ k c, cs[k]? = some c → ν'.1 295 (a + k) = cmap c
    cases hf2 : hForm h f with
    | none =>
      rw [hf2] at pf
      show ν'.1 293 f = -1
      rw [e _ _ (by omega) (by omega)]
      exact pf
    | some cs =>
      rw [hf2] at pf
      obtain ⟨x, y, z1, z2, z3, z4, z5⟩ := pf
      exact ⟨x, y, by rw [e _ _ (by omega) (by omega)]; exact z1, by rw [e _ _ (by omega) (by omega)]; exact z2, z3, z4, fun k c hkc => by rw [e _ _ (by omega) (by omega)]; exact z5 k c hkc⟩
theorem mK_co {h : aH} {cd : Nat} {ν ν' : z_S} (ok : okH h) (hm : mK h cd ν) {v : Nat} (h1 : ν'.1 292 1 = nI v) (e : ∀ c j, (284 ≤ c ∧ c ≤ 295) ∨ (c = 253 ∧ j = 51) → ¬ (c = 292 ∧ j = 1) → ν'.1 c j = ν.1 c j) (eJ : ν'.2.1 = ν.2.1) : mK (hCo h v) cd ν' := by
  have q8 := ok.1
  have q2 := ok.2.1
  have q3 := ok.2.2.1
  obtain ⟨p1, p2, p3, p4, p5, p6, p7, p8, p9, p10, p12, p11⟩ := hm
  refine ⟨fun k hk => ?_, fun k hk i hi => ?_, fun i hi w hw => ?_, fun i hi => ?_, fun i hi w hw => ?_, fun x hx y hy => ?_, fun w hw => ?_, fun i hi w hw => ?_, ?_, ?_, ?_, fun f hf => ?_⟩
  · rw [e _ _ (by omega) (by omega)]; exact p1 k hk
  · rw [eJ]; exact p2 k hk i hi
  · have hi' : i < hCnt h 0 := hi
    rw [e _ _ (by omega) (by omega)]; exact p3 i hi' w hw
  · rw [e _ _ (by omega) (by omega)]; exact p4 i hi
  · rw [e _ _ (by omega) (by omega)]; exact p5 i hi w hw
  · rw [e _ _ (by omega) (by omega)]; exact p6 x hx y hy
  · have hw' : w < hCnt h 1 := hw
    rw [e _ _ (by omega) (by omega)]; exact p7 w hw'
  · have hi' : i < hCnt h 2 := hi
    rw [e _ _ (by omega) (by omega)]; exact p8 i hi' w hw
  · rw [e _ _ (by omega) (by omega)]; exact p9
  · exact h1
  · rw [e _ _ (by omega) (by omega)]; exact p12
  · have pf := p11 f hf
    show match hForm h f with
      | none => ν'.1 293 f = -1
      | some cs => ∃ a b : Nat, ν'.1 293 f = nI a ∧ ν'.1 294 f = nI b ∧ b ≤ cd ∧ b = a + cs.length ∧ ∀ k c, cs[k]? = some c → ν'.1 295 (a + k) = cmap c
    cases hf2 : hForm h f with
    | none =>
      rw [hf2] at pf
      show ν'.1 293 f = -1
      rw [e _ _ (by omega) (by omega)]
      exact pf
    | some cs =>
      rw [hf2] at pf
      obtain ⟨x, y, z1, z2, z3, z4, z5⟩ := pf
      exact ⟨x, y, by rw [e _ _ (by omega) (by omega)]; exact z1, by rw [e _ _ (by omega) (by omega)]; exact z2, z3, z4, fun k c hkc => by rw [e _ _ (by omega) (by omega)]; exact z5 k c hkc⟩
theorem mK_fo {h : aH} {cd : Nat} {ν ν' : z_S} (ok : okH h) (hm : mK h cd ν) {f0 : Nat} {cs : List Int32} (h0 : ν'.1 253 51 = nI (cd + cs.length)) (h1 : ν'.1 293 f0 = nI cd) (h2 : ν'.1 294 f0 = nI (cd + cs.length)) (h4 : ∀ k c, cs[k]? = some c → ν'.1 295 (cd + k) = cmap c) (e : ∀ c j, (284 ≤ c ∧ c ≤ 295) ∨ (c = 253 ∧ j = 51) → ¬ ((c = 293 ∨ c = 294) ∧ j = f0) → ¬ (c = 295 ∧ cd ≤ j) → c ≠ 253 → ν'.1 c j = ν.1 c j) (eJ : ν'.2.1 = ν.2.1) : mK (hFo h f0 cs) (cd + cs.length) ν' := by
  have q8 := ok.1
  have q2 := ok.2.1
  have q3 := ok.2.2.1
  obtain ⟨p1, p2, p3, p4, p5, p6, p7, p8, p9, p10, p12, p11⟩ := hm
  refine ⟨fun k hk => ?_, fun k hk i hi => ?_, fun i hi w hw => ?_, fun i hi => ?_, fun i hi w hw => ?_, fun x hx y hy => ?_, fun w hw => ?_, fun i hi w hw => ?_, ?_, ?_, ?_, fun f hf => ?_⟩
  · rw [e _ _ (by omega) (by omega) (by omega) (by omega)]; exact p1 k hk
  · rw [eJ]; exact p2 k hk i hi
  · have hi' : i < hCnt h 0 := hi
    rw [e _ _ (by omega) (by omega) (by omega) (by omega)]; exact p3 i hi' w hw
  · rw [e _ _ (by omega) (by omega) (by omega) (by omega)]; exact p4 i hi
  · rw [e _ _ (by omega) (by omega) (by omega) (by omega)]; exact p5 i hi w hw
  · rw [e _ _ (by omega) (by omega) (by omega) (by omega)]; exact p6 x hx y hy
  · have hw' : w < hCnt h 1 := hw
    rw [e _ _ (by omega) (by omega) (by omega) (by omega)]; exact p7 w hw'
  · have hi' : i < hCnt h 2 := hi
    rw [e _ _ (by omega) (by omega) (by omega) (by omega)]; exact p8 i hi' w hw
  · rw [e _ _ (by omega) (by omega) (by omega) (by omega)]; exact p9
  · rw [e _ _ (by omega) (by omega) (by omega) (by omega)]; exact p10
  · exact h0
  · have pf := p11 f hf
    by_cases c : f = f0
    · have ef : hForm (hFo h f0 cs) f = some cs := by
        show (if f = f0 then some cs else hForm h f) = some cs
        rw [if_pos c]
      rw [ef, c]
      exact ⟨cd, cd + cs.length, h1, h2, Nat.le_refl _, rfl, h4⟩
    · have ef : hForm (hFo h f0 cs) f = hForm h f := by
        show (if f = f0 then some cs else hForm h f) = _
        rw [if_neg c]
      rw [ef]
      cases hf2 : hForm h f with
      | none =>
        rw [hf2] at pf
        show ν'.1 293 f = -1
        rw [e _ _ (by omega) (by omega) (by omega) (by omega)]
        exact pf
      | some ds =>
        rw [hf2] at pf
        obtain ⟨x, y, z1, z2, z3, z4, z5⟩ := pf
        exact ⟨x, y, by rw [e _ _ (by omega) (by omega) (by omega) (by omega)]; exact z1, by rw [e _ _ (by omega) (by omega) (by omega) (by omega)]; exact z2, by omega, z4, fun k c hkc => by
          have := (List.getElem?_eq_some_iff.mp hkc).1
          rw [e _ _ (by omega) (by omega) (by omega) (by omega)]; exact z5 k c hkc⟩
