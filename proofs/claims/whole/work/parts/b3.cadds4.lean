/-! the class' heap with one more pair, wish, setting, formula -/
theorem nb8_or : ∀ b0 b1 b2 b3 b4 b5 b6 b7 : Bool, ∀ k, k < 8 → nI (nb8 b0 b1 b2 b3 b4 b5 b6 b7) ||| ((1 : Int32) <<< (nI k &&& 31)) = nI (nb8 (b0 || k == 0) (b1 || k == 1) (b2 || k == 2) (b3 || k == 3) (b4 || k == 4) (b5 || k == 5) (b6 || k == 6) (b7 || k == 7)) := by decide +kernel
theorem near_up {h h' : aH} {l l' k : Nat} (hk : k < 8) (e : ∀ j, hNear h' l' j = (hNear h l j || j == k)) : nI (nearB h l) ||| ((1 : Int32) <<< (nI k &&& 31)) = nI (nearB h' l') := by
  rw [nearB_8, nearB_8, nb8_or _ _ _ _ _ _ _ _ k hk, e, e, e, e, e, e, e, e]
  rcases (show k = 0 ∨ k = 1 ∨ k = 2 ∨ k = 3 ∨ k = 4 ∨ k = 5 ∨ k = 6 ∨ k = 7 by omega) with rfl | rfl | rfl | rfl | rfl | rfl | rfl | rfl <;> rfl
theorem near_at (h : aH) (a b i j : Nat) : hNear (hNr h a b) i j = if (i = a ∧ j = b) ∨ (i = b ∧ j = a) then true else hNear h i j := rfl
theorem near_a {h : aH} {a b : Nat} (hab : a ≠ b) (hb : b < 8) : nI (nearB h a) ||| ((1 : Int32) <<< (nI b &&& 31)) = nI (nearB (hNr h a b) a) := near_up hb fun j => by
  rw [near_at]
  by_cases c : j = b
  · rw [if_pos (Or.inl ⟨rfl, c⟩), c]; simp
  · rw [if_neg (by omega)]; simp [c]
theorem near_b {h : aH} {a b : Nat} (hab : a ≠ b) (ha : a < 8) : nI (nearB h b) ||| ((1 : Int32) <<< (nI a &&& 31)) = nI (nearB (hNr h a b) b) := near_up ha fun j => by
  rw [near_at]
  by_cases c : j = a
  · rw [if_pos (Or.inr ⟨rfl, c⟩), c]; simp
  · rw [if_neg (by omega)]; simp [c]
theorem nearB_o {h : aH} {a b i : Nat} (c : ¬ i = a) (d : ¬ i = b) : nearB (hNr h a b) i = nearB h i := by
  rw [nearB_8, nearB_8]
  have e : ∀ j, hNear (hNr h a b) i j = hNear h i j := fun j => by rw [near_at, if_neg (by omega)]
  rw [e, e, e, e, e, e, e, e]
theorem cH_nr {o : Nat} {h : aH} {μ μ' : z_S} (ok : okH h) (hc : cH o h μ) {a b : Nat} (hab : a ≠ b) (h0 : μ'.1 (o + 1) 3 = nI (hCnt h 3 + 1)) (h1 : μ'.1 (o + 9) a = nI (nearB (hNr h a b) a)) (h2 : μ'.1 (o + 9) b = nI (nearB (hNr h a b) b)) (e : ∀ c j, o ≤ c → c < o + 36 → ¬ (c = o + 1 ∧ j = 3) → ¬ (c = o + 9 ∧ (j = a ∨ j = b)) → μ'.1 c j = μ.1 c j) : cH o (hNr h a b) μ' := by
  have q8 := ok.1
  have q2 := ok.2.1
  have q3 := ok.2.2.1
  obtain ⟨p1, p2, p3, p4, p5, p6, p7, p8, p9, p10, p11⟩ := hc
  have hcnt : ∀ k, hCnt (hNr h a b) k = if k = 3 then hCnt h 3 + 1 else hCnt h k := fun _ => rfl
  refine ⟨fun k hk => ?_, fun k hk i hi => ?_, fun i hi => ?_, fun i hi => ?_, fun i hi w hw => ?_, fun x hx y hy => ?_, fun w hw => ?_, fun i hi => ?_, ?_, ?_, fun f hf => ?_⟩
  · rw [hcnt]
    by_cases c : k = 3
    · rw [if_pos c, c]; exact h0
    · rw [if_neg c, e _ _ (by omega) (by omega) (by omega) (by omega)]; exact p1 k hk
  · show _ = nI (pk32 (if k < 3 then hName h k i else [1]) 6)
    rw [if_pos hk, e _ _ (by omega) (by omega) (by omega) (by omega)]
    exact p2 k hk i (by have hi' := hi; rw [hcnt, if_neg (by omega)] at hi'; exact hi')
  · have hi' : i < hCnt h 0 := hi
    rw [e _ _ (by omega) (by omega) (by omega) (by omega), e _ _ (by omega) (by omega) (by omega) (by omega), e _ _ (by omega) (by omega) (by omega) (by omega)]; exact p3 i hi'
  · by_cases c : i = a
    · rw [c]; exact h1
    · by_cases d : i = b
      · rw [d]; exact h2
      · rw [e _ _ (by omega) (by omega) (by omega) (by omega), nearB_o c d]; exact p4 i hi
  · rw [e _ _ (by omega) (by omega) (by omega) (by omega)]; exact p5 i hi w hw
  · rw [e _ _ (by omega) (by omega) (by omega) (by omega)]; exact p6 x hx y hy
  · have hw' : w < hCnt h 1 := hw
    rw [e _ _ (by omega) (by omega) (by omega) (by omega)]; exact p7 w hw'
  · have hi' : i < hCnt h 2 := hi
    rw [e _ _ (by omega) (by omega) (by omega) (by omega), e _ _ (by omega) (by omega) (by omega) (by omega), e _ _ (by omega) (by omega) (by omega) (by omega)]; exact p8 i hi'
  · rw [e _ _ (by omega) (by omega) (by omega) (by omega)]; exact p9
  · rw [e _ _ (by omega) (by omega) (by omega) (by omega)]; exact p10
  · obtain ⟨x, y, z1, z2, z3, z4, z5⟩ := p11 f hf
    exact ⟨x, y, by rw [e _ _ (by omega) (by omega) (by omega) (by omega)]; exact z1, by rw [e _ _ (by omega) (by omega) (by omega) (by omega)]; exact z2, z3, z4, fun k c hkc => by rw [e _ _ (by omega) (by omega) (by omega) (by omega)]; exact z5 k c hkc⟩
theorem cH_lk {o : Nat} {h : aH} {μ μ' : z_S} (ok : okH h) (hc : cH o h μ) {a b v : Nat} (ha8 : a < 8) (hb8 : b < 8) (h0 : μ'.1 (o + 1) 4 = nI (hCnt h 4 + 1)) (h1 : μ'.1 (o + 20 + a) b = nI (v + 1) - 1) (h2 : μ'.1 (o + 20 + b) a = nI (v + 1) - 1) (e : ∀ c j, o ≤ c → c < o + 36 → ¬ (c = o + 1 ∧ j = 4) → ¬ (c = o + 20 + a ∧ j = b) → ¬ (c = o + 20 + b ∧ j = a) → μ'.1 c j = μ.1 c j) : cH o (hLk h a b v) μ' := by
  have q8 := ok.1
  have q2 := ok.2.1
  have q3 := ok.2.2.1
  obtain ⟨p1, p2, p3, p4, p5, p6, p7, p8, p9, p10, p11⟩ := hc
  have hcnt : ∀ k, hCnt (hLk h a b v) k = if k = 4 then hCnt h 4 + 1 else hCnt h k := fun _ => rfl
  refine ⟨fun k hk => ?_, fun k hk i hi => ?_, fun i hi => ?_, fun i hi => ?_, fun i hi w hw => ?_, fun x hx y hy => ?_, fun w hw => ?_, fun i hi => ?_, ?_, ?_, fun f hf => ?_⟩
  · rw [hcnt]
    by_cases c : k = 4
    · rw [if_pos c, c]; exact h0
    · rw [if_neg c, e _ _ (by omega) (by omega) (by omega) (by omega) (by omega)]; exact p1 k hk
  · show _ = nI (pk32 (if k < 3 then hName h k i else [1]) 6)
    rw [if_pos hk, e _ _ (by omega) (by omega) (by omega) (by omega) (by omega)]
    exact p2 k hk i (by have hi' := hi; rw [hcnt, if_neg (by omega)] at hi'; exact hi')
  · have hi' : i < hCnt h 0 := hi
    rw [e _ _ (by omega) (by omega) (by omega) (by omega) (by omega), e _ _ (by omega) (by omega) (by omega) (by omega) (by omega), e _ _ (by omega) (by omega) (by omega) (by omega) (by omega)]; exact p3 i hi'
  · rw [e _ _ (by omega) (by omega) (by omega) (by omega) (by omega)]; exact p4 i hi
  · rw [e _ _ (by omega) (by omega) (by omega) (by omega) (by omega)]; exact p5 i hi w hw
  · show _ = nI (if (x = a ∧ y = b) ∨ (x = b ∧ y = a) then v + 1 else hOdds h x y) - 1
    by_cases c : (x = a ∧ y = b) ∨ (x = b ∧ y = a)
    · rw [if_pos c]
      rcases c with ⟨c1, c2⟩ | ⟨c1, c2⟩
      · rw [c1, c2]; exact h1
      · rw [c1, c2]; exact h2
    · rw [if_neg c, e _ _ (by omega) (by omega) (by omega) (by omega) (by omega)]; exact p6 x hx y hy
  · have hw' : w < hCnt h 1 := hw
    rw [e _ _ (by omega) (by omega) (by omega) (by omega) (by omega)]; exact p7 w hw'
  · have hi' : i < hCnt h 2 := hi
    rw [e _ _ (by omega) (by omega) (by omega) (by omega) (by omega), e _ _ (by omega) (by omega) (by omega) (by omega) (by omega), e _ _ (by omega) (by omega) (by omega) (by omega) (by omega)]; exact p8 i hi'
  · rw [e _ _ (by omega) (by omega) (by omega) (by omega) (by omega)]; exact p9
  · rw [e _ _ (by omega) (by omega) (by omega) (by omega) (by omega)]; exact p10
  · obtain ⟨x, y, z1, z2, z3, z4, z5⟩ := p11 f hf
    exact ⟨x, y, by rw [e _ _ (by omega) (by omega) (by omega) (by omega) (by omega)]; exact z1, by rw [e _ _ (by omega) (by omega) (by omega) (by omega) (by omega)]; exact z2, z3, z4, fun k c hkc => by rw [e _ _ (by omega) (by omega) (by omega) (by omega) (by omega)]; exact z5 k c hkc⟩
theorem cH_ws {o : Nat} {h : aH} {μ μ' : z_S} (ok : okH h) (hc : cH o h μ) {l g v : Nat} (hl8 : l < 8) (h1 : μ'.1 (o + 11 + l) g = nI v) (e : ∀ c j, o ≤ c → c < o + 36 → ¬ (c = o + 11 + l ∧ j = g) → ¬ (c = o + 1 ∧ 5 ≤ j) → μ'.1 c j = μ.1 c j) : cH o (hWs h l g v) μ' := by
  have q8 := ok.1
  have q2 := ok.2.1
  have q3 := ok.2.2.1
  obtain ⟨p1, p2, p3, p4, p5, p6, p7, p8, p9, p10, p11⟩ := hc
  refine ⟨fun k hk => ?_, fun k hk i hi => ?_, fun i hi => ?_, fun i hi => ?_, fun i hi w hw => ?_, fun x hx y hy => ?_, fun w hw => ?_, fun i hi => ?_, ?_, ?_, fun f hf => ?_⟩
  · rw [e _ _ (by omega) (by omega) (by omega) (by omega)]; exact p1 k hk
  · rw [e _ _ (by omega) (by omega) (by omega) (by omega)]; exact p2 k hk i hi
  · have hi' : i < hCnt h 0 := hi
    rw [e _ _ (by omega) (by omega) (by omega) (by omega), e _ _ (by omega) (by omega) (by omega) (by omega), e _ _ (by omega) (by omega) (by omega) (by omega)]; exact p3 i hi'
  · rw [e _ _ (by omega) (by omega) (by omega) (by omega)]; exact p4 i hi
  · show _ = nI (if i = l ∧ w = g then v else hWish h i w)
    by_cases c : i = l ∧ w = g
    · rw [if_pos c, c.1, c.2]; exact h1
    · rw [if_neg c, e _ _ (by omega) (by omega) (by omega) (by omega)]; exact p5 i hi w hw
  · rw [e _ _ (by omega) (by omega) (by omega) (by omega)]; exact p6 x hx y hy
  · have hw' : w < hCnt h 1 := hw
    rw [e _ _ (by omega) (by omega) (by omega) (by omega)]; exact p7 w hw'
  · have hi' : i < hCnt h 2 := hi
    rw [e _ _ (by omega) (by omega) (by omega) (by omega), e _ _ (by omega) (by omega) (by omega) (by omega), e _ _ (by omega) (by omega) (by omega) (by omega)]; exact p8 i hi'
  · rw [e _ _ (by omega) (by omega) (by omega) (by omega)]; exact p9
  · rw [e _ _ (by omega) (by omega) (by omega) (by omega)]; exact p10
  · obtain ⟨x, y, z1, z2, z3, z4, z5⟩ := p11 f hf
    exact ⟨x, y, by rw [e _ _ (by omega) (by omega) (by omega) (by omega)]; exact z1, by rw [e _ _ (by omega) (by omega) (by omega) (by omega)]; exact z2, z3, z4, fun k c hkc => by rw [e _ _ (by omega) (by omega) (by omega) (by omega)]; exact z5 k c hkc⟩
theorem cH_ms {o : Nat} {h : aH} {μ μ' : z_S} (ok : okH h) (hc : cH o h μ) {v : Nat} (h1 : μ'.1 o 15 = nI v) (e : ∀ c j, o ≤ c → c < o + 36 → ¬ (c = o ∧ j = 15) → ¬ (c = o + 1 ∧ 5 ≤ j) → μ'.1 c j = μ.1 c j) : cH o (hMs h v) μ' := by
  have q8 := ok.1
  have q2 := ok.2.1
  have q3 := ok.2.2.1
  obtain ⟨p1, p2, p3, p4, p5, p6, p7, p8, p9, p10, p11⟩ := hc
  refine ⟨fun k hk => ?_, fun k hk i hi => ?_, fun i hi => ?_, fun i hi => ?_, fun i hi w hw => ?_, fun x hx y hy => ?_, fun w hw => ?_, fun i hi => ?_, ?_, ?_, fun f hf => ?_⟩
  · rw [e _ _ (by omega) (by omega) (by omega) (by omega)]; exact p1 k hk
  · rw [e _ _ (by omega) (by omega) (by omega) (by omega)]; exact p2 k hk i hi
  · have hi' : i < hCnt h 0 := hi
    rw [e _ _ (by omega) (by omega) (by omega) (by omega), e _ _ (by omega) (by omega) (by omega) (by omega), e _ _ (by omega) (by omega) (by omega) (by omega)]; exact p3 i hi'
  · rw [e _ _ (by omega) (by omega) (by omega) (by omega)]; exact p4 i hi
  · rw [e _ _ (by omega) (by omega) (by omega) (by omega)]; exact p5 i hi w hw
  · rw [e _ _ (by omega) (by omega) (by omega) (by omega)]; exact p6 x hx y hy
  · have hw' : w < hCnt h 1 := hw
    rw [e _ _ (by omega) (by omega) (by omega) (by omega)]; exact p7 w hw'
  · have hi' : i < hCnt h 2 := hi
    rw [e _ _ (by omega) (by omega) (by omega) (by omega), e _ _ (by omega) (by omega) (by omega) (by omega), e _ _ (by omega) (by omega) (by omega) (by omega)]; exact p8 i hi'
  · exact h1
  · rw [e _ _ (by omega) (by omega) (by omega) (by omega)]; exact p10
  · obtain ⟨x, y, z1, z2, z3, z4, z5⟩ := p11 f hf
    exact ⟨x, y, by rw [e _ _ (by omega) (by omega) (by omega) (by omega)]; exact z1, by rw [e _ _ (by omega) (by omega) (by omega) (by omega)]; exact z2, z3, z4, fun k c hkc => by rw [e _ _ (by omega) (by omega) (by omega) (by omega)]; exact z5 k c hkc⟩
theorem cH_co {o : Nat} {h : aH} {μ μ' : z_S} (ok : okH h) (hc : cH o h μ) {v : Nat} (h1 : μ'.1 o 16 = nI v) (e : ∀ c j, o ≤ c → c < o + 36 → ¬ (c = o ∧ j = 16) → ¬ (c = o + 1 ∧ 5 ≤ j) → μ'.1 c j = μ.1 c j) : cH o (hCo h v) μ' := by
  have q8 := ok.1
  have q2 := ok.2.1
  have q3 := ok.2.2.1
  obtain ⟨p1, p2, p3, p4, p5, p6, p7, p8, p9, p10, p11⟩ := hc
  refine ⟨fun k hk => ?_, fun k hk i hi => ?_, fun i hi => ?_, fun i hi => ?_, fun i hi w hw => ?_, fun x hx y hy => ?_, fun w hw => ?_, fun i hi => ?_, ?_, ?_, fun f hf => ?_⟩
  · rw [e _ _ (by omega) (by omega) (by omega) (by omega)]; exact p1 k hk
  · rw [e _ _ (by omega) (by omega) (by omega) (by omega)]; exact p2 k hk i hi
  · have hi' : i < hCnt h 0 := hi
    rw [e _ _ (by omega) (by omega) (by omega) (by omega), e _ _ (by omega) (by omega) (by omega) (by omega), e _ _ (by omega) (by omega) (by omega) (by omega)]; exact p3 i hi'
  · rw [e _ _ (by omega) (by omega) (by omega) (by omega)]; exact p4 i hi
  · rw [e _ _ (by omega) (by omega) (by omega) (by omega)]; exact p5 i hi w hw
  · rw [e _ _ (by omega) (by omega) (by omega) (by omega)]; exact p6 x hx y hy
  · have hw' : w < hCnt h 1 := hw
    rw [e _ _ (by omega) (by omega) (by omega) (by omega)]; exact p7 w hw'
  · have hi' : i < hCnt h 2 := hi
    rw [e _ _ (by omega) (by omega) (by omega) (by omega), e _ _ (by omega) (by omega) (by omega) (by omega), e _ _ (by omega) (by omega) (by omega) (by omega)]; exact p8 i hi'
  · rw [e _ _ (by omega) (by omega) (by omega) (by omega)]; exact p9
  · exact h1
  · obtain ⟨x, y, z1, z2, z3, z4, z5⟩ := p11 f hf
    exact ⟨x, y, by rw [e _ _ (by omega) (by omega) (by omega) (by omega)]; exact z1, by rw [e _ _ (by omega) (by omega) (by omega) (by omega)]; exact z2, z3, z4, fun k c hkc => by rw [e _ _ (by omega) (by omega) (by omega) (by omega)]; exact z5 k c hkc⟩
theorem cH_fo {o : Nat} {h : aH} {μ μ' : z_S} (ok : okH h) (hc : cH o h μ) {f0 a : Nat} {cs : List Int32} (hsz : ∀ f b, f < 2 → μ.1 (o + 35) f = nI b → b < 2 ^ 31 → b ≤ a) (h1 : μ'.1 (o + 34) f0 = nI a) (h2 : μ'.1 (o + 35) f0 = nI (a + cs.length)) (h3 : a + cs.length ≤ 1600) (h4 : ∀ k c, cs[k]? = some c → μ'.1 (o + 33) (a + k) = c) (e : ∀ c j, o ≤ c → c < o + 36 → ¬ ((c = o + 34 ∨ c = o + 35) ∧ j = f0) → ¬ (c = o + 33 ∧ a ≤ j) → ¬ (c = o + 32) → ¬ (c = o + 1 ∧ 5 ≤ j) → μ'.1 c j = μ.1 c j) : cH o (hFo h f0 cs) μ' := by
  have q8 := ok.1
  have q2 := ok.2.1
  have q3 := ok.2.2.1
  obtain ⟨p1, p2, p3, p4, p5, p6, p7, p8, p9, p10, p11⟩ := hc
  refine ⟨fun k hk => ?_, fun k hk i hi => ?_, fun i hi => ?_, fun i hi => ?_, fun i hi w hw => ?_, fun x hx y hy => ?_, fun w hw => ?_, fun i hi => ?_, ?_, ?_, fun f hf => ?_⟩
  · rw [e _ _ (by omega) (by omega) (by omega) (by omega) (by omega) (by omega)]; exact p1 k hk
  · rw [e _ _ (by omega) (by omega) (by omega) (by omega) (by omega) (by omega)]; exact p2 k hk i hi
  · have hi' : i < hCnt h 0 := hi
    rw [e _ _ (by omega) (by omega) (by omega) (by omega) (by omega) (by omega), e _ _ (by omega) (by omega) (by omega) (by omega) (by omega) (by omega), e _ _ (by omega) (by omega) (by omega) (by omega) (by omega) (by omega)]; exact p3 i hi'
  · rw [e _ _ (by omega) (by omega) (by omega) (by omega) (by omega) (by omega)]; exact p4 i hi
  · rw [e _ _ (by omega) (by omega) (by omega) (by omega) (by omega) (by omega)]; exact p5 i hi w hw
  · rw [e _ _ (by omega) (by omega) (by omega) (by omega) (by omega) (by omega)]; exact p6 x hx y hy
  · have hw' : w < hCnt h 1 := hw
    rw [e _ _ (by omega) (by omega) (by omega) (by omega) (by omega) (by omega)]; exact p7 w hw'
  · have hi' : i < hCnt h 2 := hi
    rw [e _ _ (by omega) (by omega) (by omega) (by omega) (by omega) (by omega), e _ _ (by omega) (by omega) (by omega) (by omega) (by omega) (by omega), e _ _ (by omega) (by omega) (by omega) (by omega) (by omega) (by omega)]; exact p8 i hi'
  · rw [e _ _ (by omega) (by omega) (by omega) (by omega) (by omega) (by omega)]; exact p9
  · rw [e _ _ (by omega) (by omega) (by omega) (by omega) (by omega) (by omega)]; exact p10
  · by_cases c : f = f0
    · have ef : (hForm (hFo h f0 cs) f).getD (formD f) = cs := by
        show ((if f = f0 then some cs else hForm h f).getD (formD f)) = cs
        rw [if_pos c]; rfl
      rw [ef, c]
      exact ⟨a, a + cs.length, h1, h2, h3, rfl, h4⟩
    · have ef : hForm (hFo h f0 cs) f = hForm h f := by
        show (if f = f0 then some cs else hForm h f) = _
        rw [if_neg c]
      rw [ef]
      obtain ⟨x, y, z1, z2, z3, z4, z5⟩ := p11 f hf
      have hy := hsz f y hf z2 (by omega)
      exact ⟨x, y, by rw [e _ _ (by omega) (by omega) (by omega) (by omega) (by omega) (by omega)]; exact z1, by rw [e _ _ (by omega) (by omega) (by omega) (by omega) (by omega) (by omega)]; exact z2, z3, z4, fun k c hkc => by
        have := (List.getElem?_eq_some_iff.mp hkc).1
        rw [e _ _ (by omega) (by omega) (by omega) (by omega) (by omega) (by omega)]; exact z5 k c hkc⟩
