/-! a heap with one more told: pure -/
def hLet (h : aH) (l : List Nat) (a n g : Nat) : aH := hMk (fun k => if k = 0 then hCnt h 0 + 1 else hCnt h k) (up2 (hName h) 0 (hCnt h 0) l) (fun i w => if i = hCnt h 0 then (if w = 0 then a else if w = 1 then n else if w = 2 then g else hMail h i w) else hMail h i w) (hWish h) (hNear h) (hOdds h) (hStock h) (hHelp h) (hMiss h, hCold h) (hForm h)
def hGft (h : aH) (l : List Nat) (s : Nat) : aH := hMk (fun k => if k = 1 then hCnt h 1 + 1 else hCnt h k) (up2 (hName h) 1 (hCnt h 1) l) (hMail h) (hWish h) (hNear h) (hOdds h) (fun g => if g = hCnt h 1 then s else hStock h g) (hHelp h) (hMiss h, hCold h) (hForm h)
def hHlp (h : aH) (l : List Nat) (a n g : Nat) : aH := hMk (fun k => if k = 2 then hCnt h 2 + 1 else hCnt h k) (up2 (hName h) 2 (hCnt h 2) l) (hMail h) (hWish h) (hNear h) (hOdds h) (hStock h) (fun i w => if i = hCnt h 2 then (if w = 0 then a else if w = 1 then n else if w = 2 then g else hHelp h i w) else hHelp h i w) (hMiss h, hCold h) (hForm h)
theorem nm_up {h : aH} {k0 : Nat} {l : List Nat} (hnm : ∀ k i, i < hCnt h k → isNm (hName h k i)) (hl : isNm l) : ∀ k i, i < (if k = k0 then hCnt h k0 + 1 else hCnt h k) → isNm (up2 (hName h) k0 (hCnt h k0) l k i) := by
  intro k i hi
  unfold up2
  by_cases c : k = k0 ∧ i = hCnt h k0
  · rw [if_pos c]; exact hl
  · rw [if_neg c]
    by_cases d : k = k0
    · rw [if_pos d] at hi
      subst d
      exact hnm k i (by omega)
    · rw [if_neg d] at hi
      exact hnm k i hi
theorem okH_let {h : aH} (ok : okH h) {l : List Nat} {a n g : Nat} (hc : hCnt h 0 < 8) (hl : isNm l) (ha : a ≤ 20) (hn : n ≤ 9) (hg : g ≤ 10) : okH (hLet h l a n g) := by
  obtain ⟨p1, p2, p3, p4, p5, p6, p7, p8, p9, p10, p11, p12, p13, p14, ⟨p15, p15b⟩, p16, p17, p18, p19, p20, p21⟩ := ok
  refine ⟨show hCnt h 0 + 1 ≤ 8 by omega, p2, p3, p4, p5, nm_up p6 hl, fun i => ?_, p8, fun i w z => p9 i w (by rcases z with z | z; exact Or.inl (by have : hCnt h 0 + 1 ≤ i := z; omega); exact Or.inr z), p10, p11, fun x y z => p12 x y (by have : hCnt h 0 + 1 ≤ x := z; omega), p13, p14, ⟨p15, ?_⟩, fun x y z => p16 x y (by have : hCnt h 0 + 1 ≤ x := z; omega), p17, p18, p19, p20, p21⟩
  · show (if i = hCnt h 0 then (if (0 : Nat) = 0 then a else if (0 : Nat) = 1 then n else if (0 : Nat) = 2 then g else hMail h i 0) else hMail h i 0) ≤ 20 ∧ (if i = hCnt h 0 then (if (1 : Nat) = 0 then a else if (1 : Nat) = 1 then n else if (1 : Nat) = 2 then g else hMail h i 1) else hMail h i 1) ≤ 9 ∧ (if i = hCnt h 0 then (if (2 : Nat) = 0 then a else if (2 : Nat) = 1 then n else if (2 : Nat) = 2 then g else hMail h i 2) else hMail h i 2) ≤ 10
    by_cases c : i = hCnt h 0
    · rw [if_pos c, if_pos c, if_pos c]
      exact ⟨ha, hn, hg⟩
    · rw [if_neg c, if_neg c, if_neg c]
      exact p7 i
  · exact p15b
theorem okH_gft {h : aH} (ok : okH h) {l : List Nat} {s : Nat} (hc : hCnt h 1 < 4) (hl : isNm l) (hs : s ≤ 3) : okH (hGft h l s) := by
  obtain ⟨p1, p2, p3, p4, p5, p6, p7, p8, p9, p10, p11, p12, p13, p14, ⟨p15, p15b⟩, p16, p17, p18, p19, p20, p21⟩ := ok
  refine ⟨p1, show hCnt h 1 + 1 ≤ 4 by omega, p3, p4, p5, nm_up p6 hl, p7, p8, fun i w z => p9 i w (by rcases z with z | z; exact Or.inl z; exact Or.inr (by have : hCnt h 1 + 1 ≤ w := z; omega)), p10, p11, p12, p13, p14, ⟨p15, p15b⟩, p16, fun g => ?_, p18, p19, p20, p21⟩
  show (if g = hCnt h 1 then s else hStock h g) ≤ 3
  split
  · exact hs
  · exact p17 g
theorem okH_hlp {h : aH} (ok : okH h) {l : List Nat} {a n g : Nat} (hc : hCnt h 2 < 3) (hl : isNm l) (ha : 1 ≤ a ∧ a ≤ 240) (hn : n ≤ 9) (hg : g ≤ 10) : okH (hHlp h l a n g) := by
  obtain ⟨p1, p2, p3, p4, p5, p6, p7, p8, p9, p10, p11, p12, p13, p14, ⟨p15, p15b⟩, p16, p17, p18, p19, p20, p21⟩ := ok
  refine ⟨p1, p2, show hCnt h 2 + 1 ≤ 3 by omega, p4, p5, nm_up p6 hl, p7, p8, p9, p10, p11, p12, p13, p14, ⟨p15, p15b⟩, p16, p17, fun i => ?_, p19, p20, p21⟩
  show 1 ≤ (if i = hCnt h 2 then (if (0 : Nat) = 0 then a else if (0 : Nat) = 1 then n else if (0 : Nat) = 2 then g else hHelp h i 0) else hHelp h i 0) ∧ (if i = hCnt h 2 then (if (0 : Nat) = 0 then a else if (0 : Nat) = 1 then n else if (0 : Nat) = 2 then g else hHelp h i 0) else hHelp h i 0) ≤ 240 ∧ (if i = hCnt h 2 then (if (1 : Nat) = 0 then a else if (1 : Nat) = 1 then n else if (1 : Nat) = 2 then g else hHelp h i 1) else hHelp h i 1) ≤ 9 ∧ (if i = hCnt h 2 then (if (2 : Nat) = 0 then a else if (2 : Nat) = 1 then n else if (2 : Nat) = 2 then g else hHelp h i 2) else hHelp h i 2) ≤ 10
  by_cases c : i = hCnt h 2
  · rw [if_pos c, if_pos c, if_pos c]
    exact ⟨ha.1, ha.2, hn, hg⟩
  · rw [if_neg c, if_neg c, if_neg c]
    exact p18 i
