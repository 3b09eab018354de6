/-! near, like, wish, settings, formulas: pure -/
/-- pairs have no names: any will do -/
def nm3 (h : aH) : Nat → Nat → List Nat := fun k i => if k < 3 then hName h k i else [1]
theorem nm_1 : isNm [1] := ⟨by decide, by decide, by decide⟩
def hNr (h : aH) (a b : Nat) : aH := hMk (fun k => if k = 3 then hCnt h 3 + 1 else hCnt h k) (nm3 h) (hMail h) (hWish h) (fun i j => if (i = a ∧ j = b) ∨ (i = b ∧ j = a) then true else hNear h i j) (hOdds h) (hStock h) (hHelp h) (hMiss h, hCold h) (hForm h)
def hLk (h : aH) (a b v : Nat) : aH := hMk (fun k => if k = 4 then hCnt h 4 + 1 else hCnt h k) (nm3 h) (hMail h) (hWish h) (hNear h) (fun i j => if (i = a ∧ j = b) ∨ (i = b ∧ j = a) then v + 1 else hOdds h i j) (hStock h) (hHelp h) (hMiss h, hCold h) (hForm h)
def hWs (h : aH) (l g v : Nat) : aH := hMk (hCnt h) (hName h) (hMail h) (up2 (hWish h) l g v) (hNear h) (hOdds h) (hStock h) (hHelp h) (hMiss h, hCold h) (hForm h)
def hMs (h : aH) (v : Nat) : aH := hMk (hCnt h) (hName h) (hMail h) (hWish h) (hNear h) (hOdds h) (hStock h) (hHelp h) (v, hCold h) (hForm h)
def hCo (h : aH) (v : Nat) : aH := hMk (hCnt h) (hName h) (hMail h) (hWish h) (hNear h) (hOdds h) (hStock h) (hHelp h) (hMiss h, v) (hForm h)
def hFo (h : aH) (f : Nat) (cs : List Int32) : aH := hMk (hCnt h) (hName h) (hMail h) (hWish h) (hNear h) (hOdds h) (hStock h) (hHelp h) (hMiss h, hCold h) (fun i => if i = f then some cs else hForm h i)
theorem okH_nr {h : aH} (ok : okH h) {a b : Nat} (hc : hCnt h 3 < 20) (ha : a < hCnt h 0) (hb : b < hCnt h 0) (hab : a ≠ b) : okH (hNr h a b) := by
  obtain ⟨p1, p2, p3, p4, p5, p6, p7, p8, p9, p10, p11, p12, p13, p14, ⟨p15, p15b⟩, p16, p17, p18, p19, p20, p21⟩ := ok
  refine ⟨p1, p2, p3, show hCnt h 3 + 1 ≤ 20 by omega, p5, fun k i hi => ?_, p7, p8, p9, fun x y => ?_, fun x => ?_, fun x y z => ?_, p13, p14, ⟨p15, p15b⟩, p16, p17, p18, p19, p20, p21⟩
  · show isNm (if k < 3 then hName h k i else [1])
    by_cases d : k < 3
    · rw [if_pos d]
      have hi' : i < (if k = 3 then hCnt h 3 + 1 else hCnt h k) := hi
      rw [if_neg (by omega)] at hi'
      exact p6 k i hi'
    · rw [if_neg d]
      exact nm_1
  · show (if (x = a ∧ y = b) ∨ (x = b ∧ y = a) then true else hNear h x y) = (if (y = a ∧ x = b) ∨ (y = b ∧ x = a) then true else hNear h y x)
    by_cases c : (x = a ∧ y = b) ∨ (x = b ∧ y = a)
    · rw [if_pos c, if_pos (by omega)]
    · rw [if_neg c, if_neg (by omega), p10]
  · show (if (x = a ∧ x = b) ∨ (x = b ∧ x = a) then true else hNear h x x) = false
    rw [if_neg (by omega)]
    exact p11 x
  · show (if (x = a ∧ y = b) ∨ (x = b ∧ y = a) then true else hNear h x y) = false
    have z' : hCnt h 0 ≤ x := z
    rw [if_neg (by omega)]
    exact p12 x y z'
theorem okH_ws {h : aH} (ok : okH h) {l g v : Nat} (hl : l < hCnt h 0) (hg : g < hCnt h 1) (hv : v ≤ 9) : okH (hWs h l g v) := by
  obtain ⟨p1, p2, p3, p4, p5, p6, p7, p8, p9, p10, p11, p12, p13, p14, ⟨p15, p15b⟩, p16, p17, p18, p19, p20, p21⟩ := ok
  refine ⟨p1, p2, p3, p4, p5, p6, p7, fun x y => ?_, fun x y z => ?_, p10, p11, p12, p13, p14, ⟨p15, p15b⟩, p16, p17, p18, p19, p20, p21⟩
  · show (if x = l ∧ y = g then v else hWish h x y) ≤ 9
    split
    · exact hv
    · exact p8 x y
  · show (if x = l ∧ y = g then v else hWish h x y) = 0
    have z' : hCnt h 0 ≤ x ∨ hCnt h 1 ≤ y := z
    rw [if_neg (by omega)]
    exact p9 x y z'
theorem okH_ms {h : aH} (ok : okH h) {v : Nat} (hv : v ≤ 99) : okH (hMs h v) := by
  obtain ⟨p1, p2, p3, p4, p5, p6, p7, p8, p9, p10, p11, p12, p13, p14, ⟨p15, p15b⟩, p16, p17, p18, p19, p20, p21⟩ := ok
  exact ⟨p1, p2, p3, p4, p5, p6, p7, p8, p9, p10, p11, p12, p13, p14, ⟨p15, p15b⟩, p16, p17, p18, hv, p20, p21⟩
theorem okH_co {h : aH} (ok : okH h) {v : Nat} (hv : v ≤ 100) : okH (hCo h v) := by
  obtain ⟨p1, p2, p3, p4, p5, p6, p7, p8, p9, p10, p11, p12, p13, p14, ⟨p15, p15b⟩, p16, p17, p18, p19, p20, p21⟩ := ok
  exact ⟨p1, p2, p3, p4, p5, p6, p7, p8, p9, p10, p11, p12, p13, p14, ⟨p15, p15b⟩, p16, p17, p18, p19, hv, p21⟩
theorem okH_fo {h : aH} (ok : okH h) {f : Nat} {cs : List Int32} (hv : okF cs) : okH (hFo h f cs) := by
  obtain ⟨p1, p2, p3, p4, p5, p6, p7, p8, p9, p10, p11, p12, p13, p14, ⟨p15, p15b⟩, p16, p17, p18, p19, p20, p21⟩ := ok
  refine ⟨p1, p2, p3, p4, p5, p6, p7, p8, p9, p10, p11, p12, p13, p14, ⟨p15, p15b⟩, p16, p17, p18, p19, p20, fun i ds hd => ?_⟩
  have hd' : (if i = f then some cs else hForm h i) = some ds := hd
  by_cases c : i = f
  · rw [if_pos c] at hd'
    cases hd'
    exact hv
  · rw [if_neg c] at hd'
    exact p21 i ds hd'
