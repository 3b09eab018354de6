/-! the reference's sums: T before a part, P behind one, G where it may go on -/
def aGo (N : Nat) (c1 : Int32) (E : z_S → Option (Unit × z_S)) (f1 : Nat) : Int32 → z_S → Option (Unit × z_S) := fun x2 μ_3 => if x2 = 0 then (f_X12_qSums_B48 N c1 (f_X12_qSums_L15 N c1 E f1) E μ_3) else f_X12_qSums_B49 N c1 (f_X12_qSums_L15 N c1 E f1) E (1 : Int32) μ_3
def aPa (N : Nat) (c1 : Int32) (E : z_S → Option (Unit × z_S)) (f1 : Nat) : Unit → z_S → Option (Unit × z_S) := fun _ μ_2 => if (μ_2.1 253 5) = 0 then (z_bn (f_X12_qGoesOn N μ_2) (aGo N c1 E f1)) else f_X12_qSums_B48 N c1 (f_X12_qSums_L15 N c1 E f1) E μ_2
def RT (N : Nat) (c1 : Int32) (E : z_S → Option (Unit × z_S)) (f1 f2 : Nat) (ν : z_S) : Option (Unit × z_S) := z_bn (f_X12_qPartTold_L2 N (fun μ186 => f_X12_qPartTold_B186 N μ186) f2 1 ν) (aPa N c1 E f1)
def RG (N : Nat) (c1 : Int32) (E : z_S → Option (Unit × z_S)) (f1 f3 : Nat) (ν : z_S) : Option (Unit × z_S) := z_bn (f_X12_qGoesOn_L0 N (fun μ122 => f_X12_qGoesOn_B122 N μ122) f3 ν) (aGo N c1 E f1)
def RP (N : Nat) (c1 : Int32) (E : z_S → Option (Unit × z_S)) (f1 f3 f4 : Nat) (ν : z_S) : Option (Unit × z_S) := z_bn (f_X12_qEndsPart_L0 N f4 ν) (fun _ ν' => RG N c1 E f1 f3 ν')
theorem L15_1 {N : Nat} {c1 : Int32} {E : z_S → Option (Unit × z_S)} {f : Nat} {ν : z_S} (h5 : ν.1 253 5 = 0) : f_X12_qSums_L15 N c1 E (f + 1) 1 ν = RT N c1 E f N ν := by
  show b_X12_qSums_L15 N c1 (f_X12_qSums_L15 N c1 E f) E 1 ν = _
  unfold b_X12_qSums_L15
  rw [if_neg (by decide), if_pos h5]
  rfl
theorem aGo_0 {N : Nat} {c1 : Int32} {E : z_S → Option (Unit × z_S)} {f : Nat} {ν : z_S} : aGo N c1 E (f + 1) 0 ν = E ν := by
  unfold aGo
  rw [if_pos rfl]
  rfl
theorem aGo_1 {N : Nat} {c1 : Int32} {E : z_S → Option (Unit × z_S)} {f : Nat} {ν : z_S} (h5 : ν.1 253 5 = 0) : aGo N c1 E (f + 1) 1 ν = RT N c1 E f N ν := by
  unfold aGo
  rw [if_neg (by decide)]
  exact L15_1 h5
theorem aPa_bad {N : Nat} {c1 : Int32} {E : z_S → Option (Unit × z_S)} {f : Nat} {ν : z_S} (h5 : ¬ ν.1 253 5 = 0) : aPa N c1 E (f + 1) () ν = E ν := by
  unfold aPa
  rw [if_neg h5]
  rfl
theorem m_signA {t : Nat → Nat} {n q c : Nat} {g : Bool} (N : Nat) (hN : 1700 ≤ N) (hc : sgnC c) {ν : z_S} (h : mA t n q g ν) : (tkS t n q = nI c ∧ f_X12_takesSign N (nI c) ν = some (1, z_setI ν 253 2 (nI (q + 1)))) ∨ (¬ tkS t n q = nI c ∧ f_X12_takesSign N (nI c) ν = some (0, ν)) := by
  unfold f_X12_takesSign
  rw [if_pos h.2.1, m_lookA N hN h, z_bn_sm]
  by_cases y : lk t n q = nI c
  · have e1 : nI q + (1 : Int32) = nI (q + 1) := nI_1 q
    left
    rw [if_pos y, h.2.2.1, e1, z_bd_eq]
    exact ⟨(lk_S h.1.2.2.2.1 hc).mp y, rfl⟩
  · right
    rw [if_neg y]
    exact ⟨fun z => y ((lk_S h.1.2.2.2.1 hc).mpr z), rfl⟩
theorem nI_ne {a b : Nat} (ha : a < 2 ^ 31) (hb : b < 2 ^ 31) (h : a ≠ b) {x : Int32} (hx : x = nI a) : ¬ x = nI b := fun z => h ((nI_eq ha hb).mp (hx.symm.trans z))
/-- which bracket is open: none, or the topmost -/
def brkV (W : List Int32) (base : Nat) (b : Int32) : Prop := (W.length = base ∧ b = -1) ∨ ∃ V, W = V ++ [b] ∧ isBr b ∧ base ≤ V.length
theorem m_brk {as : Bool} {Q W pd : List Int32} {b : Int32} {op base : Nat} (N : Nat) (hN : 1700 ≤ N) {ν : z_S} (h : qM as Q (W ++ pd) op base ν) (hl : W.length + pd.length < 1690) (hb : brkV W base b) (hp : ∀ p ∈ pd, ¬ isBr p) : f_X12_qBracket N ν = some (b, ν) := by
  rcases hb with ⟨y, rfl⟩ | ⟨V, rfl, y1, y2⟩
  · exact m_brk0 N hN h (by omega) y hp
  · rw [snoc_len] at hl
    exact m_brk1 N hN h (by omega) y2 y1 hp
/-- no bracket is closed here -/
theorem g_on {t : Nat → Nat} {n q : Nat} {g as : Bool} {Q W pd : List Int32} {b : Int32} {op base : Nat} {N : Nat} (hN : 1700 ≤ N) {c1 : Int32} {E : z_S → Option (Unit × z_S)} {f1 f3 : Nat} {ν : z_S} (hm : mG t n q g ν) (h : qM as Q (W ++ pd) op base ν) (hl : W.length + pd.length < 1690) (hb : brkV W base b) (hp : ∀ p ∈ pd, ¬ isBr p) (hno : ¬ (tkS t n q = nI 41 ∧ (b = 20 ∨ b = 23 ∨ b = 24))) : ∃ ν1, RG N c1 E f1 (f3 + 1) ν = z_bn (f_X12_qGoesOn_B122 N ν1) (aGo N c1 E f1) ∧ yFr ν ν1 ∧ mA t n q g ν1 ∧ qM as Q (W ++ pd) op base ν1 := by
  obtain ⟨ν1, r1, r2, r3⟩ := m_look N hN hm
  have hq1 := r2.qM h
  have eb := m_brk N hN hq1 hl hb hp
  refine ⟨ν1, ?_, r2, r3, hq1⟩
  unfold RG
  have e : f_X12_qGoesOn_L0 N (fun μ122 => f_X12_qGoesOn_B122 N μ122) (f3 + 1) ν = f_X12_qGoesOn_B122 N ν1 := by
    show b_X12_qGoesOn_L0 N (f_X12_qGoesOn_L0 N (fun μ122 => f_X12_qGoesOn_B122 N μ122) f3) (fun μ122 => f_X12_qGoesOn_B122 N μ122) ν = _
    unfold b_X12_qGoesOn_L0
    rw [if_pos hm.2.1, r1, z_bn_sm]
    by_cases c : lk t n q = nI 41
    · have cs := (lk_S hm.1.2.2.2.1 (c := 41) ⟨by decide, by decide, by decide⟩).mp c
      have n20 : ¬ b = 20 := fun z => hno ⟨cs, Or.inl z⟩
      have n23 : ¬ b = 23 := fun z => hno ⟨cs, Or.inr (Or.inl z)⟩
      have n24 : ¬ b = 24 := fun z => hno ⟨cs, Or.inr (Or.inr z)⟩
      rw [if_pos (show lk t n q = (41 : Int32) from c), eb, z_bn_sm, if_neg n20, eb, z_bn_sm, if_neg n23, eb, z_bn_sm, if_neg n24]
    · rw [if_neg (show ¬ lk t n q = (41 : Int32) from c)]
  rw [e]
theorem sg_42 : sgnC 42 := ⟨by decide, by decide, by decide⟩
theorem sg_47 : sgnC 47 := ⟨by decide, by decide, by decide⟩
theorem sg_43 : sgnC 43 := ⟨by decide, by decide, by decide⟩
theorem sg_45 : sgnC 45 := ⟨by decide, by decide, by decide⟩
theorem sg_44 : sgnC 44 := ⟨by decide, by decide, by decide⟩
theorem sg_41 : sgnC 41 := ⟨by decide, by decide, by decide⟩
/-- nor does an operation stand here -/
theorem g_none {t : Nat → Nat} {n q : Nat} {g as : Bool} {Q W pd : List Int32} {b : Int32} {op base : Nat} {N : Nat} (hN : 1700 ≤ N) {c1 : Int32} {E : z_S → Option (Unit × z_S)} {f1 f3 : Nat} {ν : z_S} (hm : mG t n q g ν) (h : qM as Q (W ++ pd) op base ν) (hl : W.length + pd.length < 1690) (hb : brkV W base b) (hp : ∀ p ∈ pd, ¬ isBr p) (hno : ¬ (tkS t n q = nI 41 ∧ (b = 20 ∨ b = 23 ∨ b = 24))) (h42 : ¬ tkS t n q = nI 42) (h47 : ¬ tkS t n q = nI 47) (h43 : ¬ tkS t n q = nI 43) (h45 : ¬ tkS t n q = nI 45) : ∃ ν1, RG N c1 E f1 (f3 + 1) ν = (if b = 21 then z_bn (f_X12_qGoesOn_B326 N ν1) (aGo N c1 E f1) else if b = 22 then z_bn (f_X12_qGoesOn_B326 N ν1) (aGo N c1 E f1) else if b = -1 then aGo N c1 E f1 0 ν1 else z_bn (z_bn (f_X12_fail N (1 : Int32) (nI q) ν1) fun _ μ_21 => some ((0 : Int32), μ_21)) (aGo N c1 E f1)) ∧ yFr ν ν1 ∧ mA t n q g ν1 ∧ qM as Q (W ++ pd) op base ν1 := by
  obtain ⟨ν1, r1, r2, r3, r4⟩ := g_on (c1 := c1) (E := E) (f1 := f1) (f3 := f3) hN hm h hl hb hp hno
  have eb := m_brk N hN r4 hl hb hp
  refine ⟨ν1, ?_, r2, r3, r4⟩
  rw [r1]
  unfold f_X12_qGoesOn_B122
  have s42 : f_X12_takesSign N (42 : Int32) ν1 = some (0, ν1) := by rcases m_signA N hN sg_42 r3 with y | y; exact absurd y.1 h42; exact y.2
  have s47 : f_X12_takesSign N (47 : Int32) ν1 = some (0, ν1) := by rcases m_signA N hN sg_47 r3 with y | y; exact absurd y.1 h47; exact y.2
  have s43 : f_X12_takesSign N (43 : Int32) ν1 = some (0, ν1) := by rcases m_signA N hN sg_43 r3 with y | y; exact absurd y.1 h43; exact y.2
  have s45 : f_X12_takesSign N (45 : Int32) ν1 = some (0, ν1) := by rcases m_signA N hN sg_45 r3 with y | y; exact absurd y.1 h45; exact y.2
  rw [s42, z_bn_sm, if_pos rfl, s47, z_bn_sm, if_pos rfl, s43, z_bn_sm, if_pos rfl, s45, z_bn_sm, if_pos rfl, eb, z_bn_sm]
  by_cases c1 : b = 21
  · rw [if_pos c1, if_pos c1]
  · rw [if_neg c1, if_neg c1, eb, z_bn_sm]
    by_cases c2 : b = 22
    · rw [if_pos c2, if_pos c2]
    · rw [if_neg c2, if_neg c2, eb, z_bn_sm]
      by_cases c3 : b = -1
      · rw [if_pos c3, if_pos c3, z_bn_sm]
      · rw [if_neg c3, if_neg c3, if_pos r3.2.1, r3.2.2.1]
/-- the end of a sum without a bracket -/
theorem g_end {t : Nat → Nat} {n q : Nat} {g as : Bool} {Q W pd : List Int32} {op base : Nat} {N : Nat} (hN : 1700 ≤ N) {c1 : Int32} {E : z_S → Option (Unit × z_S)} {f1 f3 : Nat} {ν : z_S} (hm : mG t n q g ν) (h : qM as Q (W ++ pd) op base ν) (hl : W.length + pd.length < 1690) (hb : W.length = base) (hp : ∀ p ∈ pd, ¬ isBr p) (h42 : ¬ tkS t n q = nI 42) (h47 : ¬ tkS t n q = nI 47) (h43 : ¬ tkS t n q = nI 43) (h45 : ¬ tkS t n q = nI 45) : ∃ ν1, RG N c1 E (f1 + 1) (f3 + 1) ν = E ν1 ∧ yFr ν ν1 ∧ mA t n q g ν1 ∧ qM as Q (W ++ pd) op base ν1 := by
  obtain ⟨ν1, r1, r2, r3, r4⟩ := g_none (c1 := c1) (E := E) (f1 := f1 + 1) (f3 := f3) hN hm h hl (Or.inl ⟨hb, rfl⟩) hp (fun z => by rcases z.2 with y | y | y <;> exact absurd y (by decide)) h42 h47 h43 h45
  refine ⟨ν1, ?_, r2, r3, r4⟩
  rw [r1, if_neg (by decide), if_neg (by decide), if_pos rfl, aGo_0]
/-- a bracket is open that doesn't end here -/
theorem g_bad {t : Nat → Nat} {n q : Nat} {g as : Bool} {Q V pd : List Int32} {b : Int32} {op base : Nat} {N : Nat} (hN : 1700 ≤ N) {c1 : Int32} {E : z_S → Option (Unit × z_S)} {f1 f3 : Nat} {ν : z_S} (hm : mG t n q g ν) (h : qM as Q (V ++ [b] ++ pd) op base ν) (hl : V.length + 1 + pd.length < 1690) (hv : base ≤ V.length) (hb : b = 20 ∨ b = 23 ∨ b = 24) (hp : ∀ p ∈ pd, ¬ isBr p) (h41 : ¬ tkS t n q = nI 41) (h42 : ¬ tkS t n q = nI 42) (h47 : ¬ tkS t n q = nI 47) (h43 : ¬ tkS t n q = nI 43) (h45 : ¬ tkS t n q = nI 45) : ∃ ν1, RG N c1 E (f1 + 1) (f3 + 1) ν = E ν1 ∧ yFr ν ν1 ∧ mB 1 q ν1 := by
  have br : isBr b := by rcases hb with rfl | rfl | rfl <;> exact ⟨by decide, by decide⟩
  obtain ⟨ν1, r1, r2, r3, r4⟩ := g_none (c1 := c1) (E := E) (f1 := f1 + 1) (f3 := f3) hN hm h (by rw [snoc_len]; omega) (Or.inr ⟨V, rfl, br, hv⟩) hp (fun z => h41 z.1) h42 h47 h43 h45
  obtain ⟨ν2, u1, u2, u3⟩ := m_failAt N 1 q r3.2.1
  have u1' : f_X12_fail N (1 : Int32) (nI q) ν1 = some ((), ν2) := u1
  have n21 : ¬ b = 21 := by rcases hb with rfl | rfl | rfl <;> decide
  have n22 : ¬ b = 22 := by rcases hb with rfl | rfl | rfl <;> decide
  have nm : ¬ b = -1 := by rcases hb with rfl | rfl | rfl <;> decide
  refine ⟨ν2, ?_, r2.tr u2, u3⟩
  rw [r1, if_neg n21, if_neg n22, if_neg nm, u1', z_bn_sm, z_bn_sm, aGo_0]
