/-! the class goes from token to token -/
def nxQ (t : Nat → Nat) (n q : Nat) : Nat := skp t n (tkE t n q)
def nxG (t : Nat → Nat) (n q : Nat) (g : Bool) : Bool := decide ((tkK t n q g = 1 ∨ tkK t n q g = 2) ∧ nxQ t n q = tkE t n q)
theorem skp_b {t : Nat → Nat} {n e : Nat} (h : e ≤ n) : e ≤ skp t n e ∧ skp t n e ≤ n := ⟨(endE_b (P := blB t) h).1, (endE_b (P := blB t) h).2.1⟩
theorem tkE_b {t : Nat → Nat} {n q : Nat} (h : q ≤ n) : q ≤ tkE t n q ∧ tkE t n q ≤ n ∧ (q < n → q < tkE t n q) := by
  unfold tkE
  by_cases c : n ≤ q
  · rw [if_pos c]; omega
  · rw [if_neg c]
    have run : ∀ P : Nat → Bool, P q = true → q ≤ endE n P q ∧ endE n P q ≤ n ∧ (q < n → q < endE n P q) := fun P hP => by
      obtain ⟨b1, b2, b3, b4⟩ := endE_b (P := P) h
      refine ⟨b1, b2, fun _ => ?_⟩
      rcases Nat.lt_or_ge q (endE n P q) with y | y
      · exact y
      · have e : endE n P q = q := by omega
        have := b4 (by omega)
        rw [e, hP] at this
        exact absurd this (by decide)
    by_cases c1 : ltB t q = true
    · rw [if_pos c1]; exact run _ c1
    · rw [if_neg c1]
      by_cases c2 : dgB t q = true
      · rw [if_pos c2]; exact run _ c2
      · rw [if_neg c2]; omega
theorem nxQ_b {t : Nat → Nat} {n q : Nat} (h : q ≤ n) : q ≤ nxQ t n q ∧ nxQ t n q ≤ n ∧ (q < n → q < nxQ t n q) := by
  obtain ⟨a1, a2, a3⟩ := tkE_b (t := t) h
  obtain ⟨b1, b2⟩ := skp_b (t := t) a2
  unfold nxQ
  exact ⟨by omega, b2, fun z => by have := a3 z; omega⟩
theorem tkK_4 {t : Nat → Nat} {n q : Nat} {g : Bool} : tkK t n q g ≤ 4 := by
  unfold tkK
  split
  · omega
  · split
    · split <;> omega
    · split
      · split <;> omega
      · omega
/-- at a token, no fault yet -/
def cG (t : Nat → Nat) (n q : Nat) (g : Bool) (μ : z_S) : Prop := cX t n μ ∧ cT t n q g μ ∧ μ.1 1 2 = 0 ∧ q ≤ n
/-- a fault, its place -/
def cB (f p : Nat) (μ : z_S) : Prop := μ.1 1 2 = nI f ∧ μ.1 1 3 = nI p
/-- the text alone has changed -/
def uFr (μ μ' : z_S) : Prop := μ'.2 = μ.2 ∧ ∀ a j, ¬ (a = 1 ∧ 2 ≤ j ∧ j ≤ 9 ∧ (4 ≤ j ∨ ¬ μ'.1 1 2 = 0)) → μ'.1 a j = μ.1 a j
theorem uFr.rf (μ : z_S) : uFr μ μ := ⟨rfl, fun _ _ _ => rfl⟩
theorem fr_12 {x y : z_S} {a j : Nat} (g : ∀ a j, ¬ (a = 1 ∧ 2 ≤ j ∧ j ≤ 9 ∧ (4 ≤ j ∨ ¬ y.1 1 2 = 0)) → a = 1 → y.1 a j = x.1 a j) (q : ¬ (a = 1 ∧ 2 ≤ j ∧ j ≤ 9 ∧ (4 ≤ j ∨ ¬ y.1 1 2 = 0))) : ¬ (a = 1 ∧ 2 ≤ j ∧ j ≤ 9 ∧ (4 ≤ j ∨ ¬ x.1 1 2 = 0)) := fun ⟨z1, z2, z3, z4⟩ => by
  rcases z4 with z4 | z4
  · exact q ⟨z1, z2, z3, Or.inl z4⟩
  · by_cases c : y.1 1 2 = 0
    · exact z4 (by rw [← g 1 2 (fun w => w.2.2.2.elim (fun v => by omega) (fun v => v c)) rfl]; exact c)
    · exact q ⟨z1, z2, z3, Or.inr c⟩
theorem uFr.tr {μ μ1 μ2 : z_S} (h : uFr μ μ1) (g : uFr μ1 μ2) : uFr μ μ2 := ⟨g.1.trans h.1, fun a j q => (g.2 a j q).trans (h.2 a j (fr_12 (fun a j z _ => g.2 a j z) q))⟩
theorem xFr.u {μ μ' : z_S} (h : xFr μ μ') : uFr μ μ' := ⟨h.1, fun a j q => h.2 a j (fun z => q ⟨z.1, by omega, z.2.2, Or.inl z.2.1⟩)⟩
theorem uFr.cX {t : Nat → Nat} {n : Nat} {μ μ' : z_S} (g : uFr μ μ') (h : cX t n μ) : cX t n μ' := ⟨h.1, by rw [g.2 _ _ (by omega)]; exact h.2.1, fun k => by rw [g.2 _ _ (by omega)]; exact h.2.2.1 k, h.2.2.2.1, fun k c hc => by rw [g.2 _ _ (by omega)]; exact h.2.2.2.2 k c hc⟩
theorem c_next {t : Nat → Nat} {n q : Nat} {g : Bool} (N : Nat) (hN : 1700 ≤ N) {μ : z_S} (h : cG t n q g μ) : ∃ μ', f_X10_next N μ = some ((), μ') ∧ uFr μ μ' ∧ cG t n (nxQ t n q) (nxG t n q g) μ' := by
  obtain ⟨hx, hT, h2, hq⟩ := h
  have k4 := tkK_4 (t := t) (n := n) (q := q) (g := g)
  obtain ⟨a1, a2, a3⟩ := tkE_b (t := t) hq
  obtain ⟨μ', r1, r2, r3⟩ := c_next0 N hN hx a2 hT.2.1
  have eg : decide ((μ.1 1 4 = 1 ∨ μ.1 1 4 = 2) ∧ skp t n (tkE t n q) = tkE t n q) = nxG t n q g := by
    unfold nxG
    rw [hT.2.2.1]
    refine decide_eq_decide.mpr ⟨fun z => ⟨?_, z.2⟩, fun z => ⟨?_, z.2⟩⟩
    · rcases z.1 with y | y
      · exact Or.inl ((nI_eq (b := 1) (by omega) (by decide)).mp y)
      · exact Or.inr ((nI_eq (b := 2) (by omega) (by decide)).mp y)
    · rcases z.1 with y | y
      · rw [y]; exact Or.inl rfl
      · rw [y]; exact Or.inr rfl
  rw [eg] at r3
  exact ⟨μ', r1, r2.u, r2.cX hx, r3, by rw [r2.2 _ _ (by omega)]; exact h2, (nxQ_b hq).2.1⟩
theorem c_failAt (N : Nat) {f : Nat} (p : Nat) {μ : z_S} (h : μ.1 1 2 = 0) (hf : ¬ nI f = 0 := by decide) : ∃ μ', f_X10_failAt N (nI f) (nI p) μ = some (0, μ') ∧ uFr μ μ' ∧ cB f p μ' := by
  unfold f_X10_failAt
  rw [if_pos h, z_bd_eq, z_bd_eq]
  have h2 : ¬ (z_setI (z_setI μ 1 2 (nI f)) 1 3 (nI p)).1 1 2 = 0 := by rw [sI_1, if_neg (by omega), sI_1, if_pos ⟨rfl, rfl⟩]; exact hf
  refine ⟨_, rfl, ⟨rfl, fun a j q => by rw [sI_1, if_neg (fun z => q ⟨z.1, by omega, by omega, Or.inr h2⟩), sI_1, if_neg (fun z => q ⟨z.1, by omega, by omega, Or.inr h2⟩)]⟩, ?_, ?_⟩
  · rw [sI_1, if_neg (by omega), sI_1, if_pos ⟨rfl, rfl⟩]
  · rw [sI_1, if_pos ⟨rfl, rfl⟩]
theorem c_fail {t : Nat → Nat} {n q : Nat} {g : Bool} (N : Nat) {f : Nat} {μ : z_S} (h : cG t n q g μ) (hf : ¬ nI f = 0 := by decide) : ∃ μ', f_X10_fail N (nI f) μ = some (0, μ') ∧ uFr μ μ' ∧ cB f q μ' := by
  obtain ⟨μ', r1, r2, r3⟩ := c_failAt N (f := f) q h.2.2.1 hf
  refine ⟨μ', ?_, r2, r3⟩
  unfold f_X10_fail
  rw [h.2.1.1, r1, z_bn_sm, z_zb_0]
theorem c_takeSign {t : Nat → Nat} {n q : Nat} {g : Bool} (N : Nat) (hN : 1700 ≤ N) {μ : z_S} (h : cG t n q g μ) (c : Int32) : ∃ b μ', f_X10_takeSign N c μ = some (b, μ') ∧ uFr μ μ' ∧ ((tkS t n q = c ∧ b = 1 ∧ cG t n (nxQ t n q) (nxG t n q g) μ') ∨ (¬ tkS t n q = c ∧ b = 0 ∧ cB 1 q μ')) := by
  unfold f_X10_takeSign
  rw [h.2.1.2.2.2.1]
  by_cases z : tkS t n q = c
  · obtain ⟨μ', r1, r2, r3⟩ := c_next N hN h
    rw [if_pos z, r1, z_bn_sm]
    exact ⟨1, μ', rfl, r2, Or.inl ⟨z, rfl, r3⟩⟩
  · obtain ⟨μ', r1, r2, r3⟩ := c_fail N (f := 1) h
    have r1' : f_X10_fail N (1 : Int32) μ = some (0, μ') := r1
    rw [if_neg z, r1', z_bn_sm, z_zb_0]
    exact ⟨0, μ', rfl, r2, Or.inr ⟨z, rfl, r3⟩⟩
theorem c_takeNumber {t : Nat → Nat} {n q : Nat} {g : Bool} (N : Nat) (hN : 1700 ≤ N) {μ : z_S} (h : cG t n q g μ) {a b : Nat} (ha : a ≤ 9999) (hb : b ≤ 9999) : ∃ x μ', f_X10_takeNumber N (nI a) (nI b) μ = some (x, μ') ∧ uFr μ μ' ∧
    ((tkK t n q g = 2 ∧ tkE t n q ≤ q + 4 ∧ a ≤ numV t q (tkE t n q - q) ∧ numV t q (tkE t n q - q) ≤ b ∧ x = nI (numV t q (tkE t n q - q)) ∧ cG t n (nxQ t n q) (nxG t n q g) μ') ∨
     (¬ tkK t n q g = 2 ∧ x = -1 ∧ cB 1 q μ') ∨ (tkK t n q g = 2 ∧ q + 4 < tkE t n q ∧ x = -1 ∧ cB 1 (q + 4) μ') ∨
     (tkK t n q g = 2 ∧ tkE t n q ≤ q + 4 ∧ ¬ (a ≤ numV t q (tkE t n q - q) ∧ numV t q (tkE t n q - q) ≤ b) ∧ x = -1 ∧ cB 2 q μ')) := by
  have hn := h.1.1
  have k4 := tkK_4 (t := t) (n := n) (q := q) (g := g)
  obtain ⟨a1, a2, a3⟩ := tkE_b (t := t) h.2.2.2
  have hq := h.2.2.2
  unfold f_X10_takeNumber f_X10_takeNumber_B58
  rw [h.2.1.2.2.1, h.2.1.1, h.2.1.2.1]
  by_cases c : tkK t n q g = 2
  · have e4 : nI q + (4 : Int32) = nI (q + 4) := nI_add q 4
    rw [if_pos (show nI (tkK t n q g) = (2 : Int32) by rw [c]; rfl), e4]
    by_cases c2 : q + 4 < tkE t n q
    · obtain ⟨μ', r1, r2, r3⟩ := c_failAt N (f := 1) (q + 4) h.2.2.1
      have r1' : f_X10_failAt N (1 : Int32) (nI (q + 4)) μ = some (0, μ') := r1
      rw [if_pos (nI_lt c2 (by omega)), r1', z_bn_sm]
      exact ⟨-1, μ', rfl, r2, Or.inr (Or.inr (Or.inl ⟨c, c2, rfl, r3⟩))⟩
    · rw [if_neg (nI_nlt (by omega) (by omega)), h.2.1.2.2.2.2.2.2 c (by omega), z_bd_eq]
      have dgs : ∀ k, q ≤ k → k < q + (tkE t n q - q) → dgB t k = true := by
        unfold tkK at c
        by_cases y1 : n ≤ q
        · rw [if_pos y1] at c; omega
        · rw [if_neg y1] at c
          by_cases y2 : ltB t q = true
          · rw [if_pos y2] at c
            split at c <;> omega
          · rw [if_neg y2] at c
            by_cases y3 : dgB t q = true
            · have eE : tkE t n q = endE n (dgB t) q := by unfold tkE; rw [if_neg y1, if_neg y2, if_pos y3]
              intro k k1 k2
              exact (endE_b (P := dgB t) hq).2.2.1 k k1 (by omega)
            · rw [if_neg y3] at c; omega
      have hv := numV_lt (t := t) (q := q) (tkE t n q - q) dgs
      have hp := Nat.pow_le_pow_right (show 0 < 10 by decide) (show tkE t n q - q ≤ 4 by omega)
      have p4 : 10 ^ 4 = 10000 := by decide
      have bad : ¬ (a ≤ numV t q (tkE t n q - q) ∧ numV t q (tkE t n q - q) ≤ b) → ∃ x μ', (z_bn (f_X10_fail N (2 : Int32) μ) fun x3 μ_2 => some ((-1 : Int32), μ_2)) = some (x, μ') ∧ uFr μ μ' ∧ (x = -1 ∧ cB 2 q μ') := fun _ => by
        obtain ⟨μ', r1, r2, r3⟩ := c_fail N (f := 2) h
        have r1' : f_X10_fail N (2 : Int32) μ = some (0, μ') := r1
        rw [r1', z_bn_sm]
        exact ⟨-1, μ', rfl, r2, rfl, r3⟩
      by_cases c3 : numV t q (tkE t n q - q) < a
      · rw [if_pos (nI_lt c3 (by omega))]
        obtain ⟨x, μ', r1, r2, r3, r4⟩ := bad (by omega)
        exact ⟨x, μ', r1, r2, Or.inr (Or.inr (Or.inr ⟨c, by omega, by omega, r3, r4⟩))⟩
      · rw [if_neg (nI_nlt (by omega) (by omega))]
        by_cases c4 : b < numV t q (tkE t n q - q)
        · rw [if_pos (nI_lt c4 (by omega))]
          obtain ⟨x, μ', r1, r2, r3, r4⟩ := bad (by omega)
          exact ⟨x, μ', r1, r2, Or.inr (Or.inr (Or.inr ⟨c, by omega, by omega, r3, r4⟩))⟩
        · rw [if_neg (nI_nlt (by omega) (by omega))]
          obtain ⟨μ', r1, r2, r3⟩ := c_next N hN h
          rw [r1, z_bn_sm]
          exact ⟨_, μ', rfl, r2, Or.inl ⟨c, by omega, by omega, by omega, rfl, r3⟩⟩
  · rw [if_neg (show ¬ nI (tkK t n q g) = (2 : Int32) from fun z => c ((nI_eq (b := 2) (by omega) (by decide)).mp z))]
    obtain ⟨μ', r1, r2, r3⟩ := c_fail N (f := 1) h
    have r1' : f_X10_fail N (1 : Int32) μ = some (0, μ') := r1
    rw [r1', z_bn_sm]
    exact ⟨-1, μ', rfl, r2, Or.inr (Or.inl ⟨c, rfl, r3⟩)⟩
/-- an own word of a heap's -/
def isOwn (x : Int32) : Prop := ¬ x = -1 ∧ x < 28
theorem c_nameHere {t : Nat → Nat} {n q : Nat} {g : Bool} (N : Nat) {μ : z_S} (h : cG t n q g μ) : ∃ x μ', f_X10_nameHere N μ = some (x, μ') ∧ uFr μ μ' ∧
    ((tkK t n q g = 1 ∧ ¬ isOwn (tkW t n q g) ∧ tkE t n q ≤ q + 6 ∧ x = nI (pk32 (lts t q (tkE t n q - q)) 6) ∧ μ' = μ) ∨ (¬ (tkK t n q g = 1 ∧ ¬ isOwn (tkW t n q g)) ∧ x = -1 ∧ cB 1 q μ') ∨ (tkK t n q g = 1 ∧ ¬ isOwn (tkW t n q g) ∧ q + 6 < tkE t n q ∧ x = -1 ∧ cB 1 (q + 6) μ')) := by
  have hn := h.1.1
  have hq := h.2.2.2
  have k4 := tkK_4 (t := t) (n := n) (q := q) (g := g)
  obtain ⟨a1, a2, a3⟩ := tkE_b (t := t) hq
  have go : ∀ s0 : Int32, (s0 = 0 ↔ ¬ isOwn (tkW t n q g)) → ∃ x μ', f_X10_nameHere_B22 N s0 μ = some (x, μ') ∧ uFr μ μ' ∧
    ((tkK t n q g = 1 ∧ ¬ isOwn (tkW t n q g) ∧ tkE t n q ≤ q + 6 ∧ x = nI (pk32 (lts t q (tkE t n q - q)) 6) ∧ μ' = μ) ∨ (¬ (tkK t n q g = 1 ∧ ¬ isOwn (tkW t n q g)) ∧ x = -1 ∧ cB 1 q μ') ∨ (tkK t n q g = 1 ∧ ¬ isOwn (tkW t n q g) ∧ q + 6 < tkE t n q ∧ x = -1 ∧ cB 1 (q + 6) μ')) := fun s0 hs => by
    unfold f_X10_nameHere_B22 f_X10_nameHere_B35
    rw [h.2.1.2.2.1, h.2.1.1, h.2.1.2.1]
    have bad : ¬ (tkK t n q g = 1 ∧ ¬ isOwn (tkW t n q g)) → ∃ x μ', (z_bn (f_X10_failAt N (1 : Int32) (nI q) μ) fun x2 μ_2 => some ((-1 : Int32), μ_2)) = some (x, μ') ∧ uFr μ μ' ∧
    ((tkK t n q g = 1 ∧ ¬ isOwn (tkW t n q g) ∧ tkE t n q ≤ q + 6 ∧ x = nI (pk32 (lts t q (tkE t n q - q)) 6) ∧ μ' = μ) ∨ (¬ (tkK t n q g = 1 ∧ ¬ isOwn (tkW t n q g)) ∧ x = -1 ∧ cB 1 q μ') ∨ (tkK t n q g = 1 ∧ ¬ isOwn (tkW t n q g) ∧ q + 6 < tkE t n q ∧ x = -1 ∧ cB 1 (q + 6) μ')) := fun z => by
      obtain ⟨μ', r1, r2, r3⟩ := c_failAt N (f := 1) q h.2.2.1
      have r1' : f_X10_failAt N (1 : Int32) (nI q) μ = some (0, μ') := r1
      rw [r1', z_bn_sm]
      exact ⟨-1, μ', rfl, r2, Or.inr (Or.inl ⟨z, rfl, r3⟩)⟩
    by_cases c : tkK t n q g = 1
    · rw [if_pos (show nI (tkK t n q g) = (1 : Int32) by rw [c]; rfl)]
      by_cases c0 : s0 = 0
      · rw [if_pos c0]
        have no := hs.mp c0
        have e6 : nI q + (6 : Int32) = nI (q + 6) := nI_add q 6
        rw [e6]
        by_cases c2 : q + 6 < tkE t n q
        · obtain ⟨μ', r1, r2, r3⟩ := c_failAt N (f := 1) (q + 6) h.2.2.1
          have r1' : f_X10_failAt N (1 : Int32) (nI (q + 6)) μ = some (0, μ') := r1
          rw [if_pos (nI_lt c2 (by omega)), r1', z_bn_sm]
          exact ⟨-1, μ', rfl, r2, Or.inr (Or.inr ⟨c, no, c2, rfl, r3⟩)⟩
        · rw [if_neg (nI_nlt (by omega) (by omega)), h.2.1.2.2.2.2.2.1 c (by omega)]
          exact ⟨_, μ, rfl, uFr.rf μ, Or.inl ⟨c, no, by omega, rfl, rfl⟩⟩
      · rw [if_neg c0]
        exact bad (fun z => c0 (hs.mpr z.2))
    · rw [if_neg (show ¬ nI (tkK t n q g) = (1 : Int32) from fun z => c ((nI_eq (b := 1) (by omega) (by decide)).mp z))]
      exact bad (fun z => c z.1)
  unfold f_X10_nameHere f_X10_nameHere_B21
  rw [h.2.1.2.2.2.2.1]
  by_cases c : tkW t n q g = -1
  · rw [if_pos c]
    exact go 0 ⟨fun _ z => z.1 c, fun _ => rfl⟩
  · rw [if_neg c]
    by_cases c2 : tkW t n q g < 28
    · rw [if_pos c2]
      exact go 1 ⟨fun z => absurd z (by decide), fun z => absurd ⟨c, c2⟩ z⟩
    · rw [if_neg c2]
      exact go 0 ⟨fun _ z => c2 z.2, fun _ => rfl⟩
