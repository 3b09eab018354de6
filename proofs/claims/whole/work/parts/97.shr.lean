/-! rows as numbers of five figures; gifts shared -/
def codF (r : Nat → Nat) : Nat → Nat
  | 0 => 0
  | n + 1 => 5 * codF r n + r n
/-- next row: the last place k where a figure can be one more -/
theorem cof_le {f r s : Nat → Nat} : ∀ n, (∀ l, l < n → r l = f l) → (∀ l, l < n → s l ≤ f l) → codF s n ≤ codF r n
  | 0, _, _ => Nat.le_refl 0
  | n + 1, h1, h2 => by
    have h := cof_le n (fun l hl => h1 l (by omega)) (fun l hl => h2 l (by omega))
    show 5 * codF s n + s n ≤ 5 * codF r n + r n
    have := h1 n (by omega)
    have := h2 n (by omega)
    omega
theorem cof_same {r s : Nat → Nat} : ∀ n, (∀ l, l < n → r l = s l) → codF r n = codF s n
  | 0, _ => rfl
  | n + 1, h => by
    show 5 * codF r n + r n = 5 * codF s n + s n
    rw [cof_same n (fun l hl => h l (by omega)), h n (by omega)]
theorem cof_next {f r r' : Nat → Nat} {k : Nat} (h1 : ∀ l, l < k → r' l = r l) (h2 : r' k = r k + 1) : ∀ n, k < n → (∀ l, k < l → l < n → r l = f l ∧ r' l = 0 ∧ f l ≤ 4) → codF r n < codF r' n ∧ ∀ s, (∀ l, l < n → s l ≤ f l) → codF r n < codF s n → codF r' n ≤ codF s n
  | 0, hk, _ => by omega
  | n + 1, hk, h3 => by
    by_cases e : k = n
    · subst e
      have c : codF r' k = codF r k := cof_same k h1
      refine ⟨?_, fun s hs hlt => ?_⟩
      · show 5 * codF r k + r k < 5 * codF r' k + r' k
        omega
      · show 5 * codF r' k + r' k ≤ codF s (k + 1)
        have hlt' : 5 * codF r k + r k < codF s (k + 1) := hlt
        omega
    · obtain ⟨i1, i2⟩ := cof_next h1 h2 n (by omega) (fun l q1 q2 => h3 l q1 (by omega))
      obtain ⟨z1, z2, z3⟩ := h3 n (by omega) (by omega)
      refine ⟨?_, fun s hs hlt => ?_⟩
      · show 5 * codF r n + r n < 5 * codF r' n + r' n
        omega
      · have hlt' : 5 * codF r n + r n < 5 * codF s n + s n := hlt
        have hsn := hs n (by omega)
        have := i2 s (fun l hl => hs l (by omega)) (by omega)
        show 5 * codF r' n + r' n ≤ 5 * codF s n + s n
        omega
theorem cof_inj {r s : Nat → Nat} : ∀ n, (∀ l, l < n → r l ≤ 4) → (∀ l, l < n → s l ≤ 4) → codF r n = codF s n → ∀ l, l < n → r l = s l
  | 0, _, _, _, l, hl => by omega
  | n + 1, h1, h2, h, l, hl => by
    have h' : 5 * codF r n + r n = 5 * codF s n + s n := h
    have a := h1 n (by omega)
    have b := h2 n (by omega)
    by_cases e : l = n
    · rw [e]; omega
    · exact cof_inj n (fun l hl => h1 l (by omega)) (fun l hl => h2 l (by omega)) (by omega) l (by omega)
theorem cof_lt {r : Nat → Nat} : ∀ n, (∀ l, l < n → r l ≤ 4) → codF r n < 5 ^ n
  | 0, _ => Nat.zero_lt_one
  | n + 1, h => by
    have h1 := cof_lt n (fun l hl => h l (by omega))
    have h2 := h n (by omega)
    show 5 * codF r n + r n < 5 ^ (n + 1)
    rw [Nat.pow_succ]
    omega
theorem cof_lex {r s : Nat → Nat} : ∀ n, (∀ l, l < n → r l ≤ 4) → (∀ l, l < n → s l ≤ 4) → codF r n < codF s n → ∃ j, j < n ∧ (∀ i, i < j → r i = s i) ∧ r j < s j
  | 0, _, _, h => absurd h (Nat.lt_irrefl 0)
  | n + 1, h1, h2, h => by
    have h' : 5 * codF r n + r n < 5 * codF s n + s n := h
    have a := h1 n (by omega)
    have b := h2 n (by omega)
    rcases Nat.lt_trichotomy (codF r n) (codF s n) with q | q | q
    · obtain ⟨j, j1, j2, j3⟩ := cof_lex n (fun l hl => h1 l (by omega)) (fun l hl => h2 l (by omega)) q
      exact ⟨j, by omega, j2, j3⟩
    · exact ⟨n, by omega, cof_inj n (fun l hl => h1 l (by omega)) (fun l hl => h2 l (by omega)) q, by omega⟩
    · omega
/-- the row r isn't behind s, from place a on -/
def lexF (a : Nat) (r s : Nat → Nat) : Prop := (∀ l, a ≤ l → l < 8 → r l = s l) ∨ ∃ j, a ≤ j ∧ j < 8 ∧ (∀ i, a ≤ i → i < j → r i = s i) ∧ r j < s j
theorem lexF_anti {r s : Nat → Nat} (h : lexF 0 r s) (g : lexF 0 s r) : ∀ l, l < 8 → r l = s l := by
  rcases h with h | ⟨j, j1, j2, j3, j4⟩
  · exact fun l hl => h l (Nat.zero_le _) hl
  · exfalso
    rcases g with g | ⟨k, k1, k2, k3, k4⟩
    · have := g j (Nat.zero_le _) j2; omega
    · rcases Nat.lt_trichotomy j k with q | q | q
      · have := k3 j (Nat.zero_le _) q; omega
      · subst q; omega
      · have := j3 k (Nat.zero_le _) q; omega
theorem lexF_step {a : Nat} (ha : a < 8) {r s : Nat → Nat} (h0 : r a < s a ∨ (r a = s a ∧ lexF (a + 1) r s)) : lexF a r s := by
  rcases h0 with h | ⟨h1, h2⟩
  · exact Or.inr ⟨a, Nat.le_refl _, ha, fun i q1 q2 => by omega, h⟩
  · rcases h2 with h2 | ⟨j, j1, j2, j3, j4⟩
    · refine Or.inl (fun l q1 q2 => ?_)
      by_cases z : l = a
      · rw [z]; exact h1
      · exact h2 l (by omega) q2
    · refine Or.inr ⟨j, by omega, j2, fun i q1 q2 => ?_, j4⟩
      by_cases z : i = a
      · rw [z]; exact h1
      · exact j3 i (by omega) q2
/-- the greatest of a and those v g that may be -/
def maxG (p : Nat → Bool) (v : Nat → Nat) (a : Nat) : Nat → Nat
  | 0 => a
  | g + 1 => if p g = true ∧ maxG p v a g < v g then v g else maxG p v a g
theorem maxG_ge (p : Nat → Bool) (v : Nat → Nat) (a : Nat) : ∀ n, a ≤ maxG p v a n ∧ ∀ g, g < n → p g = true → v g ≤ maxG p v a n
  | 0 => ⟨Nat.le_refl _, fun g hg => by omega⟩
  | n + 1 => by
    obtain ⟨h1, h2⟩ := maxG_ge p v a n
    show a ≤ (if p n = true ∧ maxG p v a n < v n then v n else maxG p v a n) ∧ ∀ g, g < n + 1 → p g = true → v g ≤ (if p n = true ∧ maxG p v a n < v n then v n else maxG p v a n)
    by_cases c : p n = true ∧ maxG p v a n < v n
    · rw [if_pos c]
      refine ⟨by omega, fun g hg hp => ?_⟩
      by_cases z : g = n
      · rw [z]; exact Nat.le_refl _
      · have := h2 g (by omega) hp; omega
    · rw [if_neg c]
      refine ⟨h1, fun g hg hp => ?_⟩
      by_cases z : g = n
      · rw [z] at hp ⊢
        have : ¬ maxG p v a n < v n := fun y => c ⟨hp, y⟩
        omega
      · exact h2 g (by omega) hp
theorem maxG_is (p : Nat → Bool) (v : Nat → Nat) (a : Nat) : ∀ n, maxG p v a n = a ∨ ∃ g, g < n ∧ p g = true ∧ maxG p v a n = v g
  | 0 => Or.inl rfl
  | n + 1 => by
    show (if p n = true ∧ maxG p v a n < v n then v n else maxG p v a n) = a ∨ ∃ g, g < n + 1 ∧ p g = true ∧ (if p n = true ∧ maxG p v a n < v n then v n else maxG p v a n) = v g
    by_cases c : p n = true ∧ maxG p v a n < v n
    · rw [if_pos c]
      exact Or.inr ⟨n, by omega, c.1, rfl⟩
    · rw [if_neg c]
      rcases maxG_is p v a n with h | ⟨g, g1, g2, g3⟩
      · exact Or.inl h
      · exact Or.inr ⟨g, by omega, g2, g3⟩
theorem maxG_congr {p q : Nat → Bool} {v w : Nat → Nat} {a b : Nat} : ∀ n, a = b → (∀ g, g < n → p g = q g) → (∀ g, g < n → p g = true → v g = w g) → maxG p v a n = maxG q w b n
  | 0, h, _, _ => h
  | n + 1, h, h1, h2 => by
    have ih := maxG_congr n h (fun g hg => h1 g (by omega)) (fun g hg => h2 g (by omega))
    show (if p n = true ∧ maxG p v a n < v n then v n else maxG p v a n) = (if q n = true ∧ maxG q w b n < w n then w n else maxG q w b n)
    rw [ih, h1 n (by omega)]
    by_cases c : q n = true
    · rw [h2 n (by omega) (by rw [h1 n (by omega)]; exact c)]
    · rw [if_neg (fun z => c z.1), if_neg (fun z => c z.1)]
def decS (s : Nat → Nat) (g k : Nat) : Nat := if k = g then s g - 1 else s k
/-- the most from the last k letters on: tk who may take one, G kinds, v what it is worth, s the stock -/
def mxF (tk : Nat → Bool) (G : Nat) (v : Nat → Nat → Nat) : Nat → (Nat → Nat) → Nat
  | 0, _ => 0
  | k + 1, s => if tk (7 - k) = true then maxG (fun g => decide (0 < s g)) (fun g => v (7 - k) g + mxF tk G v k (decS s g)) (mxF tk G v k s) G else mxF tk G v k s
theorem mxF_congr {tk : Nat → Bool} {G : Nat} {v : Nat → Nat → Nat} : ∀ k {s t : Nat → Nat}, (∀ g, g < G → s g = t g) → mxF tk G v k s = mxF tk G v k t
  | 0, _, _, _ => rfl
  | k + 1, s, t, h => by
    show (if tk (7 - k) = true then maxG (fun g => decide (0 < s g)) (fun g => v (7 - k) g + mxF tk G v k (decS s g)) (mxF tk G v k s) G else mxF tk G v k s) = (if tk (7 - k) = true then maxG (fun g => decide (0 < t g)) (fun g => v (7 - k) g + mxF tk G v k (decS t g)) (mxF tk G v k t) G else mxF tk G v k t)
    rw [mxF_congr k h]
    by_cases c : tk (7 - k) = true
    · rw [if_pos c, if_pos c]
      refine maxG_congr G rfl (fun g hg => ?_) (fun g hg _ => ?_)
      · show decide (0 < s g) = decide (0 < t g)
        rw [h g hg]
      · show v (7 - k) g + mxF tk G v k (decS s g) = v (7 - k) g + mxF tk G v k (decS t g)
        rw [mxF_congr k (s := decS s g) (t := decS t g) (fun q hq => by unfold decS; rw [h g hg, h q hq])]
    · rw [if_neg c, if_neg c]
/-- what a row is worth, and how many of a kind it takes, in its last k letters -/
def vlF (v : Nat → Nat → Nat) (r : Nat → Nat) : Nat → Nat
  | 0 => 0
  | k + 1 => (if 0 < r (7 - k) then v (7 - k) (r (7 - k) - 1) else 0) + vlF v r k
def cnF (r : Nat → Nat) (g : Nat) : Nat → Nat
  | 0 => 0
  | k + 1 => (if r (7 - k) = g + 1 then 1 else 0) + cnF r g k
theorem vlF_ext {v : Nat → Nat → Nat} {r s : Nat → Nat} : ∀ k, k ≤ 8 → (∀ l, 8 - k ≤ l → l < 8 → r l = s l) → vlF v r k = vlF v s k
  | 0, _, _ => rfl
  | k + 1, hk, h => by
    show (if 0 < r (7 - k) then v (7 - k) (r (7 - k) - 1) else 0) + vlF v r k = (if 0 < s (7 - k) then v (7 - k) (s (7 - k) - 1) else 0) + vlF v s k
    rw [h (7 - k) (by omega) (by omega), vlF_ext k (by omega) (fun l q1 q2 => h l (by omega) q2)]
theorem cnF_ext {r s : Nat → Nat} {g : Nat} : ∀ k, k ≤ 8 → (∀ l, 8 - k ≤ l → l < 8 → r l = s l) → cnF r g k = cnF s g k
  | 0, _, _ => rfl
  | k + 1, hk, h => by
    show (if r (7 - k) = g + 1 then 1 else 0) + cnF r g k = (if s (7 - k) = g + 1 then 1 else 0) + cnF s g k
    rw [h (7 - k) (by omega) (by omega), cnF_ext k (by omega) (fun l q1 q2 => h l (by omega) q2)]
def FsF (tk : Nat → Bool) (G : Nat) (v : Nat → Nat → Nat) (k : Nat) (s r : Nat → Nat) : Prop := (∀ l, 8 - k ≤ l → l < 8 → r l ≤ G) ∧ (∀ l, 8 - k ≤ l → l < 8 → tk l = false → 0 < r l → v l (r l - 1) = 0) ∧ ∀ g, g < G → cnF r g k ≤ s g
theorem FsF_0 {tk : Nat → Bool} {G : Nat} {v : Nat → Nat → Nat} {k : Nat} (hk : k < 8) {s r : Nat → Nat} (h : FsF tk G v (k + 1) s r) : FsF tk G v k s r := ⟨fun l q1 q2 => h.1 l (by omega) q2, fun l q1 q2 => h.2.1 l (by omega) q2, fun g hg => by
  have := h.2.2 g hg
  have e : cnF r g (k + 1) = (if r (7 - k) = g + 1 then 1 else 0) + cnF r g k := rfl
  omega⟩
theorem FsF_1 {tk : Nat → Bool} {G : Nat} {v : Nat → Nat → Nat} {k : Nat} (hk : k < 8) {s r : Nat → Nat} (h : FsF tk G v (k + 1) s r) {g : Nat} (hr : r (7 - k) = g + 1) : 0 < s g ∧ FsF tk G v k (decS s g) r := by
  have hg : g < G := by have := h.1 (7 - k) (by omega) (by omega); omega
  have e : ∀ q, cnF r q (k + 1) = (if r (7 - k) = q + 1 then 1 else 0) + cnF r q k := fun q => rfl
  refine ⟨?_, fun l q1 q2 => h.1 l (by omega) q2, fun l q1 q2 => h.2.1 l (by omega) q2, fun q hq => ?_⟩
  · have := h.2.2 g hg
    rw [e, if_pos hr] at this
    omega
  · have h1 := h.2.2 q hq
    rw [e] at h1
    unfold decS
    by_cases z : q = g
    · rw [if_pos z]
      rw [z, if_pos hr] at h1
      rw [z]
      omega
    · rw [if_neg z]
      omega
theorem mxF_up {tk : Nat → Bool} {G : Nat} {v : Nat → Nat → Nat} {r : Nat → Nat} : ∀ k, k ≤ 8 → ∀ s, FsF tk G v k s r → vlF v r k ≤ mxF tk G v k s
  | 0, _, _, _ => Nat.le_refl 0
  | k + 1, hk, s, h => by
    have h0 := mxF_up (r := r) k (by omega) s (FsF_0 hk h)
    show (if 0 < r (7 - k) then v (7 - k) (r (7 - k) - 1) else 0) + vlF v r k ≤ (if tk (7 - k) = true then maxG (fun g => decide (0 < s g)) (fun g => v (7 - k) g + mxF tk G v k (decS s g)) (mxF tk G v k s) G else mxF tk G v k s)
    by_cases c : tk (7 - k) = true
    · rw [if_pos c]
      obtain ⟨g1, g2⟩ := maxG_ge (fun g => decide (0 < s g)) (fun g => v (7 - k) g + mxF tk G v k (decS s g)) (mxF tk G v k s) G
      by_cases p : 0 < r (7 - k)
      · rw [if_pos p]
        obtain ⟨g, hg⟩ : ∃ g, r (7 - k) = g + 1 := ⟨r (7 - k) - 1, by omega⟩
        obtain ⟨s1, s2⟩ := FsF_1 hk h hg
        have h1 := mxF_up (r := r) k (by omega) (decS s g) s2
        have hG := h.1 (7 - k) (by omega) (by omega)
        have h2 : v (7 - k) g + mxF tk G v k (decS s g) ≤ _ := g2 g (by omega) (decide_eq_true s1)
        rw [hg]
        show v (7 - k) g + vlF v r k ≤ _
        omega
      · rw [if_neg p]
        omega
    · rw [if_neg c]
      by_cases p : 0 < r (7 - k)
      · rw [if_pos p, h.2.1 (7 - k) (by omega) (by omega) (by cases ht : tk (7 - k); rfl; exact absurd ht c) p]
        omega
      · rw [if_neg p]
        omega
/-- the first kind that may be and is worth x -/
def fstG (p : Nat → Bool) : Nat → Nat → Nat
  | 0, g => g
  | n + 1, g => if p g then g else fstG p n (g + 1)
theorem fstG_is (p : Nat → Bool) : ∀ n g, (∃ q, g ≤ q ∧ q < g + n ∧ p q = true) → p (fstG p n g) = true ∧ g ≤ fstG p n g ∧ fstG p n g < g + n ∧ ∀ q, g ≤ q → q < fstG p n g → p q = false
  | 0, g, ⟨q, h1, h2, _⟩ => by omega
  | n + 1, g, ⟨q, h1, h2, h3⟩ => by
    show p (if p g = true then g else fstG p n (g + 1)) = true ∧ g ≤ (if p g = true then g else fstG p n (g + 1)) ∧ (if p g = true then g else fstG p n (g + 1)) < g + (n + 1) ∧ ∀ q, g ≤ q → q < (if p g = true then g else fstG p n (g + 1)) → p q = false
    by_cases c : p g = true
    · rw [if_pos c]
      exact ⟨c, Nat.le_refl _, by omega, fun q a b => by omega⟩
    · rw [if_neg c]
      have hq : g + 1 ≤ q := by
        rcases Nat.lt_or_ge g q with y | y
        · exact y
        · have : q = g := by omega
          rw [this] at h3; exact absurd h3 c
      obtain ⟨r1, r2, r3, r4⟩ := fstG_is p n (g + 1) ⟨q, hq, by omega, h3⟩
      refine ⟨r1, by omega, by omega, fun q a b => ?_⟩
      by_cases z : q = g
      · rw [z]; cases hp : p g; rfl; exact absurd hp c
      · exact r4 q (by omega) b
def chP (tk : Nat → Bool) (G : Nat) (v : Nat → Nat → Nat) (k : Nat) (s : Nat → Nat) (g : Nat) : Bool := decide (0 < s g ∧ v (7 - k) g + mxF tk G v k (decS s g) = mxF tk G v (k + 1) s)
def chF (tk : Nat → Bool) (G : Nat) (v : Nat → Nat → Nat) : Nat → (Nat → Nat) → Nat → Nat
  | 0, _ => fun _ => 0
  | k + 1, s => if tk (7 - k) = true ∧ mxF tk G v k s ≠ mxF tk G v (k + 1) s then (fun q => if q = 7 - k then fstG (chP tk G v k s) G 0 + 1 else chF tk G v k (decS s (fstG (chP tk G v k s) G 0)) q) else chF tk G v k s
theorem chF_p {tk : Nat → Bool} {G : Nat} {v : Nat → Nat → Nat} : ∀ k, k ≤ 8 → ∀ s, FsF tk G v k s (chF tk G v k s) ∧ (∀ l, l < 8 - k ∨ 8 ≤ l ∨ tk l = false → chF tk G v k s l = 0) ∧ vlF v (chF tk G v k s) k = mxF tk G v k s ∧ ∀ r, FsF tk G v k s r → vlF v r k = mxF tk G v k s → lexF (8 - k) (chF tk G v k s) r
  | 0, _, s => ⟨⟨fun l q1 q2 => by omega, fun l q1 q2 => by omega, fun g hg => Nat.zero_le _⟩, fun _ _ => rfl, rfl, fun r _ _ => Or.inl (fun l q1 q2 => by omega)⟩
  | k + 1, hk, s => by
    have hup := fun r (h : FsF tk G v k s r) => mxF_up (tk := tk) (G := G) (v := v) (r := r) k (by omega) s h
    have em : mxF tk G v (k + 1) s = if tk (7 - k) = true then maxG (fun g => decide (0 < s g)) (fun g => v (7 - k) g + mxF tk G v k (decS s g)) (mxF tk G v k s) G else mxF tk G v k s := rfl
    by_cases c : tk (7 - k) = true ∧ mxF tk G v k s ≠ mxF tk G v (k + 1) s
    · have ec : chF tk G v (k + 1) s = fun q => if q = 7 - k then fstG (chP tk G v k s) G 0 + 1 else chF tk G v k (decS s (fstG (chP tk G v k s) G 0)) q := if_pos c
      rw [if_pos c.1] at em
      have hex : ∃ q, 0 ≤ q ∧ q < 0 + G ∧ chP tk G v k s q = true := by
        rcases maxG_is (fun g => decide (0 < s g)) (fun g => v (7 - k) g + mxF tk G v k (decS s g)) (mxF tk G v k s) G with z | ⟨g, g1, g2, g3⟩
        · exact absurd (em.trans z).symm c.2
        · exact ⟨g, Nat.zero_le _, by omega, decide_eq_true ⟨of_decide_eq_true g2, (em.trans g3).symm⟩⟩
      obtain ⟨f1, -, f3, f4⟩ := fstG_is (chP tk G v k s) G 0 hex
      generalize hg : fstG (chP tk G v k s) G 0 = g at *
      obtain ⟨g1, g2⟩ := of_decide_eq_true f1
      obtain ⟨i1, i2, i3, i4⟩ := chF_p (tk := tk) (G := G) (v := v) k (by omega) (decS s g)
      rw [ec]
      generalize hR : chF tk G v k (decS s g) = R at *
      have eR : ∀ l, 8 - k ≤ l → l < 8 → (if l = 7 - k then g + 1 else R l) = R l := fun l q1 q2 => if_neg (by omega)
      have e7 : (if 7 - k = 7 - k then g + 1 else R (7 - k)) = g + 1 := if_pos rfl
      have ev : vlF v (fun q => if q = 7 - k then g + 1 else R q) k = vlF v R k := vlF_ext k (by omega) eR
      have ecn : ∀ q, cnF (fun q => if q = 7 - k then g + 1 else R q) q k = cnF R q k := fun q => cnF_ext k (by omega) eR
      refine ⟨⟨fun l q1 q2 => ?_, fun l q1 q2 ht hp => ?_, fun q hq => ?_⟩, fun l hl => ?_, ?_, fun r hr hv => ?_⟩
      · show (if l = 7 - k then g + 1 else R l) ≤ G
        by_cases z : l = 7 - k
        · rw [if_pos z]; omega
        · rw [if_neg z]; exact i1.1 l (by omega) q2
      · show v l ((if l = 7 - k then g + 1 else R l) - 1) = 0
        by_cases z : l = 7 - k
        · rw [z, c.1] at ht; cases ht
        · have hp' : 0 < (if l = 7 - k then g + 1 else R l) := hp
          rw [if_neg z] at hp' ⊢
          exact i1.2.1 l (by omega) q2 ht hp'
      · show (if (if 7 - k = 7 - k then g + 1 else R (7 - k)) = q + 1 then 1 else 0) + cnF (fun q => if q = 7 - k then g + 1 else R q) q k ≤ s q
        rw [e7, ecn]
        have := i1.2.2 q hq
        unfold decS at this
        by_cases z : q = g
        · rw [if_pos z] at this
          rw [z] at this ⊢
          rw [if_pos rfl]; omega
        · rw [if_neg z] at this
          rw [if_neg (by omega)]; omega
      · show (if l = 7 - k then g + 1 else R l) = 0
        by_cases z : l = 7 - k
        · exfalso
          rcases hl with y | y | y
          · omega
          · omega
          · rw [z, c.1] at y; cases y
        · rw [if_neg z]
          exact i2 l (by rcases hl with y | y | y; exact Or.inl (by omega); exact Or.inr (Or.inl y); exact Or.inr (Or.inr y))
      · show (if 0 < (if 7 - k = 7 - k then g + 1 else R (7 - k)) then v (7 - k) ((if 7 - k = 7 - k then g + 1 else R (7 - k)) - 1) else 0) + vlF v (fun q => if q = 7 - k then g + 1 else R q) k = _
        rw [e7, ev, i3, if_pos (by omega)]
        exact g2
      · rw [show 8 - (k + 1) = 7 - k by omega]
        refine lexF_step (by omega) ?_
        show (if 7 - k = 7 - k then g + 1 else R (7 - k)) < r (7 - k) ∨ ((if 7 - k = 7 - k then g + 1 else R (7 - k)) = r (7 - k) ∧ _)
        rw [e7]
        have hv' : (if 0 < r (7 - k) then v (7 - k) (r (7 - k) - 1) else 0) + vlF v r k = mxF tk G v (k + 1) s := hv
        have h0 := hup r (FsF_0 hk hr)
        have hle : mxF tk G v k s ≤ mxF tk G v (k + 1) s := by
          rw [em]; exact (maxG_ge _ _ _ G).1
        by_cases p : 0 < r (7 - k)
        · rw [if_pos p] at hv'
          obtain ⟨q, hq⟩ : ∃ q, r (7 - k) = q + 1 := ⟨r (7 - k) - 1, by omega⟩
          obtain ⟨s1, s2⟩ := FsF_1 hk hr hq
          have hqG := hr.1 (7 - k) (by omega) (by omega)
          have h1 := mxF_up (tk := tk) (G := G) (v := v) (r := r) k (by omega) (decS s q) s2
          have hb : v (7 - k) q + mxF tk G v k (decS s q) ≤ mxF tk G v (k + 1) s := by
            rw [em]; exact (maxG_ge (fun g => decide (0 < s g)) (fun g => v (7 - k) g + mxF tk G v k (decS s g)) (mxF tk G v k s) G).2 q (by omega) (decide_eq_true s1)
          rw [hq, show q + 1 - 1 = q by omega] at hv'
          have hch : chP tk G v k s q = true := decide_eq_true ⟨s1, by omega⟩
          rcases Nat.lt_trichotomy q g with y | y | y
          · rw [f4 q (Nat.zero_le _) y] at hch; cases hch
          · right
            rw [hq, y]
            refine ⟨rfl, ?_⟩
            rw [y] at s2 hv'
            have hl := i4 r s2 (by omega)
            rw [show 7 - k + 1 = 8 - k by omega]
            rcases hl with hl | ⟨j, j1, j2, j3, j4⟩
            · exact Or.inl (fun l a b => (eR l a b).trans (hl l a b))
            · refine Or.inr ⟨j, j1, j2, fun i a b => (eR i a (by omega)).trans (j3 i a b), ?_⟩
              show (if j = 7 - k then g + 1 else R j) < r j
              rw [eR j j1 j2]
              exact j4
          · left; omega
        · rw [if_neg p] at hv'
          omega
    · have ec : chF tk G v (k + 1) s = chF tk G v k s := if_neg c
      obtain ⟨i1, i2, i3, i4⟩ := chF_p (tk := tk) (G := G) (v := v) k (by omega) s
      have z7 : chF tk G v k s (7 - k) = 0 := i2 (7 - k) (by omega)
      have hmm : mxF tk G v (k + 1) s = mxF tk G v k s := by
        by_cases t : tk (7 - k) = true
        · by_cases y : mxF tk G v k s = mxF tk G v (k + 1) s
          · exact y.symm
          · exact absurd ⟨t, y⟩ c
        · rw [em, if_neg t]
      rw [ec, hmm]
      generalize hR : chF tk G v k s = R at *
      refine ⟨⟨fun l q1 q2 => ?_, fun l q1 q2 ht hp => ?_, fun q hq => ?_⟩, fun l hl => i2 l (by rcases hl with y | y | y; exact Or.inl (by omega); exact Or.inr (Or.inl y); exact Or.inr (Or.inr y)), ?_, fun r hr hv => ?_⟩
      · by_cases z : l = 7 - k
        · rw [z, z7]; exact Nat.zero_le _
        · exact i1.1 l (by omega) q2
      · by_cases z : l = 7 - k
        · rw [z, z7] at hp; omega
        · exact i1.2.1 l (by omega) q2 ht hp
      · show (if R (7 - k) = q + 1 then 1 else 0) + cnF R q k ≤ s q
        rw [z7, if_neg (by omega)]
        have := i1.2.2 q hq
        omega
      · show (if 0 < R (7 - k) then v (7 - k) (R (7 - k) - 1) else 0) + vlF v R k = _
        rw [z7, if_neg (Nat.lt_irrefl 0), i3]
        omega
      · rw [show 8 - (k + 1) = 7 - k by omega]
        refine lexF_step (by omega) ?_
        rw [z7]
        by_cases p : 0 < r (7 - k)
        · exact Or.inl p
        · refine Or.inr ⟨by omega, ?_⟩
          have hv' : (if 0 < r (7 - k) then v (7 - k) (r (7 - k) - 1) else 0) + vlF v r k = mxF tk G v k s := hv
          rw [if_neg p] at hv'
          rw [show 7 - k + 1 = 8 - k by omega]
          exact i4 r (FsF_0 hk hr) (by omega)
