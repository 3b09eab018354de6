/-! TOKENS: what stands at a place of the tape -/
def endR (P : Nat → Bool) : Nat → Nat → Nat
  | 0, q => q
  | f + 1, q => if P q = true then endR P f (q + 1) else q
/-- where a run ends -/
def endE (n : Nat) (P : Nat → Bool) (q : Nat) : Nat := endR P (n - q) q
theorem endE_lt {n q : Nat} {P : Nat → Bool} (h : q < n) : endE n P q = if P q = true then endE n P (q + 1) else q := by
  unfold endE
  rw [show n - q = (n - (q + 1)) + 1 by omega]
  rfl
theorem endE_ge {n q : Nat} {P : Nat → Bool} (h : n ≤ q) : endE n P q = q := by
  unfold endE
  rw [show n - q = 0 by omega]
  rfl
theorem endR_b {P : Nat → Bool} : ∀ f q, q ≤ endR P f q ∧ endR P f q ≤ q + f ∧ (∀ k, q ≤ k → k < endR P f q → P k = true) ∧ (endR P f q < q + f → P (endR P f q) = false)
  | 0, q => ⟨Nat.le_refl _, Nat.le_refl _, fun k a b => by have : endR P 0 q = q := rfl; omega, fun a => by have : endR P 0 q = q := rfl; omega⟩
  | f + 1, q => by
    obtain ⟨h1, h2, h3, h4⟩ := endR_b (P := P) f (q + 1)
    by_cases c : P q = true
    · have e : endR P (f + 1) q = endR P f (q + 1) := if_pos c
      rw [e]
      refine ⟨by omega, by omega, fun k a b => ?_, fun a => h4 (by omega)⟩
      by_cases z : k = q
      · rw [z]; exact c
      · exact h3 k (by omega) b
    · have e : endR P (f + 1) q = q := if_neg c
      rw [e]
      exact ⟨Nat.le_refl _, by omega, fun k a b => by omega, fun _ => by cases hq : P q; rfl; exact absurd hq c⟩
theorem endE_b {n q : Nat} {P : Nat → Bool} (h : q ≤ n) : q ≤ endE n P q ∧ endE n P q ≤ n ∧ (∀ k, q ≤ k → k < endE n P q → P k = true) ∧ (endE n P q < n → P (endE n P q) = false) := by
  obtain ⟨h1, h2, h3, h4⟩ := endR_b (P := P) (n - q) q
  exact ⟨h1, by unfold endE; omega, h3, fun a => h4 (by unfold endE at a; omega)⟩
def blB (t : Nat → Nat) (k : Nat) : Bool := decide (t k = 32 ∨ t k = 10)
def ltB (t : Nat → Nat) (k : Nat) : Bool := decide (97 ≤ t k ∧ t k ≤ 122)
def dgB (t : Nat → Nat) (k : Nat) : Bool := decide (48 ≤ t k ∧ t k ≤ 57)
theorem blB_t {t : Nat → Nat} {k : Nat} : blB t k = true ↔ t k = 32 ∨ t k = 10 := by unfold blB; exact decide_eq_true_iff
theorem ltB_t {t : Nat → Nat} {k : Nat} : ltB t k = true ↔ 97 ≤ t k ∧ t k ≤ 122 := by unfold ltB; exact decide_eq_true_iff
theorem dgB_t {t : Nat → Nat} {k : Nat} : dgB t k = true ↔ 48 ≤ t k ∧ t k ≤ 57 := by unfold dgB; exact decide_eq_true_iff
/-- a token's end; kind (0 end, 1 word, 2 number, 3 sign, 4 glued); sign; letters; own word -/
def tkE (t : Nat → Nat) (n q : Nat) : Nat := if n ≤ q then q else if ltB t q = true then endE n (ltB t) q else if dgB t q = true then endE n (dgB t) q else q + 1
def tkK (t : Nat → Nat) (n q : Nat) (g : Bool) : Nat := if n ≤ q then 0 else if ltB t q = true then (if g = true then 4 else 1) else if dgB t q = true then (if g = true then 4 else 2) else 3
def tkS (t : Nat → Nat) (n q : Nat) : Int32 := if n ≤ q then -1 else if ltB t q = true then -1 else if dgB t q = true then -1 else nI (t q)
def lts (t : Nat → Nat) (q m : Nat) : List Nat := (List.range m).map (fun i => t (q + i) - 96)
def wordsL : List (List Nat) := [[12, 5, 20, 20, 5, 18], [1, 7, 5], [14, 5, 5, 4], [7, 18, 1, 22, 5], [7, 9, 6, 20], [19, 20, 15, 3, 11], [23, 9, 19, 8], [14, 5, 1, 18], [12, 9, 11, 5], [8, 5, 12, 16, 5, 18], [20, 9, 13, 5], [8, 1, 14, 4], [2, 5, 1, 18, 19], [20, 1, 11, 5, 19], [23, 1, 18, 13], [13, 9, 19, 19, 5, 4], [3, 15, 12, 4], [23, 9, 19, 8, 5, 19], [4, 1, 25], [14, 21, 13, 2, 5, 18], [19, 8, 5, 5, 20], [4, 15, 14, 5], [15, 18], [1, 14, 4], [14, 15, 20], [1, 12, 12], [13, 9, 14], [13, 1, 24], [6, 9, 18, 19, 20], [12, 1, 19, 20], [15, 6, 20, 5, 14], [20, 15, 20, 1, 12], [13, 15, 19, 20], [12, 5, 1, 19, 20]]
theorem words_c : cWords = wordsL.map (fun w => nI (pk32 w 6)) := by decide +kernel
theorem words_ok : ∀ w ∈ wordsL, 1 ≤ w.length ∧ w.length ≤ 6 ∧ ∀ c ∈ w, 1 ≤ c ∧ c ≤ 26 := by decide +kernel
def wixG : List (List Nat) → Nat → List Nat → Int32
  | [], _, _ => -1
  | w :: r, k, l => if w = l then nI k else wixG r (k + 1) l
def wix (l : List Nat) : Int32 := wixG wordsL 0 l
def tkW (t : Nat → Nat) (n q : Nat) (g : Bool) : Int32 := if n ≤ q then -1 else if ltB t q = true then (if g = true then -1 else wix (lts t q (tkE t n q - q))) else -1
def numV (t : Nat → Nat) (q : Nat) : Nat → Nat
  | 0 => 0
  | m + 1 => 10 * numV t q m + (t (q + m) - 48)
def f32 (t : Nat → Nat) (q : Nat) : Nat → Nat
  | 0 => 0
  | m + 1 => 32 * f32 t q m + (t (q + m) - 96)
theorem pk32_nil : ∀ n, pk32 [] n = 0
  | 0 => rfl
  | n + 1 => by
    show 32 * 0 + pk32 [] n = 0
    rw [pk32_nil n]
theorem pk32_snoc (x r : Nat) : ∀ l : List Nat, pk32 (l ++ [x]) (l.length + 1 + r) = pk32 l (l.length + 1 + r) + x * 32 ^ r
  | [] => by
    rw [pk32_nil, show ([] : List Nat).length + 1 + r = r + 1 by rw [List.length_nil]; omega]
    show x * 32 ^ r + pk32 [] r = _
    rw [pk32_nil]; omega
  | c :: l => by
    rw [show (c :: l).length + 1 + r = (l.length + 1 + r) + 1 by rw [List.length_cons]; omega]
    show c * 32 ^ (l.length + 1 + r) + pk32 (l ++ [x]) (l.length + 1 + r) = c * 32 ^ (l.length + 1 + r) + pk32 l (l.length + 1 + r) + x * 32 ^ r
    rw [pk32_snoc x r l]; omega
theorem lts_len (t : Nat → Nat) (q m : Nat) : (lts t q m).length = m := by unfold lts; rw [List.length_map, List.length_range]
theorem lts_succ (t : Nat → Nat) (q m : Nat) : lts t q (m + 1) = lts t q m ++ [t (q + m) - 96] := by
  unfold lts
  rw [List.range_succ, List.map_append]
  rfl
theorem lts_get {t : Nat → Nat} {q m k : Nat} (h : k < m) : (lts t q m)[k]? = some (t (q + k) - 96) := by
  unfold lts
  rw [List.getElem?_map, List.getElem?_range h]
  rfl
theorem pk32_f32 (t : Nat → Nat) (q : Nat) : ∀ m r, pk32 (lts t q m) (m + r) = f32 t q m * 32 ^ r
  | 0, r => by
    show pk32 [] (0 + r) = 0 * 32 ^ r
    rw [pk32_nil, Nat.zero_mul]
  | m + 1, r => by
    have h := pk32_snoc (t (q + m) - 96) r (lts t q m)
    rw [lts_len] at h
    rw [lts_succ, h, show m + 1 + r = m + (1 + r) by omega, pk32_f32 t q m (1 + r), Nat.add_comm 1 r, Nat.pow_succ]
    show _ = (32 * f32 t q m + (t (q + m) - 96)) * 32 ^ r
    rw [Nat.add_mul, Nat.mul_comm (32 ^ r) 32, ← Nat.mul_assoc, Nat.mul_comm (f32 t q m) 32]
theorem lts_26 {t : Nat → Nat} {q m : Nat} (h : ∀ k, q ≤ k → k < q + m → ltB t k = true) : ∀ c ∈ lts t q m, 1 ≤ c ∧ c ≤ 26 := by
  intro c hc
  unfold lts at hc
  obtain ⟨i, hi, rfl⟩ := List.mem_map.mp hc
  have := ltB_t.mp (h (q + i) (by omega) (by have := List.mem_range.mp hi; omega))
  omega
theorem pk32_inj {l r : List Nat} (h1 : l.length ≤ 6 ∧ ∀ c ∈ l, 1 ≤ c ∧ c ≤ 26) (h2 : r.length ≤ 6 ∧ ∀ c ∈ r, 1 ≤ c ∧ c ≤ 26) (h : pk32 l 6 = pk32 r 6) : l = r := by
  have key : ∀ k, k < 6 → l.getD k 0 = r.getD k 0 := fun k hk => by
    rw [← pk32_at 6 l k (fun c hc => (h1.2 c hc).2) hk, ← pk32_at 6 r k (fun c hc => (h2.2 c hc).2) hk, h]
  have nz : ∀ (s : List Nat), (∀ c ∈ s, 1 ≤ c ∧ c ≤ 26) → ∀ k, k < s.length → 1 ≤ s.getD k 0 := fun s hs k hk => by
    rw [List.getD_eq_getElem?_getD, List.getElem?_eq_getElem hk]
    exact (hs _ (List.getElem_mem hk)).1
  have zz : ∀ (s : List Nat), ∀ k, s.length ≤ k → s.getD k 0 = 0 := fun s k hk => by
    rw [List.getD_eq_getElem?_getD, List.getElem?_eq_none hk]
    rfl
  have le : l.length = r.length := by
    rcases Nat.lt_trichotomy l.length r.length with y | y | y
    · have a := nz r h2.2 l.length y
      rw [← key l.length (by omega), zz l l.length (Nat.le_refl _)] at a
      omega
    · exact y
    · have a := nz l h1.2 r.length y
      rw [key r.length (by omega), zz r r.length (Nat.le_refl _)] at a
      omega
  refine List.ext_getElem le (fun k a b => ?_)
  have := key k (by omega)
  rw [List.getD_eq_getElem?_getD, List.getD_eq_getElem?_getD, List.getElem?_eq_getElem a, List.getElem?_eq_getElem b] at this
  exact this
theorem wixG_no : ∀ (W : List (List Nat)) k l, (∀ w ∈ W, w ≠ l) → wixG W k l = -1
  | [], _, _, _ => rfl
  | w :: r, k, l, h => by
    show (if w = l then nI k else wixG r (k + 1) l) = -1
    rw [if_neg (h w (List.mem_cons_self)), wixG_no r (k + 1) l (fun x hx => h x (List.mem_cons_of_mem _ hx))]
theorem wix_long {l : List Nat} (h : 6 < l.length) : wix l = -1 := wixG_no wordsL 0 l (fun w hw z => by have := (words_ok w hw).2.1; rw [z] at this; omega)
/-- the class' token -/
def cT (t : Nat → Nat) (n q : Nat) (g : Bool) (μ : z_S) : Prop := μ.1 1 5 = nI q ∧ μ.1 1 9 = nI (tkE t n q) ∧ μ.1 1 4 = nI (tkK t n q g) ∧ μ.1 1 6 = tkS t n q ∧ μ.1 1 7 = tkW t n q g ∧ (tkK t n q g = 1 → tkE t n q ≤ q + 6 → μ.1 1 8 = nI (pk32 (lts t q (tkE t n q - q)) 6)) ∧ (tkK t n q g = 2 → tkE t n q ≤ q + 4 → μ.1 1 8 = nI (numV t q (tkE t n q - q)))
/-- the class' tape and words -/
def cX (t : Nat → Nat) (n : Nat) (μ : z_S) : Prop := n ≤ 1600 ∧ μ.1 1 1 = nI n ∧ (∀ k, μ.1 2 k = nI (t k)) ∧ (∀ k, t k < 256) ∧ ∀ k c, cWords[k]? = some c → μ.1 3 k = c
def xFr (μ μ' : z_S) : Prop := μ'.2 = μ.2 ∧ ∀ a j, ¬ (a = 1 ∧ 4 ≤ j ∧ j ≤ 9) → μ'.1 a j = μ.1 a j
theorem xFr.rf (μ : z_S) : xFr μ μ := ⟨rfl, fun _ _ _ => rfl⟩
theorem xFr.tr {μ μ1 μ2 : z_S} (h : xFr μ μ1) (g : xFr μ1 μ2) : xFr μ μ2 := ⟨g.1.trans h.1, fun a j q => (g.2 a j q).trans (h.2 a j q)⟩
theorem xFr.set (μ : z_S) {j : Nat} (x : Int32) (h : 4 ≤ j ∧ j ≤ 9) : xFr μ (z_setI μ 1 j x) := ⟨rfl, fun a i q => by rw [sI_1, if_neg (by omega)]⟩
theorem xFr.cX {t : Nat → Nat} {n : Nat} {μ μ' : z_S} (g : xFr μ μ') (h : cX t n μ) : cX t n μ' := ⟨h.1, by rw [g.2 _ _ (by omega)]; exact h.2.1, fun k => by rw [g.2 _ _ (by omega)]; exact h.2.2.1 k, h.2.2.2.1, fun k c hc => by rw [g.2 _ _ (by omega)]; exact h.2.2.2.2 k c hc⟩
