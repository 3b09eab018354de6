/-! the reference's tokens -/
def mX (t : Nat → Nat) (n : Nat) (ν : z_S) : Prop := n ≤ 1600 ∧ ν.1 253 3 = nI n ∧ (∀ k, ν.1 254 k = nI (t k)) ∧ (∀ k, t k < 256) ∧ ∀ q ∈ mWords, ∀ k c, q.2[k]? = some c → ν.1 q.1 k = nI c
def yFr (ν ν' : z_S) : Prop := ν'.2 = ν.2 ∧ ∀ a j, ¬ (a = 253 ∧ (j = 2 ∨ j = 4 ∨ ((j = 5 ∨ j = 6) ∧ ¬ ν'.1 253 5 = 0) ∨ j = 38)) → ν'.1 a j = ν.1 a j
theorem yFr.rf (ν : z_S) : yFr ν ν := ⟨rfl, fun _ _ _ => rfl⟩
theorem fr_56 {x y : z_S} {a j : Nat} (g : ¬ y.1 253 5 = x.1 253 5 → ¬ y.1 253 5 = 0) (q : ¬ (a = 253 ∧ (j = 5 ∨ j = 6) ∧ ¬ y.1 253 5 = 0)) : ¬ (a = 253 ∧ (j = 5 ∨ j = 6) ∧ ¬ x.1 253 5 = 0) := fun ⟨z1, z2, z3⟩ => by
  by_cases c : y.1 253 5 = 0
  · by_cases d : y.1 253 5 = x.1 253 5
    · exact z3 (d ▸ c)
    · exact g d c
  · exact q ⟨z1, z2, c⟩
theorem yFr.f5 {ν ν' : z_S} (g : yFr ν ν') : ¬ ν'.1 253 5 = ν.1 253 5 → ¬ ν'.1 253 5 = 0 := fun z c => z (g.2 253 5 (fun w => by
  rcases w.2 with w | w | w | w
  · omega
  · omega
  · exact w.2 c
  · omega))
theorem yFr.tr {ν ν1 ν2 : z_S} (h : yFr ν ν1) (g : yFr ν1 ν2) : yFr ν ν2 := ⟨g.1.trans h.1, fun a j q => (g.2 a j q).trans (h.2 a j (fun w => by
  rcases w with ⟨w1, w | w | w | w⟩
  · exact q ⟨w1, Or.inl w⟩
  · exact q ⟨w1, Or.inr (Or.inl w)⟩
  · exact fr_56 g.f5 (a := a) (j := j) (fun z => q ⟨z.1, Or.inr (Or.inr (Or.inl z.2))⟩) ⟨w1, w⟩
  · exact q ⟨w1, Or.inr (Or.inr (Or.inr w))⟩))⟩
theorem yFr.set (ν : z_S) {j : Nat} (x : Int32) (h : j = 2 ∨ j = 4 ∨ j = 38) : yFr ν (z_setI ν 253 j x) := ⟨rfl, fun a i q => by rw [sI_1, if_neg (fun z => q ⟨z.1, by rcases h with h | h | h; exact Or.inl (z.2.trans h); exact Or.inr (Or.inl (z.2.trans h)); exact Or.inr (Or.inr (Or.inr (z.2.trans h)))⟩)]⟩
theorem mW_no : ∀ q ∈ mWords, q.1 ≠ 253 := by decide +kernel
theorem yFr.mX {t : Nat → Nat} {n : Nat} {ν ν' : z_S} (g : yFr ν ν') (h : mX t n ν) : mX t n ν' := ⟨h.1, by rw [g.2 _ _ (by omega)]; exact h.2.1, fun k => by rw [g.2 _ _ (by omega)]; exact h.2.2.1 k, h.2.2.2.1, fun q hq k c hc => by rw [g.2 _ _ (fun z => mW_no q hq z.1)]; exact h.2.2.2.2 q hq k c hc⟩
/-- behind blanks at a token, no fault yet -/
def mA (t : Nat → Nat) (n q : Nat) (g : Bool) (ν : z_S) : Prop := mX t n ν ∧ ν.1 253 5 = 0 ∧ ν.1 253 2 = nI q ∧ q ≤ n ∧ skp t n q = q ∧ ∃ d : Nat, ν.1 253 4 = nI d - 1 ∧ d ≤ q + 1 ∧ (g = true ↔ d = q + 1)
/-- before blanks -/
def mG (t : Nat → Nat) (n q : Nat) (g : Bool) (ν : z_S) : Prop := mX t n ν ∧ ν.1 253 5 = 0 ∧ ∃ p d : Nat, ν.1 253 2 = nI p ∧ p ≤ n ∧ skp t n p = q ∧ ν.1 253 4 = nI d - 1 ∧ d ≤ p + 1 ∧ (g = true ↔ d = q + 1)
theorem mA.g {t : Nat → Nat} {n q : Nat} {g : Bool} {ν : z_S} (h : mA t n q g ν) : mG t n q g ν := by
  obtain ⟨h1, h2, h3, h4, h5, d, h6, h7, h8⟩ := h
  exact ⟨h1, h2, q, d, h3, h4, h5, h6, h7, h8⟩
def mB (f p : Nat) (ν : z_S) : Prop := ν.1 253 5 = nI f ∧ ν.1 253 6 = nI p
theorem skp_id {t : Nat → Nat} {n p : Nat} (h : p ≤ n) : skp t n (skp t n p) = skp t n p := by
  obtain ⟨b1, b2, b3, b4⟩ := endE_b (P := blB t) h
  unfold skp
  generalize hE : endE n (blB t) p = E at *
  rcases Nat.lt_or_ge E n with y | y
  · rw [endE_lt y, if_neg (by rw [b4 y]; decide)]
  · exact endE_ge y
/-- what is looked at -/
def lk (t : Nat → Nat) (n q : Nat) : Int32 := if q < n then nI (t q) else -1
theorem m_look {t : Nat → Nat} {n q : Nat} {g : Bool} (N : Nat) (hN : 1700 ≤ N) {ν : z_S} (h : mG t n q g ν) : ∃ ν', f_X12_look N ν = some (lk t n q, ν') ∧ yFr ν ν' ∧ mA t n q g ν' := by
  obtain ⟨hx, h5, p, d, hp, hpn, hs, hd, hdp, hg⟩ := h
  have hn := hx.1
  have key : ∀ f p ν1, p ≤ n → n - p < f → yFr ν ν1 → ν1.1 253 2 = nI p → (∀ j, j ≠ 2 → ν1.1 253 j = ν.1 253 j) → ∃ ν', f_X12_look_L0 N (fun μ52 => f_X12_look_B52 N μ52) f ν1 = f_X12_look_B52 N ν' ∧ yFr ν ν' ∧ ν'.1 253 2 = nI (skp t n p) ∧ ∀ j, j ≠ 2 → ν'.1 253 j = ν.1 253 j := by
    intro f
    induction f with
    | zero => intro p ν1 h1 h2; omega
    | succ f ih =>
      intro p ν1 h1 h2 fr e2 hj
      have hx1 := fr.mX hx
      show ∃ ν', b_X12_look_L0 N (f_X12_look_L0 N (fun μ52 => f_X12_look_B52 N μ52) f) (fun μ52 => f_X12_look_B52 N μ52) ν1 = _ ∧ _
      unfold b_X12_look_L0 f_X12_look_B39 skp
      rw [e2, hx1.2.1]
      by_cases hlt : p < n
      · have ek : nI p + (1 : Int32) = nI (p + 1) := nI_1 p
        have hb := hx.2.2.2.1 p
        rw [if_pos (nI_lt hlt (by omega)), z_in_nI (show p < 1600 by omega) (by decide), z_in_nI (show p < 1600 by omega) (by decide), nI_toNat (show p < 2 ^ 31 by omega), hx1.2.2.1 p, z_bd_eq, ek, endE_lt hlt]
        have go : ∃ ν', f_X12_look_L0 N (fun μ52 => f_X12_look_B52 N μ52) f (z_setI ν1 253 2 (nI (p + 1))) = f_X12_look_B52 N ν' ∧ yFr ν ν' ∧ ν'.1 253 2 = nI (endE n (blB t) (p + 1)) ∧ ∀ j, j ≠ 2 → ν'.1 253 j = ν.1 253 j :=
          ih (p + 1) (z_setI ν1 253 2 (nI (p + 1))) (by omega) (by omega) (fr.tr (yFr.set ν1 (j := 2) _ (by omega))) (by rw [sI_1, if_pos ⟨rfl, rfl⟩]) (fun j hj2 => by rw [sI_1, if_neg (fun z => hj2 z.2)]; exact hj j hj2)
        by_cases c10 : t p = 10
        · rw [if_pos (show nI (t p) = (10 : Int32) by rw [c10]; rfl), if_pos (blB_t.mpr (Or.inr c10))]
          exact go
        · rw [if_neg (show ¬ nI (t p) = (10 : Int32) from fun z => c10 ((nI_eq (b := 10) (by omega) (by decide)).mp z))]
          by_cases c32 : t p = 32
          · rw [if_pos (show nI (t p) = (32 : Int32) by rw [c32]; rfl), if_pos (blB_t.mpr (Or.inl c32))]
            exact go
          · rw [if_neg (show ¬ nI (t p) = (32 : Int32) from fun z => c32 ((nI_eq (b := 32) (by omega) (by decide)).mp z)), if_neg (fun z => by rcases blB_t.mp z with y | y; exact c32 y; exact c10 y)]
            exact ⟨ν1, rfl, fr, e2, hj⟩
      · rw [if_neg (nI_nlt (by omega) (by omega)), endE_ge (by omega)]
        exact ⟨ν1, rfl, fr, e2, hj⟩
  obtain ⟨ν', r1, r2, r3, r4⟩ := key N p ν hpn (by omega) (yFr.rf ν) hp (fun _ _ => rfl)
  have hx' := r2.mX hx
  have sb := skp_b (t := t) hpn
  rw [hs] at r3 sb
  have hid : skp t n q = q := by rw [← hs]; exact skp_id hpn
  refine ⟨ν', ?_, r2, hx', by rw [r4 5 (by decide)]; exact h5, r3, sb.2, hid, d, by rw [r4 4 (by decide)]; exact hd, by omega, hg⟩
  unfold f_X12_look
  rw [r1]
  unfold f_X12_look_B52 lk
  rw [r3, hx'.2.1]
  by_cases c : q < n
  · rw [if_pos (nI_lt c (by omega)), if_pos c, z_in_nI (show q < 1600 by omega) (by decide), nI_toNat (show q < 2 ^ 31 by omega), hx'.2.2.1 q]
  · rw [if_neg (nI_nlt (by omega) (by omega)), if_neg c]
theorem m_lookA {t : Nat → Nat} {n q : Nat} {g : Bool} (N : Nat) (hN : 1700 ≤ N) {ν : z_S} (h : mA t n q g ν) : f_X12_look N ν = some (lk t n q, ν) := by
  obtain ⟨hx, h5, h2, hq, hs, d, hd⟩ := h
  have hn := hx.1
  obtain ⟨N, rfl⟩ : ∃ M, N = M + 1 := ⟨N - 1, by omega⟩
  show b_X12_look_L0 (N + 1) (f_X12_look_L0 (N + 1) (fun μ52 => f_X12_look_B52 (N + 1) μ52) N) (fun μ52 => f_X12_look_B52 (N + 1) μ52) ν = _
  have eB : f_X12_look_B52 (N + 1) ν = some (lk t n q, ν) := by
    unfold f_X12_look_B52 lk
    rw [h2, hx.2.1]
    by_cases c : q < n
    · rw [if_pos (nI_lt c (by omega)), if_pos c, z_in_nI (show q < 1600 by omega) (by decide), nI_toNat (show q < 2 ^ 31 by omega), hx.2.2.1 q]
    · rw [if_neg (nI_nlt (by omega) (by omega)), if_neg c]
  unfold b_X12_look_L0
  rw [h2, hx.2.1]
  by_cases c : q < n
  · have hb := hx.2.2.2.1 q
    have nb : ¬ blB t q = true := fun z => by
      unfold skp at hs
      rw [endE_lt c, if_pos z] at hs
      have := (endE_b (P := blB t) (show q + 1 ≤ n by omega)).1
      omega
    rw [if_pos (nI_lt c (by omega)), z_in_nI (show q < 1600 by omega) (by decide), z_in_nI (show q < 1600 by omega) (by decide), nI_toNat (show q < 2 ^ 31 by omega), hx.2.2.1 q, if_neg (show ¬ nI (t q) = (10 : Int32) from fun z => nb (blB_t.mpr (Or.inr ((nI_eq (b := 10) (by omega) (by decide)).mp z)))), if_neg (show ¬ nI (t q) = (32 : Int32) from fun z => nb (blB_t.mpr (Or.inl ((nI_eq (b := 32) (by omega) (by decide)).mp z))))]
    exact eB
  · rw [if_neg (nI_nlt (by omega) (by omega))]
    exact eB
theorem m_isLt (N : Nat) {k : Nat} (hk : k < 256) (ν : z_S) : f_X12_isLetter N (nI k) ν = some (if 97 ≤ k ∧ k ≤ 122 then 1 else 0, ν) := by
  unfold f_X12_isLetter
  by_cases c1 : k < 97
  · rw [if_pos (show nI k < (97 : Int32) from nI_lt (b := 97) c1 (by decide)), if_neg (by omega)]
  · rw [if_neg (show ¬ nI k < (97 : Int32) from nI_nlt (b := 97) (by omega) (by omega))]
    by_cases c2 : 122 < k
    · rw [if_pos (show (122 : Int32) < nI k from nI_lt (a := 122) c2 (by omega)), if_neg (by omega)]
    · rw [if_neg (show ¬ (122 : Int32) < nI k from nI_nlt (a := 122) (by omega) (by decide)), if_pos (by omega)]
theorem m_isDg (N : Nat) {k : Nat} (hk : k < 256) (ν : z_S) : f_X12_isDigit N (nI k) ν = some (if 48 ≤ k ∧ k ≤ 57 then 1 else 0, ν) := by
  unfold f_X12_isDigit
  by_cases c1 : k < 48
  · rw [if_pos (show nI k < (48 : Int32) from nI_lt (b := 48) c1 (by decide)), if_neg (by omega)]
  · rw [if_neg (show ¬ nI k < (48 : Int32) from nI_nlt (b := 48) (by omega) (by omega))]
    by_cases c2 : 57 < k
    · rw [if_pos (show (57 : Int32) < nI k from nI_lt (a := 57) c2 (by omega)), if_neg (by omega)]
    · rw [if_neg (show ¬ (57 : Int32) < nI k from nI_nlt (a := 57) (by omega) (by decide)), if_pos (by omega)]
theorem lk_lt {t : Nat → Nat} {n q : Nat} (N : Nat) (ht : ∀ k, t k < 256) (ν : z_S) : f_X12_isLetter N (lk t n q) ν = some (if q < n ∧ ltB t q = true then 1 else 0, ν) := by
  unfold lk
  by_cases c : q < n
  · rw [if_pos c, m_isLt N (ht q)]
    by_cases c2 : ltB t q = true
    · rw [if_pos (ltB_t.mp c2), if_pos ⟨c, c2⟩]
    · rw [if_neg (fun z => c2 (ltB_t.mpr z)), if_neg (fun z => c2 z.2)]
  · rw [if_neg c, if_neg (fun z => c z.1)]
    rfl
theorem lk_dg {t : Nat → Nat} {n q : Nat} (N : Nat) (ht : ∀ k, t k < 256) (ν : z_S) : f_X12_isDigit N (lk t n q) ν = some (if q < n ∧ dgB t q = true then 1 else 0, ν) := by
  unfold lk
  by_cases c : q < n
  · rw [if_pos c, m_isDg N (ht q)]
    by_cases c2 : dgB t q = true
    · rw [if_pos (dgB_t.mp c2), if_pos ⟨c, c2⟩]
    · rw [if_neg (fun z => c2 (dgB_t.mpr z)), if_neg (fun z => c2 z.2)]
  · rw [if_neg c, if_neg (fun z => c z.1)]
    rfl
/-- the row o holds the word k -/
def wOK (o k : Nat) : Prop := ∃ w, wordsL[k]? = some w ∧ z_kw false o = (22, w.length) ∧ (o, w.map (· + 96)) ∈ mWords
theorem wixG_is : ∀ (W : List (List Nat)) j l, wixG W j l = -1 ∨ ∃ i, W[i]? = some l ∧ wixG W j l = nI (j + i)
  | [], _, _ => Or.inl rfl
  | w :: r, j, l => by
    by_cases c : w = l
    · refine Or.inr ⟨0, by rw [c]; rfl, ?_⟩
      show (if w = l then nI j else _) = _
      rw [if_pos c, Nat.add_zero]
    · have e : wixG (w :: r) j l = wixG r (j + 1) l := if_neg c
      rcases wixG_is r (j + 1) l with h | ⟨i, h1, h2⟩
      · exact Or.inl (e.trans h)
      · exact Or.inr ⟨i + 1, h1, by rw [e, h2]; congr 1; omega⟩
theorem wix_own : ∀ k, k < 34 → wix (wordsL.getD k []) = nI k := by decide +kernel
theorem wix_iff {k : Nat} {w l : List Nat} (hw : wordsL[k]? = some w) : wix l = nI k ↔ l = w := by
  have hk : k < 34 := (List.getElem?_eq_some_iff.mp hw).1
  have ew : wordsL.getD k [] = w := by rw [List.getD_eq_getElem?_getD, hw]; rfl
  constructor
  · intro h
    rcases wixG_is wordsL 0 l with y | ⟨i, y1, y2⟩
    · have : wix l = -1 := y
      rw [this] at h
      exact absurd h.symm (nI_nm1 (by omega))
    · have hi : i < 34 := (List.getElem?_eq_some_iff.mp y1).1
      have e : wix l = nI (0 + i) := y2
      rw [e] at h
      have := (nI_eq (by omega) (by omega)).mp h
      rw [show i = k by omega, hw] at y1
      exact (Option.some.inj y1).symm
  · intro h
    rw [h, ← ew]
    exact wix_own k hk
