/-- a row of the table: most from letter l on, for each stock within y -/
def tabM (h : aH) (n : aN) (y l r : Nat) (μ : z_S) : Prop := ∀ x, x ≤ y → witS x y → μ.1 (25 + r) x = nI (mxF (tkB h n) (hCnt h 1) (shV h) (8 - l) (digS x))
theorem c_mostBy {h : aH} {n : aN} {o : Nat} (ok : okH h) (hk : z_kw true o = (2, 0)) (N : Nat) {μ : z_S} (hc : cH o h μ) {y : Nat} (hy : y < 256) {l r : Nat} (hl : l < hCnt h 0) (hr : r < 8) (h23 : μ.1 23 r = nI l) (ht : tabM h n y (l + 1) (r + 1) μ) {x g : Nat} (hx : x ≤ y) (hw : witS x y) (hg : g < hCnt h 1) : f_X6_mostBy N o (nI r) (nI x) (nI g) μ = some (if 0 < digS x g then nI (shV h l g + mxF (tkB h n) (hCnt h 1) (shV h) (7 - l) (decS (digS x) g)) else -1, μ) := by
  have h8 := ok.1
  have h4 := ok.2.1
  have b1 : digS x g < 4 := Nat.mod_lt _ (by decide)
  unfold f_X6_mostBy
  rw [z_ko_ok hk, dig_I (by omega) (by omega)]
  by_cases c : 0 < digS x g
  · obtain ⟨d1, d2⟩ := dig_dec x (by omega) g (by omega) c
    have er : nI r + (1 : Int32) = nI (r + 1) := nI_1 r
    have hsub : x - 4 ^ g ≤ x := Nat.sub_le _ _
    have es : nI x - nI (4 ^ g) = nI (x - 4 ^ g) := pk_sub d1
    have hw2 : witS (x - 4 ^ g) y := fun k hk => by
      rw [d2 k hk]
      have := hw k hk
      split
      · next z => rw [z] at this; rw [z]; omega
      · exact this
    have ht2 := ht (x - 4 ^ g) (by omega) hw2
    rw [show 8 - (l + 1) = 7 - l by omega, mxF_congr (7 - l) (t := decS (digS x) g) (fun k hk => by rw [d2 k (by omega)]; rfl)] at ht2
    rw [if_neg (fun z => by have := (nI_z (by omega)).mp z; omega), if_pos c, z_in_nI hr (by decide), nI_toNat (show r < 2 ^ 31 by omega), h23, z_bd_eq, z_in_nI (show l < 8 by omega) (by decide), z_in_nI (show l < 8 by omega) (by decide), z_in_nI (show g < 4 by omega) (by decide), er, z_in_nI (show r + 1 < 9 by omega) (by decide), shl4 g (by omega), es, z_in_nI (show x - 4 ^ g < 256 by omega) (by decide), nI_toNat (show l < 2 ^ 31 by omega), nI_toNat (show g < 2 ^ 31 by omega), nI_toNat (show r + 1 < 2 ^ 31 by omega), nI_toNat (show x - 4 ^ g < 2 ^ 31 by omega), (hc.2.2.1 l hl).2.1, hc.2.2.2.2.1 l (by omega) g (by omega), ht2, pk_mul, nI_add]
    rfl
  · rw [if_pos ((nI_z (by omega)).mpr (by omega)), if_neg c]
theorem c_mostFrom {h : aH} {n : aN} {o : Nat} (ok : okH h) (hk : z_kw true o = (2, 0)) (N : Nat) (hN : 10 ≤ N) {μ : z_S} (hc : cH o h μ) {y : Nat} (hy : y < 256) {l r : Nat} (hl : l < hCnt h 0) (htk : tkB h n l = true) (hr : r < 8) (h23 : μ.1 23 r = nI l) (ht : tabM h n y (l + 1) (r + 1) μ) {x : Nat} (hx : x ≤ y) (hw : witS x y) : f_X6_mostFrom N o (nI r) (nI x) μ = some (nI (mxF (tkB h n) (hCnt h 1) (shV h) (8 - l) (digS x)), μ) := by
  have h8 := ok.1
  have h4 := ok.2.1
  have er : nI r + (1 : Int32) = nI (r + 1) := nI_1 r
  have hb := mxF_le (tk := tkB h n) (G := hCnt h 1) (shV_le ok)
  have key : ∀ f g, g ≤ hCnt h 1 → hCnt h 1 - g < f → f_X6_mostFrom_L15 N o (nI r) (nI x) f (nI (maxG (fun g => decide (0 < digS x g)) (fun g => shV h l g + mxF (tkB h n) (hCnt h 1) (shV h) (7 - l) (decS (digS x) g)) (mxF (tkB h n) (hCnt h 1) (shV h) (7 - l) (digS x)) g)) (nI g) μ = some (nI (maxG (fun g => decide (0 < digS x g)) (fun g => shV h l g + mxF (tkB h n) (hCnt h 1) (shV h) (7 - l) (decS (digS x) g)) (mxF (tkB h n) (hCnt h 1) (shV h) (7 - l) (digS x)) (hCnt h 1)), μ) := by
    intro f
    induction f with
    | zero => intro g h1 h2; omega
    | succ f ih =>
      intro g h1 h2
      show b_X6_mostFrom_L15 N o (nI r) (nI x) (f_X6_mostFrom_L15 N o (nI r) (nI x) f) _ (nI g) μ = _
      unfold b_X6_mostFrom_L15 f_J9_max_7cf53
      rw [hc.1 1 (by decide)]
      by_cases hlt : g < hCnt h 1
      · have ek : nI g + 1 = nI (g + 1) := nI_1 g
        have em : ∀ (p : Nat → Bool) (v : Nat → Nat) a, maxG p v a (g + 1) = if p g = true ∧ maxG p v a g < v g then v g else maxG p v a g := fun p v a => rfl
        have ih' := ih (g + 1) (by omega) (by omega)
        rw [em] at ih'
        rw [if_pos (nI_lt hlt (by omega)), c_mostBy ok hk N hc hy hl hr h23 ht hx hw hlt, z_bn_sm]
        have v1 := hb (7 - l) (decS (digS x) g)
        have v2 := shV_le ok l g
        generalize hM : maxG (fun g => decide (0 < digS x g)) (fun g => shV h l g + mxF (tkB h n) (hCnt h 1) (shV h) (7 - l) (decS (digS x) g)) (mxF (tkB h n) (hCnt h 1) (shV h) (7 - l) (digS x)) g = M at ih' ⊢
        have hMb : M ≤ 2000 := by
          rcases maxG_is (fun g => decide (0 < digS x g)) (fun g => shV h l g + mxF (tkB h n) (hCnt h 1) (shV h) (7 - l) (decS (digS x) g)) (mxF (tkB h n) (hCnt h 1) (shV h) (7 - l) (digS x)) g with z | ⟨q, -, -, z⟩
          · rw [hM] at z
            have := hb (7 - l) (digS x)
            omega
          · rw [hM] at z
            have := hb (7 - l) (decS (digS x) q)
            have := shV_le ok l q
            omega
        by_cases c : 0 < digS x g
        · rw [if_pos c]
          by_cases c2 : M < shV h l g + mxF (tkB h n) (hCnt h 1) (shV h) (7 - l) (decS (digS x) g)
          · rw [if_pos ⟨decide_eq_true c, c2⟩] at ih'
            rw [if_pos (nI_lt c2 (by omega)), z_bn_sm, z_bd_eq, ek]
            exact ih'
          · rw [if_neg (fun z => c2 z.2)] at ih'
            rw [if_neg (nI_nlt (by omega) (by omega)), z_bn_sm, z_bd_eq, ek]
            exact ih'
        · rw [if_neg (fun z => c (of_decide_eq_true z.1))] at ih'
          rw [if_neg c, if_neg (show ¬ nI M < (-1 : Int32) from fun z => by rw [Int32.lt_iff_toInt_lt, nI_toInt (by omega), show (-1 : Int32).toInt = -1 from rfl] at z; omega), z_bn_sm, z_bd_eq, ek]
          exact ih'
      · have : g = hCnt h 1 := by omega
        subst this
        rw [if_neg (nI_nlt (Nat.le_refl _) (by omega))]
  have hxt := ht x hx hw
  rw [show 8 - (l + 1) = 7 - l by omega] at hxt
  unfold f_X6_mostFrom
  rw [z_ko_ok hk, er, z_in_nI (show r + 1 < 9 by omega) (by decide), z_in_nI (show x < 256 by omega) (by decide), nI_toNat (show r + 1 < 2 ^ 31 by omega), nI_toNat (show x < 2 ^ 31 by omega), hxt, z_bd_eq]
  have := key N 0 (Nat.zero_le _) (by omega)
  rw [show 8 - l = (7 - l) + 1 by omega]
  show _ = some (nI (if tkB h n (7 - (7 - l)) = true then maxG (fun g => decide (0 < digS x g)) (fun g => shV h (7 - (7 - l)) g + mxF (tkB h n) (hCnt h 1) (shV h) (7 - l) (decS (digS x) g)) (mxF (tkB h n) (hCnt h 1) (shV h) (7 - l) (digS x)) (hCnt h 1) else mxF (tkB h n) (hCnt h 1) (shV h) (7 - l) (digS x)), μ)
  rw [show 7 - (7 - l) = l by omega, if_pos htk]
  exact this
theorem c_rowL {h : aH} {n : aN} {o s : Nat} (ok : okH h) (hk : z_kw true o = (2, 0)) (ho : 56 ≤ o) (N : Nat) (hN : 300 ≤ N) (c3 : Int32) {y : Nat} (hy : y < 256) {l r : Nat} (hl : l < hCnt h 0) (htk : tkB h n l = true) (hr : r < 8) (e : z_S → Option (Unit × z_S)) : ∀ f x μ, x ≤ y + 1 → y + 1 - x < f → cH o h μ → μ.1 23 r = nI l → tabM h n y (l + 1) (r + 1) μ → (∀ z, z < x → witS z y → μ.1 (25 + r) z = nI (mxF (tkB h n) (hCnt h 1) (shV h) (8 - l) (digS z))) → ∃ μ', f_X6_plan_L141 N o s c3 (nI y) (nI r) e f (nI x) μ = e μ' ∧ μ'.2 = μ.2 ∧ (∀ a j, a ≠ 25 + r → μ'.1 a j = μ.1 a j) ∧ tabM h n y l r μ' := by
  intro f
  induction f with
  | zero => intro x μ h1 h2; omega
  | succ f ih =>
    intro x μ h1 h2 hc h23 ht hx
    show ∃ μ', b_X6_plan_L141 N o s c3 (nI y) (nI r) (f_X6_plan_L141 N o s c3 (nI y) (nI r) e f) e (nI x) μ = _ ∧ _
    unfold b_X6_plan_L141 f_X6_plan_B180
    by_cases hlt : y < x
    · rw [if_pos (nI_lt hlt (by omega))]
      exact ⟨μ, rfl, rfl, fun _ _ _ => rfl, fun z hz => hx z (by omega)⟩
    · have ek : nI x + 1 = nI (x + 1) := nI_1 x
      obtain ⟨b, w1, w2⟩ := c_within (x := x) (y := y) (by omega) hy N (by omega) μ
      have go : ∀ v, (witS x y → v = nI (mxF (tkB h n) (hCnt h 1) (shV h) (8 - l) (digS x))) → ∃ μ', f_X6_plan_L141 N o s c3 (nI y) (nI r) e f (nI (x + 1)) (z_setI μ (25 + r) x v) = e μ' ∧ μ'.2 = μ.2 ∧ (∀ a j, a ≠ 25 + r → μ'.1 a j = μ.1 a j) ∧ tabM h n y l r μ' := by
        intro v hv
        obtain ⟨μ', r1, r2, r3, r4⟩ := ih (x + 1) (z_setI μ (25 + r) x v) (by omega) (by omega) (cH_of hc ⟨ok.1, ok.2.1, ok.2.2.1⟩ (fun q j a b => by rw [sI_1, if_neg (by omega)])) (by rw [sI_1, if_neg (by omega)]; exact h23) (fun z hz hw => by rw [sI_1, if_neg (by omega)]; exact ht z hz hw) (fun z hz hw => by
          rw [sI_1]
          by_cases q : z = x
          · rw [if_pos ⟨rfl, q⟩, q]; rw [q] at hw; exact hv hw
          · rw [if_neg (fun w => q w.2)]; exact hx z (by omega) hw)
        exact ⟨μ', r1, r2, fun a j ha => by rw [r3 a j ha, sI_1, if_neg (fun z => ha z.1)], r4⟩
      simp only [z_bd_eq]
      rw [if_neg (nI_nlt (by omega) (by omega)), z_in_nI (show r < 9 by omega) (by decide), w1, z_bn_sm, z_in_nI (show x < 256 by omega) (by decide), nI_toNat (show x < 2 ^ 31 by omega), nI_toNat (show r < 2 ^ 31 by omega), ek]
      rcases w2 with ⟨w2, rfl⟩ | ⟨w2, rfl⟩
      · rw [if_neg (by decide), c_mostFrom ok hk N (by omega) hc hy hl htk hr h23 ht (by omega) w2, z_bn_sm, z_in_nI (show x < 256 by omega) (by decide)]
        exact go _ (fun _ => rfl)
      · rw [if_pos rfl]
        exact go _ (fun z => absurd z w2)
theorem k25 : ∀ c, c < 9 → z_kw true (25 + c) = (20, 256) := by decide +kernel
/-- the letter of row r: the r-th taker; behind the last one 8 -/
def letR (h : aH) (n : aN) (r : Nat) : Nat := if r < colI (tkB h n) 8 then colL (tkB h n) 8 r else 8
theorem letR_p {h : aH} {n : aN} {r : Nat} (hr : r < colI (tkB h n) 8) : tkB h n (letR h n r) = true ∧ letR h n r < 8 ∧ letR h n r < hCnt h 0 ∧ colI (tkB h n) (letR h n r) = r ∧ letR h n r + 1 ≤ letR h n (r + 1) ∧ ∀ q, letR h n r + 1 ≤ q → q < letR h n (r + 1) → tkB h n q = false := by
  obtain ⟨c1, c2, c3⟩ := colL_op (tkB h n) 8 r hr
  have e : letR h n r = colL (tkB h n) 8 r := if_pos hr
  rw [e]
  have hge : colL (tkB h n) 8 r + 1 ≤ letR h n (r + 1) := by
    unfold letR
    by_cases z : r + 1 < colI (tkB h n) 8
    · rw [if_pos z]
      obtain ⟨d1, d2, d3⟩ := colL_op (tkB h n) 8 (r + 1) z
      rcases Nat.lt_or_ge (colL (tkB h n) 8 r) (colL (tkB h n) 8 (r + 1)) with y | y
      · exact y
      · have := colI_mono (tkB h n) (colL (tkB h n) 8 r) y
        omega
    · rw [if_neg z]; omega
  refine ⟨c1, c3, (of_decide_eq_true c1).1, c2, hge, fun q q1 q2 => ?_⟩
  cases ht : tkB h n q
  · rfl
  · exfalso
    have a1 := colI_lt (tkB h n) (show colL (tkB h n) 8 r < q by omega) c1
    unfold letR at q2
    by_cases z : r + 1 < colI (tkB h n) 8
    · rw [if_pos z] at q2
      obtain ⟨d1, d2, d3⟩ := colL_op (tkB h n) 8 (r + 1) z
      have := colI_lt (tkB h n) q2 ht
      omega
    · rw [if_neg z] at q2
      have := colI_lt (tkB h n) q2 ht
      omega
theorem letR_0 {h : aH} {n : aN} : ∀ q, q < letR h n 0 → tkB h n q = false := by
  intro q hq
  cases ht : tkB h n q
  · rfl
  · exfalso
    unfold letR at hq
    by_cases z : 0 < colI (tkB h n) 8
    · rw [if_pos z] at hq
      obtain ⟨d1, d2, d3⟩ := colL_op (tkB h n) 8 0 z
      have := colI_lt (tkB h n) hq ht
      omega
    · rw [if_neg z] at hq
      have := colI_lt (tkB h n) hq ht
      omega
theorem letR_8 (h : aH) (n : aN) (r : Nat) : letR h n r ≤ 8 := by
  unfold letR
  by_cases z : r < colI (tkB h n) 8
  · rw [if_pos z]; exact Nat.le_of_lt (colL_op (tkB h n) 8 r z).2.2
  · rw [if_neg z]; exact Nat.le_refl _
theorem tab_step {h : aH} {n : aN} {y r : Nat} {μ : z_S} (hr : r < colI (tkB h n) 8) (ht : tabM h n y (letR h n (r + 1)) (r + 1) μ) : tabM h n y (letR h n r + 1) (r + 1) μ := by
  obtain ⟨p1, p2, p3, p4, p5, p6⟩ := letR_p hr
  intro x hx hw
  rw [ht x hx hw, mxF_skip (digS x) (letR h n (r + 1)) p5 (letR_8 h n _) p6]
theorem c_rowsL {h : aH} {n : aN} {o s : Nat} (ok : okH h) (hk : z_kw true o = (2, 0)) (ho : 56 ≤ o) (N : Nat) (hN : 300 ≤ N) (c3 : Int32) {y : Nat} (hy : y < 256) (e : z_S → Option (Unit × z_S)) : ∀ f r μ, r ≤ colI (tkB h n) 8 → r < f → cH o h μ → (∀ q, q < colI (tkB h n) 8 → μ.1 23 q = nI (letR h n q)) → (∀ q, r ≤ q → q ≤ colI (tkB h n) 8 → tabM h n y (letR h n q) q μ) → ∃ μ', f_X6_plan_L133 N o s c3 (nI y) e f (nI r - 1) μ = e μ' ∧ gFr μ μ' ∧ (∀ a j, ¬ (25 ≤ a ∧ a ≤ 33) → μ'.1 a j = μ.1 a j) ∧ ∀ q, q ≤ colI (tkB h n) 8 → tabM h n y (letR h n q) q μ' := by
  have hc8 := colI_le (tkB h n) 8
  intro f
  induction f with
  | zero => intro r μ _ h2; omega
  | succ f ih =>
    intro r μ h1 h2 hc h23 ht
    show ∃ μ', b_X6_plan_L133 N o s c3 (nI y) (f_X6_plan_L133 N o s c3 (nI y) e f) e (nI r - 1) μ = _ ∧ _
    unfold b_X6_plan_L133
    cases r with
    | zero =>
      rw [if_pos (show nI 0 - (1 : Int32) < 0 by decide)]
      exact ⟨μ, rfl, gFr.rf μ, fun _ _ _ => rfl, fun q hq => ht q (Nat.zero_le _) hq⟩
    | succ r =>
      have ed : nI (r + 1) - (1 : Int32) = nI r := nI_pred r
      have em : nI r + (-1 : Int32) = nI r - 1 := (Int32.sub_eq_add_neg (nI r) 1).symm
      obtain ⟨p1, p2, p3, p4, p5, p6⟩ := letR_p (h := h) (n := n) (show r < colI (tkB h n) 8 by omega)
      obtain ⟨μ1, q1, q2, q3, q4⟩ := c_rowL (s := s) ok hk ho N hN c3 hy p3 p1 (show r < 8 by omega) (fun μ187 => z_bd (nI r + (-1)) fun x10 => f_X6_plan_L133 N o s c3 (nI y) e f x10 μ187) N 0 μ (Nat.zero_le _) (by omega) hc (h23 r (by omega)) (tab_step (by omega) (ht (r + 1) (Nat.le_refl _) (by omega))) (fun z hz => by omega)
      have q1' : f_X6_plan_L141 N o s c3 (nI y) (nI r) (fun μ187 => z_bd (nI r + (-1)) fun x10 => f_X6_plan_L133 N o s c3 (nI y) e f x10 μ187) N (0 : Int32) μ = _ := q1
      rw [ed, if_neg (nI_pos (show r < 2 ^ 31 by omega)), q1', z_bd_eq, em]
      obtain ⟨μ2, r1, r2, r3, r4⟩ := ih r μ1 (by omega) (by omega) (cH_of hc ⟨ok.1, ok.2.1, ok.2.2.1⟩ (fun q j a b => q3 _ _ (by omega))) (fun q hq => by rw [q3 _ _ (by omega)]; exact h23 q hq) (fun q w1 w2 => by
        by_cases z : q = r
        · rw [z]; exact q4
        · intro x hx hw
          rw [q3 _ _ (by omega)]
          exact ht q (by omega) w2 x hx hw)
      exact ⟨μ2, r1, (show gFr μ μ1 from ⟨q2, fun a j ha => q3 a j (by omega)⟩).tr r2, fun a j ha => by rw [r3 a j ha, q3 a j (by omega)], r4⟩
/-- the gifts chosen -/
def shrR (h : aH) (n : aN) : Nat → Nat := chF (tkB h n) (hCnt h 1) (shV h) 8 (nStock n)
theorem c_chooseL {h : aH} {n : aN} {o : Nat} (ok : okH h) (hk : z_kw true o = (2, 0)) (ho : 56 ≤ o) (N : Nat) (hN : 300 ≤ N) {y : Nat} (hy : y < 256) {R : Nat → Nat} (hR0 : ∀ q, tkB h n q = false → R q = 0) : ∀ f r x μ, r ≤ colI (tkB h n) 8 → colI (tkB h n) 8 - r < f → x ≤ y → witS x y → cH o h μ → (∀ q, q < colI (tkB h n) 8 → μ.1 23 q = nI (letR h n q)) → (∀ q, q ≤ colI (tkB h n) 8 → tabM h n y (letR h n q) q μ) → (∀ q, q < hCnt h 0 → μ.1 22 q = if q < letR h n r then nI (R q) - 1 else -1) → (∀ q, letR h n r ≤ q → q < 8 → R q = chF (tkB h n) (hCnt h 1) (shV h) (8 - letR h n r) (digS x) q) → ∃ μ', f_X6_choose_L6 N o (nI (colI (tkB h n) 8)) f (nI x) (nI r) μ = some ((), μ') ∧ μ'.2 = μ.2 ∧ (∀ a j, a ≠ 22 → μ'.1 a j = μ.1 a j) ∧ ∀ q, q < hCnt h 0 → μ'.1 22 q = nI (R q) - 1 := by
  have hc8 := colI_le (tkB h n) 8
  have h8 := ok.1
  have h4 := ok.2.1
  have hb := mxF_le (tk := tkB h n) (G := hCnt h 1) (shV_le ok)
  intro f
  induction f with
  | zero => intro r x μ h1 h2; omega
  | succ f ih =>
    intro r x μ h1 h2 hx hw hc h23 ht h22 hRc
    show ∃ μ', b_X6_choose_L6 N o (nI (colI (tkB h n) 8)) (f_X6_choose_L6 N o (nI (colI (tkB h n) 8)) f) (nI x) (nI r) μ = _ ∧ _
    unfold b_X6_choose_L6 f_X6_choose_B112
    by_cases hlt : r < colI (tkB h n) 8
    · obtain ⟨p1, p2, p3, p4, p5, p6⟩ := letR_p (h := h) (n := n) hlt
      have er : nI r + (1 : Int32) = nI (r + 1) := nI_1 r
      have t1 := tab_step hlt (ht (r + 1) (by omega))
      have t0 := ht r (by omega) x hx hw
      have tx := t1 x hx hw
      rw [show 8 - (letR h n r + 1) = 7 - letR h n r by omega] at tx
      generalize hl : letR h n r = l at *
      have bb1 := hb (7 - l) (digS x)
      have bb2 := hb (8 - l) (digS x)
      have e8 : 8 - l = (7 - l) + 1 := by omega
      have e77 : 7 - (7 - l) = l := by omega
      have skipM : ∀ s, mxF (tkB h n) (hCnt h 1) (shV h) (7 - l) s = mxF (tkB h n) (hCnt h 1) (shV h) (8 - letR h n (r + 1)) s := fun s => by
        have := mxF_skip (tk := tkB h n) (G := hCnt h 1) (v := shV h) s (letR h n (r + 1)) p5 (letR_8 h n _) p6
        rw [show 8 - (l + 1) = 7 - l by omega] at this
        exact this
      have skipC : ∀ s, chF (tkB h n) (hCnt h 1) (shV h) (7 - l) s = chF (tkB h n) (hCnt h 1) (shV h) (8 - letR h n (r + 1)) s := fun s => by
        have := chF_skip (tk := tkB h n) (G := hCnt h 1) (v := shV h) s (letR h n (r + 1)) p5 (letR_8 h n _) p6
        rw [show 8 - (l + 1) = 7 - l by omega] at this
        exact this
      have rz : ∀ q, l + 1 ≤ q → q < letR h n (r + 1) → R q = 0 := fun q a b => hR0 q (p6 q a b)
      have hl8 := letR_8 h n (r + 1)
      simp only [z_bd_eq]
      rw [if_pos (nI_lt hlt (by omega)), er, z_in_nI (show r + 1 < 9 by omega) (by decide), z_in_nI (show x < 256 by omega) (by decide), z_in_nI (show r < 9 by omega) (by decide), z_in_nI (show x < 256 by omega) (by decide), nI_toNat (show r + 1 < 2 ^ 31 by omega), nI_toNat (show x < 2 ^ 31 by omega), nI_toNat (show r < 2 ^ 31 by omega), tx, t0]
      by_cases c : mxF (tkB h n) (hCnt h 1) (shV h) (7 - l) (digS x) = mxF (tkB h n) (hCnt h 1) (shV h) (8 - l) (digS x)
      · rw [if_pos (by rw [c])]
        have ec : chF (tkB h n) (hCnt h 1) (shV h) (8 - l) (digS x) = chF (tkB h n) (hCnt h 1) (shV h) (7 - l) (digS x) := by
          rw [e8]
          exact if_neg (fun z => z.2 (by rw [← e8]; exact c))
        have hRl : R l = 0 := by
          rw [hRc l (Nat.le_refl _) p2, ec, (chF_p (7 - l) (by omega) (digS x)).2.1 l (Or.inl (by omega))]
        refine ih (r + 1) x μ (by omega) (by omega) hx hw hc h23 ht (fun q hq => ?_) (fun q q1 q2 => ?_)
        · rw [h22 q hq]
          by_cases z1 : q < l
          · rw [if_pos z1, if_pos (by omega)]
          · rw [if_neg z1]
            by_cases z2 : q < letR h n (r + 1)
            · rw [if_pos z2]
              have : R q = 0 := by
                by_cases z3 : q = l
                · rw [z3]; exact hRl
                · exact rz q (by omega) z2
              rw [this]; rfl
            · rw [if_neg z2]
        · rw [hRc q (by omega) q2, ec, skipC]
      · rw [if_neg (fun z => c ((nI_eq (by omega) (by omega)).mp z))]
        have em : mxF (tkB h n) (hCnt h 1) (shV h) (8 - l) (digS x) = maxG (fun g => decide (0 < digS x g)) (fun g => shV h l g + mxF (tkB h n) (hCnt h 1) (shV h) (7 - l) (decS (digS x) g)) (mxF (tkB h n) (hCnt h 1) (shV h) (7 - l) (digS x)) (hCnt h 1) := by
          rw [e8]
          show (if tkB h n (7 - (7 - l)) = true then maxG (fun g => decide (0 < digS x g)) (fun g => shV h (7 - (7 - l)) g + mxF (tkB h n) (hCnt h 1) (shV h) (7 - l) (decS (digS x) g)) (mxF (tkB h n) (hCnt h 1) (shV h) (7 - l) (digS x)) (hCnt h 1) else _) = _
          rw [e77, if_pos p1]
        have hex : ∃ q, 0 ≤ q ∧ q < 0 + hCnt h 1 ∧ chP (tkB h n) (hCnt h 1) (shV h) (7 - l) (digS x) q = true := by
          rcases maxG_is (fun g => decide (0 < digS x g)) (fun g => shV h l g + mxF (tkB h n) (hCnt h 1) (shV h) (7 - l) (decS (digS x) g)) (mxF (tkB h n) (hCnt h 1) (shV h) (7 - l) (digS x)) (hCnt h 1) with z | ⟨g, g1, g2, g3⟩
          · exact absurd (em.trans z).symm c
          · refine ⟨g, Nat.zero_le _, by omega, decide_eq_true ⟨of_decide_eq_true g2, ?_⟩⟩
            rw [← e8, e77]
            exact (em.trans g3).symm
        obtain ⟨f1, -, f3, f4⟩ := fstG_is (chP (tkB h n) (hCnt h 1) (shV h) (7 - l) (digS x)) (hCnt h 1) 0 hex
        have ec : chF (tkB h n) (hCnt h 1) (shV h) (8 - l) (digS x) = fun q => if q = l then fstG (chP (tkB h n) (hCnt h 1) (shV h) (7 - l) (digS x)) (hCnt h 1) 0 + 1 else chF (tkB h n) (hCnt h 1) (shV h) (7 - l) (decS (digS x) (fstG (chP (tkB h n) (hCnt h 1) (shV h) (7 - l) (digS x)) (hCnt h 1) 0)) q := by
          rw [e8]
          show (if tkB h n (7 - (7 - l)) = true ∧ mxF (tkB h n) (hCnt h 1) (shV h) (7 - l) (digS x) ≠ mxF (tkB h n) (hCnt h 1) (shV h) (7 - l + 1) (digS x) then _ else _) = _
          rw [if_pos ⟨by rw [e77]; exact p1, by rw [← e8]; exact c⟩, e77]
        generalize hG : fstG (chP (tkB h n) (hCnt h 1) (shV h) (7 - l) (digS x)) (hCnt h 1) 0 = G at *
        have hGl : G < hCnt h 1 := by omega
        have chE : ∀ q, q < hCnt h 1 → chP (tkB h n) (hCnt h 1) (shV h) (7 - l) (digS x) q = decide (0 < digS x q ∧ shV h l q + mxF (tkB h n) (hCnt h 1) (shV h) (7 - l) (decS (digS x) q) = mxF (tkB h n) (hCnt h 1) (shV h) (8 - l) (digS x)) := fun q _ => by
          unfold chP
          rw [← e8, e77]
        have by1 := fun q (hq : q < hCnt h 1) => c_mostBy (n := n) ok hk N hc hy p3 (show r < 8 by omega) ((h23 r hlt).trans (by rw [hl])) t1 hx hw hq
        -- the search
        have srch : ∀ m g, g ≤ G → G - g < m → ∀ e1 e2, f_X6_choose_L43 N o (nI (colI (tkB h n) 8)) (nI x) (nI r) e1 e2 m (nI g) μ = e2 (nI G) μ := by
          intro m
          induction m with
          | zero => intro g g1 g2; omega
          | succ m ih2 =>
            intro g g1 g2 e1 e2
            show b_X6_choose_L43 N o (nI (colI (tkB h n) 8)) (nI x) (nI r) (f_X6_choose_L43 N o (nI (colI (tkB h n) 8)) (nI x) (nI r) e1 e2 m) e1 e2 (nI g) μ = _
            unfold b_X6_choose_L43
            have ek : nI g + 1 = nI (g + 1) := nI_1 g
            have v1 := hb (7 - l) (decS (digS x) g)
            have v2 := shV_le ok l g
            rw [hc.1 1 (by decide), if_pos (nI_lt (show g < hCnt h 1 by omega) (by omega)), by1 g (by omega), z_bn_sm, z_in_nI (show r < 9 by omega) (by decide), z_in_nI (show x < 256 by omega) (by decide), nI_toNat (show r < 2 ^ 31 by omega), nI_toNat (show x < 2 ^ 31 by omega), t0]
            by_cases cg : g = G
            · have f1' := f1
              rw [← cg, chE g (by omega)] at f1'
              obtain ⟨y1, y2⟩ := of_decide_eq_true f1'
              rw [if_pos y1, y2, if_pos rfl, cg]
            · have f4' := f4 g (Nat.zero_le _) (by omega)
              rw [chE g (by omega)] at f4'
              have hno := of_decide_eq_false f4'
              have hne : ¬ (if 0 < digS x g then nI (shV h l g + mxF (tkB h n) (hCnt h 1) (shV h) (7 - l) (decS (digS x) g)) else -1) = nI (mxF (tkB h n) (hCnt h 1) (shV h) (8 - l) (digS x)) := by
                by_cases y1 : 0 < digS x g
                · rw [if_pos y1]
                  exact fun z => hno ⟨y1, (nI_eq (by omega) (by omega)).mp z⟩
                · rw [if_neg y1]
                  exact fun z => nI_nm1 (by omega) z.symm
              rw [if_neg hne, z_bd_eq, ek]
              exact ih2 (g + 1) (by omega) (by omega) e1 e2
        rw [show (0 : Int32) = nI 0 from rfl, srch N 0 (Nat.zero_le _) (by omega)]
        have f1' := f1
        rw [chE G hGl] at f1'
        obtain ⟨y1, y2⟩ := of_decide_eq_true f1'
        obtain ⟨d1, d2⟩ := dig_dec x (by omega) G (by omega) y1
        have hsub : x - 4 ^ G ≤ x := Nat.sub_le _ _
        have es : nI x - nI (4 ^ G) = nI (x - 4 ^ G) := pk_sub d1
        have hw2 : witS (x - 4 ^ G) y := fun k hk => by
          rw [d2 k hk]
          have := hw k hk
          split
          · next z => rw [z] at this; rw [z]; omega
          · exact this
        have h23r := (h23 r hlt).trans (by rw [hl])
        rw [z_in_nI (show r < 8 by omega) (by decide), h23r, z_in_nI (show l < 8 by omega) (by decide), nI_toNat (show l < 2 ^ 31 by omega), shl4 G (by omega), es]
        have hRl : R l = G + 1 := by rw [hRc l (Nat.le_refl _) p2, ec]; exact if_pos rfl
        obtain ⟨μ', r1, r2, r3, r4⟩ := ih (r + 1) (x - 4 ^ G) (z_setI μ 22 l (nI G)) (by omega) (by omega) (by omega) hw2 (cH_of hc ⟨ok.1, ok.2.1, ok.2.2.1⟩ (fun q j a b => by rw [sI_1, if_neg (by omega)])) (fun q hq => by rw [sI_1, if_neg (by omega)]; exact h23 q hq) (fun q hq z hz hwz => by rw [sI_1, if_neg (by omega)]; exact ht q hq z hz hwz) (fun q hq => by
          rw [sI_1]
          by_cases z3 : q = l
          · rw [if_pos ⟨rfl, z3⟩, if_pos (by omega), z3, hRl]; exact (nI_pred G).symm
          · rw [if_neg (fun w => z3 w.2), h22 q hq]
            by_cases z1 : q < l
            · rw [if_pos z1, if_pos (by omega)]
            · rw [if_neg z1]
              by_cases z2 : q < letR h n (r + 1)
              · rw [if_pos z2, rz q (by omega) z2]; rfl
              · rw [if_neg z2]) (fun q q1 q2 => by
          rw [hRc q (by omega) q2, ec]
          show (if q = l then G + 1 else chF (tkB h n) (hCnt h 1) (shV h) (7 - l) (decS (digS x) G) q) = _
          rw [if_neg (by omega), skipC, chF_congr (8 - letR h n (r + 1)) (by omega) (s := decS (digS x) G) (t := digS (x - 4 ^ G)) (fun k hk => by rw [d2 k (by omega)]; rfl)])
        exact ⟨μ', r1, r2, fun a j ha => by rw [r3 a j ha, sI_1, if_neg (fun z => ha z.1)], r4⟩
    · have : r = colI (tkB h n) 8 := by omega
      subst this
      have e88 : letR h n (colI (tkB h n) 8) = 8 := if_neg (Nat.lt_irrefl _)
      rw [if_neg (nI_nlt (Nat.le_refl _) (by omega))]
      exact ⟨μ, rfl, rfl, fun _ _ _ => rfl, fun q hq => by rw [h22 q hq, e88, if_pos (by omega)]⟩
