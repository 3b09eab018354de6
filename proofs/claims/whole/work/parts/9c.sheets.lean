/-! sheets: rows as numbers of nine figures -/
def codS (r : Nat → Nat) : Nat → Nat
  | 0 => 0
  | n + 1 => 9 * codS r n + r n
theorem cos_same {r s : Nat → Nat} : ∀ n, (∀ l, l < n → r l = s l) → codS r n = codS s n
  | 0, _ => rfl
  | n + 1, h => by
    show 9 * codS r n + r n = 9 * codS s n + s n
    rw [cos_same n (fun l hl => h l (by omega)), h n (by omega)]
theorem cos_inj {r s : Nat → Nat} : ∀ n, (∀ l, l < n → r l ≤ 8) → (∀ l, l < n → s l ≤ 8) → codS r n = codS s n → ∀ l, l < n → r l = s l
  | 0, _, _, _, l, hl => by omega
  | n + 1, h1, h2, h, l, hl => by
    have h' : 9 * codS r n + r n = 9 * codS s n + s n := h
    have a := h1 n (by omega)
    have b := h2 n (by omega)
    by_cases e : l = n
    · rw [e]; omega
    · exact cos_inj n (fun l hl => h1 l (by omega)) (fun l hl => h2 l (by omega)) (by omega) l (by omega)
theorem cos_lex {r s : Nat → Nat} : ∀ n, (∀ l, l < n → r l ≤ 8) → (∀ l, l < n → s l ≤ 8) → codS r n < codS s n → ∃ j, j < n ∧ (∀ i, i < j → r i = s i) ∧ r j < s j
  | 0, _, _, h => absurd h (Nat.lt_irrefl 0)
  | n + 1, h1, h2, h => by
    have h' : 9 * codS r n + r n < 9 * codS s n + s n := h
    have a := h1 n (by omega)
    have b := h2 n (by omega)
    rcases Nat.lt_trichotomy (codS r n) (codS s n) with q | q | q
    · obtain ⟨j, j1, j2, j3⟩ := cos_lex n (fun l hl => h1 l (by omega)) (fun l hl => h2 l (by omega)) q
      exact ⟨j, by omega, j2, j3⟩
    · exact ⟨n, by omega, cos_inj n (fun l hl => h1 l (by omega)) (fun l hl => h2 l (by omega)) q, by omega⟩
    · omega
/-- the row r isn't behind s, from place a on, of n places -/
def lexB (n a : Nat) (r s : Nat → Nat) : Prop := (∀ l, a ≤ l → l < n → r l = s l) ∨ ∃ j, a ≤ j ∧ j < n ∧ (∀ i, a ≤ i → i < j → r i = s i) ∧ r j < s j
theorem lexB_anti {n : Nat} {r s : Nat → Nat} (h : lexB n 0 r s) (g : lexB n 0 s r) : ∀ l, l < n → r l = s l := by
  rcases h with h | ⟨j, j1, j2, j3, j4⟩
  · exact fun l hl => h l (Nat.zero_le _) hl
  · exfalso
    rcases g with g | ⟨k, k1, k2, k3, k4⟩
    · have := g j (Nat.zero_le _) j2; omega
    · rcases Nat.lt_trichotomy j k with q | q | q
      · have := k3 j (Nat.zero_le _) q; omega
      · subst q; omega
      · have := j3 k (Nat.zero_le _) q; omega
theorem lexB_step {n a : Nat} (ha : a < n) {r s : Nat → Nat} (h0 : r a < s a ∨ (r a = s a ∧ lexB n (a + 1) r s)) : lexB n a r s := by
  rcases h0 with h | ⟨h1, h2⟩
  · exact Or.inr ⟨a, Nat.le_refl _, ha, fun i q1 q2 => by omega, h⟩
  · rcases h2 with h2 | ⟨j, j1, j2, j3, j4⟩
    · refine Or.inl (fun l q1 q2 => ?_)
      by_cases z : l = a
      · rw [z]; exact h1
      · exact h2 l (by omega) q2
    · refine Or.inr ⟨j, by omega, j2, fun i q1 q2 => ?_, j4⟩
      by_cases z : i = a
      · rw [z]; exact h1
      · exact j3 i (by omega) q2
/-- a row of sheets of k kinds, no two near with one -/
def prS (h : aH) (k : Nat) (r : Nat → Nat) : Prop := ∀ l, l < hCnt h 0 → 1 ≤ r l ∧ r l ≤ k ∧ ∀ i, i < l → hNear h l i = true → r i ≠ r l
def swpC (c d x : Nat) : Nat := if x = c then d else if x = d then c else x
theorem swpC_inj {c d x y : Nat} (h : swpC c d x = swpC c d y) : x = y := by
  unfold swpC at h
  by_cases a1 : x = c
  · rw [if_pos a1] at h
    by_cases b1 : y = c
    · omega
    · rw [if_neg b1] at h
      by_cases b2 : y = d
      · rw [if_pos b2] at h; omega
      · rw [if_neg b2] at h; omega
  · rw [if_neg a1] at h
    by_cases a2 : x = d
    · rw [if_pos a2] at h
      by_cases b1 : y = c
      · rw [if_pos b1] at h; omega
      · rw [if_neg b1] at h
        by_cases b2 : y = d
        · omega
        · rw [if_neg b2] at h; omega
    · rw [if_neg a2] at h
      by_cases b1 : y = c
      · rw [if_pos b1] at h; omega
      · rw [if_neg b1] at h
        by_cases b2 : y = d
        · rw [if_pos b2] at h; omega
        · rw [if_neg b2] at h; exact h
theorem prS_swp {h : aH} {k : Nat} {r : Nat → Nat} (hp : prS h k r) {c d : Nat} (hc : 1 ≤ c ∧ c ≤ k) (hd : 1 ≤ d ∧ d ≤ k) : prS h k (fun q => swpC c d (r q)) := by
  intro l hl
  obtain ⟨p1, p2, p3⟩ := hp l hl
  refine ⟨?_, ?_, fun i hi hn he => p3 i hi hn (swpC_inj he)⟩
  · show 1 ≤ swpC c d (r l)
    unfold swpC
    split
    · omega
    · split <;> omega
  · show swpC c d (r l) ≤ k
    unfold swpC
    split
    · omega
    · split <;> omega
theorem c_free {h : aH} {o : Nat} (ok : okH h) (hk : z_kw true o = (2, 0)) (N : Nat) (hN : 10 ≤ N) {μ : z_S} (hc : cH o h μ) {l c : Nat} (hl : l < hCnt h 0) (hcb : c ≤ 100) {P : Nat → Nat} (hP : ∀ q, q < l → μ.1 35 q = nI (P q) ∧ P q ≤ 100) : ∃ b, f_X7_isFree N o (nI l) (nI c) μ = some (b, μ) ∧ ((b = 1 ∧ ∀ i, i < l → hNear h l i = true → P i ≠ c) ∨ (b = 0 ∧ ∃ i, i < l ∧ hNear h l i = true ∧ P i = c)) := by
  have h8 := ok.1
  have key : ∀ f i, i ≤ l → l - i < f → (∀ j, j < i → hNear h l j = true → P j ≠ c) → ∃ b, f_X7_isFree_L3 N o (nI l) (nI c) f (nI i) μ = some (b, μ) ∧ ((b = 1 ∧ ∀ i, i < l → hNear h l i = true → P i ≠ c) ∨ (b = 0 ∧ ∃ i, i < l ∧ hNear h l i = true ∧ P i = c)) := by
    intro f
    induction f with
    | zero => intro i h1 h2; omega
    | succ f ih =>
      intro i h1 h2 hj
      show ∃ b, b_X7_isFree_L3 N o (nI l) (nI c) (f_X7_isFree_L3 N o (nI l) (nI c) f) (nI i) μ = _ ∧ _
      unfold b_X7_isFree_L3 f_X7_isFree_B32
      by_cases hlt : i < l
      · have ek : nI i + 1 = nI (i + 1) := nI_1 i
        obtain ⟨p1, p2⟩ := hP i hlt
        simp only [z_bd_eq]
        rw [if_pos (nI_lt hlt (by omega)), c_near hk hc N (show l < 8 by omega) (show i < 8 by omega), z_bn_sm, z_in_nI (show i < 8 by omega) (by decide), nI_toNat (by omega), p1, ek]
        by_cases cn : hNear h l i = true
        · rw [if_pos cn, if_neg (by decide)]
          by_cases cp : P i = c
          · rw [if_pos (by rw [cp])]
            exact ⟨0, rfl, Or.inr ⟨rfl, i, hlt, cn, cp⟩⟩
          · rw [if_neg (fun z => cp ((nI_eq (by omega) (by omega)).mp z))]
            refine ih (i + 1) (by omega) (by omega) (fun j hj1 hn => ?_)
            by_cases z : j = i
            · rw [z]; exact cp
            · exact hj j (by omega) hn
        · rw [if_neg cn, if_pos rfl]
          refine ih (i + 1) (by omega) (by omega) (fun j hj1 hn => ?_)
          by_cases z : j = i
          · rw [z] at hn; exact absurd hn cn
          · exact hj j (by omega) hn
      · have : i = l := by omega
        subst this
        rw [if_neg (nI_nlt (Nat.le_refl _) (by omega))]
        exact ⟨1, rfl, Or.inl ⟨rfl, hj⟩⟩
  unfold f_X7_isFree
  rw [z_ko_ok hk]
  exact key N 0 (Nat.zero_le _) (by omega) (fun j hj => by omega)
/-- the rows of the sorting alone have changed -/
def oFr (μ μ' : z_S) : Prop := μ'.2.2 = μ.2.2 ∧ ∀ a j, ¬ (34 ≤ a ∧ a ≤ 38) → μ'.1 a j = μ.1 a j
theorem oFr.rf (μ : z_S) : oFr μ μ := ⟨rfl, fun _ _ _ => rfl⟩
theorem oFr.tr {μ μ1 μ2 : z_S} (h : oFr μ μ1) (g : oFr μ1 μ2) : oFr μ μ2 := ⟨g.1.trans h.1, fun a j h1 => (g.2 a j h1).trans (h.2 a j h1)⟩
theorem oFr.cH {o : Nat} {h : aH} {μ μ' : z_S} (ok : okH h) (ho : 56 ≤ o) (hc : cH o h μ) (g : oFr μ μ') : cH o h μ' := cH_of hc ⟨ok.1, ok.2.1, ok.2.2.1⟩ (fun q j h1 h2 => g.2 q j (by omega))
theorem oFr.cS {A : aS} {μ μ' : z_S} (ok : okS A) (h : cS A μ) (g : oFr μ μ') : cS A μ' := cS_scr ok h (by rw [g.1]) (fun o j ho => g.2 o j (by unfold cRel at ho; omega))
theorem c_paint {h : aH} {o : Nat} (ok : okH h) (hk : z_kw true o = (2, 0)) (ho : 56 ≤ o) (N : Nat) (hN : 20 ≤ N) {k : Nat} (hk8 : k ≤ 8) : ∀ m l used μ D (P : Nat → Nat), l + m = hCnt h 0 → m < D → used ≤ k → cH o h μ → (∀ q, q < l → μ.1 35 q = nI (P q) ∧ 1 ≤ P q ∧ P q ≤ used ∧ ∀ i, i < q → hNear h q i = true → P i ≠ P q) → ∃ b μ', f_X7_paint N D o (nI l) (nI used) (nI k) μ = some (b, μ') ∧ μ'.2 = μ.2 ∧ (∀ a j, ¬ (a = 35 ∧ l ≤ j) → μ'.1 a j = μ.1 a j) ∧ ((b = 1 ∧ ∃ R, (∀ q, q < l → R q = P q) ∧ (∀ q, q < hCnt h 0 → μ'.1 35 q = nI (R q)) ∧ prS h k R ∧ ∀ S, prS h k S → (∀ q, q < l → S q = P q) → lexB (hCnt h 0) l R S) ∨ (b = 0 ∧ ∀ S, prS h k S → (∀ q, q < l → S q = P q) → False)) := by
  have h8 := ok.1
  intro m
  induction m with
  | zero =>
    intro l used μ D P h1 h2 h3 hc hP
    obtain ⟨D, rfl⟩ : ∃ D', D = D' + 1 := ⟨D - 1, by omega⟩
    have hl : l = hCnt h 0 := by omega
    refine ⟨1, μ, ?_, rfl, fun _ _ _ => rfl, Or.inl ⟨rfl, P, fun _ _ => rfl, fun q hq => (hP q (by omega)).1, fun q hq => ?_, fun S _ _ => Or.inl (fun q a b => by omega)⟩⟩
    · show g_X7_paint N (f_X7_paint N D) o (nI l) (nI used) (nI k) μ = _
      unfold g_X7_paint
      rw [z_ko_ok hk, hc.1 0 (by decide), if_neg (nI_nlt (by omega) (by omega))]
    · obtain ⟨-, p2, p3, p4⟩ := hP q (by omega)
      exact ⟨p2, by omega, p4⟩
  | succ m ih =>
    intro l used μ D P h1 h2 h3 hc hP
    obtain ⟨D, rfl⟩ : ∃ D', D = D' + 1 := ⟨D - 1, by omega⟩
    have hl : l < hCnt h 0 := by omega
    have eu : nI used + (1 : Int32) = nI (used + 1) := nI_1 used
    have el : nI l + (1 : Int32) = nI (l + 1) := nI_1 l
    have key : ∀ f c μ1, 1 ≤ c → c ≤ k + 1 → c ≤ used + 2 → 10 - c < f → cH o h μ1 → μ1.2 = μ.2 → (∀ a j, ¬ (a = 35 ∧ l ≤ j) → μ1.1 a j = μ.1 a j) → (∀ S, prS h k S → (∀ q, q < l → S q = P q) → S l < c → False) → ∃ b μ', f_X7_paint_L15 N o (f_X7_paint N D) (nI l) (nI used) (nI k) f (nI c) μ1 = some (b, μ') ∧ μ'.2 = μ.2 ∧ (∀ a j, ¬ (a = 35 ∧ l ≤ j) → μ'.1 a j = μ.1 a j) ∧ ((b = 1 ∧ ∃ R, (∀ q, q < l → R q = P q) ∧ (∀ q, q < hCnt h 0 → μ'.1 35 q = nI (R q)) ∧ prS h k R ∧ ∀ S, prS h k S → (∀ q, q < l → S q = P q) → lexB (hCnt h 0) l R S) ∨ (b = 0 ∧ ∀ S, prS h k S → (∀ q, q < l → S q = P q) → False)) := by
      intro f
      induction f with
      | zero => intro c μ1 _ _ _ h; omega
      | succ f ih2 =>
        intro c μ1 g1 g2 g3 g4 hc1 fb fr hno
        show ∃ b μ', b_X7_paint_L15 N o (f_X7_paint N D) (nI l) (nI used) (nI k) (f_X7_paint_L15 N o (f_X7_paint N D) (nI l) (nI used) (nI k) f) (nI c) μ1 = _ ∧ _
        unfold b_X7_paint_L15 f_X7_paint_B70 f_J9_max_7cf53
        by_cases c1 : k < c
        · rw [if_pos (nI_lt c1 (by omega))]
          refine ⟨0, μ1, rfl, fb, fr, Or.inr ⟨rfl, fun S hS hSP => hno S hS hSP ?_⟩⟩
          have := (hS l hl).2.1
          omega
        · rw [if_neg (nI_nlt (by omega) (by omega)), eu]
          by_cases c2 : used + 1 < c
          · rw [if_pos (nI_lt c2 (by omega))]
            refine ⟨0, μ1, rfl, fb, fr, Or.inr ⟨rfl, fun S hS hSP => ?_⟩⟩
            have hSl := hS l hl
            rcases Nat.lt_or_ge (S l) c with y | y
            · exact hno S hS hSP y
            · refine hno (fun q => swpC (S l) (used + 1) (S q)) (prS_swp hS ⟨hSl.1, hSl.2.1⟩ ⟨by omega, by omega⟩) (fun q hq => ?_) ?_
              · have := (hP q hq).2.2.1
                show swpC (S l) (used + 1) (S q) = P q
                rw [hSP q hq]
                unfold swpC
                rw [if_neg (by omega), if_neg (by omega)]
              · show swpC (S l) (used + 1) (S l) < c
                unfold swpC
                rw [if_pos rfl]
                omega
          · rw [if_neg (nI_nlt (by omega) (by omega)), z_in_nI (show l < 8 by omega) (by decide), nI_toNat (show l < 2 ^ 31 by omega), z_bd_eq]
            have ec : nI c + 1 = nI (c + 1) := nI_1 c
            generalize hμ2 : z_setI μ1 35 l (nI c) = μ2
            have o2 : ∀ a j, ¬ (a = 35 ∧ j = l) → μ2.1 a j = μ1.1 a j := fun a j q => by rw [← hμ2, sI_1, if_neg q]
            have d2 : μ2.1 35 l = nI c := by rw [← hμ2, sI_1, if_pos ⟨rfl, rfl⟩]
            have b2 : μ2.2 = μ.2 := by rw [← hμ2]; exact fb
            have fr2 : ∀ a j, ¬ (a = 35 ∧ l ≤ j) → μ2.1 a j = μ.1 a j := fun a j q => by rw [o2 a j (by omega)]; exact fr a j q
            have hc2 : cH o h μ2 := cH_of hc ⟨ok.1, ok.2.1, ok.2.2.1⟩ (fun q j a b => fr2 q j (by omega))
            have hP2 : ∀ q, q < l → μ2.1 35 q = nI (P q) ∧ P q ≤ 100 := fun q hq => ⟨by rw [fr2 _ _ (by omega)]; exact (hP q hq).1, by have := (hP q hq).2.2.1; omega⟩
            obtain ⟨b, w1, w2⟩ := c_free ok hk N (by omega) hc2 hl (show c ≤ 100 by omega) hP2
            rw [w1, z_bn_sm]
            have next : ∀ μ3, μ3.2 = μ.2 → (∀ a j, ¬ (a = 35 ∧ l ≤ j) → μ3.1 a j = μ.1 a j) → (∀ S, prS h k S → (∀ q, q < l → S q = P q) → S l = c → False) → ∃ b μ', f_X7_paint_L15 N o (f_X7_paint N D) (nI l) (nI used) (nI k) f (nI (c + 1)) μ3 = some (b, μ') ∧ μ'.2 = μ.2 ∧ (∀ a j, ¬ (a = 35 ∧ l ≤ j) → μ'.1 a j = μ.1 a j) ∧ ((b = 1 ∧ ∃ R, (∀ q, q < l → R q = P q) ∧ (∀ q, q < hCnt h 0 → μ'.1 35 q = nI (R q)) ∧ prS h k R ∧ ∀ S, prS h k S → (∀ q, q < l → S q = P q) → lexB (hCnt h 0) l R S) ∨ (b = 0 ∧ ∀ S, prS h k S → (∀ q, q < l → S q = P q) → False)) := by
              intro μ3 e1 e2 e3
              refine ih2 (c + 1) μ3 (by omega) (by omega) (by omega) (by omega) (cH_of hc ⟨ok.1, ok.2.1, ok.2.2.1⟩ (fun q j a b => e2 q j (by omega))) e1 e2 (fun S hS hSP hlt => ?_)
              by_cases z : S l = c
              · exact e3 S hS hSP z
              · exact hno S hS hSP (by omega)
            rcases w2 with ⟨rfl, w2⟩ | ⟨rfl, i, i1, i2, i3⟩
            · rw [if_neg (by decide)]
              have emax : (if nI used < nI c then some (nI c, μ2) else some (nI used, μ2)) = some (nI (if used < c then c else used), μ2) := by
                by_cases z : used < c
                · rw [if_pos (nI_lt z (by omega)), if_pos z]
                · rw [if_neg (nI_nlt (by omega) (by omega)), if_neg z]
              rw [emax, z_bn_sm, el]
              generalize hu2 : (if used < c then c else used) = u2
              have hu2b : u2 ≤ k ∧ used ≤ u2 ∧ c ≤ u2 := by
                rw [← hu2]
                split <;> omega
              obtain ⟨b3, μ3, p1, p2, p3, p4⟩ := ih (l + 1) u2 μ2 D (fun q => if q = l then c else P q) (by omega) (by omega) hu2b.1 hc2 (fun q hq => by
                show μ2.1 35 q = nI (if q = l then c else P q) ∧ 1 ≤ (if q = l then c else P q) ∧ (if q = l then c else P q) ≤ u2 ∧ ∀ i, i < q → hNear h q i = true → (if i = l then c else P i) ≠ (if q = l then c else P q)
                by_cases z : q = l
                · rw [if_pos z, z]
                  refine ⟨d2, g1, hu2b.2.2, fun i hi hn => ?_⟩
                  rw [if_neg (by omega)]
                  exact w2 i hi hn
                · rw [if_neg z]
                  obtain ⟨y1, y2, y3, y4⟩ := hP q (by omega)
                  refine ⟨(hP2 q (by omega)).1, y2, by omega, fun i hi hn => ?_⟩
                  rw [if_neg (by omega)]
                  exact y4 i hi hn)
              rw [p1, z_bn_sm]
              have fr3 : ∀ a j, ¬ (a = 35 ∧ l ≤ j) → μ3.1 a j = μ.1 a j := fun a j q => by rw [p3 a j (by omega)]; exact fr2 a j q
              rcases p4 with ⟨rfl, R, r1, r2, r3, r4⟩ | ⟨rfl, p4⟩
              · rw [if_neg (by decide)]
                have hRl : R l = c := by rw [r1 l (by omega)]; exact if_pos rfl
                have hRP : ∀ q, q < l → R q = P q := fun q hq => by rw [r1 q (by omega)]; exact if_neg (by omega)
                refine ⟨1, μ3, rfl, p2.trans b2, fr3, Or.inl ⟨rfl, R, hRP, r2, r3, fun S hS hSP => lexB_step hl ?_⟩⟩
                rw [hRl]
                rcases Nat.lt_trichotomy (S l) c with y | y | y
                · exact absurd (hno S hS hSP y) (fun z => z)
                · refine Or.inr ⟨y.symm, r4 S hS (fun q hq => ?_)⟩
                  show S q = if q = l then c else P q
                  by_cases z : q = l
                  · rw [if_pos z, z]; exact y
                  · rw [if_neg z]; exact hSP q (by omega)
                · exact Or.inl y
              · rw [if_pos rfl, z_bd_eq, ec]
                refine next μ3 (p2.trans b2) fr3 (fun S hS hSP hSl => p4 S hS (fun q hq => ?_))
                show S q = if q = l then c else P q
                by_cases z : q = l
                · rw [if_pos z, z]; exact hSl
                · rw [if_neg z]; exact hSP q (by omega)
            · rw [if_pos rfl, z_bd_eq, ec]
              refine next μ2 b2 fr2 (fun S hS hSP hSl => ?_)
              have := (hS l hl).2.2 i i1 i2
              rw [hSP i i1, hSl] at this
              exact this i3
    show ∃ b μ', g_X7_paint N (f_X7_paint N D) o (nI l) (nI used) (nI k) μ = _ ∧ _
    unfold g_X7_paint
    rw [z_ko_ok hk, hc.1 0 (by decide), if_pos (nI_lt hl (by omega))]
    exact key N 1 μ (Nat.le_refl _) (by omega) (by omega) (by omega) hc rfl (fun _ _ _ => rfl) (fun S hS _ hlt => by have := (hS l hl).1; omega)
