theorem c_fillI (N : Nat) (hN : 300 ≤ N) {o : Nat} (ho : z_kw true o = (20, 256)) {n : Nat} (hn : n ≤ 256) (x : Int32) (μ : z_S) : ∃ μ', f_J7_fill_fda19 N o (0 : Int32) (nI n) x μ = some ((), μ') ∧ μ'.2 = μ.2 ∧ ∀ a j, μ'.1 a j = if a = o ∧ j < n then x else μ.1 a j := by
  have key : ∀ m k μ', k ≤ n → n - k < m → μ'.2 = μ.2 → (∀ a j, μ'.1 a j = if a = o ∧ j < k then x else μ.1 a j) → ∃ μ2, f_J7_fill_fda19_L10 N o (nI n) x m (nI k) μ' = some ((), μ2) ∧ μ2.2 = μ.2 ∧ ∀ a j, μ2.1 a j = if a = o ∧ j < n then x else μ.1 a j := by
    intro m
    induction m with
    | zero => intro k μ' h1 h2; omega
    | succ m ih =>
      intro k μ' h1 h2 h3 h4
      show ∃ μ2, b_J7_fill_fda19_L10 N o (nI n) x (f_J7_fill_fda19_L10 N o (nI n) x m) (nI k) μ' = _ ∧ _
      unfold b_J7_fill_fda19_L10
      rw [ho]
      by_cases hlt : k < n
      · have ek : nI k + 1 = nI (k + 1) := nI_1 k
        rw [if_pos (nI_lt hlt (by omega)), z_in_nI (show k < 256 by omega) (by decide), z_bd_eq, z_bd_eq, ek, nI_toNat (by omega)]
        refine ih (k + 1) _ (by omega) (by omega) h3 (fun a j => ?_)
        rw [sI_1, h4]
        by_cases ha : a = o
        · by_cases hj : j = k
          · rw [if_pos ⟨ha, hj⟩, if_pos ⟨ha, by omega⟩]
          · rw [if_neg (fun q => hj q.2)]
            by_cases hl : j < k
            · rw [if_pos ⟨ha, hl⟩, if_pos ⟨ha, by omega⟩]
            · rw [if_neg (fun q => hl q.2), if_neg (by omega)]
        · rw [if_neg (fun q => ha q.1), if_neg (fun q => ha q.1), if_neg (fun q => ha q.1)]
      · have : k = n := by omega
        subst this
        rw [if_neg (nI_nlt (Nat.le_refl _) (by omega))]
        exact ⟨μ', rfl, h3, h4⟩
  unfold f_J7_fill_fda19 f_J7_rangeCheck_23922
  rw [z_kd_ok (by rw [ho]), ho, if_neg (show ¬ nI n < (0 : Int32) from nI_pos (by omega)), if_neg (by decide), if_neg (show ¬ Int32.ofNat 256 < nI n from nI_nlt (a := 256) hn (by decide)), z_bn_sm]
  exact key N 0 μ (Nat.zero_le _) (by omega) rfl (fun a j => by rw [if_neg (fun q => absurd q.2 (Nat.not_lt_zero _))])
theorem colI_stop {op : Nat → Bool} {a : Nat} (h : ∀ l, a ≤ l → op l = false) : ∀ b, a ≤ b → colI op b = colI op a
  | 0, hb => by rw [show a = 0 by omega]
  | b + 1, hb => by
    by_cases e : a = b + 1
    · rw [e]
    · show (if op b = true then colI op b + 1 else colI op b) = _
      rw [if_neg (by rw [h b (by omega)]; decide), colI_stop h b (by omega)]
theorem c_share {h : aH} {n : aN} {o s : Nat} (ok : okH h) (hn : okN h n) (hk : plK o s) (N : Nat) (hN : 300 ≤ N) {μ : z_S} (hc : cH o h μ) (hcn : cN s n μ) : ∃ μ', f_X6_plan N o s μ = some ((), μ') ∧ gFr μ μ' ∧ μ'.1 21 1 = nI (mxF (tkB h n) (hCnt h 1) (shV h) 8 (nStock n)) ∧ ∀ q, q < hCnt h 0 → μ'.1 22 q = nI (shrR h n q) - 1 := by
  have hk' := hk
  obtain ⟨k1, k2, k3, k4, k5⟩ := hk
  have h8 := ok.1
  have h4 := ok.2.1
  have hs3 := hn.2.2.2.1
  have tkF : ∀ l, hCnt h 0 ≤ l → tkB h n l = false := fun l hl => decide_eq_false (fun z => by omega)
  have ecnt : colI (tkB h n) 8 = colI (tkB h n) (hCnt h 0) := colI_stop tkF 8 h8
  have hc8 := colI_le (tkB h n) 8
  have hyl := stkC_lt hs3 (hCnt h 1)
  have hp : 4 ^ hCnt h 1 ≤ 256 := Nat.le_trans (Nat.pow_le_pow_right (by decide) h4) (by decide)
  generalize hY : stkC (nStock n) (hCnt h 1) = y at *
  have hy : y < 256 := by omega
  have hdig : ∀ g, g < hCnt h 1 → digS y g = nStock n g := fun g hg => by
    rw [← hY, stkC_dig hs3 h4 g (by omega), if_pos hg]
  generalize hE2 : (fun (y113_4 : Int32) (μ113 : z_S) => z_in (nI (colI (tkB h n) 8)) 9 <| z_bn (f_J7_fill_fda19 N (25 + (nI (colI (tkB h n) 8)).toNatClampNeg) (0 : Int32) (y113_4 + (1 : Int32)) (0 : Int32) μ113) fun _ μ_4 => z_bd (nI (colI (tkB h n) 8) - (1 : Int32)) fun x6 => f_X6_plan_L133 N o s (nI (colI (tkB h n) 8)) y113_4 (fun μ193 => z_in (0 : Int32) 9 <| z_in y113_4 256 <| z_bd (z_setI μ193 21 1 (μ193.1 (25 + (0 : Int32).toNatClampNeg) y113_4.toNatClampNeg)) fun μ_8 => z_bn (f_X6_choose N o (nI (colI (tkB h n) 8)) y113_4 μ_8) fun _ μ_9 => some ((), μ_9)) N x6 μ_4) = E2
  obtain ⟨μ1, p1, p2, p3, p4⟩ := c_shL ok hn hk' N (by omega) (fun y71_3 μ71 => f_X6_plan_L77 N o s y71_3 (fun y113_4 μ113 => z_in y71_3 9 <| z_bn (f_J7_fill_fda19 N (25 + y71_3.toNatClampNeg) (0 : Int32) (y113_4 + (1 : Int32)) (0 : Int32) μ113) fun _ μ_4 => z_bd (y71_3 - (1 : Int32)) fun x6 => f_X6_plan_L133 N o s y71_3 y113_4 (fun μ193 => z_in (0 : Int32) 9 <| z_in y113_4 256 <| z_bd (z_setI μ193 21 1 (μ193.1 (25 + (0 : Int32).toNatClampNeg) y113_4.toNatClampNeg)) fun μ_8 => z_bn (f_X6_choose N o y71_3 y113_4 μ_8) fun _ μ_9 => some ((), μ_9)) N x6 μ_4) N (0 : Int32) (0 : Int32) μ71) N 0 μ (Nat.zero_le _) (by omega) hc hcn (fun q hq => by omega) (fun q hq => by omega)
  rw [← ecnt] at p1
  have p1' : f_X6_plan_L5 N o s (fun y71_3 μ71 => f_X6_plan_L77 N o s y71_3 (fun y113_4 μ113 => z_in y71_3 9 <| z_bn (f_J7_fill_fda19 N (25 + y71_3.toNatClampNeg) (0 : Int32) (y113_4 + (1 : Int32)) (0 : Int32) μ113) fun _ μ_4 => z_bd (y71_3 - (1 : Int32)) fun x6 => f_X6_plan_L133 N o s y71_3 y113_4 (fun μ193 => z_in (0 : Int32) 9 <| z_in y113_4 256 <| z_bd (z_setI μ193 21 1 (μ193.1 (25 + (0 : Int32).toNatClampNeg) y113_4.toNatClampNeg)) fun μ_8 => z_bn (f_X6_choose N o y71_3 y113_4 μ_8) fun _ μ_9 => some ((), μ_9)) N x6 μ_4) N (0 : Int32) (0 : Int32) μ71) N (0 : Int32) (0 : Int32) μ = f_X6_plan_L77 N o s (nI (colI (tkB h n) 8)) E2 N (0 : Int32) (0 : Int32) μ1 := by
    rw [← hE2]
    exact p1
  have hc1 := p2.cH ok k4 hc
  have hn1 := p2.cN k5 hcn
  have st := c_stkL ok hn N (nI (colI (tkB h n) 8)) E2 hc1 hn1 N 0 (Nat.zero_le _) (by omega)
  have st' : f_X6_plan_L77 N o s (nI (colI (tkB h n) 8)) E2 N (0 : Int32) (0 : Int32) μ1 = E2 (nI y) μ1 := by rw [← hY]; exact st
  have e1 : nI y + (1 : Int32) = nI (y + 1) := nI_1 y
  obtain ⟨μ2, q1, q2, q3⟩ := c_fillI N hN (k25 (colI (tkB h n) 8) (by omega)) (n := y + 1) (by omega) 0 μ1
  have f2 : gFr μ1 μ2 := ⟨q2, fun a j ha => by rw [q3, if_neg (by omega)]⟩
  have hc2 := f2.cH ok k4 hc1
  have e8 : letR h n (colI (tkB h n) 8) = 8 := if_neg (Nat.lt_irrefl _)
  have h23 : ∀ q, q < colI (tkB h n) 8 → μ2.1 23 q = nI (letR h n q) := fun q hq => by
    obtain ⟨l1, l2, l3, l4, l5, l6⟩ := letR_p (h := h) (n := n) hq
    rw [q3, if_neg (by omega)]
    have := p4 (letR h n q) l3 l1
    rw [l4] at this
    exact this
  obtain ⟨μ3, r1, r2, r3, r4⟩ := c_rowsL (n := n) (s := s) ok k1 k4 N hN (nI (colI (tkB h n) 8)) hy (fun μ193 => z_in (0 : Int32) 9 <| z_in (nI y) 256 <| z_bd (z_setI μ193 21 1 (μ193.1 (25 + (0 : Int32).toNatClampNeg) (nI y).toNatClampNeg)) fun μ_8 => z_bn (f_X6_choose N o (nI (colI (tkB h n) 8)) (nI y) μ_8) fun _ μ_9 => some ((), μ_9)) N (colI (tkB h n) 8) μ2 (Nat.le_refl _) (by omega) hc2 h23 (fun q w1 w2 x hx hw => by
    have : q = colI (tkB h n) 8 := by omega
    subst this
    rw [q3, if_pos ⟨rfl, by omega⟩, e8]; rfl)
  have wyy : witS y y := fun g hg => Nat.le_refl _
  have m0 : mxF (tkB h n) (hCnt h 1) (shV h) (8 - letR h n 0) (digS y) = mxF (tkB h n) (hCnt h 1) (shV h) 8 (nStock n) := by
    rw [← mxF_skip (a := 0) (digS y) (letR h n 0) (Nat.zero_le _) (letR_8 h n 0) (fun l _ hl => letR_0 l hl)]
    exact mxF_congr 8 hdig
  have t0 : μ3.1 25 y = nI (mxF (tkB h n) (hCnt h 1) (shV h) 8 (nStock n)) := by
    rw [← m0]
    exact r4 0 (Nat.zero_le _) y (Nat.le_refl _) wyy
  generalize hμ4 : z_setI μ3 21 1 (nI (mxF (tkB h n) (hCnt h 1) (shV h) 8 (nStock n))) = μ4
  have f3 : gFr μ μ3 := p2.tr (f2.tr r2)
  have o4 : ∀ a j, a ≠ 21 → μ4.1 a j = μ3.1 a j := fun a j ha => by rw [← hμ4, sI_1, if_neg (fun z => ha z.1)]
  have f4 : gFr μ μ4 := f3.tr ⟨by rw [← hμ4]; rfl, fun a j ha => o4 a j (by omega)⟩
  have cp := chF_p (tk := tkB h n) (G := hCnt h 1) (v := shV h) 8 (Nat.le_refl _) (nStock n)
  obtain ⟨μ5, s1, s2, s3, s4⟩ := c_chooseL (n := n) ok k1 k4 N hN hy (R := shrR h n) (fun q hq => cp.2.1 q (Or.inr (Or.inr hq))) N 0 y μ4 (Nat.zero_le _) (by omega) (Nat.le_refl _) wyy (f4.cH ok k4 hc) (fun q hq => by rw [o4 _ _ (by decide), r3 _ _ (by omega)]; exact h23 q hq) (fun q hq x hx hw => by rw [o4 _ _ (by omega)]; exact r4 q hq x hx hw) (fun q hq => by
    rw [o4 _ _ (by decide), r3 _ _ (by omega), q3, if_neg (by omega), p3 q hq]
    by_cases z : q < letR h n 0
    · rw [if_pos z, show shrR h n q = 0 from cp.2.1 q (Or.inr (Or.inr (letR_0 q z)))]; rfl
    · rw [if_neg z]) (fun q w1 w2 => by
    show chF (tkB h n) (hCnt h 1) (shV h) 8 (nStock n) q = _
    rw [← chF_skip (a := 0) (digS y) (letR h n 0) (Nat.zero_le _) (letR_8 h n 0) (fun l _ hl => letR_0 l hl), chF_congr (8 - 0) (Nat.le_refl _) hdig])
  refine ⟨μ5, ?_, f4.tr ⟨s2, fun a j ha => s3 a j (by omega)⟩, ?_, s4⟩
  · unfold f_X6_plan
    rw [z_ko_ok k1, z_ko_ok k2, p1', st', ← hE2]
    show (z_in (nI (colI (tkB h n) 8)) 9 <| z_bn (f_J7_fill_fda19 N (25 + (nI (colI (tkB h n) 8)).toNatClampNeg) (0 : Int32) (nI y + (1 : Int32)) (0 : Int32) μ1) fun _ μ_4 => z_bd (nI (colI (tkB h n) 8) - (1 : Int32)) fun x6 => f_X6_plan_L133 N o s (nI (colI (tkB h n) 8)) (nI y) (fun μ193 => z_in (0 : Int32) 9 <| z_in (nI y) 256 <| z_bd (z_setI μ193 21 1 (μ193.1 (25 + (0 : Int32).toNatClampNeg) (nI y).toNatClampNeg)) fun μ_8 => z_bn (f_X6_choose N o (nI (colI (tkB h n) 8)) (nI y) μ_8) fun _ μ_9 => some ((), μ_9)) N x6 μ_4) = _
    rw [z_in_nI (show colI (tkB h n) 8 < 9 by omega) (by decide), nI_toNat (show colI (tkB h n) 8 < 2 ^ 31 by omega), e1, q1, z_bn_sm, z_bd_eq, r1]
    show (z_in (nI 0) 9 <| z_in (nI y) 256 <| z_bd (z_setI μ3 21 1 (μ3.1 (25 + 0) (nI y).toNatClampNeg)) fun μ_8 => z_bn (f_X6_choose N o (nI (colI (tkB h n) 8)) (nI y) μ_8) fun _ μ_9 => some ((), μ_9)) = _
    rw [z_in_nI (by decide) (by decide), z_in_nI hy (by decide), nI_toNat (show y < 2 ^ 31 by omega), z_bd_eq, t0, hμ4]
    unfold f_X6_choose
    have s1' : f_X6_choose_L6 N o (nI (colI (tkB h n) 8)) N (nI y) (0 : Int32) μ4 = some ((), μ5) := s1
    rw [z_ko_ok k1, s1', z_bn_sm]
  · rw [s3 _ _ (by decide), ← hμ4, sI_1, if_pos ⟨rfl, rfl⟩]
/-! the reference shares gifts -/
theorem vlF_sum (v : Nat → Nat → Nat) (r : Nat → Nat) : vlF v r 8 = sumL (fun l => if 0 < r l then v l (r l - 1) else 0) 8 := by
  have e1 : ∀ F : Nat → Nat, sumL F 8 = 0 + F 0 + F 1 + F 2 + F 3 + F 4 + F 5 + F 6 + F 7 := fun F => rfl
  rw [e1]
  show (if 0 < r 0 then v 0 (r 0 - 1) else 0) + ((if 0 < r 1 then v 1 (r 1 - 1) else 0) + ((if 0 < r 2 then v 2 (r 2 - 1) else 0) + ((if 0 < r 3 then v 3 (r 3 - 1) else 0) + ((if 0 < r 4 then v 4 (r 4 - 1) else 0) + ((if 0 < r 5 then v 5 (r 5 - 1) else 0) + ((if 0 < r 6 then v 6 (r 6 - 1) else 0) + ((if 0 < r 7 then v 7 (r 7 - 1) else 0) + 0))))))) = _
  omega
theorem cnF_sum (r : Nat → Nat) (g : Nat) : cnF r g 8 = sumL (fun l => if r l = g + 1 then 1 else 0) 8 := by
  have e1 : ∀ F : Nat → Nat, sumL F 8 = 0 + F 0 + F 1 + F 2 + F 3 + F 4 + F 5 + F 6 + F 7 := fun F => rfl
  rw [e1]
  show (if r 0 = g + 1 then 1 else 0) + ((if r 1 = g + 1 then 1 else 0) + ((if r 2 = g + 1 then 1 else 0) + ((if r 3 = g + 1 then 1 else 0) + ((if r 4 = g + 1 then 1 else 0) + ((if r 5 = g + 1 then 1 else 0) + ((if r 6 = g + 1 then 1 else 0) + ((if r 7 = g + 1 then 1 else 0) + 0))))))) = _
  omega
theorem m_shIn {A : aS} {ν : z_S} (ok : okS A) (h : mS A ν) (N : Nat) (hN : 20 ≤ N) {R : Nat → Nat} (hR : ∀ l, R l ≤ hCnt (sH A) 1) (hz : ∀ l, hCnt (sH A) 0 ≤ l → R l = 0) (hr : rowM 298 R ν) : f_X12_sharedIn N ν = some (nI (vlF (shV (sH A)) R 8), ν) := by
  have h8 := ok.2.2.1.1
  have h4 := ok.2.2.1.2.1
  have key : ∀ f l, l ≤ hCnt (sH A) 0 → hCnt (sH A) 0 - l < f → f_X12_sharedIn_L4 N f (nI (sumL (fun l => if 0 < R l then shV (sH A) l (R l - 1) else 0) l)) (nI l) ν = some (nI (sumL (fun l => if 0 < R l then shV (sH A) l (R l - 1) else 0) (hCnt (sH A) 0)), ν) := by
    intro f
    induction f with
    | zero => intro l h1 h2; omega
    | succ f ih =>
      intro l h1 h2
      show b_X12_sharedIn_L4 N (f_X12_sharedIn_L4 N f) (nI (sumL (fun l => if 0 < R l then shV (sH A) l (R l - 1) else 0) l)) (nI l) ν = _
      unfold b_X12_sharedIn_L4 f_X12_sharedIn_B49 f_X12_letterMany
      rw [z_bn_sm, h.2.2.2.2.2.2.1.1 0 (by decide)]
      by_cases hlt : l < hCnt (sH A) 0
      · have ek : nI l + 1 = nI (l + 1) := nI_1 l
        have e1 : sumL (fun l => if 0 < R l then shV (sH A) l (R l - 1) else 0) (l + 1) = sumL (fun l => if 0 < R l then shV (sH A) l (R l - 1) else 0) l + (if 0 < R l then shV (sH A) l (R l - 1) else 0) := rfl
        have hRl := hR l
        have ih' := ih (l + 1) (by omega) (by omega)
        rw [e1] at ih'
        simp only [z_bd_eq]
        rw [if_pos (nI_lt hlt (by omega)), z_in_nI (show l < 8 by omega) (by decide), nI_toNat (by omega), hr l (by omega), ek]
        by_cases c : 0 < R l
        · rw [if_pos c] at ih'
          have ei : nI (R l) - (1 : Int32) = nI (R l - 1) := pk_sub (b := 1) (by omega)
          have e25 : (25 : Int32) + (3 : Int32) * nI l = nI (25 + 3 * l) := ix2 25 3 l
          have q25 : ν.1 286 (25 + 3 * l) = nI (hMail (sH A) l 1) := by
            have := h.2.2.2.2.2.2.1.2.2.1 l hlt 1 (by decide)
            rw [show 24 + 3 * l + 1 = 25 + 3 * l by omega] at this
            exact this
          rw [if_pos (show (0 : Int32) < nI (R l) from nI_lt (a := 0) c (by omega)), e25, z_in_nI (show 25 + 3 * l < 48 by omega) (by decide), z_in_nI (show l < 8 by omega) (by decide), ei, m_wish h N (show l < 8 by omega) (show R l - 1 < 4 by omega), z_bn_sm, nI_toNat (show 25 + 3 * l < 2 ^ 31 by omega), q25, pk_mul, nI_add]
          exact ih'
        · rw [if_neg c, Nat.add_zero] at ih'
          rw [if_neg (show ¬ (0 : Int32) < nI (R l) from nI_nlt (a := 0) (by omega) (by decide))]
          exact ih'
      · have : l = hCnt (sH A) 0 := by omega
        subst this
        rw [if_neg (nI_nlt (Nat.le_refl _) (by omega))]
  have := key N 0 (Nat.zero_le _) (by omega)
  rw [vlF_sum, sumL_to8 h8 (fun l hl => by
    show (if 0 < R l then shV (sH A) l (R l - 1) else 0) = 0
    rw [hz l hl, if_neg (Nat.lt_irrefl 0)])]
  exact this
def gFrM (ν ν' : z_S) : Prop := ν'.2 = ν.2 ∧ ∀ a j, a ≠ 304 → ν'.1 a j = ν.1 a j
theorem gFrM.w {ν ν' : z_S} (h : gFrM ν ν') : wFr ν ν' := ⟨by rw [h.1], fun a j _ q => h.2 a j (by omega), fun a j _ _ _ => by rw [h.1]⟩
def givP (h : aH) (n : aN) (R : Nat → Nat) : Prop := ∀ g, g < hCnt h 1 → sumL (fun l => if R l = g + 1 then 1 else 0) (hCnt h 0) ≤ nStock n g
theorem m_givL {A : aS} (ok : okS A) (N : Nat) {R : Nat → Nat} (hR : ∀ l, R l ≤ hCnt (sH A) 1) : ∀ f l ν, l ≤ hCnt (sH A) 0 → hCnt (sH A) 0 - l < f → mS A ν → rowM 298 R ν → (∀ g, g < hCnt (sH A) 1 → sumL (fun q => if R q = g + 1 then 1 else 0) l ≤ nStock (sN A) g ∧ ν.1 304 g = nI (nStock (sN A) g - sumL (fun q => if R q = g + 1 then 1 else 0) l)) → ∃ b ν', f_X12_canGive_L32 N f (nI l) ν = some (b, ν') ∧ gFrM ν ν' ∧ ((givP (sH A) (sN A) R ∧ b = 1) ∨ (¬ givP (sH A) (sN A) R ∧ b = 0)) := by
  have h8 := ok.2.2.1.1
  have h4 := ok.2.2.1.2.1
  intro f
  induction f with
  | zero => intro l ν h1 h2; omega
  | succ f ih =>
    intro l ν h1 h2 h hr hs
    show ∃ b ν', b_X12_canGive_L32 N (f_X12_canGive_L32 N f) (nI l) ν = _ ∧ _
    unfold b_X12_canGive_L32 f_X12_canGive_B87 f_X12_letterMany
    rw [z_bn_sm, h.2.2.2.2.2.2.1.1 0 (by decide)]
    by_cases hlt : l < hCnt (sH A) 0
    · have ek : nI l + 1 = nI (l + 1) := nI_1 l
      have hRl := hR l
      simp only [z_bd_eq]
      rw [if_pos (nI_lt hlt (by omega)), z_in_nI (show l < 8 by omega) (by decide), z_in_nI (show l < 8 by omega) (by decide), z_in_nI (show l < 8 by omega) (by decide), nI_toNat (show l < 2 ^ 31 by omega), hr l (by omega), ek]
      by_cases hz : R l = 0
      · rw [if_pos ((nI_z (by omega)).mpr hz)]
        refine ih (l + 1) ν (by omega) (by omega) h hr (fun i hi => ?_)
        have e1 : sumL (fun q => if R q = i + 1 then 1 else 0) (l + 1) = sumL (fun q => if R q = i + 1 then 1 else 0) l := by
          show sumL _ l + (if R l = i + 1 then 1 else 0) = _
          rw [if_neg (by omega)]; rfl
        rw [e1]; exact hs i hi
      · obtain ⟨i, hi⟩ : ∃ i, R l = i + 1 := ⟨R l - 1, by omega⟩
        have hik : i < hCnt (sH A) 1 := by omega
        have ei : nI (R l) - (1 : Int32) = nI i := by rw [hi]; exact nI_pred i
        have hst := ok.2.2.2.1.2.2.2.1 i
        obtain ⟨s1, s2⟩ := hs i hik
        have e1 : sumL (fun q => if R q = i + 1 then 1 else 0) (l + 1) = sumL (fun q => if R q = i + 1 then 1 else 0) l + 1 := by
          show sumL _ l + (if R l = i + 1 then 1 else 0) = _
          rw [if_pos hi]
        have pre := sumL_pre (f := fun q => if R q = i + 1 then 1 else 0) (hCnt (sH A) 0) (show l + 1 ≤ hCnt (sH A) 0 by omega)
        rw [if_neg (fun z => hz ((nI_z (by omega)).mp z)), ei, z_in_nI (show i < 4 by omega) (by decide), z_in_nI (show i < 4 by omega) (by decide), nI_toNat (show i < 2 ^ 31 by omega), s2]
        generalize hS : sumL (fun q => if R q = i + 1 then 1 else 0) l = S at *
        generalize hν2 : z_setI ν 304 i (nI (nStock (sN A) i - S) - 1) = ν2
        have o2 : ∀ a j, ¬ (a = 304 ∧ j = i) → ν2.1 a j = ν.1 a j := fun a j q => by rw [← hν2, sI_1, if_neg q]
        have d2 : ν2.1 304 i = nI (nStock (sN A) i - S) - 1 := by rw [← hν2, sI_1, if_pos ⟨rfl, rfl⟩]
        have f2 : gFrM ν ν2 := ⟨by rw [← hν2]; rfl, fun a j ha => o2 a j (fun z => ha z.1)⟩
        rw [o2 298 l (by omega), hr l (by omega), ei, z_in_nI (show i < 4 by omega) (by decide), nI_toNat (show i < 2 ^ 31 by omega), d2]
        by_cases hc : 1 ≤ nStock (sN A) i - S
        · have es : nI (nStock (sN A) i - S) - (1 : Int32) = nI (nStock (sN A) i - S - 1) := pk_sub (b := 1) hc
          rw [es, if_neg (nI_pos (by omega))]
          obtain ⟨b, ν3, r1, r2, r3⟩ := ih (l + 1) ν2 (by omega) (by omega) (f2.w.mS h) (fun q hq => by rw [o2 _ _ (by omega)]; exact hr q hq) (fun k hk => by
            by_cases z : k = i
            · subst z
              rw [e1, d2, es]
              exact ⟨by omega, by congr 1⟩
            · have e4 : sumL (fun q => if R q = k + 1 then 1 else 0) (l + 1) = sumL (fun q => if R q = k + 1 then 1 else 0) l := by
                show sumL _ l + (if R l = k + 1 then 1 else 0) = _
                rw [if_neg (by omega)]; rfl
              rw [e4, o2 _ _ (by omega)]
              exact hs k hk)
          exact ⟨b, ν3, r1, ⟨r2.1.trans f2.1, fun a j ha => (r2.2 a j ha).trans (f2.2 a j ha)⟩, r3⟩
        · rw [show nStock (sN A) i - S = 0 by omega, if_pos (show nI 0 - (1 : Int32) < 0 by decide)]
          refine ⟨0, ν2, rfl, f2, Or.inr ⟨fun z => ?_, rfl⟩⟩
          have := z i hik
          omega
    · have : l = hCnt (sH A) 0 := by omega
      subst this
      rw [if_neg (nI_nlt (Nat.le_refl _) (by omega))]
      exact ⟨1, ν, rfl, ⟨rfl, fun _ _ _ => rfl⟩, Or.inl ⟨fun i hi => (hs i hi).1, rfl⟩⟩
theorem m_canGive {A : aS} {ν : z_S} (ok : okS A) (h : mS A ν) (N : Nat) (hN : 20 ≤ N) {R : Nat → Nat} (hR : ∀ l, R l ≤ hCnt (sH A) 1) (hr : rowM 298 R ν) : ∃ b ν', f_X12_canGive N ν = some (b, ν') ∧ gFrM ν ν' ∧ ((givP (sH A) (sN A) R ∧ b = 1) ∨ (¬ givP (sH A) (sN A) R ∧ b = 0)) := by
  have h8 := ok.2.2.1.1
  have h4 := ok.2.2.1.2.1
  have key : ∀ f i ν1, i ≤ hCnt (sH A) 1 → hCnt (sH A) 1 - i < f → gFrM ν ν1 → (∀ k, k < i → ν1.1 304 k = nI (nStock (sN A) k)) → ∀ e, ∃ ν', f_X12_canGive_L2 N e f (nI i) ν1 = e ν' ∧ gFrM ν ν' ∧ (∀ k, k < hCnt (sH A) 1 → ν'.1 304 k = nI (nStock (sN A) k)) := by
    intro f
    induction f with
    | zero => intro i ν1 h1 h2; omega
    | succ f ih =>
      intro i ν1 h1 h2 fr hk e
      show ∃ ν', b_X12_canGive_L2 N (f_X12_canGive_L2 N e f) e (nI i) ν1 = _ ∧ _
      unfold b_X12_canGive_L2 f_X12_giftMany
      have h1S := fr.w.mS h
      rw [z_bn_sm, h1S.2.2.2.2.2.2.1.1 1 (by decide)]
      by_cases hlt : i < hCnt (sH A) 1
      · have ek : nI i + 1 = nI (i + 1) := nI_1 i
        have e4 : (4 : Int32) + nI i = nI (4 + i) := ix1 4 i
        have q4 : ν1.1 296 (4 + i) = nI (nStock (sN A) i) := by
          have := h1S.2.2.2.2.2.2.2.1.2.2.1 i (by omega)
          rw [show 0 + 4 + i = 4 + i by omega] at this
          exact this
        rw [if_pos (nI_lt hlt (by omega)), e4, z_in_nI (show 4 + i < 32 by omega) (by decide), z_in_nI (show i < 4 by omega) (by decide), z_bd_eq, z_bd_eq, ek, nI_toNat (show i < 2 ^ 31 by omega), nI_toNat (show 4 + i < 2 ^ 31 by omega), q4]
        refine ih (i + 1) (z_setI ν1 304 i (nI (nStock (sN A) i))) (by omega) (by omega) ⟨fr.1, fun a j ha => by rw [sI_1, if_neg (fun z => ha z.1)]; exact fr.2 a j ha⟩ (fun k hk1 => ?_) e
        rw [sI_1]
        by_cases z : k = i
        · rw [if_pos ⟨rfl, z⟩, z]
        · rw [if_neg (fun q => z q.2)]; exact hk k (by omega)
      · have : i = hCnt (sH A) 1 := by omega
        subst this
        rw [if_neg (nI_nlt (Nat.le_refl _) (by omega))]
        exact ⟨ν1, rfl, fr, hk⟩
  obtain ⟨ν1, p1, p2, p3⟩ := key N 0 ν (Nat.zero_le _) (by omega) ⟨rfl, fun _ _ _ => rfl⟩ (fun k hk => by omega) (fun μ30 => f_X12_canGive_L32 N N (0 : Int32) μ30)
  have p1' : f_X12_canGive N ν = f_X12_canGive_L32 N N (0 : Int32) ν1 := p1
  rw [p1']
  obtain ⟨b, ν2, q1, q2, q3⟩ := m_givL ok N hR N 0 ν1 (Nat.zero_le _) (by omega) (p2.w.mS h) (fun q hq => by rw [p2.2 _ _ (by decide)]; exact hr q hq) (fun i hi => ⟨Nat.zero_le _, by rw [p3 i hi]; rfl⟩)
  exact ⟨b, ν2, q1, ⟨q2.1.trans p2.1, fun a j ha => (q2.2 a j ha).trans (p2.2 a j ha)⟩, q3⟩
