/-! on: the state is taken over -/
theorem m_on1 (N : Nat) {t : Nat → Nat} {n : Nat} (hn : n ≤ 3) (e : Int32 → z_S → Option (Int32 × z_S)) : ∀ m k ν, k ≤ n → n - k < m → (∀ j, ν.1 254 j = nI (t j)) → ν.1 284 (5 + 2) = nI n → ∃ ν2, f_X12_on_L57 N e m (nI (2 + k)) (nI k) ν = e (nI (2 + n)) ν2 ∧ ν2.2 = ν.2 ∧ ∀ a j, ν2.1 a j = if a = 296 ∧ 1 + k ≤ j ∧ j < 1 + n then nI (t (2 + (j - 1))) else ν.1 a j := by
  intro m
  induction m with
  | zero => intro k ν h1 h2; omega
  | succ m ih =>
    intro k ν h1 h2 ht hcn
    show ∃ ν2, b_X12_on_L57 N (f_X12_on_L57 N e m) e (nI (2 + k)) (nI k) ν = _ ∧ _
    unfold b_X12_on_L57 f_X12_helperMany
    rw [z_bn_sm, hcn]
    by_cases hlt : k < n
    · have ek : nI k + 1 = nI (k + 1) := nI_1 k
      have ek2 : nI (2 + k) + 1 = nI (2 + (k + 1)) := nI_1 (2 + k)
      have ek3 : (1 : Int32) + nI k = nI (1 + k) := ix1 1 k
      rw [if_pos (nI_lt hlt (by omega)), z_in_nI (show 2 + k < 1600 by omega) (by decide), ek3, z_in_nI (show 1 + k < 32 by omega) (by decide), z_bd_eq, z_bd_eq, z_bd_eq, ek, ek2, nI_toNat (show 1 + k < 2 ^ 31 by omega), nI_toNat (show 2 + k < 2 ^ 31 by omega), ht]
      obtain ⟨ν2, g1, g2, g3⟩ := ih (k + 1) (z_setI ν 296 (1 + k) (nI (t (2 + k)))) (by omega) (by omega) (fun j => by rw [sI_1, if_neg (by omega)]; exact ht j) (by rw [sI_1, if_neg (by omega)]; exact hcn)
      refine ⟨ν2, g1, g2, fun a j => ?_⟩
      rw [g3, sI_1]
      by_cases ha : a = 296
      · by_cases hj : j = 1 + k
        · rw [if_neg (by omega), if_pos ⟨ha, hj⟩, if_pos ⟨ha, by omega, by omega⟩, hj, show 2 + (1 + k - 1) = 2 + k by omega]
        · rw [if_neg (c := a = 296 ∧ j = 1 + k) (by omega)]
          by_cases hl : 1 + k ≤ j ∧ j < 1 + n
          · rw [if_pos ⟨ha, by omega, by omega⟩, if_pos ⟨ha, hl⟩]
          · rw [if_neg (by omega), if_neg (by omega)]
      · rw [if_neg (fun q => ha q.1), if_neg (fun q => ha q.1), if_neg (fun q => ha q.1)]
    · have : k = n := by omega
      subst this
      rw [if_neg (nI_nlt (Nat.le_refl _) (by omega))]
      exact ⟨ν, rfl, rfl, fun a j => by rw [if_neg (by omega)]⟩
theorem m_on2 (N : Nat) {t : Nat → Nat} {n b : Nat} (hn : n ≤ 4) (hb : b ≤ 10) (e : Int32 → z_S → Option (Int32 × z_S)) : ∀ m k ν, k ≤ n → n - k < m → (∀ j, ν.1 254 j = nI (t j)) → ν.1 284 (5 + 1) = nI n → ∃ ν2, f_X12_on_L90 N e m (nI (b + k)) (nI k) ν = e (nI (b + n)) ν2 ∧ ν2.2 = ν.2 ∧ ∀ a j, ν2.1 a j = if a = 296 ∧ 4 + k ≤ j ∧ j < 4 + n then nI (t (b + (j - 4))) else ν.1 a j := by
  intro m
  induction m with
  | zero => intro k ν h1 h2; omega
  | succ m ih =>
    intro k ν h1 h2 ht hcn
    show ∃ ν2, b_X12_on_L90 N (f_X12_on_L90 N e m) e (nI (b + k)) (nI k) ν = _ ∧ _
    unfold b_X12_on_L90 f_X12_giftMany
    rw [z_bn_sm, hcn]
    by_cases hlt : k < n
    · have ek : nI k + 1 = nI (k + 1) := nI_1 k
      have ek2 : nI (b + k) + 1 = nI (b + (k + 1)) := nI_1 (b + k)
      have ek3 : (4 : Int32) + nI k = nI (4 + k) := ix1 4 k
      rw [if_pos (nI_lt hlt (by omega)), z_in_nI (show b + k < 1600 by omega) (by decide), ek3, z_in_nI (show 4 + k < 32 by omega) (by decide), z_bd_eq, z_bd_eq, z_bd_eq, ek, ek2, nI_toNat (show 4 + k < 2 ^ 31 by omega), nI_toNat (show b + k < 2 ^ 31 by omega), ht]
      obtain ⟨ν2, g1, g2, g3⟩ := ih (k + 1) (z_setI ν 296 (4 + k) (nI (t (b + k)))) (by omega) (by omega) (fun j => by rw [sI_1, if_neg (by omega)]; exact ht j) (by rw [sI_1, if_neg (by omega)]; exact hcn)
      refine ⟨ν2, g1, g2, fun a j => ?_⟩
      rw [g3, sI_1]
      by_cases ha : a = 296
      · by_cases hj : j = 4 + k
        · rw [if_neg (by omega), if_pos ⟨ha, hj⟩, if_pos ⟨ha, by omega, by omega⟩, hj, show b + (4 + k - 4) = b + k by omega]
        · rw [if_neg (c := a = 296 ∧ j = 4 + k) (by omega)]
          by_cases hl : 4 + k ≤ j ∧ j < 4 + n
          · rw [if_pos ⟨ha, by omega, by omega⟩, if_pos ⟨ha, hl⟩]
          · rw [if_neg (by omega), if_neg (by omega)]
      · rw [if_neg (fun q => ha q.1), if_neg (fun q => ha q.1), if_neg (fun q => ha q.1)]
    · have : k = n := by omega
      subst this
      rw [if_neg (nI_nlt (Nat.le_refl _) (by omega))]
      exact ⟨ν, rfl, rfl, fun a j => by rw [if_neg (by omega)]⟩
theorem m_on3 (N : Nat) {t : Nat → Nat} {n b : Nat} (hn : n ≤ 8) (hb : b ≤ 10) (e : z_S → Option (Int32 × z_S)) : ∀ m k ν, k ≤ 3 * n → 3 * n - k < m → (∀ j, ν.1 254 j = nI (t j)) → ν.1 284 (5 + 0) = nI n → ∃ ν2, f_X12_on_L123 N (nI b) e m (nI k) ν = e ν2 ∧ ν2.2 = ν.2 ∧ ∀ a j, ν2.1 a j = if a = 296 ∧ 8 + k ≤ j ∧ j < 8 + 3 * n then nI (t (b + (j - 8))) else ν.1 a j := by
  intro m
  induction m with
  | zero => intro k ν h1 h2; omega
  | succ m ih =>
    intro k ν h1 h2 ht hcn
    show ∃ ν2, b_X12_on_L123 N (nI b) (f_X12_on_L123 N (nI b) e m) e (nI k) ν = _ ∧ _
    unfold b_X12_on_L123 f_X12_letterMany
    have e3 : (3 : Int32) * nI n = nI (3 * n) := pk_mul 3 n
    rw [z_bn_sm, hcn, e3]
    by_cases hlt : k < 3 * n
    · have ek : nI k + 1 = nI (k + 1) := nI_1 k
      have ek2 : nI b + nI k = nI (b + k) := nI_add b k
      have ek3 : (8 : Int32) + nI k = nI (8 + k) := ix1 8 k
      rw [if_pos (nI_lt hlt (by omega)), ek2, z_in_nI (show b + k < 1600 by omega) (by decide), ek3, z_in_nI (show 8 + k < 32 by omega) (by decide), z_bd_eq, z_bd_eq, ek, nI_toNat (show 8 + k < 2 ^ 31 by omega), nI_toNat (show b + k < 2 ^ 31 by omega), ht]
      obtain ⟨ν2, g1, g2, g3⟩ := ih (k + 1) (z_setI ν 296 (8 + k) (nI (t (b + k)))) (by omega) (by omega) (fun j => by rw [sI_1, if_neg (by omega)]; exact ht j) (by rw [sI_1, if_neg (by omega)]; exact hcn)
      refine ⟨ν2, g1, g2, fun a j => ?_⟩
      rw [g3, sI_1]
      by_cases ha : a = 296
      · by_cases hj : j = 8 + k
        · rw [if_neg (by omega), if_pos ⟨ha, hj⟩, if_pos ⟨ha, by omega, by omega⟩, hj, show b + (8 + k - 8) = b + k by omega]
        · rw [if_neg (c := a = 296 ∧ j = 8 + k) (by omega)]
          by_cases hl : 8 + k ≤ j ∧ j < 8 + 3 * n
          · rw [if_pos ⟨ha, by omega, by omega⟩, if_pos ⟨ha, hl⟩]
          · rw [if_neg (by omega), if_neg (by omega)]
      · rw [if_neg (fun q => ha q.1), if_neg (fun q => ha q.1), if_neg (fun q => ha q.1)]
    · have : k = 3 * n := by omega
      subst this
      rw [if_neg (nI_nlt (Nat.le_refl _) (by omega))]
      exact ⟨ν, rfl, rfl, fun a j => by rw [if_neg (by omega)]⟩
theorem okN_tN {h : aH} {t : Nat → Nat} (ok : okH h) (hT : okT h (tN h t)) : okN h (tN h t) := by
  obtain ⟨t1, t2, t3, t4⟩ := hT
  have eL : ∀ k, hCnt h 2 ≤ k → nLeft (tN h t) k = 0 := fun k hk => if_neg (by omega)
  have eK : ∀ k, hCnt h 1 ≤ k → nStock (tN h t) k = 0 := fun k hk => if_neg (by omega)
  have eD : ∀ k, hCnt h 0 ≤ k → nDone (tN h t) k = 0 ∧ nSheet (tN h t) k = 0 ∧ nGift (tN h t) k = 0 := fun k hk => ⟨if_neg (by omega), if_neg (by omega), if_neg (by omega)⟩
  have lt : ∀ a b : Nat, a < b ∨ b ≤ a := fun a b => by omega
  refine ⟨t1, fun k => ?_, eL, fun k => ?_, eK, fun k => ?_, fun k => ?_, fun k => ?_, eD⟩
  · rcases lt k (hCnt h 2) with q | q
    · have := t2 k q
      have := (ok.2.2.2.2.2.2.2.2.2.2.2.2.2.2.2.2.2.1 k).2.1
      omega
    · rw [eL k q]; omega
  · rcases lt k (hCnt h 1) with q | q
    · have := t3 k q
      have := ok.2.2.2.2.2.2.2.2.2.2.2.2.2.2.2.2.1 k
      omega
    · rw [eK k q]; omega
  · rcases lt k (hCnt h 0) with q | q
    · exact (t4 k q).1
    · rw [(eD k q).1]; omega
  · rcases lt k (hCnt h 0) with q | q
    · exact (t4 k q).2.2.1
    · rw [(eD k q).2.1]; omega
  · rcases lt k (hCnt h 0) with q | q
    · exact (t4 k q).2.1
    · rw [(eD k q).2.2]; omega
theorem c_noPast {A : aS} {μ : z_S} (ok : okS A) (h : cS A μ) : cS (aPast A (sN A) []) (z_setI μ 0 17 0) := by
  have h' := h
  obtain ⟨a1, a2, a3, a4, a5, a6, a7, a8, a9, b1, ⟨old, b2, b3, b4⟩, c1, c2, d1, d2, d3⟩ := h'
  refine cS_of ok h rfl rfl (fun q j h1 h2 g1 g2 g3 g4 => by rw [sI_1, if_neg (by omega)]) (fun j => by rw [sI_1, if_neg (by omega)]) ?_ (fun k => ?_) (fun k hk => ?_) ?_ ?_ ?_ ?_ ?_ ?_ (fun k q hq => ?_) ?_ (fun k x hx => ?_) ?_
  · rw [sI_1, if_neg (by omega)]; exact a1
  · rw [sI_1, if_neg (by omega)]; exact a2 k
  · rw [sI_1, if_neg (by omega)]; exact a4 k hk
  · rw [sI_1, if_neg (by omega)]; exact a5
  · rw [sI_1, if_neg (by omega)]; exact a6
  · exact cN_of a9 (fun o j h1 h2 => by rw [sI_1, if_neg (by omega)])
  · rw [sI_1, if_pos ⟨rfl, rfl⟩]; rfl
  · exact ⟨old, b2, by rw [sI_1, if_neg (by omega)]; exact b3, fun i a hi => by cases hi⟩
  · rw [sI_1, if_neg (by omega)]; exact c1
  · exact ⟨by rw [sI_1, if_neg (by omega)]; exact (c2 k q hq).1, by rw [sI_1, if_neg (by omega)]; exact (c2 k q hq).2⟩
  · rw [sI_1, if_neg (by omega)]; exact d1
  · rw [sI_1, if_neg (by omega)]; exact d2 k x hx
  · rw [sI_1, if_neg (by omega)]; exact d3
theorem m_noPast {A : aS} {ν : z_S} (h : mS A ν) : mS (aPast A (sN A) []) (z_setI ν 253 68 0) := by
  have h' := h
  obtain ⟨a1, a2, a3, a4, a5, a6, a7, a8, b1, ⟨nw, b2, b3, b4⟩, c1, c2, d1, d2, d3⟩ := h'
  refine mS_of h rfl (fun q j h1 h2 => by rw [sI_1, if_neg (by omega)]) (fun _ => rfl) (fun q j hq => by rw [sI_1, if_neg (by omega)]) ?_ (fun k => ?_) (fun k hk => ?_) ?_ ?_ ?_ ?_ ?_ ?_ (fun k q hq => ?_) ?_ (fun k x hx => ?_) ?_
  · rw [sI_1, if_neg (by omega)]; exact a1
  · rw [sI_1, if_neg (by omega)]; exact a2 k
  · rw [sI_1, if_neg (by omega)]; exact a4 k hk
  · rw [sI_1, if_neg (by omega)]; exact a5
  · rw [sI_1, if_neg (by omega)]; exact a6
  · exact mN_of a8 (fun j h1 h2 => by rw [sI_1, if_neg (by omega)])
  · rw [sI_1, if_pos ⟨rfl, rfl⟩]; rfl
  · exact ⟨nw, b2, by rw [sI_1, if_neg (by omega)]; exact b3, fun i a hi => by cases hi⟩
  · rw [sI_1, if_neg (by omega)]; exact c1
  · exact ⟨by rw [sI_1, if_neg (by omega)]; exact (c2 k q hq).1, by obtain ⟨-, x, y, q1, q2, q3, q4, q5⟩ := c2 k q hq; exact ⟨x, y, q1, q2, q3, by rw [sI_1, if_neg (by omega)]; exact q4, by rw [sI_1, if_neg (by omega)]; exact q5⟩⟩
  · rw [sI_1, if_neg (by omega)]; exact d1
  · rw [sI_1, if_neg (by omega)]; exact d2 k x hx
  · exact d3
theorem ok_noPast {A : aS} (ok : okS A) : okS (aPast A (sN A) []) := ok_past ok ok.2.2.2.1 (Nat.zero_le _) (fun x hx => by cases hx)
theorem st45 : stK 45 := ⟨by decide +kernel, by decide +kernel, by decide +kernel, by decide +kernel, by decide +kernel, by decide +kernel⟩
theorem c_load {A : aS} {μ : z_S} (ok : okS A) (h : cS A μ) (N : Nat) (hN : 20 ≤ N) : ∃ μ', f_X11_loadScratch N μ = some ((), μ') ∧ cN 45 (tN (sH A) (sTape A)) μ' ∧ (∀ a j, a < 45 ∨ 51 ≤ a → μ'.1 a j = μ.1 a j) ∧ μ'.2 = μ.2 := by
  have h8 := ok.2.2.1.1
  have h4 := ok.2.2.1.2.1
  have h3 := ok.2.2.1.2.2.1
  have hz := z_hn_lt μ.2.2.1
  obtain ⟨μ1, e1, n1, o1, f1⟩ := c_begin N (by omega) st45 (z_hn_k μ.2.2.1) (by omega) ok.2.2.1 h.2.2.2.2.2.2.2.1
  have ht1 : ∀ j, μ1.1 2 j = nI (sTape A j) := fun j => by rw [o1 _ _ (by omega)]; exact h.2.1 j
  have e2 : f_X10_pairAt N (0 : Int32) μ1 = some (nI (256 * sTape A 0 + sTape A 1), μ1) := by
    unfold f_X10_pairAt
    rw [show (0 : Int32) + 1 = nI 1 from rfl, show (0 : Int32) = nI 0 from rfl, z_in_nI (by decide) (by decide), z_in_nI (by decide) (by decide), nI_toNat (by decide), nI_toNat (by decide), ht1, ht1, show (256 : Int32) = nI 256 from rfl, pk_mul, nI_add]
  generalize hμ2 : z_setI μ1 45 0 (nI (256 * sTape A 0 + sTape A 1)) = μ2
  have o2 : ∀ a j, ¬ (a = 45 ∧ j = 0) → μ2.1 a j = μ1.1 a j := fun a j q => by rw [← hμ2, sI_1, if_neg q]
  have f2 : μ2.2 = μ1.2 := by rw [← hμ2]; rfl
  have d2 : μ2.1 45 0 = nI (256 * sTape A 0 + sTape A 1) := by rw [← hμ2, sI_1, if_pos ⟨rfl, rfl⟩]
  have cnt : ∀ k, k < 5 → ∀ μ' : z_S, (∀ a j, a < 45 ∨ 51 ≤ a → μ'.1 a j = μ.1 a j) → μ'.2 = μ.2 → μ'.1 (z_hn μ'.2.2.1 + 1) k = nI (hCnt (sH A) k) := fun k hk μ' q1 q2 => by
    rw [q2, q1 _ _ (by omega)]
    exact h.2.2.2.2.2.2.2.1.1 k hk
  have out2 : ∀ a j, a < 45 ∨ 51 ≤ a → μ2.1 a j = μ.1 a j := fun a j ha => by rw [o2 _ _ (by omega)]; exact o1 a j ha
  have fl2 : μ2.2 = μ.2 := f2.trans f1
  obtain ⟨μ3, g1, g2, g3⟩ := c_ld1 N (t := sTape A) (n := hCnt (sH A) 2) h3 (fun y70_1 μ70 => f_X11_loadScratch_L72 N (fun y112_1 μ112 => f_X11_loadScratch_L114 N N y112_1 (0 : Int32) μ112) N y70_1 (0 : Int32) μ70) N 0 μ2 (Nat.zero_le _) (by omega) (fun j => by rw [o2 _ _ (by omega)]; exact ht1 j) (cnt 2 (by decide) μ2 out2 fl2)
  have out3 : ∀ a j, a < 45 ∨ 51 ≤ a → μ3.1 a j = μ.1 a j := fun a j ha => by rw [g3, if_neg (by omega)]; exact out2 a j ha
  have fl3 : μ3.2 = μ.2 := g2.trans fl2
  obtain ⟨μ4, k1, k2, k3⟩ := c_ld2 N (t := sTape A) (n := hCnt (sH A) 1) (b := 2 + hCnt (sH A) 2) h4 (by omega) (fun y112_1 μ112 => f_X11_loadScratch_L114 N N y112_1 (0 : Int32) μ112) N 0 μ3 (Nat.zero_le _) (by omega) (fun j => by rw [out3 _ _ (by omega)]; exact h.2.1 j) (cnt 1 (by decide) μ3 out3 fl3)
  have out4 : ∀ a j, a < 45 ∨ 51 ≤ a → μ4.1 a j = μ.1 a j := fun a j ha => by rw [k3, if_neg (by omega)]; exact out3 a j ha
  have fl4 : μ4.2 = μ.2 := k2.trans fl3
  obtain ⟨μ5, q1, q2, q3, q4⟩ := c_ld3 N (t := sTape A) (n := hCnt (sH A) 0) (b := 2 + hCnt (sH A) 2 + hCnt (sH A) 1) h8 (by omega) N 0 μ4 (Nat.zero_le _) (by omega) (fun j => by rw [out4 _ _ (by omega)]; exact h.2.1 j) (cnt 0 (by decide) μ4 out4 fl4)
  have out5 : ∀ a j, a < 45 ∨ 51 ≤ a → μ5.1 a j = μ.1 a j := fun a j ha => by rw [q3 _ _ (by omega)]; exact out4 a j ha
  refine ⟨μ5, ?_, ⟨?_, fun k hk => ?_, fun k hk => ?_, fun k hk => ?_, fun k hk => ?_, fun k hk => ?_⟩, out5, q2.trans fl4⟩
  · unfold f_X11_loadScratch
    rw [e1, z_bn_sm, e2, z_bn_sm, z_bd_eq, hμ2]
    have g1' : f_X11_loadScratch_L30 N (fun y70_1 μ70 => f_X11_loadScratch_L72 N (fun y112_1 μ112 => f_X11_loadScratch_L114 N N y112_1 (0 : Int32) μ112) N y70_1 (0 : Int32) μ70) N (2 : Int32) (0 : Int32) μ2 = _ := g1
    have k1' : f_X11_loadScratch_L72 N (fun y112_1 μ112 => f_X11_loadScratch_L114 N N y112_1 (0 : Int32) μ112) N (nI (2 + hCnt (sH A) 2)) (0 : Int32) μ3 = _ := k1
    have q1' : f_X11_loadScratch_L114 N N (nI (2 + hCnt (sH A) 2 + hCnt (sH A) 1)) (0 : Int32) μ4 = _ := q1
    rw [g1', k1', q1']
  · rw [q3 _ _ (by omega), k3, if_neg (by omega), g3, if_neg (by omega)]; exact d2
  · rw [q3 _ _ (by omega), k3, if_neg (by omega), g3]
    show _ = nI (if k < hCnt (sH A) 2 then sTape A (2 + k) else 0)
    by_cases c : k < hCnt (sH A) 2
    · rw [if_pos ⟨rfl, Nat.zero_le _, c⟩, if_pos c]
    · rw [if_neg (fun z => c z.2.2), if_neg c, o2 _ _ (by omega), n1.2.1 k hk]
      show nI (if k < hCnt (sH A) 2 then _ else 0) = _
      rw [if_neg c]
  · rw [q3 _ _ (by omega), k3]
    show _ = nI (if k < hCnt (sH A) 1 then sTape A (2 + hCnt (sH A) 2 + k) else 0)
    by_cases c : k < hCnt (sH A) 1
    · rw [if_pos ⟨rfl, Nat.zero_le _, c⟩, if_pos c]
    · rw [if_neg (fun z => c z.2.2), if_neg c, g3, if_neg (by omega), o2 _ _ (by omega), n1.2.2.1 k hk]
      show nI (if k < hCnt (sH A) 1 then _ else 0) = _
      rw [if_neg c]
  · have q5 := q4 k
    show _ = nI (if k < hCnt (sH A) 0 then sTape A (2 + hCnt (sH A) 2 + hCnt (sH A) 1 + 3 * k) else 0) - 1
    by_cases c : k < hCnt (sH A) 0
    · rw [if_pos ⟨Nat.zero_le _, c⟩] at q5
      rw [if_pos c]; exact q5.1
    · rw [if_neg (fun z => c z.2)] at q5
      rw [if_neg c]
      refine q5.1.trans ?_
      rw [k3, if_neg (by omega), g3, if_neg (by omega), o2 _ _ (by omega)]
      exact n1.2.2.2.1 k hk
  · have q5 := q4 k
    show _ = nI (if k < hCnt (sH A) 0 then sTape A (2 + hCnt (sH A) 2 + hCnt (sH A) 1 + 3 * k + 1) else 0)
    by_cases c : k < hCnt (sH A) 0
    · rw [if_pos ⟨Nat.zero_le _, c⟩] at q5
      rw [if_pos c]; exact q5.2.1
    · rw [if_neg (fun z => c z.2)] at q5
      rw [if_neg c]
      refine q5.2.1.trans ?_
      rw [k3, if_neg (by omega), g3, if_neg (by omega), o2 _ _ (by omega)]
      exact n1.2.2.2.2.1 k hk
  · have q5 := q4 k
    show _ = nI (if k < hCnt (sH A) 0 then sTape A (2 + hCnt (sH A) 2 + hCnt (sH A) 1 + 3 * k + 2) else 0) - 1
    by_cases c : k < hCnt (sH A) 0
    · rw [if_pos ⟨Nat.zero_le _, c⟩] at q5
      rw [if_pos c]; exact q5.2.2
    · rw [if_neg (fun z => c z.2)] at q5
      rw [if_neg c]
      refine q5.2.2.trans ?_
      rw [k3, if_neg (by omega), g3, if_neg (by omega), o2 _ _ (by omega)]
      exact n1.2.2.2.2.2 k hk
