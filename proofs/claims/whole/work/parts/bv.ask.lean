/-! ask -/
def aQ (A : aS) (x y : Int32) : aS := ((0, sTape A), sRef A, (x, y), A.2.2.2)
theorem ok_q {A : aS} (ok : okS A) (x y : Int32) : okS (aQ A x y) := by
  obtain ⟨k1, k2, k3, k4, k5, k6, k7, k8, k9, k10, k11⟩ := ok
  exact ⟨Nat.zero_le _, k2, k3, k4, k5, k6, k7, k8, k9, k10, k11⟩
theorem cS_q {A : aS} {μ μ' : z_S} (ok : okS A) (h : cS A μ) (hb : μ'.2 = μ.2) (e : ∀ a j, ¬ ((a = 1 ∧ 1 ≤ j ∧ j ≤ 9) ∨ (92 ≤ a ∧ a ≤ 94) ∨ a = 132) → μ'.1 a j = μ.1 a j) {x y : Int32} (h1 : μ'.1 1 1 = 0) (h2 : μ'.1 1 2 = x) (h3 : μ'.1 1 3 = y) : cS (aQ A x y) μ' := by
  obtain ⟨a1, a2, a3, a4, a5, a6, a7, a8, a9, b1, ⟨old, b2, b3, b4⟩, c1, c2, d1, d2, d3⟩ := h
  obtain ⟨k1, k2, k3, k4, k5, k6, k7, k8, k9, k10, k11⟩ := ok
  have hh := z_hn_lt μ.2.2.1
  refine ⟨by rw [h1]; rfl, fun k => by rw [e _ _ (by omega)]; exact a2 k, fun k c hkc => by rw [e _ _ (by omega)]; exact a3 k c hkc, fun k hk => by rw [e _ _ (by omega)]; exact a4 k hk, h2, h3, by rw [hb]; exact a7, ?_, cN_of a9 (fun o j z1 z2 => e _ _ (by omega)), by rw [e _ _ (by omega)]; exact b1, ⟨old, b2, by rw [e _ _ (by omega)]; exact b3, fun i a hi => cN_of (b4 i a hi) (fun o j z1 z2 => e _ _ (by omega))⟩, by rw [e _ _ (by omega)]; exact c1, fun k q hq => ⟨by rw [e _ _ (by omega)]; exact (c2 k q hq).1, by rw [e _ _ (by omega)]; exact (c2 k q hq).2⟩, by rw [e _ _ (by omega)]; exact d1, fun k x hx => by rw [e _ _ (by omega)]; exact d2 k x hx, by rw [e _ _ (by omega)]; exact d3⟩
  show cH (z_hn μ'.2.2.1) (sH A) μ'
  rw [hb]
  exact cH_of a8 ⟨k3.1, k3.2.1, k3.2.2.1⟩ (fun q j z1 z2 => e _ _ (by omega))
theorem mS_q {A : aS} {ν ν' : z_S} (h : mS A ν) (e : ∀ a j, ¬ ((a = 253 ∧ (j ≤ 8 ∨ j = 38 ∨ j = 53 ∨ j = 95 ∨ j = 97 ∨ j = 98 ∨ j = 99 ∨ j = 101 ∨ j = 103)) ∨ a = 330 ∨ a = 331) → ν'.1 a j = ν.1 a j) (eJ : ∀ a j, a ≠ 332 → ¬ (a = 253 ∧ j = 102) → ν'.2.1 a j = ν.2.1 a j) {x y : Int32} (h1 : ν'.1 253 1 = 0) (h2 : ν'.1 253 7 = x) (h3 : ν'.1 253 8 = y) : mS (aQ A x y) ν' := by
  obtain ⟨m1, m2, m3, m4, m5, m6, m7, m8, n1, ⟨nw, n2, n3, n4⟩, o1, o2, p1, p2, p3⟩ := h
  refine ⟨by rw [h1]; rfl, fun k => by rw [e _ _ (by omega)]; exact m2 k, fun q hq k c hkc => by rw [e _ _ (by have := mW_hi q hq; omega)]; exact m3 q hq k c hkc, fun k hk => by rw [e _ _ (by omega)]; exact m4 k hk, h2, h3, mH_of m7 (fun q j z1 z2 => e _ _ (by omega)) (fun j => eJ _ _ (by decide) (by omega)), mN_of m8 (fun j z1 z2 => e _ _ (by omega)), by rw [e _ _ (by omega)]; exact n1, ⟨nw, n2, by rw [e _ _ (by omega)]; exact n3, fun i a hi => mN_of (n4 i a hi) (fun j z1 z2 => e _ _ (by omega))⟩, by rw [e _ _ (by omega)]; exact o1, fun k q hq => ⟨by rw [e _ _ (by omega)]; exact (o2 k q hq).1, by obtain ⟨-, x, y, q1, q2, q3, q4, q5⟩ := o2 k q hq; exact ⟨x, y, q1, q2, q3, by rw [e _ _ (by omega)]; exact q4, by rw [e _ _ (by omega)]; exact q5⟩⟩, by rw [e _ _ (by omega)]; exact p1, fun k x hx => by rw [e _ _ (by omega)]; exact p2 k x hx, by rw [eJ _ _ (by decide) (by omega)]; exact p3⟩
/-- the value at a letter -/
def qV (h : aH) (n : aN) (cs : List Int32) (l : Nat) : Int := match runV (envV h n l 0) (wishF (envW h l)) [] cs with
  | some (v :: _) => v
  | _ => 0
theorem qV_is {h : aH} {n : aN} {cs : List Int32} {bit : Prop} (hv : ∀ V Wf, ∃ v, runV V Wf [] cs = some [v] ∧ (bit → v = 0 ∨ v = 1)) (l : Nat) : runV (envV h n l 0) (wishF (envW h l)) [] cs = some [qV h n cs l] ∧ (bit → qV h n cs l = 0 ∨ qV h n cs l = 1) := by
  obtain ⟨v, h1, h2⟩ := hv (envV h n l 0) (wishF (envW h l))
  have e : qV h n cs l = v := by unfold qV; rw [h1]
  rw [e]
  exact ⟨h1, h2⟩
/-- behind the reading: class and reference -/
theorem ask_tail {A : aS} {μ ν : z_S} (ok : okS A) (hc : cS A μ) (hm : mS A ν) (N : Nat) (hN : 1700 ≤ N) {t : Nat → Nat} {n k q : Nat} (hk : k < 6) {bit : Prop} (hbk : k < 3 → bit) {μ1 ν1 : z_S} {X : Option (Int32 × z_S)} {Y : Option (Unit × z_S)}
    (hb : μ1.2 = μ.2) (eC : ∀ a j, ¬ ((a = 1 ∧ 2 ≤ j ∧ j ≤ 9) ∨ (92 ≤ a ∧ a ≤ 94) ∨ a = 132) → μ1.1 a j = μ.1 a j) (h13 : μ1.1 1 3 = -1) (h132 : μ1.1 132 2 = nI (28 + k))
    (hJ : ν1.2 = ν.2) (eM : ∀ a j, ¬ ((a = 253 ∧ (j ≤ 8 ∨ j = 38 ∨ j = 53 ∨ j = 95 ∨ j = 97 ∨ j = 98 ∨ j = 99)) ∨ a = 330 ∨ a = 331) → ν1.1 a j = ν.1 a j) (h6 : ν1.1 253 6 = -1) (h1 : ν1.1 253 1 = 0)
    (R : qsRes t n q bit μ1 ν1 X Y) : z_Op (z_bn (z_bn X fun x2 μ_5 => f_X5_read_B69 N x2 μ_5) fun x1 μ_1 => z_bd (z_setI μ_1 1 1 (0 : Int32)) fun μ_2 => if x1 = 0 then (some ((-1000000000000000 : Int64), μ_2)) else z_bn (f_X5_over N (z_hn μ_2.2.2.1) 39 μ_2) fun x2 μ_3 => some (x2, μ_3)) (z_bn Y fun _ μ_13 => f_X12_ask_B93 N (nI k) μ_13) := by
  have bad : ∀ f p μ2 ν2, 1 ≤ f ∧ f ≤ 5 → vFr μ1 μ2 → zFr ν1 ν2 → cB f p μ2 → mB f p ν2 → z_Op (z_bn (some ((0 : Int32), μ2)) fun x1 μ_1 => z_bd (z_setI μ_1 1 1 (0 : Int32)) fun μ_2 => if x1 = 0 then (some ((-1000000000000000 : Int64), μ_2)) else z_bn (f_X5_over N (z_hn μ_2.2.2.1) 39 μ_2) fun x2 μ_3 => some (x2, μ_3)) (f_X12_ask_B117 N (nI k) ν2) := fun f p μ2 ν2 hf w1 w2 w3 w4 => by
    have b5 := mB_ne w4 hf
    have eB : f_X12_ask_B117 N (nI k) ν2 = some (-1000000000000000, z_setI (z_setI ν2 253 7 (nI f)) 253 8 (nI p)) := by
      unfold f_X12_ask_B117
      rw [z_bd_eq, z_bd_eq, w4.1, show (z_setI ν2 253 7 (nI f)).1 253 6 = nI p from by rw [sI_1, if_neg (by omega)]; exact w4.2, if_neg (show ¬ (z_setI (z_setI ν2 253 7 (nI f)) 253 8 (nI p)).1 253 5 = 0 from by rw [sI_1, if_neg (by omega), sI_1, if_neg (by omega)]; exact b5)]
    rw [eB, z_bn_sm, z_bd_eq, if_pos rfl]
    refine ⟨_, _, _, rfl, rfl, aQ A (nI f) (nI p), ok_q ok _ _, cS_q (μ' := z_setI μ2 1 1 0) ok hc (w1.1.trans hb) (fun a j z => ?_) (by rw [sI_1, if_pos ⟨rfl, rfl⟩]) (by rw [sI_1, if_neg (by omega)]; exact w3.1) (by rw [sI_1, if_neg (by omega)]; exact w3.2), mS_q hm (fun a j z => ?_) (fun a j z1 z2 => ?_) ?_ ?_ ?_⟩
    · rw [sI_1, if_neg (by omega), w1.2 a j (by omega) (by omega) (by omega), eC a j (by omega)]
    · rw [sI_1, if_neg (by omega), sI_1, if_neg (by omega), w2.2 a j (by omega) (by omega) (by omega), eM a j (by omega)]
    · show ν2.2.1 a j = _
      rw [w2.1, hJ]
    · rw [sI_1, if_neg (by omega), sI_1, if_neg (by omega), w2.2 _ _ (by omega) (by omega) (by omega)]; exact h1
    · rw [sI_1, if_neg (by omega), sI_1, if_pos ⟨rfl, rfl⟩]
    · rw [sI_1, if_pos ⟨rfl, rfl⟩]
  rcases R with ⟨q', g', Dl, Dm, μ2, ν2, s1, s2, s3, s4, s5, s6, s7, s8, s9, s10, s11, s12, s13⟩ | ⟨f, p, μ2, ν2, s1, s2, s3, s4, s5, s6, s7, s8⟩
  rotate_left
  · rw [s1, s2, z_bn_sm, z_bn_sm]
    unfold f_X5_read_B69 f_X12_ask_B93
    rw [if_pos rfl, if_neg (mB_ne s6 ⟨s7, s8⟩)]
    exact bad f p μ2 ν2 ⟨s7, s8⟩ s3 s4 s5 s6
  rw [s1, s2, z_bn_sm, z_bn_sm]
  unfold f_X5_read_B69 f_X12_ask_B93
  obtain ⟨ν3, w1, w2, w3⟩ := m_look N hN s7
  have hq' := s5.2.2.2
  have ht := s5.1.2.2.2.1
  rw [if_neg (show ¬ (1 : Int32) = 0 by decide), if_pos s7.2.1, w1, z_bn_sm, s5.2.1.2.2.1]
  by_cases ce : n ≤ q'
  rotate_left
  · have hk0 : ¬ tkK t n q' g' = 0 := fun z => ce (tkK_0.mp z)
    have hk4 := tkK_4 (t := t) (n := n) (q := q') (g := g')
    have hk0' : ¬ nI (tkK t n q' g') = 0 := fun z => hk0 ((nI_eq (b := 0) (by omega) (by decide)).mp z)
    have hlk : ¬ lk t n q' = -1 := by
      rw [show lk t n q' = nI (t q') from if_pos (by omega)]
      exact nI_nm1 (by have := ht q'; omega)
    obtain ⟨μ4, v1, v2, v3⟩ := c_fail N (f := 1) s5
    obtain ⟨ν4, x1, x2, x3⟩ := m_failAt N 1 q' w3.2.1
    rw [if_neg hk0', if_neg hlk, show f_X10_fail N (1 : Int32) μ2 = some (0, μ4) from v1, z_bn_sm, if_pos rfl, w3.2.2.1, show f_X12_fail N (1 : Int32) (nI q') ν3 = some ((), ν4) from x1, z_bn_sm]
    exact bad 1 q' μ4 ν4 (by omega) (s3.tr v2.v) (s4.tr (w2.z.tr x2.z)) v3 x3
  have hk0 : tkK t n q' g' = 0 := tkK_0.mpr ce
  rw [hk0, if_pos (show nI 0 = (0 : Int32) from rfl), show lk t n q' = -1 from if_neg (by omega), if_pos (show (-1 : Int32) = -1 from rfl)]
  unfold f_X5_read_B97
  rw [z_bn_sm, z_bd_eq, if_neg (show ¬ (1 : Int32) = 0 by decide)]
  obtain ⟨μ4, hμ4⟩ : ∃ μ4, μ4 = z_setI μ2 1 1 0 := ⟨_, rfl⟩
  rw [← hμ4]
  have e4 : ∀ a j, ¬ (a = 1 ∧ j = 1) → μ4.1 a j = μ2.1 a j := fun a j z => by rw [hμ4, sI_1, if_neg z]
  have hb4 : μ4.2 = μ.2 := by rw [hμ4]; exact s3.1.trans hb
  have p13 : μ2.1 1 3 = -1 := by
    rw [s3.2 1 3 (fun z => z.2.2.2.elim (fun y => by omega) (fun y => y s5.2.2.1)) (by omega) (by decide)]
    exact h13
  have hc4 : cS (aQ A 0 (-1)) μ4 := cS_q ok hc hb4 (fun a j z => by rw [e4 a j (by omega), s3.2 a j (by omega) (by omega) (by omega), eC a j (by omega)]) (by rw [hμ4, sI_1, if_pos ⟨rfl, rfl⟩]) (by rw [e4 _ _ (by omega)]; exact s5.2.2.1) (by rw [e4 _ _ (by omega)]; exact p13)
  have hC4 : cC Dl μ4 := ⟨by rw [e4 _ _ (by omega)]; exact s6.1, fun k c hkc => by rw [e4 _ _ (by omega)]; exact s6.2 k c hkc⟩
  have e132 : μ4.1 132 2 = nI (28 + k) := by rw [e4 _ _ (by omega), s3.2 _ _ (by omega) (by omega) (by decide)]; exact h132
  have okq := ok_q ok 0 (-1)
  have hv : ∀ l, l < hCnt (sH (aQ A 0 (-1))) 0 → runV (envV (sH (aQ A 0 (-1))) (sN (aQ A 0 (-1))) l 0) (wishF (envW (sH (aQ A 0 (-1))) l)) [] Dl = some [qV (sH A) (sN A) Dl l] ∧ (k < 3 → qV (sH A) (sN A) Dl l = 0 ∨ qV (sH A) (sN A) Dl l = 1) := fun l _ => by
    obtain ⟨y1, y2⟩ := qV_is (h := sH A) (n := sN A) s13 l
    exact ⟨y1, fun z => y2 (hbk z)⟩
  obtain ⟨r0, hr0⟩ : ∃ r0 : Int, r0 = if k < 2 then -1 else 0 := ⟨_, rfl⟩
  have h8 := ok.2.2.1.1
  obtain ⟨μ5, y1, y2⟩ := c_overL okq hc4 N hN hC4 s11 s12 hk e132 hv (hCnt (sH A) 0) N 0 r0 μ4 (Nat.zero_add _) (by omega) (cFr.rf μ4) (fun z => by rw [hr0, if_pos (by omega)]) (fun _ z => by omega)
  have eO : f_X5_over N (z_hn μ4.2.2.1) 39 μ4 = some (iJ (ansF k (qV (sH A) (sN A) Dl) (hCnt (sH A) 0) 0 r0), μ5) := by
    unfold f_X5_over f_X5_over_B18 f_X5_over_B25
    rw [z_ko_ok (z_hn_k _), z_ko_ok (show z_kw true 39 = (8, 0) from rfl), e132]
    have y1' : f_X5_over_L30 N (z_hn μ4.2.2.1) 39 N (iJ r0) (0 : Int32) μ4 = _ := y1
    by_cases k0 : k = 0
    · rw [if_pos (show nI (28 + k) = (28 : Int32) by rw [k0]; rfl)]
      rw [hr0, if_pos (show k < 2 by omega)] at y1'
      rw [hr0, if_pos (show k < 2 by omega)]
      exact y1'
    · rw [if_neg (show ¬ nI (28 + k) = (28 : Int32) from nI_ne (b := 28) (by omega) (by omega) (by omega) rfl)]
      by_cases k1 : k = 1
      · rw [if_pos (show nI (28 + k) = (29 : Int32) by rw [k1]; rfl)]
        rw [hr0, if_pos (show k < 2 by omega)] at y1'
        rw [hr0, if_pos (show k < 2 by omega)]
        exact y1'
      · rw [if_neg (show ¬ nI (28 + k) = (29 : Int32) from nI_ne (b := 29) (by omega) (by omega) (by omega) rfl)]
        rw [hr0, if_neg (show ¬ k < 2 by omega)] at y1'
        rw [hr0, if_neg (show ¬ k < 2 by omega)]
        exact y1'
  rw [eO, z_bn_sm]
  have p6 : ν2.1 253 6 = -1 := by
    rw [s4.2 253 6 (fun z => by
      rcases z.2 with y | y | y | y
      · omega
      · omega
      · exact y.2 s7.2.1
      · omega) (by decide) (by decide)]
    exact h6
  have p6' : ν3.1 253 6 = -1 := by
    rw [w2.2 253 6 (fun z => by
      rcases z.2 with y | y | y | y
      · omega
      · omega
      · exact y.2 w3.2.1
      · omega)]
    exact p6
  obtain ⟨ν4, hν4⟩ : ∃ ν4, ν4 = z_setI (z_setI (z_setJ (z_setI (z_setI ν3 253 7 0) 253 8 (-1)) 253 102 (iJ r0)) 253 103 1) 253 53 0 := ⟨_, rfl⟩
  have e4m : ∀ a j, ¬ (a = 253 ∧ (j = 7 ∨ j = 8 ∨ j = 103 ∨ j = 53)) → ν4.1 a j = ν3.1 a j := fun a j z => by rw [hν4, sI_1, if_neg (by omega), sI_1, if_neg (by omega), sJ_1, sI_1, if_neg (by omega), sI_1, if_neg (by omega)]
  have hJ4 : ∀ a j, ¬ (a = 253 ∧ j = 102) → ν4.2.1 a j = ν.2.1 a j := fun a j z => by
    rw [hν4, sI_21, sI_21, sJ_21, if_neg z]
    show ν3.2.1 a j = _
    rw [w2.1, s4.1, hJ]
  have zf := s4.tr w2.z
  have hm4 : mS (aQ A 0 (-1)) ν4 := mS_q hm (fun a j z => by rw [e4m a j (by omega), zf.2 a j (by omega) (by omega) (by omega), eM a j (by omega)]) (fun a j z1 z2 => hJ4 a j z2) (by rw [e4m _ _ (by omega), zf.2 _ _ (by omega) (by omega) (by omega)]; exact h1) (by rw [hν4, sI_1, if_neg (by omega), sI_1, if_neg (by omega), sJ_1, sI_1, if_neg (by omega), sI_1, if_pos ⟨rfl, rfl⟩]) (by rw [hν4, sI_1, if_neg (by omega), sI_1, if_neg (by omega), sJ_1, sI_1, if_pos ⟨rfl, rfl⟩])
  have bdr : bdM r0 := by
    rw [hr0]
    split
    · exact ⟨by decide, by decide⟩
    · exact bd_0
  obtain ⟨ν5, x1, x2⟩ := m_askL okq hm4 N hN s10 s11 s12 (by rw [e4m _ _ (by omega), w2.2 _ _ (by omega)]; exact s8) (fun k m hmk => by rw [e4m _ _ (by omega), w2.2 _ _ (by omega)]; exact s9 k m hmk) hk hv (hCnt (sH A) 0) N 0 r0 ν4 (Nat.zero_add _) (by omega) ⟨rfl, fun _ _ _ => rfl, fun _ _ _ _ => rfl⟩ (by rw [hν4, sI_21, sI_21, sJ_21, if_pos ⟨rfl, rfl⟩]) (by rw [if_pos rfl, hν4, sI_1, if_neg (by omega), sI_1, if_pos ⟨rfl, rfl⟩]) (fun _ => bdr) (fun _ _ => bdr)
  have eB : f_X12_ask_B117 N (nI k) ν3 = some (iJ (ansF k (qV (sH A) (sN A) Dl) (hCnt (sH A) 0) 0 r0), ν5) := by
    unfold f_X12_ask_B117 f_X12_ask_B157
    rw [w3.2.1, z_bd_eq, z_bd_eq, show (z_setI ν3 253 7 0).1 253 6 = -1 from by rw [sI_1, if_neg (by omega)]; exact p6', if_pos (show (z_setI (z_setI ν3 253 7 0) 253 8 (-1)).1 253 5 = 0 from by rw [sI_1, if_neg (by omega), sI_1, if_neg (by omega)]; exact w3.2.1)]
    have x1' : f_X12_ask_L172 N (nI k) N (0 : Int32) ν4 = _ := x1
    by_cases k2 : k < 2
    · rw [if_pos (show nI k < (2 : Int32) from nI_lt (b := 2) k2 (by omega)), z_bd_eq, z_bd_eq, z_bd_eq]
      rw [hν4, hr0, if_pos k2] at x1'
      rw [hr0, if_pos k2]
      exact x1'
    · rw [if_neg (show ¬ nI k < (2 : Int32) from nI_nlt (b := 2) (by omega) (by omega)), z_bd_eq, z_bd_eq, z_bd_eq]
      rw [hν4, hr0, if_neg k2] at x1'
      rw [hr0, if_neg k2]
      exact x1'
  rw [eB]
  exact ⟨_, _, _, rfl, rfl, aQ A 0 (-1), okq, y2.cS okq hc4, x2.mS hm4⟩
theorem op_ask {A : aS} {μ ν : z_S} (ok : okS A) (hc : cS A μ) (hm : mS A ν) (N : Nat) (hN : 1700 ≤ N) : z_Op (f_X11_ask N μ) (f_X12_ask N ν) := by
  have k1 := ok.1
  have k2 := ok.2.1
  have hx : cX (sTape A) (sLen A) μ := ⟨k1, hc.1, hc.2.1, k2, hc.2.2.1⟩
  obtain ⟨μ1, t1, t2, t3, t4, t5⟩ := c_open hN hx
  obtain ⟨q, hq⟩ : ∃ q, q = skp (sTape A) (sLen A) 0 := ⟨_, rfl⟩
  rw [← hq] at t4
  obtain ⟨μ2, hμ2⟩ : ∃ μ2, μ2 = z_setI μ1 132 2 (tkW (sTape A) (sLen A) q false) := ⟨_, rfl⟩
  have c2 : cG (sTape A) (sLen A) q false μ2 := by rw [hμ2]; exact cG_set t4 (by omega) _ _
  have e132 : μ2.1 132 2 = tkW (sTape A) (sLen A) q false := by rw [hμ2, sI_1, if_pos ⟨rfl, rfl⟩]
  have e2 : ∀ a j, ¬ ((a = 1 ∧ 2 ≤ j ∧ j ≤ 9) ∨ a = 132) → μ2.1 a j = μ.1 a j := fun a j z => by rw [hμ2, sI_1, if_neg (by omega), t3 a j (by omega)]
  have b2 : μ2.2 = μ.2 := by rw [hμ2]; exact t2
  have h13 : μ2.1 1 3 = -1 := by rw [hμ2, sI_1, if_neg (by omega)]; exact t5
  unfold f_X11_ask f_X5_read f_X12_ask
  rw [t1, z_bn_sm, z_bd_eq, t4.2.1.2.2.2.2.1, ← hμ2, e132]
  rw [z_bd_eq, z_bd_eq, z_bd_eq, z_bd_eq, z_bd_eq, z_bd_eq, z_bd_eq, z_bd_eq, z_bd_eq, z_bd_eq, z_bd_eq, hm.1]
  obtain ⟨ν1, hν1⟩ : ∃ ν1, ν1 = z_setI (z_setI (z_setI (z_setI (z_setI (z_setI (z_setI (z_setI (z_setI (z_setI (z_setI ν 253 3 (nI (sLen A))) 253 1 0) 253 2 0) 253 4 (-1)) 253 5 0) 253 6 (-1)) 253 53 0) 253 95 0) 253 97 0) 253 98 0) 253 99 0 := ⟨_, rfl⟩
  rw [← hν1]
  have em : ∀ a j, ¬ (a = 253 ∧ (1 ≤ j ∧ j ≤ 6 ∨ j = 53 ∨ j = 95 ∨ j = 97 ∨ j = 98 ∨ j = 99)) → ν1.1 a j = ν.1 a j := fun a j z => by
    rw [hν1, sI_1, if_neg (by omega), sI_1, if_neg (by omega), sI_1, if_neg (by omega), sI_1, if_neg (by omega), sI_1, if_neg (by omega), sI_1, if_neg (by omega), sI_1, if_neg (by omega), sI_1, if_neg (by omega), sI_1, if_neg (by omega), sI_1, if_neg (by omega), sI_1, if_neg (by omega)]
  have v99 : ν1.1 253 99 = 0 := by rw [hν1, sI_1, if_pos ⟨rfl, rfl⟩]
  have v98 : ν1.1 253 98 = 0 := by rw [hν1, sI_1, if_neg (by omega), sI_1, if_pos ⟨rfl, rfl⟩]
  have v97 : ν1.1 253 97 = 0 := by rw [hν1, sI_1, if_neg (by omega), sI_1, if_neg (by omega), sI_1, if_pos ⟨rfl, rfl⟩]
  have v95 : ν1.1 253 95 = 0 := by rw [hν1, sI_1, if_neg (by omega), sI_1, if_neg (by omega), sI_1, if_neg (by omega), sI_1, if_pos ⟨rfl, rfl⟩]
  have v53 : ν1.1 253 53 = 0 := by rw [hν1, sI_1, if_neg (by omega), sI_1, if_neg (by omega), sI_1, if_neg (by omega), sI_1, if_neg (by omega), sI_1, if_pos ⟨rfl, rfl⟩]
  have v6 : ν1.1 253 6 = -1 := by rw [hν1, sI_1, if_neg (by omega), sI_1, if_neg (by omega), sI_1, if_neg (by omega), sI_1, if_neg (by omega), sI_1, if_neg (by omega), sI_1, if_pos ⟨rfl, rfl⟩]
  have v5 : ν1.1 253 5 = 0 := by rw [hν1, sI_1, if_neg (by omega), sI_1, if_neg (by omega), sI_1, if_neg (by omega), sI_1, if_neg (by omega), sI_1, if_neg (by omega), sI_1, if_neg (by omega), sI_1, if_pos ⟨rfl, rfl⟩]
  have v4 : ν1.1 253 4 = -1 := by rw [hν1, sI_1, if_neg (by omega), sI_1, if_neg (by omega), sI_1, if_neg (by omega), sI_1, if_neg (by omega), sI_1, if_neg (by omega), sI_1, if_neg (by omega), sI_1, if_neg (by omega), sI_1, if_pos ⟨rfl, rfl⟩]
  have v2 : ν1.1 253 2 = 0 := by rw [hν1, sI_1, if_neg (by omega), sI_1, if_neg (by omega), sI_1, if_neg (by omega), sI_1, if_neg (by omega), sI_1, if_neg (by omega), sI_1, if_neg (by omega), sI_1, if_neg (by omega), sI_1, if_neg (by omega), sI_1, if_pos ⟨rfl, rfl⟩]
  have v1 : ν1.1 253 1 = 0 := by rw [hν1, sI_1, if_neg (by omega), sI_1, if_neg (by omega), sI_1, if_neg (by omega), sI_1, if_neg (by omega), sI_1, if_neg (by omega), sI_1, if_neg (by omega), sI_1, if_neg (by omega), sI_1, if_neg (by omega), sI_1, if_neg (by omega), sI_1, if_pos ⟨rfl, rfl⟩]
  have v3 : ν1.1 253 3 = nI (sLen A) := by rw [hν1, sI_1, if_neg (by omega), sI_1, if_neg (by omega), sI_1, if_neg (by omega), sI_1, if_neg (by omega), sI_1, if_neg (by omega), sI_1, if_neg (by omega), sI_1, if_neg (by omega), sI_1, if_neg (by omega), sI_1, if_neg (by omega), sI_1, if_neg (by omega), sI_1, if_pos ⟨rfl, rfl⟩]
  have jm : ν1.2 = ν.2 := by rw [hν1]; rfl
  have m1 : mG (sTape A) (sLen A) q false ν1 := by
    refine ⟨⟨k1, v3, fun k => by rw [em _ _ (by omega)]; exact hm.2.1 k, k2, fun w hw k c hkc => by rw [em _ _ (fun z => mW_no w hw z.1)]; exact hm.2.2.1 w hw k c hkc⟩, v5, 0, 0, v2, Nat.zero_le _, hq.symm, ?_, by omega, by constructor <;> intro z <;> first | cases z | omega⟩
    rw [v4]; rfl
  have q1 : qM true [] [] 0 0 ν1 := ⟨by rw [v95]; rfl, fun k c hkc => (by cases hkc), by rw [v97]; rfl, fun k c hkc => (by cases hkc), by rw [v98]; rfl, by rw [v99]; rfl, by rw [v53]; rfl⟩
  rcases q_kind hN m1 with ⟨k, ν2, hk, kw, r1, r2, r3⟩ | ⟨kw, x, ν2, r1, r2, r3⟩
  · have nlt : ¬ tkW (sTape A) (sLen A) q false < (28 : Int32) := by rw [kw]; exact nI_nlt (b := 28) (by omega) (by omega)
    obtain ⟨μ3, s1, s2, s3⟩ := c_next N hN c2
    have e132b : μ3.1 132 2 = nI (28 + k) := by rw [s2.2 _ _ (by omega), e132]; exact kw
    rw [if_neg nlt, s1, z_bn_sm, e132b, r1, z_bn_sm, if_pos r3.2.1]
    obtain ⟨μ4, hμ4⟩ : ∃ μ4, μ4 = z_setI (z_setI μ3 93 1 0) 92 2 1 := ⟨_, rfl⟩
    have c4 : cG (sTape A) (sLen A) (nxQ (sTape A) (sLen A) q) (nxG (sTape A) (sLen A) q false) μ4 := by rw [hμ4]; exact cG_set (cG_set s3 (by omega) _ _) (by omega) _ _
    have C4 : cC [] μ4 := ⟨by rw [hμ4, sI_1, if_neg (by omega), sI_1, if_pos ⟨rfl, rfl⟩]; rfl, fun k c hkc => (by cases hkc)⟩
    have f4 : μ4.1 92 2 = 1 := by rw [hμ4, sI_1, if_pos ⟨rfl, rfl⟩]
    have e4 : ∀ a j, ¬ ((a = 93 ∧ j = 1) ∨ (a = 92 ∧ j = 2)) → μ4.1 a j = μ3.1 a j := fun a j z => by rw [hμ4, sI_1, if_neg (by omega), sI_1, if_neg (by omega)]
    have h13b : μ4.1 1 3 = -1 := by
      rw [e4 _ _ (by omega), s2.2 1 3 (fun z => z.2.2.2.elim (fun y => by omega) (fun y => y s3.2.2.1))]
      exact h13
    have h6b : ν2.1 253 6 = -1 := by
      rw [r2.2 253 6 (fun z => by
        rcases z.2 with y | y | y | y
        · omega
        · omega
        · exact y.2 r3.2.1
        · omega)]
      exact v6
    have tail := fun (bit : Prop) (hbk : k < 3 → bit) (X : Option (Int32 × z_S)) (Y : Option (Unit × z_S)) (R : qsRes (sTape A) (sLen A) (nxQ (sTape A) (sLen A) q) bit μ4 ν2 X Y) => ask_tail ok hc hm N hN hk hbk (μ1 := μ4) (ν1 := ν2) (by rw [hμ4]; exact s2.1.trans b2) (fun a j z => by rw [e4 a j (by omega), s2.2 a j (by omega), e2 a j (by omega)]) h13b (by rw [e4 _ _ (by omega)]; exact e132b) (r2.1.trans jm) (fun a j z => by rw [r2.2 a j (by omega), em a j (by omega)]) h6b (by rw [r2.2 _ _ (by omega)]; exact v1) R
    by_cases k3 : k < 3
    · rw [if_pos (show nI (28 + k) < (31 : Int32) from nI_lt (b := 31) (by omega) (by omega)), if_pos (show nI k < (3 : Int32) from nI_lt (b := 3) (by omega) (by omega))]
      have R := q_test hN c4 C4 f4 r3 (r2.qM q1)
      have T := tail True (fun _ => True.intro) _ _ R
      have e : f_X9_readTest N μ3 = z_bn (r_X9 N 40 0 0 μ4) (fun x1 μ_3 => z_zb x1 (some (x1, μ_3))) := by
        unfold f_X9_readTest f_X9_test
        rw [z_bd_eq, z_bd_eq, ← hμ4]
      rw [e]
      rcases R with ⟨_, _, _, _, μ5, _, s1', _⟩ | ⟨_, _, μ5, _, s1', _⟩
      · rw [s1', z_bn_sm, z_zb_1]
        rw [s1'] at T
        exact T
      · rw [s1', z_bn_sm, z_zb_0]
        rw [s1'] at T
        exact T
    · rw [if_neg (show ¬ nI (28 + k) < (31 : Int32) from nI_nlt (b := 31) (by omega) (by omega)), if_neg (show ¬ nI k < (3 : Int32) from nI_nlt (b := 3) (by omega) (by omega))]
      have R := q_sum hN c4 C4 f4 r3 (r2.qM q1)
      have T := tail False (fun z => absurd z k3) _ _ R
      have e : f_X9_readQuestionSum N μ3 = z_bn (r_X9 N 40 3 0 μ4) (fun x1 μ_3 => z_zb x1 (some (x1, μ_3))) := by
        unfold f_X9_readQuestionSum f_X9_sum
        rw [z_bd_eq, z_bd_eq, ← hμ4]
      rw [e]
      unfold f_X12_ask_B82
      rw [if_pos r3.2.1]
      rcases R with ⟨_, _, _, _, μ5, _, s1', _⟩ | ⟨_, _, μ5, _, s1', _⟩
      · rw [s1', z_bn_sm, z_zb_1]
        rw [s1'] at T
        exact T
      · rw [s1', z_bn_sm, z_zb_0]
        rw [s1'] at T
        exact T
  · obtain ⟨μ3, w1, w2, w3⟩ := c_fail N (f := 1) c2
    have b5 := mB_ne r3 (by omega)
    rw [if_pos kw, show f_X10_fail N (1 : Int32) μ2 = some (0, μ3) from w1, z_bn_sm, z_zb_0, z_bn_sm, z_bd_eq, if_pos rfl, r1, z_bn_sm, if_neg b5]
    have eB : f_X12_ask_B82 N x ν2 = some (-1000000000000000, z_setI (z_setI ν2 253 7 (nI 1)) 253 8 (nI q)) := by
      unfold f_X12_ask_B82 f_X12_ask_B93 f_X12_ask_B117
      rw [if_neg b5, if_neg b5, z_bd_eq, z_bd_eq, r3.1, show (z_setI ν2 253 7 (nI 1)).1 253 6 = nI q from by rw [sI_1, if_neg (by omega)]; exact r3.2, if_neg (show ¬ (z_setI (z_setI ν2 253 7 (nI 1)) 253 8 (nI q)).1 253 5 = 0 from by rw [sI_1, if_neg (by omega), sI_1, if_neg (by omega)]; exact b5)]
    rw [eB]
    refine ⟨_, _, _, rfl, rfl, aQ A (nI 1) (nI q), ok_q ok _ _, cS_q (μ' := z_setI μ3 1 1 0) ok hc (w2.1.trans b2) (fun a j z => ?_) (by rw [sI_1, if_pos ⟨rfl, rfl⟩]) (by rw [sI_1, if_neg (by omega)]; exact w3.1) (by rw [sI_1, if_neg (by omega)]; exact w3.2), mS_q hm (fun a j z => ?_) (fun a j z1 z2 => ?_) ?_ ?_ ?_⟩
    · rw [sI_1, if_neg (by omega), w2.2 a j (by omega), e2 a j (by omega)]
    · rw [sI_1, if_neg (by omega), sI_1, if_neg (by omega), r2.2 a j (by omega), em a j (by omega)]
    · show ν2.2.1 a j = _
      rw [r2.1, jm]
    · rw [sI_1, if_neg (by omega), sI_1, if_neg (by omega), r2.2 _ _ (by omega)]; exact v1
    · rw [sI_1, if_neg (by omega), sI_1, if_pos ⟨rfl, rfl⟩]
    · rw [sI_1, if_pos ⟨rfl, rfl⟩]
