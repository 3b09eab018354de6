/-! heap -/
theorem mH_fr {h : aH} {ν ν' : z_S} (hh : mH h ν) (e : ∀ a j, (a = 284 ∧ 5 ≤ j) ∨ (a = 286 ∧ 24 ≤ j) ∨ (a = 287 ∧ 4 ≤ j) ∨ (a = 288 ∧ 32 ≤ j) ∨ (a = 289 ∧ 8 ≤ j) ∨ (a = 290 ∧ 64 ≤ j) ∨ (a = 291 ∧ 9 ≤ j) ∨ (a = 292 ∧ 2 ≤ j) ∨ (a = 293 ∧ 2 ≤ j) ∨ (a = 294 ∧ 2 ≤ j) ∨ (a = 295 ∧ 1600 ≤ j) → ν'.1 a j = ν.1 a j) (e2 : ∀ j, 24 ≤ j → ν'.2.1 285 j = ν.2.1 285 j) : mH h ν' := by
  obtain ⟨y1, y2, y3, y4, y5, y6, y7, y8, y9, y10, y11⟩ := hh
  refine ⟨fun k hk => by rw [e _ _ (by omega)]; exact y1 k hk, fun k hk i hi => by rw [e2 _ (by omega)]; exact y2 k hk i hi, fun i hi w hw => by rw [e _ _ (by omega)]; exact y3 i hi w hw, fun i hi => by rw [e _ _ (by omega)]; exact y4 i hi, fun i hi w hw => by rw [e _ _ (by omega)]; exact y5 i hi w hw, fun x hx y hy => by rw [e _ _ (by omega)]; exact y6 x hx y hy, fun w hw => by rw [e _ _ (by omega)]; exact y7 w hw, fun i hi w hw => by rw [e _ _ (by omega)]; exact y8 i hi w hw, by rw [e _ _ (by omega)]; exact y9, by rw [e _ _ (by omega)]; exact y10, fun f hf => ?_⟩
  have pf := y11 f hf
  cases hf2 : hForm h f with
  | none =>
    rw [hf2] at pf
    show ν'.1 293 (2 + f) = -1
    rw [e _ _ (by omega)]
    exact pf
  | some cs =>
    rw [hf2] at pf
    obtain ⟨x, y, z1, z2, z3, z4, z5⟩ := pf
    exact ⟨x, y, by rw [e _ _ (by omega)]; exact z1, by rw [e _ _ (by omega)]; exact z2, z3, z4, fun k c hkc => by rw [e _ _ (by omega)]; exact z5 k c hkc⟩
theorem stK39 : stK 39 := ⟨rfl, rfl, rfl, rfl, rfl, rfl⟩
/-- the heap told stands -/
def aHeap (A : aS) (h : aH) : aS := ((0, sTape A), sRef A, (0, -1), h, nBegin h, [], [], sImg A, sSeed A)
/-- the heap is refused -/
def aBad (A : aS) (f p : Nat) : aS := ((0, sTape A), (fun j => if j = 1 then sRef A 1 + 1 else sRef A j), (nI f, nI p), A.2.2.2)
theorem mW_hi : ∀ q ∈ mWords, (256 ≤ q.1 ∧ q.1 ≤ 283) ∨ (307 ≤ q.1 ∧ q.1 ≤ 329) := by decide +kernel
theorem op_heap {A : aS} {μ ν : z_S} (ok : okS A) (hc : cS A μ) (hm : mS A ν) (N : Nat) (hN : 1700 ≤ N) : z_Op (f_X11_heap N μ) (f_X12_heap N ν) := by
  obtain ⟨a1, a2, a3, a4, a5, a6, a7, a8, a9, b1, ⟨old, b2, b3, b4⟩, c1, c2, d1, d2, d3⟩ := hc
  obtain ⟨m1, m2, m3, m4, m5, m6, m7, m8, n1, ⟨nw, n2, n3, n4⟩, o1, o2, p1, p2, p3⟩ := hm
  have ok' := ok
  obtain ⟨k1, k2, k3, k4, k5, k6, k7, k8, k9, k10, k11⟩ := ok
  have hh := z_hn_lt μ.2.2.2
  have hh1 := z_hn_lt μ.2.2.1
  have hne : z_hn μ.2.2.2 + z_hn μ.2.2.1 = 152 := by rw [a7]; cases μ.2.2.1 <;> rfl
  obtain ⟨ν1, s1, s2, s3, s4, s5, s6, s7, s8⟩ := m_start hN (t := sTape A) (n := sLen A) k1 m1 m2 k2 m3
  obtain ⟨μ1, r1, r2, r3, r4⟩ := c_clear hN μ.2.2.2 μ
  have hx1 : cX (sTape A) (sLen A) μ1 := ⟨k1, by rw [r3 _ _ (by omega)]; exact a1, fun k => by rw [r3 _ _ (by omega)]; exact a2 k, k2, fun k c hkc => by rw [r3 _ _ (by omega)]; exact a3 k c hkc⟩
  obtain ⟨μ2, t1, t2, t3, t4, t5⟩ := c_open hN hx1
  obtain ⟨μ3, hμ3⟩ : ∃ μ3, μ3 = z_setI μ2 95 3 0 := ⟨_, rfl⟩
  have e32 : μ3.2 = μ.2 := by rw [hμ3]; show μ2.2 = _; rw [t2, r2]
  have H : HS (sTape A) (sLen A) 0 (skp (sTape A) (sLen A) 0) false hInit 0 2 (fun _ => 0) μ3 ν1 := by
    refine ⟨okH_init, by rw [hμ3]; exact cG_set t4 (by omega) _ _, s4, ?_, s5, fun k => Nat.le_refl 0, Nat.zero_le _, by omega⟩
    rw [e32]
    refine cK_fr (fun c j z1 z2 => ?_) okH_init r4
    rw [hμ3, sI_1, if_neg (by omega), t3 _ _ (by omega)]
  have R := rd_loop hN (fun μ176 => f_X12_heap_B176 N μ176) N N 0 _ _ _ _ _ _ μ3 ν1 (by omega) (by omega) (by omega) H (by rw [hμ3, sI_1, if_pos ⟨rfl, rfl⟩]; rfl) s6
  have eX : f_X3_read N μ = f_X3_read_L19 N (fun μ72 => f_X3_read_B72 N μ72) N μ3 := by
    unfold f_X3_read
    rw [r1, z_bn_sm, t1, z_bn_sm, z_bd_eq, ← hμ3]
  have F3 : ∀ a j, ¬ ((a = 1 ∧ 2 ≤ j ∧ j ≤ 9) ∨ (z_hn μ.2.2.2 ≤ a ∧ a < z_hn μ.2.2.2 + 36) ∨ (a = 95 ∧ j = 3)) → μ3.1 a j = μ.1 a j := fun a j z => by
    rw [hμ3, sI_1, if_neg (by omega), t3 a j (by omega), r3 a j (by omega)]
  unfold f_X11_heap
  rw [eX, s1]
  rcases R with ⟨s', q', g', h', cd', sz', tl', μ', ν', w1, w2, w3, w4, w5, w6, w7, w8⟩ | ⟨f, p, μ', ν', w1, w2, w3, w4, w5, w6, w7, w8⟩
  · rw [w1, z_bn_sm, z_bd_eq, if_neg (show ¬ (1 : Int32) = 0 by decide), w2]
    obtain ⟨v1, v2, v3, v4, v5, v6, v7, v8⟩ := w5
    have hq' := v2.2.2.2
    have e2 : μ'.2 = μ.2 := w3.1.trans e32
    have ez : z_hn μ3.2.2.2 = z_hn μ.2.2.2 := by rw [e32]
    rw [ez] at w3
    have F : ∀ a j, ¬ ((a = 1 ∧ 2 ≤ j ∧ j ≤ 9) ∨ (92 ≤ a ∧ a ≤ 95) ∨ (z_hn μ.2.2.2 ≤ a ∧ a < z_hn μ.2.2.2 + 36)) → μ'.1 a j = μ.1 a j := fun a j z => by
      rw [w3.2 a j (by omega), F3 a j (by omega)]
    have hk' : cK (z_hn μ.2.2.2) h' sz' tl' μ' := by rw [e2] at v4; exact v4
    rw [z_bd_eq, z_bd_eq]
    obtain ⟨μ4, hμ4⟩ : ∃ μ4, μ4 = z_setH (z_setC (z_setI μ' 1 1 0) (z_setI μ' 1 1 0).2.2.2) (z_setI μ' 1 1 0).2.2.1 := ⟨_, rfl⟩
    rw [← hμ4]
    have g4 : ∀ a j, μ4.1 a j = if a = 1 ∧ j = 1 then 0 else μ'.1 a j := fun a j => by rw [hμ4]; rfl
    have c4 : μ4.2.2.1 = μ.2.2.2 := by rw [hμ4]; show μ'.2.2.2 = _; rw [e2]
    have c5 : μ4.2.2.2 = μ.2.2.1 := by rw [hμ4]; show μ'.2.2.1 = _; rw [e2]
    have hcH4 : cH (z_hn μ4.2.2.1) h' μ4 := by
      rw [c4]
      exact cH_of hk'.1 ⟨v1.1, v1.2.1, v1.2.2.1⟩ (fun q j z1 z2 => by rw [g4, if_neg (by omega)])
    obtain ⟨μ5, x1, x2, x3, x4⟩ := c_begin N (by omega) stK39 (z_hn_k μ4.2.2.1) (by rw [c4]; omega) v1 hcH4
    rw [x1, z_bn_sm, z_bd_eq, z_bd_eq]
    have G5 : ∀ a j, a < 39 ∨ 45 ≤ a → μ5.1 a j = if a = 1 ∧ j = 1 then 0 else μ'.1 a j := fun a j z => by rw [x3 a j (by omega), g4]
    have h6' : ν'.1 253 6 = -1 := by rw [w4.f5 v3.2.1 (j := 6) (by omega)]; exact s7
    obtain ⟨ν2, hν2⟩ : ∃ ν2, ν2 = z_setI (z_setI ν' 253 7 0) 253 8 (-1) := ⟨_, rfl⟩
    have hmk2 : mK h' cd' ν2 := mK_fr (fun c j z => by rw [hν2, sI_1, if_neg (by omega), sI_1, if_neg (by omega)]) (fun j => by rw [hν2]; rfl) v5
    have hn' := v2.1.1
    obtain ⟨ν3, y1, y2, y3, y4, y5, y6, y7, y8⟩ := m_stands v1 hN (by omega) hmk2
    have hB : f_X12_heap_B176 N ν' = some (ν3.1 253 52, ν3) := by
      unfold f_X12_heap_B176
      rw [v3.2.1, z_bd_eq, z_bd_eq, show (z_setI ν' 253 7 0).1 253 6 = -1 from by rw [sI_1, if_neg (by omega)]; exact h6', ← hν2, if_pos (show ν2.1 253 5 = 0 from by rw [hν2, sI_1, if_neg (by omega), sI_1, if_neg (by omega)]; exact v3.2.1), y1, z_bn_sm]
    show z_Op _ (f_X12_heap_B176 N ν')
    rw [hB]
    have e95 : (z_setI (z_setI μ5 0 17 0) 0 15 0).1 95 3 = nI s' := by rw [sI_1, if_neg (by omega), sI_1, if_neg (by omega), G5 _ _ (by omega), if_neg (by omega)]; exact w7
    have e52 : ν3.1 253 52 = nI s' := by rw [y4 _ _ (by omega), hν2, sI_1, if_neg (by omega), sI_1, if_neg (by omega)]; exact w8
    rw [e95, e52]
    have GM : ∀ a j, ¬ ((284 ≤ a ∧ a ≤ 296) ∨ (a = 253 ∧ (j ≤ 8 ∨ j = 38 ∨ j = 51 ∨ j = 52 ∨ j = 53 ∨ j = 65 ∨ j = 68 ∨ j = 95 ∨ j = 97 ∨ j = 98 ∨ j = 99)) ∨ a = 330 ∨ a = 331) → ν3.1 a j = ν.1 a j := fun a j z => by
      rw [y4 a j (by omega), hν2, sI_1, if_neg (by omega), sI_1, if_neg (by omega), w4.2.2 a j (by omega), s3 a j (by omega)]
    refine ⟨nI s', _, _, rfl, rfl, aHeap A h', ?_, ?_, ?_⟩
    · exact ⟨Nat.zero_le _, k2, v1, ok_begin v1, Nat.zero_le _, fun a ha => (by cases ha), Nat.zero_le _, fun q hq => (by cases hq), k9, k10, k11⟩
    · have S : ∀ a j, ¬ (a = 0 ∧ (j = 15 ∨ j = 17)) → ¬ (39 ≤ a ∧ a < 45) → ¬ ((a = 1 ∧ 1 ≤ j ∧ j ≤ 9) ∨ (92 ≤ a ∧ a ≤ 95) ∨ (z_hn μ.2.2.2 ≤ a ∧ a < z_hn μ.2.2.2 + 36)) → (z_setI (z_setI μ5 0 17 0) 0 15 0).1 a j = μ.1 a j := fun a j z1 z2 z3 => by
        rw [sI_1, if_neg (by omega), sI_1, if_neg (by omega), G5 a j (by omega), if_neg (by omega), F a j (by omega)]
      refine ⟨?_, fun k => ?_, fun k c hkc => ?_, fun k hk => ?_, ?_, ?_, ?_, ?_, ?_, ?_, ⟨old, b2, ?_, fun i a hi => (by cases hi)⟩, ?_, fun k q hq => (by cases hq), ?_, fun k x hx => ?_, ?_⟩
      · rw [sI_1, if_neg (by omega), sI_1, if_neg (by omega), G5 _ _ (by omega), if_pos ⟨rfl, rfl⟩]; rfl
      · rw [S _ _ (by omega) (by omega) (by omega)]; exact a2 k
      · rw [S _ _ (by omega) (by omega) (by omega)]; exact a3 k c hkc
      · rw [S _ _ (by omega) (by omega) (by omega)]; exact a4 k hk
      · rw [sI_1, if_neg (by omega), sI_1, if_neg (by omega), G5 _ _ (by omega), if_neg (by omega)]; exact v2.2.2.1
      · rw [sI_1, if_neg (by omega), sI_1, if_neg (by omega), G5 _ _ (by omega), if_neg (by omega), w3.f2 v2.2.2.1 (j := 3) (by omega), hμ3, sI_1, if_neg (by omega)]; exact t5
      · show μ5.2.2.2 = !μ5.2.2.1
        rw [x4, c4, c5, a7]; cases μ.2.2.1 <;> rfl
      · show cH (z_hn μ5.2.2.1) h' _
        rw [x4]
        refine cH_of hcH4 ⟨v1.1, v1.2.1, v1.2.2.1⟩ (fun q j z1 z2 => ?_)
        rw [c4] at z1 z2
        rw [sI_1, if_neg (by omega), sI_1, if_neg (by omega), x3 _ _ (by omega)]
      · exact cN_of x2 (fun o j z1 z2 => by rw [sI_1, if_neg (by omega), sI_1, if_neg (by omega)])
      · rw [sI_1, if_neg (by omega), sI_1, if_pos ⟨rfl, rfl⟩]; rfl
      · rw [S _ _ (by omega) (by omega) (by omega)]; exact b3
      · rw [sI_1, if_pos ⟨rfl, rfl⟩]; rfl
      · rw [S _ _ (by omega) (by omega) (by omega)]; exact d1
      · rw [S _ _ (by omega) (by omega) (by omega)]; exact d2 k x hx
      · rw [S _ _ (by omega) (by omega) (by omega)]; exact d3
    · refine ⟨?_, fun k => ?_, fun q hq k c hkc => ?_, fun k hk => ?_, ?_, ?_, y5, y6, ?_, ⟨nw, n2, ?_, fun i a hi => (by cases hi)⟩, ?_, fun k q hq => (by cases hq), ?_, fun k x hx => ?_, ?_⟩
      · rw [y4 _ _ (by omega), hν2, sI_1, if_neg (by omega), sI_1, if_neg (by omega), w4.2.2 _ _ (by omega)]; exact s8
      · rw [GM _ _ (by omega)]; exact m2 k
      · rw [GM _ _ (by have := mW_hi q hq; omega)]; exact m3 q hq k c hkc
      · rw [GM _ _ (by omega)]; exact m4 k hk
      · rw [y4 _ _ (by omega), hν2, sI_1, if_neg (by omega), sI_1, if_pos ⟨rfl, rfl⟩]; rfl
      · rw [y4 _ _ (by omega), hν2, sI_1, if_pos ⟨rfl, rfl⟩]; rfl
      · rw [y7]; rfl
      · rw [GM _ _ (by omega)]; exact n3
      · rw [y8]; rfl
      · rw [GM _ _ (by omega)]; exact p1
      · rw [GM _ _ (by omega)]; exact p2 k x hx
      · rw [y3 _ _ (by decide), hν2]
        show ν'.2.1 253 70 = _
        rw [w4.2.1 _ _ (by omega), s2]; exact p3
  · rw [w1, z_bn_sm, z_bd_eq, if_pos rfl, w2]
    have e2 : μ'.2 = μ.2 := w3.1.trans e32
    have ez : z_hn μ3.2.2.2 = z_hn μ.2.2.2 := by rw [e32]
    rw [ez] at w3
    have F : ∀ a j, ¬ ((a = 1 ∧ 2 ≤ j ∧ j ≤ 9) ∨ (92 ≤ a ∧ a ≤ 95) ∨ (z_hn μ.2.2.2 ≤ a ∧ a < z_hn μ.2.2.2 + 36)) → μ'.1 a j = μ.1 a j := fun a j z => by
      rw [w3.2 a j (by omega), F3 a j (by omega)]
    have b5 := mB_ne w6 ⟨w7, w8⟩
    have e55 : μ'.1 55 1 = sRef A 1 := by rw [F _ _ (by omega)]; exact a4 1 (by omega)
    have e255 : ν'.1 255 1 = sRef A 1 := by rw [w4.2.2 _ _ (by omega), s3 _ _ (by omega)]; exact m4 1 (by omega)
    have hB : f_X12_heap_B176 N ν' = some (-1, z_setI (z_setI (z_setI ν' 253 7 (nI f)) 253 8 (nI p)) 255 1 (sRef A 1 + 1)) := by
      unfold f_X12_heap_B176
      rw [z_bd_eq, z_bd_eq, w6.1, show (z_setI ν' 253 7 (nI f)).1 253 6 = nI p from by rw [sI_1, if_neg (by omega)]; exact w6.2, if_neg (show ¬ (z_setI (z_setI ν' 253 7 (nI f)) 253 8 (nI p)).1 253 5 = 0 from by rw [sI_1, if_neg (by omega), sI_1, if_neg (by omega)]; exact b5), z_bd_eq, show (z_setI (z_setI ν' 253 7 (nI f)) 253 8 (nI p)).1 255 1 = sRef A 1 from by rw [sI_1, if_neg (by omega), sI_1, if_neg (by omega)]; exact e255]
    have hR : f_X11_refuseNumber N (1 : Int32) (z_setI μ' 1 1 0) = some (-1, z_setI (z_setI μ' 1 1 0) 55 1 (sRef A 1 + 1)) := by
      unfold f_X11_refuseNumber
      rw [z_in_ok (show vp_in (1 : Int32) 6 from vp_in_nI (n := 1) (by omega) (by decide)), z_in_ok (show vp_in (1 : Int32) 6 from vp_in_nI (n := 1) (by omega) (by decide)), show (1 : Int32).toNatClampNeg = 1 from rfl, z_bd_eq, show (z_setI μ' 1 1 0).1 55 1 = sRef A 1 from by rw [sI_1, if_neg (by omega)]; exact e55]
    show z_Op _ (f_X12_heap_B176 N ν')
    rw [hB, hR, z_bn_sm]
    have S : ∀ a j, ¬ (a = 55 ∧ j = 1) → ¬ ((a = 1 ∧ 1 ≤ j ∧ j ≤ 9) ∨ (92 ≤ a ∧ a ≤ 95) ∨ (z_hn μ.2.2.2 ≤ a ∧ a < z_hn μ.2.2.2 + 36)) → (z_setI (z_setI μ' 1 1 0) 55 1 (sRef A 1 + 1)).1 a j = μ.1 a j := fun a j z1 z3 => by
      rw [sI_1, if_neg z1, sI_1, if_neg (by omega), F a j (by omega)]
    have GM : ∀ a j, ¬ (a = 255 ∧ j = 1) → ¬ ((a = 253 ∧ (j ≤ 8 ∨ j = 38 ∨ j = 51 ∨ j = 52 ∨ j = 53 ∨ j = 95 ∨ j = 97 ∨ j = 98 ∨ j = 99)) ∨ a = 330 ∨ a = 331 ∨ (a = 284 ∧ j < 5) ∨ (a = 286 ∧ j < 24) ∨ (a = 287 ∧ j < 4) ∨ (a = 288 ∧ j < 32) ∨ (a = 289 ∧ j < 8) ∨ (a = 290 ∧ j < 64) ∨ (a = 291 ∧ j < 9) ∨ (a = 292 ∧ j < 2) ∨ (a = 293 ∧ j < 2) ∨ (a = 294 ∧ j < 2) ∨ (a = 295 ∧ j < 1600)) → (z_setI (z_setI (z_setI ν' 253 7 (nI f)) 253 8 (nI p)) 255 1 (sRef A 1 + 1)).1 a j = ν.1 a j := fun a j z1 z => by
      have z7 : ¬ (a = 253 ∧ j = 7) := fun w => z (Or.inl ⟨w.1, Or.inl (by omega)⟩)
      have z8 : ¬ (a = 253 ∧ j = 8) := fun w => z (Or.inl ⟨w.1, Or.inl (by omega)⟩)
      rw [sI_1, if_neg z1, sI_1, if_neg z8, sI_1, if_neg z7, w4.2.2 a j (fun w => z (by
        rcases w with ⟨w1, w2⟩ | w
        · exact Or.inl ⟨w1, by omega⟩
        · exact Or.inr w)), s3 a j (fun w => z (by
        rcases w with ⟨w1, w2⟩ | w | w | w | w | w | w
        · exact Or.inl ⟨w1, by omega⟩
        · exact Or.inr (Or.inr (Or.inr (Or.inl w)))
        · exact Or.inr (Or.inr (Or.inr (Or.inr (Or.inr (Or.inr (Or.inl w))))))
        · exact Or.inr (Or.inr (Or.inr (Or.inr (Or.inr (Or.inr (Or.inr (Or.inl w)))))))
        · exact Or.inr (Or.inr (Or.inr (Or.inr (Or.inr (Or.inr (Or.inr (Or.inr (Or.inl w))))))))
        · exact Or.inr (Or.inr (Or.inr (Or.inr (Or.inr (Or.inr (Or.inr (Or.inr (Or.inr (Or.inr (Or.inl w))))))))))
        · exact Or.inr (Or.inr (Or.inr (Or.inr (Or.inr (Or.inr (Or.inr (Or.inr (Or.inr (Or.inr (Or.inr (Or.inl w)))))))))))))]
    refine ⟨-1, _, _, rfl, rfl, aBad A f p, ?_, ?_, ?_⟩
    · exact ⟨Nat.zero_le _, k2, k3, k4, k5, k6, k7, k8, k9, k10, k11⟩
    · refine ⟨?_, fun k => ?_, fun k c hkc => ?_, fun k hk => ?_, ?_, ?_, ?_, ?_, ?_, ?_, ⟨old, b2, ?_, fun i a hi => ?_⟩, ?_, fun k q hq => ?_, ?_, fun k x hx => ?_, ?_⟩
      · rw [sI_1, if_neg (by omega), sI_1, if_pos ⟨rfl, rfl⟩]; rfl
      · rw [S _ _ (by omega) (by omega)]; exact a2 k
      · rw [S _ _ (by omega) (by omega)]; exact a3 k c hkc
      · show _ = if k = 1 then sRef A 1 + 1 else sRef A k
        by_cases d : k = 1
        · rw [if_pos d, d, sI_1, if_pos ⟨rfl, rfl⟩]
        · rw [if_neg d, S _ _ (by omega) (by omega)]; exact a4 k hk
      · rw [sI_1, if_neg (by omega), sI_1, if_neg (by omega)]; exact w5.1
      · rw [sI_1, if_neg (by omega), sI_1, if_neg (by omega)]; exact w5.2
      · show μ'.2.2.2 = !μ'.2.2.1
        rw [e2]; exact a7
      · show cH (z_hn μ'.2.2.1) (sH A) _
        rw [e2]
        exact cH_of a8 ⟨k3.1, k3.2.1, k3.2.2.1⟩ (fun q j z1 z2 => S _ _ (by omega) (by omega))
      · exact cN_of a9 (fun o j z1 z2 => S _ _ (by omega) (by omega))
      · rw [S _ _ (by omega) (by omega)]; exact b1
      · rw [S _ _ (by omega) (by omega)]; exact b3
      · exact cN_of (b4 i a hi) (fun o j z1 z2 => S _ _ (by omega) (by omega))
      · rw [S _ _ (by omega) (by omega)]; exact c1
      · exact ⟨by rw [S _ _ (by omega) (by omega)]; exact (c2 k q hq).1, by rw [S _ _ (by omega) (by omega)]; exact (c2 k q hq).2⟩
      · rw [S _ _ (by omega) (by omega)]; exact d1
      · rw [S _ _ (by omega) (by omega)]; exact d2 k x hx
      · rw [S _ _ (by omega) (by omega)]; exact d3
    · refine ⟨?_, fun k => ?_, fun q hq k c hkc => ?_, fun k hk => ?_, ?_, ?_, ?_, ?_, ?_, ⟨nw, n2, ?_, fun i a hi => ?_⟩, ?_, fun k q hq => ?_, ?_, fun k x hx => ?_, ?_⟩
      · rw [sI_1, if_neg (by omega), sI_1, if_neg (by omega), sI_1, if_neg (by omega), w4.2.2 _ _ (by omega)]; exact s8
      · rw [GM _ _ (by omega) (by omega)]; exact m2 k
      · rw [GM _ _ (by have := mW_hi q hq; omega) (by have := mW_hi q hq; omega)]; exact m3 q hq k c hkc
      · show _ = if k = 1 then sRef A 1 + 1 else sRef A k
        by_cases d : k = 1
        · rw [if_pos d, d, sI_1, if_pos ⟨rfl, rfl⟩]
        · rw [if_neg d, GM _ _ (by omega) (by omega)]; exact m4 k hk
      · rw [sI_1, if_neg (by omega), sI_1, if_neg (by omega), sI_1, if_pos ⟨rfl, rfl⟩]; rfl
      · rw [sI_1, if_neg (by omega), sI_1, if_pos ⟨rfl, rfl⟩]; rfl
      · refine mH_fr m7 (fun a j z => GM _ _ (by omega) (by omega)) (fun j z => ?_)
        show ν'.2.1 285 j = _
        rw [w4.2.1 _ _ (by omega), s2]
      · exact mN_of m8 (fun j z1 z2 => GM _ _ (by omega) (by omega))
      · rw [GM _ _ (by omega) (by omega)]; exact n1
      · rw [GM _ _ (by omega) (by omega)]; exact n3
      · exact mN_of (n4 i a hi) (fun j z1 z2 => GM _ _ (by omega) (by omega))
      · rw [GM _ _ (by omega) (by omega)]; exact o1
      · exact ⟨by rw [GM _ _ (by omega) (by omega)]; exact (o2 k q hq).1, by obtain ⟨-, x, y, q1, q2, q3, q4, q5⟩ := o2 k q hq; exact ⟨x, y, q1, q2, q3, by rw [GM _ _ (by omega) (by omega)]; exact q4, by rw [GM _ _ (by omega) (by omega)]; exact q5⟩⟩
      · rw [GM _ _ (by omega) (by omega)]; exact p1
      · rw [GM _ _ (by omega) (by omega)]; exact p2 k x hx
      · show ν'.2.1 253 70 = _
        rw [w4.2.1 _ _ (by omega), s2]; exact p3
