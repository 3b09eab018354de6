/-! all statements -/
def lFc (o : Nat) (μ μ' : z_S) : Prop := μ'.2 = μ.2 ∧ ∀ a j, ¬ ((a = 1 ∧ 2 ≤ j ∧ j ≤ 9 ∧ (4 ≤ j ∨ ¬ μ'.1 1 2 = 0)) ∨ (a = 93 ∧ j = 1) ∨ a = 94 ∨ (a = 92 ∧ j = 2) ∨ (2 ≤ a ∧ o ≤ a ∧ a < o + 36) ∨ (a = 95 ∧ j = 3)) → μ'.1 a j = μ.1 a j
theorem lFc.rf (o : Nat) (μ : z_S) : lFc o μ μ := ⟨rfl, fun _ _ _ => rfl⟩
theorem sFc.l {o : Nat} {μ μ' : z_S} (h : sFc o μ μ') : lFc o μ μ' := ⟨h.1, fun a j q => h.2 a j (fun w => q (by
  rcases w with w | w | w | w | w
  · exact Or.inl w
  · exact Or.inr (Or.inl w)
  · exact Or.inr (Or.inr (Or.inl w))
  · exact Or.inr (Or.inr (Or.inr (Or.inl w)))
  · exact Or.inr (Or.inr (Or.inr (Or.inr (Or.inl w))))))⟩
theorem lFc.f2 {o : Nat} {μ μ' : z_S} (g : lFc o μ μ') (h : μ'.1 1 2 = 0) {j : Nat} (hj : j ≤ 3) : μ'.1 1 j = μ.1 1 j := g.2 1 j (fun w => by
  rcases w with w | w | w | w | w | w
  · exact w.2.2.2.elim (fun v => by omega) (fun v => v h)
  · omega
  · omega
  · omega
  · omega
  · omega)
theorem lFc.tr {o : Nat} {μ μ1 μ2 : z_S} (h : lFc o μ μ1) (g : lFc o μ1 μ2) : lFc o μ μ2 := ⟨g.1.trans h.1, fun a j q => (g.2 a j q).trans (h.2 a j (fun w => q (by
  rcases w with w | w
  · left
    by_cases c : μ2.1 1 2 = 0
    · refine ⟨w.1, w.2.1, w.2.2.1, w.2.2.2.elim Or.inl (fun v => absurd ?_ v)⟩
      rw [← g.f2 c (j := 2) (by omega)]; exact c
    · exact ⟨w.1, w.2.1, w.2.2.1, Or.inr c⟩
  · exact Or.inr w)))⟩
theorem lFc.set {o : Nat} (μ : z_S) (x : Int32) : lFc o μ (z_setI μ 95 3 x) := ⟨rfl, fun a i q => by rw [sI_1, if_neg (fun z => q (Or.inr (Or.inr (Or.inr (Or.inr (Or.inr z))))))]⟩
def lFm (ν ν' : z_S) : Prop := ν'.2.2 = ν.2.2 ∧ (∀ a j, ¬ (a = 285 ∧ j < 24) → ν'.2.1 a j = ν.2.1 a j) ∧ ∀ a j, ¬ ((a = 253 ∧ (j = 2 ∨ j = 4 ∨ ((j = 5 ∨ j = 6) ∧ ¬ ν'.1 253 5 = 0) ∨ j = 38 ∨ j = 51 ∨ j = 52 ∨ j = 53 ∨ j = 95 ∨ j = 97 ∨ j = 98 ∨ j = 99)) ∨ a = 330 ∨ a = 331 ∨ (a = 284 ∧ j < 5) ∨ (a = 286 ∧ j < 24) ∨ (a = 287 ∧ j < 4) ∨ (a = 288 ∧ j < 32) ∨ (a = 289 ∧ j < 8) ∨ (a = 290 ∧ j < 64) ∨ (a = 291 ∧ j < 9) ∨ (a = 292 ∧ j < 2) ∨ (a = 293 ∧ j < 2) ∨ (a = 294 ∧ j < 2) ∨ (a = 295 ∧ j < 1600)) → ν'.1 a j = ν.1 a j
theorem lFm.rf (ν : z_S) : lFm ν ν := ⟨rfl, fun _ _ _ => rfl, fun _ _ _ => rfl⟩
theorem sFm.l {ν ν' : z_S} (h : sFm ν ν') : lFm ν ν' := ⟨h.1, h.2.1, fun a j q => h.2.2 a j (fun w => q (by
  rcases w with ⟨w1, w | w | w | w | w | w⟩ | w
  · exact Or.inl ⟨w1, Or.inl w⟩
  · exact Or.inl ⟨w1, Or.inr (Or.inl w)⟩
  · exact Or.inl ⟨w1, Or.inr (Or.inr (Or.inl w))⟩
  · exact Or.inl ⟨w1, Or.inr (Or.inr (Or.inr (Or.inl w)))⟩
  · exact Or.inl ⟨w1, Or.inr (Or.inr (Or.inr (Or.inr (Or.inl w))))⟩
  · exact Or.inl ⟨w1, Or.inr (Or.inr (Or.inr (Or.inr (Or.inr (Or.inr w)))))⟩
  · exact Or.inr w))⟩
theorem lFm.f5 {ν ν' : z_S} (g : lFm ν ν') (h : ν'.1 253 5 = 0) {j : Nat} (hj : j = 5 ∨ j = 6) : ν'.1 253 j = ν.1 253 j := g.2.2 253 j (fun w => by
  rcases w with ⟨_, w | w | w | w⟩ | w
  · omega
  · omega
  · exact w.2 h
  · omega
  · omega)
theorem lFm.tr {ν ν1 ν2 : z_S} (h : lFm ν ν1) (g : lFm ν1 ν2) : lFm ν ν2 := ⟨g.1.trans h.1, fun a j q => (g.2.1 a j q).trans (h.2.1 a j q), fun a j q => (g.2.2 a j q).trans (h.2.2 a j (fun w => q (by
  rcases w with ⟨w1, w | w | w | w⟩ | w
  · exact Or.inl ⟨w1, Or.inl w⟩
  · exact Or.inl ⟨w1, Or.inr (Or.inl w)⟩
  · refine Or.inl ⟨w1, Or.inr (Or.inr (Or.inl ⟨w.1, fun c => w.2 ?_⟩))⟩
    rw [← g.f5 c (j := 5) (by omega)]; exact c
  · exact Or.inl ⟨w1, Or.inr (Or.inr (Or.inr w))⟩
  · exact Or.inr w)))⟩
theorem lFm.set (ν : z_S) (x : Int32) : lFm ν (z_setI ν 253 52 x) := ⟨rfl, fun _ _ _ => rfl, fun a j q => by rw [sI_1, if_neg (fun z => q (Or.inl ⟨z.1, Or.inr (Or.inr (Or.inr (Or.inr (Or.inr (Or.inl z.2)))))⟩))]⟩
theorem tkK_0 {t : Nat → Nat} {n q : Nat} {g : Bool} : tkK t n q g = 0 ↔ n ≤ q := by
  unfold tkK
  by_cases c : n ≤ q
  · rw [if_pos c]; exact ⟨fun _ => c, fun _ => rfl⟩
  · rw [if_neg c]
    refine ⟨fun z => ?_, fun z => absurd z c⟩
    exfalso
    split at z
    · split at z <;> omega
    · split at z
      · split at z <;> omega
      · omega
def rdRes (t : Nat → Nat) (n : Nat) (e : z_S → Option (Int32 × z_S)) (μ ν : z_S) (X Y : Option (Int32 × z_S)) : Prop := (∃ s' q' g' h' cd' sz' tl' μ' ν', X = some (1, μ') ∧ Y = e ν' ∧ lFc (z_hn μ.2.2.2) μ μ' ∧ lFm ν ν' ∧ HS t n s' q' g' h' cd' sz' tl' μ' ν' ∧ s' ≤ 80 ∧ μ'.1 95 3 = nI s' ∧ ν'.1 253 52 = nI s') ∨ ∃ f p μ' ν', X = some (0, μ') ∧ Y = e ν' ∧ lFc (z_hn μ.2.2.2) μ μ' ∧ lFm ν ν' ∧ cB f p μ' ∧ mB f p ν' ∧ 1 ≤ f ∧ f ≤ 5
theorem rdRes_mv {t : Nat → Nat} {n : Nat} {e : z_S → Option (Int32 × z_S)} {μ ν μ1 ν1 : z_S} {X Y : Option (Int32 × z_S)} (hu : lFc (z_hn μ.2.2.2) μ μ1) (hy : lFm ν ν1) (h : rdRes t n e μ1 ν1 X Y) : rdRes t n e μ ν X Y := by
  have e : z_hn μ1.2.2.2 = z_hn μ.2.2.2 := by rw [hu.1]
  rcases h with ⟨s', q', g', h', cd', sz', tl', μ', ν', a1, a2, a3, a4, a5⟩ | ⟨f, p, μ', ν', a1, a2, a3, a4, a5⟩
  · rw [e] at a3
    exact Or.inl ⟨s', q', g', h', cd', sz', tl', μ', ν', a1, a2, hu.tr a3, hy.tr a4, a5⟩
  · rw [e] at a3
    exact Or.inr ⟨f, p, μ', ν', a1, a2, hu.tr a3, hy.tr a4, a5⟩
theorem loop_bad {N : Nat} {e : z_S → Option (Int32 × z_S)} {ν : z_S} (h5 : ¬ ν.1 253 5 = 0) {f : Nat} (hf : 1 ≤ f) : f_X12_heap_L154 N e f ν = e ν := by
  obtain ⟨f, rfl⟩ : ∃ k, f = k + 1 := ⟨f - 1, by omega⟩
  show b_X12_heap_L154 N _ e ν = _
  unfold b_X12_heap_L154
  rw [if_neg h5]
theorem rd_loop {N : Nat} (hN : 1700 ≤ N) {t : Nat → Nat} {n : Nat} (e : z_S → Option (Int32 × z_S)) : ∀ f1 f2 s q g h cd sz tl μ ν, s ≤ 80 → 90 - s ≤ f1 → 90 - s ≤ f2 → HS t n s q g h cd sz tl μ ν → μ.1 95 3 = nI s → ν.1 253 52 = nI s → rdRes t n e μ ν (f_X3_read_L19 N (fun μ72 => f_X3_read_B72 N μ72) f1 μ) (f_X12_heap_L154 N e f2 ν) := by
  intro f1
  induction f1 with
  | zero => intro f2 s q g h cd sz tl μ ν h1 h2; omega
  | succ f1 ih =>
    intro f2 s q g h cd sz tl μ ν h1 h2 h3 H h95 h52
    obtain ⟨f2, rfl⟩ : ∃ k, f2 = k + 1 := ⟨f2 - 1, by omega⟩
    have hc := H.2.1
    have hm := H.2.2.1
    have hn := hc.1.1
    have hq := hc.2.2.2
    have ht := hc.1.2.2.2.1
    show rdRes t n e μ ν (b_X3_read_L19 N _ _ μ) (b_X12_heap_L154 N _ e ν)
    unfold b_X3_read_L19 b_X12_heap_L154
    obtain ⟨ν1, l1, l2, l3⟩ := m_look N hN hm
    rw [if_pos hm.2.1, l1, z_bn_sm, h95, hc.2.1.2.2.1]
    by_cases ce : n ≤ q
    · have hk0 : tkK t n q g = 0 := tkK_0.mpr ce
      have fin : rdRes t n e μ ν (some (1, μ)) (e ν1) := Or.inl ⟨s, q, g, h, cd, sz, tl, μ, ν1, rfl, rfl, lFc.rf _ _, l2.s.l, HS_mv H (uFr.rf μ) l2 hc l3.g (Nat.le_refl _), h1, h95, by rw [l2.2 _ _ (by omega)]; exact h52⟩
      have hb : f_X3_read_B72 N μ = some (1, μ) := by
        unfold f_X3_read_B72 f_X3_read_B93
        rw [hc.2.1.2.2.1, hk0, if_pos (show nI 0 = (0 : Int32) from rfl)]
      rw [hk0, show lk t n q = -1 from if_neg (by omega), if_pos (show (-1 : Int32) = -1 from rfl), if_pos (show nI 0 = (0 : Int32) from rfl)]
      by_cases c80 : s < 80
      · rw [if_pos (show nI s < (80 : Int32) from nI_lt (b := 80) c80 (by decide))]
        show rdRes t n e μ ν (f_X3_read_B72 N μ) _
        rw [hb]; exact fin
      · rw [if_neg (show ¬ nI s < (80 : Int32) from nI_nlt (b := 80) (by omega) (by omega))]
        show rdRes t n e μ ν (f_X3_read_B72 N μ) _
        rw [hb]; exact fin
    · have hk0 : ¬ tkK t n q g = 0 := fun z => ce (tkK_0.mp z)
      have hk4 := tkK_4 (t := t) (n := n) (q := q) (g := g)
      have hk0' : ¬ nI (tkK t n q g) = 0 := fun z => hk0 ((nI_eq (b := 0) (by omega) (by decide)).mp z)
      have hlk : ¬ lk t n q = -1 := by
        rw [show lk t n q = nI (t q) from if_pos (by omega)]
        exact nI_nm1 (by have := ht q; omega)
      rw [if_neg hk0', if_neg hlk]
      by_cases c80 : s < 80
      rotate_left
      · have hs : s = 80 := by omega
        rw [if_neg (show ¬ nI s < (80 : Int32) from nI_nlt (b := 80) (by omega) (by omega))]
        obtain ⟨μ4, w1, w2, w3⟩ := c_fail N (f := 5) hc
        obtain ⟨ν4, v1, v2, v3⟩ := m_failAt N 5 q l3.2.1
        have hb : f_X3_read_B72 N μ = some (0, μ4) := by
          unfold f_X3_read_B72
          rw [hc.2.1.2.2.1, if_neg hk0', show f_X10_fail N (5 : Int32) μ = some (0, μ4) from w1, z_bn_sm, if_pos rfl]
        have hs2 : f_X12_statementTold N ν1 = some ((), ν4) := by
          unfold f_X12_statementTold
          rw [z_bd_eq, l2.2 _ _ (by omega), h52, hs, if_pos (show nI 80 = (80 : Int32) by decide), l3.2.2.1, show f_X12_fail N (5 : Int32) (nI q) ν1 = some ((), ν4) from v1, z_bn_sm]
        show rdRes t n e μ ν (f_X3_read_B72 N μ) _
        rw [hb, hs2, z_bn_sm, loop_bad (mB_ne v3 (by omega)) (by omega)]
        exact Or.inr ⟨5, q, μ4, ν4, rfl, rfl, w2.s.l, (l2.tr v2).s.l, w3, v3, by omega, by omega⟩
      rw [if_pos (show nI s < (80 : Int32) from nI_lt (b := 80) c80 (by decide))]
      have H1 := HS_mv H (uFr.rf μ) l2 hc l3.g (Nat.le_refl _)
      have h52' : ν1.1 253 52 = nI s := by rw [l2.2 _ _ (by omega)]; exact h52
      obtain ⟨Y0, y1, y2⟩ := sm_all hN H1 c80 l3 h52'
      rw [y1]
      rcases y2 with ⟨h', q', g', cd', sz', tl', μ2, ν2, a1, a2, a3, a4, a5, a6⟩ | ⟨f, p, μ2, ν2, a1, a2, a3, a4, a5, a6, a7, a8⟩
      · rw [a1, a2, z_bn_sm, z_bn_sm, if_neg (show ¬ (1 : Int32) = 0 by decide)]
        unfold f_X12_statementTold_B222
        obtain ⟨b, μ3, r1, r2, r3⟩ := c_takeSign N hN a5.2.1 59
        obtain ⟨ν3, t1, t2, t3⟩ := m_asksSign N hN (c := 59) ⟨by omega, by omega, by omega⟩ a5.2.2.1
        have t1' : f_X12_asksSign N (59 : Int32) ν2 = some ((), ν3) := t1
        rw [r1, z_bn_sm, t1', z_bn_sm, z_bd_eq, z_bd_eq, z_bn_sm]
        have h52b : ν3.1 253 52 = nI s := by rw [t2.2 _ _ (by omega), a4.2.2 _ _ (by omega)]; exact h52'
        have h95b : μ3.1 95 3 = nI s := by
          have h56 := hn56 μ.2.2.2
          have := z_hn_lt μ.2.2.2
          rw [r2.2 _ _ (by omega), a3.2 _ _ (by omega)]; exact h95
        rw [h52b, nI_1]
        rcases r3 with ⟨c1, c2, c3⟩ | ⟨c1, c2, c3⟩ <;> rcases t3 with ⟨d1, d2⟩ | ⟨d1, d2⟩
        · rw [if_neg (show ¬ b = 0 by rw [c2]; decide), h95b, nI_1]
          have e3 : z_hn μ2.2.2.2 = z_hn μ.2.2.2 := by rw [a3.1]
          have H3 := HS_mv a5 r2 t2 c3 d2 (nxQ_b a5.2.1.2.2.2).1
          have H4 : HS t n (s + 1) (nxQ t n q') (nxG t n q' g') h' cd' sz' tl' (z_setI μ3 95 3 (nI (s + 1))) (z_setI ν3 253 52 (nI (s + 1))) := by
            obtain ⟨g1, g2, g3, g4, g5, g6⟩ := H3
            have := z_hn_lt μ3.2.2.2
            refine ⟨g1, cG_set g2 (by omega) _ _, ?_, ?_, ?_, g6⟩
            · obtain ⟨⟨x1, x2, x3, x4, x5⟩, h5, p, d, h6, h7, h8, h9, h10, h11⟩ := g3
              exact ⟨⟨x1, by rw [sI_1, if_neg (by omega)]; exact x2, fun k => by rw [sI_1, if_neg (by omega)]; exact x3 k, x4, fun w hw k c hc => by rw [sI_1, if_neg (fun z => mW_no w hw z.1)]; exact x5 w hw k c hc⟩, by rw [sI_1, if_neg (by omega)]; exact h5, p, d, by rw [sI_1, if_neg (by omega)]; exact h6, h7, h8, by rw [sI_1, if_neg (by omega)]; exact h9, h10, h11⟩
            · exact cK_fr (fun c j z1 z2 => by rw [sI_1, if_neg (by have z1' : z_hn μ3.2.2.2 ≤ c := z1; have z2' : c < z_hn μ3.2.2.2 + 36 := z2; omega)]) g1 g4
            · exact mK_fr (fun c j z => by rw [sI_1, if_neg (by omega)]) (fun j => rfl) g5
          refine rdRes_mv ?_ ?_ (ih f2 (s + 1) _ _ h' cd' sz' tl' _ _ (by omega) (by omega) (by omega) H4 (by rw [sI_1, if_pos ⟨rfl, rfl⟩]) (by rw [sI_1, if_pos ⟨rfl, rfl⟩]))
          · exact (a3.tr r2.s).l.tr (lFc.set μ3 _)
          · exact ((l2.s.tr a4).tr t2.s).l.tr (lFm.set ν3 _)
        · exact absurd c1 d1
        · exact absurd d1 c1
        · have b5 : ¬ (z_setI ν3 253 52 (nI (s + 1))).1 253 5 = 0 := by rw [sI_1, if_neg (by omega)]; exact mB_ne d2 (by omega)
          rw [if_pos c2, loop_bad b5 (by omega)]
          exact Or.inr ⟨1, q', μ3, _, rfl, rfl, (a3.tr r2.s).l, ((l2.s.tr a4).tr t2.s).l.tr (lFm.set ν3 _), c3, ⟨by rw [sI_1, if_neg (by omega)]; exact d2.1, by rw [sI_1, if_neg (by omega)]; exact d2.2⟩, by omega, by omega⟩
      · rw [a1, a2, z_bn_sm, z_bn_sm, if_pos rfl]
        unfold f_X12_statementTold_B222
        have b5 := mB_ne a6 ⟨a7, a8⟩
        rw [asksSign_bad b5, z_bn_sm, z_bd_eq, z_bn_sm]
        have b5' : ¬ (z_setI ν2 253 52 (ν2.1 253 52 + 1)).1 253 5 = 0 := by rw [sI_1, if_neg (by omega)]; exact b5
        rw [loop_bad b5' (by omega)]
        exact Or.inr ⟨f, p, μ2, _, rfl, rfl, a3.l, (l2.s.tr a4).l.tr (lFm.set ν2 _), a5, ⟨by rw [sI_1, if_neg (by omega)]; exact a6.1, by rw [sI_1, if_neg (by omega)]; exact a6.2⟩, a7, a8⟩
