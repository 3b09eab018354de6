/-! feed -/
/-- bytes bs have come behind the n on a tape -/
def tp (o1 o2 n : Nat) (bs : List Nat) (μ μ' : z_S) : Prop := μ'.1 o1 1 = nI (n + bs.length) ∧ (∀ j, μ'.1 o2 j = if n ≤ j ∧ j < n + bs.length then nI (bs.getD (j - n) 0) else μ.1 o2 j) ∧ (∀ o j, ¬ (o = o1 ∧ j = 1) → o ≠ o2 → μ'.1 o j = μ.1 o j) ∧ μ'.2 = μ.2
theorem tp.app {o1 o2 n : Nat} {bs cs : List Nat} {μ μ1 μ2 : z_S} (h : tp o1 o2 n bs μ μ1) (g : tp o1 o2 (n + bs.length) cs μ1 μ2) : tp o1 o2 n (bs ++ cs) μ μ2 := by
  obtain ⟨h1, h2, h3, h4⟩ := h
  obtain ⟨g1, g2, g3, g4⟩ := g
  refine ⟨by rw [g1, List.length_append, Nat.add_assoc], fun j => ?_, fun o j q1 q2 => by rw [g3 o j q1 q2, h3 o j q1 q2], by rw [g4, h4]⟩
  rw [g2 j, h2 j, List.length_append]
  by_cases c1 : n + bs.length ≤ j ∧ j < n + bs.length + cs.length
  · rw [if_pos c1, if_pos (by omega), List.getD_eq_getElem?_getD, List.getD_eq_getElem?_getD, List.getElem?_append_right (by omega), show j - n - bs.length = j - (n + bs.length) by omega]
  · rw [if_neg c1]
    by_cases c2 : n ≤ j ∧ j < n + bs.length
    · rw [if_pos c2, if_pos (by omega), List.getD_eq_getElem?_getD, List.getD_eq_getElem?_getD, List.getElem?_append_left (by omega)]
    · rw [if_neg c2, if_neg (by omega)]
theorem tp.nil {o1 o2 n : Nat} {μ : z_S} (h : μ.1 o1 1 = nI n) : tp o1 o2 n [] μ μ := ⟨h, fun j => by rw [if_neg (by simp only [List.length_nil]; omega)], fun _ _ _ _ => rfl, rfl⟩
def byteOf (x : Int32) (j : Nat) : Nat := ((x >>> (nI (8 * (3 - j)) &&& 31)) &&& 255).toNatClampNeg
theorem byteOf_eq (x : Int32) (j : Nat) : (x >>> (nI (8 * (3 - j)) &&& 31)) &&& 255 = nI (byteOf x j) ∧ byteOf x j < 256 := by
  obtain ⟨k, h1, h2⟩ := pk_andE (x >>> (nI (8 * (3 - j)) &&& 31)) (m := 255) 8 (by decide)
  unfold byteOf
  rw [h2, nI_toNat (by omega)]
  exact ⟨rfl, h1⟩
theorem ap_step (N : Nat) (a : Int32) (kb : Int32 → z_S → Option (Unit × z_S)) {v : Int32} {μ : z_S} {n : Nat} (j : Nat) (hv : v = nI (8 * (3 - j))) (hj : j < 4) (hn : μ.1 1 1 = nI n) (h : n < 1600) : ∃ μ', b_X10_append_L3 N a kb v μ = kb (v + (-8)) μ' ∧ tp 1 2 n [byteOf a j] μ μ' := by
  subst hv
  refine ⟨z_setI (z_setI μ 1 1 (nI (n + 1))) 2 n (nI (byteOf a j)), ?_, ?_, fun i => ?_, fun o i q1 q2 => ?_, rfl⟩
  · unfold b_X10_append_L3
    have e : nI n + (1 : Int32) = nI (n + 1) := nI_1 n
    rw [if_neg (nI_pos (by omega)), hn, if_pos (show nI n < (1600 : Int32) from nI_lt (b := 1600) h (by decide)), z_bd_eq, z_bd_eq, z_in_nI h (by decide), z_bd_eq, z_bd_eq, nI_toNat (by omega), (byteOf_eq a j).1, e]
  · rw [sI_1, if_neg (by omega), sI_1, if_pos ⟨rfl, rfl⟩]
    rfl
  · rw [sI_1]
    by_cases hi : i = n
    · rw [if_pos ⟨rfl, hi⟩, if_pos (by simp only [List.length_singleton]; omega), hi, Nat.sub_self]
      rfl
    · rw [if_neg (fun q => hi q.2), sI_1, if_neg (by omega), if_neg (by simp only [List.length_singleton]; omega)]
  · rw [sI_1, if_neg (fun q => q2 q.1), sI_1, if_neg q1]
theorem c_append (N : Nat) (hN : 5 ≤ N) (a : Int32) {μ : z_S} {n : Nat} (hn : μ.1 1 1 = nI n) (h : n + 4 ≤ 1600) : ∃ μ', f_X10_append N a μ = some ((), μ') ∧ tp 1 2 n [byteOf a 0, byteOf a 1, byteOf a 2, byteOf a 3] μ μ' := by
  obtain ⟨m, hm⟩ : ∃ m, N = m + 5 := ⟨N - 5, by omega⟩
  have key : ∀ n0 : Nat, n0 = m + 5 → ∃ μ', f_X10_append_L3 N a n0 24 μ = some ((), μ') ∧ tp 1 2 n [byteOf a 0, byteOf a 1, byteOf a 2, byteOf a 3] μ μ' := by
    intro n0 h0
    subst h0
    obtain ⟨μ1, e1, t1⟩ := ap_step N a (f_X10_append_L3 N a (m + 4)) (v := 24) 0 (by decide) (by decide) hn (by omega)
    obtain ⟨μ2, e2, t2⟩ := ap_step N a (f_X10_append_L3 N a (m + 3)) (v := 24 + (-8)) 1 (by decide) (by decide) t1.1 (by simp only [List.length_singleton]; omega)
    have t12 := t1.app t2
    obtain ⟨μ3, e3, t3⟩ := ap_step N a (f_X10_append_L3 N a (m + 2)) (v := 24 + (-8) + (-8)) 2 (by decide) (by decide) t12.1 (by show n + 2 < 1600; omega)
    have t123 := t12.app t3
    obtain ⟨μ4, e4, t4⟩ := ap_step N a (f_X10_append_L3 N a (m + 1)) (v := 24 + (-8) + (-8) + (-8)) 3 (by decide) (by decide) t123.1 (by show n + 3 < 1600; omega)
    refine ⟨μ4, ?_, t123.app t4⟩
    show b_X10_append_L3 N a (f_X10_append_L3 N a (m + 4)) 24 μ = _
    rw [e1]
    show b_X10_append_L3 N a (f_X10_append_L3 N a (m + 3)) (24 + (-8)) μ1 = _
    rw [e2]
    show b_X10_append_L3 N a (f_X10_append_L3 N a (m + 2)) (24 + (-8) + (-8)) μ2 = _
    rw [e3]
    show b_X10_append_L3 N a (f_X10_append_L3 N a (m + 1)) (24 + (-8) + (-8) + (-8)) μ3 = _
    rw [e4]
    show b_X10_append_L3 N a (f_X10_append_L3 N a m) (24 + (-8) + (-8) + (-8) + (-8)) μ4 = _
    unfold b_X10_append_L3
    rw [if_pos (by decide)]
  unfold f_X10_append
  exact key N hm
def selB (a b c d e : Int32) (k : Nat) : Int32 := if k < 4 then a else if k < 8 then b else if k < 12 then c else if k < 16 then d else e
def fedB (a b c d e : Int32) (k : Nat) : Nat := byteOf (selB a b c d e k) (k % 4)
theorem m_feed1 (N : Nat) (c1 c2 c3 c4 c5 : Int32) (kb : Int32 → z_S → Option (Int32 × z_S)) {ν : z_S} {n k : Nat} (s0 : Int32) (hk : k < 20) (hn : ν.1 253 1 = nI n) (h : n < 1600) : ∃ ν', f_X12_feed_B81 N c1 c2 c3 c4 c5 kb (nI k) s0 ν = kb (nI (k + 1)) ν' ∧ tp 253 254 n [byteOf s0 (k % 4)] ν ν' := by
  refine ⟨z_setI (z_setI ν 254 n (nI (byteOf s0 (k % 4)))) 253 1 (nI (n + 1)), ?_, ?_, fun i => ?_, fun o i q1 q2 => ?_, rfl⟩
  · unfold f_X12_feed_B81
    have er : nI k - nI k / (4 : Int32) * (4 : Int32) = nI (k % 4) := pk_rem (a := k) (d := 4) (by omega) (by decide) (by decide)
    have es : (3 : Int32) - nI (k % 4) = nI (3 - k % 4) := pk_sub (a := 3) (by omega)
    have e8 : (8 : Int32) * nI (3 - k % 4) = nI (8 * (3 - k % 4)) := pk_mul 8 _
    have e1 : nI n + (1 : Int32) = nI (n + 1) := nI_1 n
    have ek : nI k + 1 = nI (k + 1) := nI_1 k
    rw [z_nz_ok (by decide), hn, z_in_nI h (by decide), er, es, e8, (byteOf_eq s0 (k % 4)).1, nI_toNat (by omega), z_bd_eq, sI_1, if_neg (by omega), hn, e1, z_bd_eq, ek, z_bd_eq]
  · rw [sI_1, if_pos ⟨rfl, rfl⟩]
    rfl
  · rw [sI_1, if_neg (by omega), sI_1]
    by_cases hi : i = n
    · rw [if_pos ⟨rfl, hi⟩, if_pos (by simp only [List.length_singleton]; omega), hi, Nat.sub_self]
      rfl
    · rw [if_neg (fun q => hi q.2), if_neg (by simp only [List.length_singleton]; omega)]
  · rw [sI_1, if_neg q1, sI_1, if_neg (fun q => q2 q.1)]
theorem m_feedL (N : Nat) (a b c d e : Int32) {ν : z_S} {n : Nat} (h : n + 20 ≤ 1600) : ∀ f k ν1, k ≤ 20 → 20 - k < f → tp 253 254 n ((List.range k).map (fedB a b c d e)) ν ν1 → ∃ ν', f_X12_feed_L28 N a b c d e f (nI k) ν1 = some (nI (n + 20), ν') ∧ tp 253 254 n ((List.range 20).map (fedB a b c d e)) ν ν' := by
  intro f
  induction f with
  | zero => intro k ν1 h1 h2; omega
  | succ f ih =>
    intro k ν1 h1 h2 ht
    show ∃ ν', b_X12_feed_L28 N a b c d e (f_X12_feed_L28 N a b c d e f) (nI k) ν1 = _ ∧ _
    unfold b_X12_feed_L28
    have hlen : n + ((List.range k).map (fedB a b c d e)).length = n + k := by rw [List.length_map, List.length_range]
    by_cases hlt : k < 20
    · rw [if_pos (show nI k < (20 : Int32) from nI_lt (b := 20) hlt (by decide))]
      have hn1 : ν1.1 253 1 = nI (n + k) := by rw [ht.1, hlen]
      obtain ⟨ν2, e2, t2⟩ := m_feed1 N a b c d e (f_X12_feed_L28 N a b c d e f) (selB a b c d e k) hlt hn1 (by omega)
      have hsel : (if nI k < (4 : Int32) then f_X12_feed_B81 N a b c d e (f_X12_feed_L28 N a b c d e f) (nI k) a ν1 else if nI k < (8 : Int32) then f_X12_feed_B81 N a b c d e (f_X12_feed_L28 N a b c d e f) (nI k) b ν1 else if nI k < (12 : Int32) then f_X12_feed_B81 N a b c d e (f_X12_feed_L28 N a b c d e f) (nI k) c ν1 else if nI k < (16 : Int32) then f_X12_feed_B81 N a b c d e (f_X12_feed_L28 N a b c d e f) (nI k) d ν1 else f_X12_feed_B81 N a b c d e (f_X12_feed_L28 N a b c d e f) (nI k) e ν1) = f_X12_feed_B81 N a b c d e (f_X12_feed_L28 N a b c d e f) (nI k) (selB a b c d e k) ν1 := by
        unfold selB
        have q : ∀ m : Nat, m < 2 ^ 31 → (nI k < nI m ↔ k < m) := fun m hm => nI_ltI (by omega) hm
        have q4 : nI k < (4 : Int32) ↔ k < 4 := q 4 (by decide)
        have q8 : nI k < (8 : Int32) ↔ k < 8 := q 8 (by decide)
        have q12 : nI k < (12 : Int32) ↔ k < 12 := q 12 (by decide)
        have q16 : nI k < (16 : Int32) ↔ k < 16 := q 16 (by decide)
        simp only [q4, q8, q12, q16]
        split
        · rfl
        · split
          · rfl
          · split
            · rfl
            · split <;> rfl
      rw [hsel, e2]
      refine ih (k + 1) ν2 (by omega) (by omega) ?_
      rw [← hlen] at t2
      have := ht.app t2
      rw [List.range_succ, List.map_append]
      exact this
    · have : k = 20 := by omega
      subst this
      rw [if_neg (by decide), ht.1, hlen]
      exact ⟨ν1, rfl, ht⟩
theorem fed20 (a b c d e : Int32) : (([byteOf a 0, byteOf a 1, byteOf a 2, byteOf a 3] ++ [byteOf b 0, byteOf b 1, byteOf b 2, byteOf b 3]) ++ [byteOf c 0, byteOf c 1, byteOf c 2, byteOf c 3]) ++ [byteOf d 0, byteOf d 1, byteOf d 2, byteOf d 3] ++ [byteOf e 0, byteOf e 1, byteOf e 2, byteOf e 3] = (List.range 20).map (fedB a b c d e) := by
  have h : List.range 20 = [0, 1, 2, 3, 4, 5, 6, 7, 8, 9, 10, 11, 12, 13, 14, 15, 16, 17, 18, 19] := by decide
  rw [h]
  simp only [List.map_cons, List.map_nil, fedB, selB, List.cons_append, List.nil_append]
  simp
def tapeF (t : Nat → Nat) (n : Nat) (bs : List Nat) : Nat → Nat := fun j => if n ≤ j ∧ j < n + bs.length then bs.getD (j - n) 0 else t j
theorem c_tape {A : aS} {μ μ5 : z_S} (ok : okS A) (h : cS A μ) {n : Nat} {bs : List Nat} (hn : sLen A = n) (T : tp 1 2 n bs μ μ5) : cS (aTape A (n + bs.length) (tapeF (sTape A) n bs)) μ5 := by
  obtain ⟨T1, T2, T3, T4⟩ := T
  have hbit : μ5.2.2 = μ.2.2 := by rw [T4]
  have h' := h
  obtain ⟨a1, a2, a3, a4, a5, a6, a7, a8, a9, b1, ⟨old, b2, b3, b4⟩, c1, c2, d1, d2, d3⟩ := h'
  refine cS_of ok h hbit rfl (fun q j h1 h2 g1 g2 g3 g4 => T3 _ _ (by omega) (by omega)) (fun j => T3 _ _ (by omega) (by omega)) T1 (fun k => ?_) (fun k hk => ?_) ?_ ?_ ?_ ?_ ?_ ?_ (fun k q hq => ?_) ?_ (fun k x hx => ?_) ?_
  · rw [T2 k]
    show _ = nI (tapeF (sTape A) n bs k)
    unfold tapeF
    split
    · rfl
    · exact a2 k
  · rw [T3 _ _ (by omega) (by omega)]; exact a4 k hk
  · rw [T3 _ _ (by omega) (by omega)]; exact a5
  · rw [T3 _ _ (by omega) (by omega)]; exact a6
  · exact cN_of a9 (fun o j h1 h2 => T3 _ _ (by omega) (by omega))
  · rw [T3 _ _ (by omega) (by omega)]; exact b1
  · exact ⟨old, b2, by rw [T3 _ _ (by omega) (by omega)]; exact b3, fun i a hi => cN_of (b4 i a hi) (fun o j h1 h2 => T3 _ _ (by omega) (by omega))⟩
  · rw [T3 _ _ (by omega) (by omega)]; exact c1
  · exact ⟨by rw [T3 _ _ (by omega) (by omega)]; exact (c2 k q hq).1, by rw [T3 _ _ (by omega) (by omega)]; exact (c2 k q hq).2⟩
  · rw [T3 _ _ (by omega) (by omega)]; exact d1
  · rw [T3 _ _ (by omega) (by omega)]; exact d2 k x hx
  · rw [T3 _ _ (by omega) (by omega)]; exact d3
theorem m_tape {A : aS} {ν ν5 : z_S} (h : mS A ν) {n : Nat} {bs : List Nat} (hn : sLen A = n) (S : tp 253 254 n bs ν ν5) : mS (aTape A (n + bs.length) (tapeF (sTape A) n bs)) ν5 := by
  obtain ⟨S1, S2, S3, S4⟩ := S
  have h' := h
  obtain ⟨a1, a2, a3, a4, a5, a6, a7, a8, b1, ⟨nw, b2, b3, b4⟩, c1, c2, d1, d2, d3⟩ := h'
  refine mS_of h rfl (fun q j h1 h2 => by exact S3 _ _ (by omega) (by omega)) (fun _ => by rw [S4]) (fun q j hq => by exact S3 _ _ (by omega) (by omega)) ?_ (fun k => ?_) (fun k hk => ?_) ?_ ?_ ?_ ?_ ?_ ?_ (fun k q hq => ?_) ?_ (fun k x hx => ?_) ?_
  · exact S1
  · rw [S2 k]; show _ = nI (tapeF (sTape A) n bs k); unfold tapeF; split; rfl; exact a2 k
  · rw [S3 _ _ (by omega) (by omega)]; exact a4 k hk
  · rw [S3 _ _ (by omega) (by omega)]; exact a5
  · rw [S3 _ _ (by omega) (by omega)]; exact a6
  · exact mN_of a8 (fun j h1 h2 => by exact S3 _ _ (by omega) (by omega))
  · rw [S3 _ _ (by omega) (by omega)]; exact b1
  · exact ⟨nw, b2, by rw [S3 _ _ (by omega) (by omega)]; exact b3, fun i a hi => mN_of (b4 i a hi) (fun j h1 h2 => by exact S3 _ _ (by omega) (by omega))⟩
  · rw [S3 _ _ (by omega) (by omega)]; exact c1
  · exact ⟨by rw [S3 _ _ (by omega) (by omega)]; exact (c2 k q hq).1, by obtain ⟨-, x, y, q1, q2, q3, q4, q5⟩ := c2 k q hq; exact ⟨x, y, q1, q2, q3, by rw [S3 _ _ (by omega) (by omega)]; exact q4, by rw [S3 _ _ (by omega) (by omega)]; exact q5⟩⟩
  · rw [S3 _ _ (by omega) (by omega)]; exact d1
  · rw [S3 _ _ (by omega) (by omega)]; exact d2 k x hx
  · rw [S4]; exact d3
theorem ok_tape {A : aS} (ok : okS A) {n : Nat} (hn : n ≤ 1600) {t : Nat → Nat} (ht : ∀ k, t k < 256) : okS (aTape A n t) := by
  obtain ⟨o1, o2, o3⟩ := ok
  exact ⟨hn, ht, o3⟩
theorem c_feed20 (N : Nat) (hN : 30 ≤ N) (a b c d e : Int32) {μ : z_S} {n : Nat} (hn : μ.1 1 1 = nI n) (h : n + 20 ≤ 1600) : ∃ μ', (z_bn (f_X10_append N a μ) fun _ μ_2 => z_bn (f_X10_append N b μ_2) fun _ μ_3 => z_bn (f_X10_append N c μ_3) fun _ μ_4 => z_bn (f_X10_append N d μ_4) fun _ μ_5 => z_bn (f_X10_append N e μ_5) fun _ μ_6 => some ((μ_6.1 1 1), μ_6)) = some (nI (n + ((List.range 20).map (fedB a b c d e)).length), μ') ∧ tp 1 2 n ((List.range 20).map (fedB a b c d e)) μ μ' := by
  obtain ⟨μ1, e1, t1⟩ := c_append N (by omega) a hn (by omega)
  obtain ⟨μ2, e2, t2⟩ := c_append N (by omega) b t1.1 (by simp only [List.length_cons, List.length_nil]; omega)
  obtain ⟨μ3, e3, t3⟩ := c_append N (by omega) c t2.1 (by simp only [List.length_cons, List.length_nil]; omega)
  obtain ⟨μ4, e4, t4⟩ := c_append N (by omega) d t3.1 (by simp only [List.length_cons, List.length_nil]; omega)
  obtain ⟨μ5, e5, t5⟩ := c_append N (by omega) e t4.1 (by simp only [List.length_cons, List.length_nil]; omega)
  have ta := t1.app t2
  have tb := ta.app (by rw [List.length_append, ← Nat.add_assoc]; exact t3)
  have tc := tb.app (by rw [List.length_append, List.length_append, ← Nat.add_assoc, ← Nat.add_assoc]; exact t4)
  have T := tc.app (by rw [List.length_append, List.length_append, List.length_append, ← Nat.add_assoc, ← Nat.add_assoc, ← Nat.add_assoc]; exact t5)
  rw [fed20] at T
  refine ⟨μ5, ?_, T⟩
  rw [e1, z_bn_sm, e2, z_bn_sm, e3, z_bn_sm, e4, z_bn_sm, e5, z_bn_sm, T.1]
theorem op_feed {A : aS} {μ ν : z_S} (ok : okS A) (hc : cS A μ) (hm : mS A ν) (N : Nat) (hN : 30 ≤ N) (a b c d e : Int32) : z_Op (f_X11_feed N a b c d e μ) (f_X12_feed N a b c d e ν) := by
  unfold f_X11_feed f_X12_feed
  have hl := ok.1
  have e20 : nI (sLen A) + (20 : Int32) = nI (sLen A + 20) := ix1 _ 20
  rw [hc.1, hm.1, e20]
  by_cases h0 : (1600 : Int32) < nI (sLen A + 20)
  · rw [if_pos h0, if_pos h0]
    obtain ⟨μ', h1, h2⟩ := c_refN ok hc N (k := 0) (by decide)
    have h1' : f_X11_refuseNumber N 0 μ = some (-1, μ') := h1
    rw [h1', z_bn_sm]
    exact ⟨-1, μ', _, rfl, rfl, _, ok_ref ok 0, h2, m_refs hm (by decide)⟩
  · rw [if_neg h0, if_neg h0]
    have hle : sLen A + 20 ≤ 1600 := Nat.not_lt.mp (fun q => h0 (nI_lt (a := 1600) q (by omega)))
    obtain ⟨μ5, e5, T⟩ := c_feed20 N hN a b c d e hc.1 hle
    obtain ⟨ν5, m5, S⟩ := m_feedL N a b c d e (ν := ν) (n := sLen A) hle N 0 ν (by decide) (by omega) (tp.nil hm.1)
    have m5' : f_X12_feed_L28 N a b c d e N 0 ν = some (nI (sLen A + 20), ν5) := m5
    have hlen : ((List.range 20).map (fedB a b c d e)).length = 20 := by rw [List.length_map, List.length_range]
    have hb : ∀ x ∈ (List.range 20).map (fedB a b c d e), x < 256 := fun x hx => by
      obtain ⟨k, -, hk⟩ := List.mem_map.mp hx
      rw [← hk]
      exact (byteOf_eq _ _).2
    generalize (List.range 20).map (fedB a b c d e) = bs at e5 T S hlen hb
    rw [e5, m5', ← hlen]
    refine ⟨_, μ5, ν5, rfl, rfl, _, ok_tape ok (by rw [hlen]; exact hle) (fun k => ?_), c_tape ok hc rfl T, m_tape hm rfl S⟩
    unfold tapeF
    split
    · next hq =>
      rw [List.getD_eq_getElem?_getD, List.getElem?_eq_getElem (by omega)]
      exact hb _ (List.getElem_mem _)
    · exact ok.2.1 k
