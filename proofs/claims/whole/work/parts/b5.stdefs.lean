/-! statements: what they change, what they tell -/
def sFc (o : Nat) (μ μ' : z_S) : Prop := μ'.2 = μ.2 ∧ ∀ a j, ¬ ((a = 1 ∧ 2 ≤ j ∧ j ≤ 9 ∧ (4 ≤ j ∨ ¬ μ'.1 1 2 = 0)) ∨ (a = 93 ∧ j = 1) ∨ a = 94 ∨ (a = 92 ∧ j = 2) ∨ (2 ≤ a ∧ o ≤ a ∧ a < o + 36)) → μ'.1 a j = μ.1 a j
theorem sFc.rf (o : Nat) (μ : z_S) : sFc o μ μ := ⟨rfl, fun _ _ _ => rfl⟩
theorem sFc.f2 {o : Nat} {μ μ' : z_S} (g : sFc o μ μ') (h : μ'.1 1 2 = 0) {j : Nat} (hj : j ≤ 3) : μ'.1 1 j = μ.1 1 j := g.2 1 j (fun w => by
  rcases w with w | w | w | w | w
  · exact w.2.2.2.elim (fun v => by omega) (fun v => v h)
  · omega
  · omega
  · omega
  · omega)
theorem sFc.tr {o : Nat} {μ μ1 μ2 : z_S} (h : sFc o μ μ1) (g : sFc o μ1 μ2) : sFc o μ μ2 := ⟨g.1.trans h.1, fun a j q => (g.2 a j q).trans (h.2 a j (fun w => q (by
  rcases w with w | w
  · left
    by_cases c : μ2.1 1 2 = 0
    · refine ⟨w.1, w.2.1, w.2.2.1, w.2.2.2.elim Or.inl (fun v => absurd ?_ v)⟩
      rw [← g.f2 c (j := 2) (by omega)]; exact c
    · exact ⟨w.1, w.2.1, w.2.2.1, Or.inr c⟩
  · exact Or.inr w)))⟩
theorem uFr.s {o : Nat} {μ μ' : z_S} (h : uFr μ μ') : sFc o μ μ' := ⟨h.1, fun a j q => h.2 a j (fun w => q (Or.inl w))⟩
/-- one place of the heap beside the text -/
theorem sFc.of {o k i : Nat} {μ μ' : z_S} (h2 : μ'.2 = μ.2) (h : ∀ c j, ¬ (c = 1 ∧ 2 ≤ j ∧ j ≤ 9 ∧ (4 ≤ j ∨ ¬ μ'.1 1 2 = 0)) → ¬ (c = k ∧ j = i) → μ'.1 c j = μ.1 c j) (hk : 2 ≤ k ∧ o ≤ k ∧ k < o + 36) : sFc o μ μ' := ⟨h2, fun c j q => h c j (fun w => q (Or.inl w)) (fun w => q (Or.inr (Or.inr (Or.inr (Or.inr (by omega))))))⟩
theorem vFr.s {o : Nat} {μ μ' : z_S} (h : vFr μ μ') : sFc o μ μ' := ⟨h.1, fun a j q => h.2 a j (fun w => q (Or.inl w)) (fun w => q (Or.inr (Or.inl w))) (fun w => q (Or.inr (Or.inr (Or.inl w))))⟩
theorem sFc.set {o : Nat} (μ : z_S) {c : Nat} (j : Nat) (x : Int32) (h : 2 ≤ c ∧ o ≤ c ∧ c < o + 36) : sFc o μ (z_setI μ c j x) := ⟨rfl, fun a i q => by rw [sI_1, if_neg (fun z => q (Or.inr (Or.inr (Or.inr (Or.inr (by omega))))))]⟩
def sFm (ν ν' : z_S) : Prop := ν'.2.2 = ν.2.2 ∧ (∀ a j, ¬ (a = 285 ∧ j < 24) → ν'.2.1 a j = ν.2.1 a j) ∧ ∀ a j, ¬ ((a = 253 ∧ (j = 2 ∨ j = 4 ∨ ((j = 5 ∨ j = 6) ∧ ¬ ν'.1 253 5 = 0) ∨ j = 38 ∨ j = 51 ∨ j = 53 ∨ j = 95 ∨ j = 97 ∨ j = 98 ∨ j = 99)) ∨ a = 330 ∨ a = 331 ∨ (a = 284 ∧ j < 5) ∨ (a = 286 ∧ j < 24) ∨ (a = 287 ∧ j < 4) ∨ (a = 288 ∧ j < 32) ∨ (a = 289 ∧ j < 8) ∨ (a = 290 ∧ j < 64) ∨ (a = 291 ∧ j < 9) ∨ (a = 292 ∧ j < 2) ∨ (a = 293 ∧ j < 2) ∨ (a = 294 ∧ j < 2) ∨ (a = 295 ∧ j < 1600)) → ν'.1 a j = ν.1 a j
theorem sFm.rf (ν : z_S) : sFm ν ν := ⟨rfl, fun _ _ _ => rfl, fun _ _ _ => rfl⟩
theorem sFm.f5 {ν ν' : z_S} (g : sFm ν ν') (h : ν'.1 253 5 = 0) {j : Nat} (hj : j = 5 ∨ j = 6) : ν'.1 253 j = ν.1 253 j := g.2.2 253 j (fun w => by
  rcases w with ⟨_, w | w | w | w⟩ | w
  · omega
  · omega
  · exact w.2 h
  · omega
  · omega)
theorem sFm.tr {ν ν1 ν2 : z_S} (h : sFm ν ν1) (g : sFm ν1 ν2) : sFm ν ν2 := ⟨g.1.trans h.1, fun a j q => (g.2.1 a j q).trans (h.2.1 a j q), fun a j q => (g.2.2 a j q).trans (h.2.2 a j (fun w => q (by
  rcases w with ⟨w1, w | w | w | w⟩ | w
  · exact Or.inl ⟨w1, Or.inl w⟩
  · exact Or.inl ⟨w1, Or.inr (Or.inl w)⟩
  · refine Or.inl ⟨w1, Or.inr (Or.inr (Or.inl ⟨w.1, fun c => w.2 ?_⟩))⟩
    rw [← g.f5 c (j := 5) (by omega)]; exact c
  · exact Or.inl ⟨w1, Or.inr (Or.inr (Or.inr w))⟩
  · exact Or.inr w)))⟩
theorem yFr.s {ν ν' : z_S} (h : yFr ν ν') : sFm ν ν' := ⟨by rw [h.1], fun _ _ _ => by rw [h.1], fun a j q => h.2 a j (fun w => q (by
  rcases w with ⟨w1, w | w | w | w⟩
  · exact Or.inl ⟨w1, Or.inl w⟩
  · exact Or.inl ⟨w1, Or.inr (Or.inl w)⟩
  · exact Or.inl ⟨w1, Or.inr (Or.inr (Or.inl w))⟩
  · exact Or.inl ⟨w1, Or.inr (Or.inr (Or.inr (Or.inl w)))⟩))⟩
theorem zFr.s {ν ν' : z_S} (h : zFr ν ν') : sFm ν ν' := ⟨by rw [h.1], fun _ _ _ => by rw [h.1], fun a j q => h.2 a j (fun w => q (by
  rcases w with ⟨w1, w | w | w | w | w⟩
  · exact Or.inl ⟨w1, Or.inl w⟩
  · exact Or.inl ⟨w1, Or.inr (Or.inl w)⟩
  · exact Or.inl ⟨w1, Or.inr (Or.inr (Or.inl w))⟩
  · exact Or.inl ⟨w1, Or.inr (Or.inr (Or.inr (Or.inl w)))⟩
  · exact Or.inl ⟨w1, Or.inr (Or.inr (Or.inr (Or.inr (Or.inr (Or.inr w)))))⟩)) (fun w => q (Or.inr (Or.inl w))) (fun w => q (Or.inr (Or.inr (Or.inl w))))⟩
theorem sFm.set (ν : z_S) {a j : Nat} (x : Int32) (h : (a = 253 ∧ (j = 51 ∨ j = 53 ∨ j = 95 ∨ j = 97 ∨ j = 98 ∨ j = 99)) ∨ (a = 284 ∧ j < 5) ∨ (a = 286 ∧ j < 24) ∨ (a = 287 ∧ j < 4) ∨ (a = 288 ∧ j < 32) ∨ (a = 289 ∧ j < 8) ∨ (a = 290 ∧ j < 64) ∨ (a = 291 ∧ j < 9) ∨ (a = 292 ∧ j < 2) ∨ (a = 293 ∧ j < 2) ∨ (a = 294 ∧ j < 2) ∨ (a = 295 ∧ j < 1600)) : sFm ν (z_setI ν a j x) := ⟨rfl, fun _ _ _ => rfl, fun b i q => by rw [sI_1, if_neg (fun z => q (by obtain ⟨rfl, rfl⟩ := z; exact h.elim (fun w => Or.inl ⟨w.1, Or.inr (Or.inr (Or.inr (Or.inr w.2)))⟩) (fun w => Or.inr (Or.inr (Or.inr w)))))]⟩
theorem sFm.setJ (ν : z_S) {j : Nat} (x : Int64) (h : j < 24) : sFm ν (z_setJ ν 285 j x) := ⟨rfl, fun b i q => by rw [sJ_21, if_neg (by omega)], fun _ _ _ => rfl⟩
/-- where the reference stands is not told by the rows of the heap -/
theorem mG_set {t : Nat → Nat} {n q : Nat} {g : Bool} {ν ν' : z_S} (h : mG t n q g ν) (e : ∀ a j, ¬ ((a = 253 ∧ (j = 51 ∨ j = 53 ∨ j = 95 ∨ j = 97 ∨ j = 98 ∨ j = 99)) ∨ (284 ≤ a ∧ a ≤ 295)) → ν'.1 a j = ν.1 a j) : mG t n q g ν' := by
  obtain ⟨⟨x1, x2, x3, x4, x5⟩, h5, p, d, h6, h7, h8, h9, h10, h11⟩ := h
  have no : ∀ q ∈ mWords, ¬ (284 ≤ q.1 ∧ q.1 ≤ 295) := by decide +kernel
  exact ⟨⟨x1, by rw [e _ _ (by omega)]; exact x2, fun k => by rw [e _ _ (by omega)]; exact x3 k, x4, fun w hw k c hc => by rw [e _ _ (by have := no w hw; have := mW_no w hw; omega)]; exact x5 w hw k c hc⟩, by rw [e _ _ (by omega)]; exact h5, p, d, by rw [e _ _ (by omega)]; exact h6, h7, h8, by rw [e _ _ (by omega)]; exact h9, h10, h11⟩
def HS (t : Nat → Nat) (n s q : Nat) (g : Bool) (h : aH) (cd sz : Nat) (tl : Nat → Nat) (μ ν : z_S) : Prop := okH h ∧ cG t n q g μ ∧ mG t n q g ν ∧ cK (z_hn μ.2.2.2) h sz tl μ ∧ mK h cd ν ∧ (∀ k, tl k ≤ s) ∧ cd ≤ q ∧ sz ≤ q + 2
def cRes (t : Nat → Nat) (n s q : Nat) (μ ν : z_S) (X : Option (Int32 × z_S)) (Y : Option (Unit × z_S)) : Prop := (∃ h' q' g' cd' sz' tl' μ' ν', X = some (1, μ') ∧ Y = some ((), ν') ∧ sFc (z_hn μ.2.2.2) μ μ' ∧ sFm ν ν' ∧ HS t n (s + 1) q' g' h' cd' sz' tl' μ' ν' ∧ q ≤ q') ∨ ∃ f p μ' ν', X = some (0, μ') ∧ Y = some ((), ν') ∧ sFc (z_hn μ.2.2.2) μ μ' ∧ sFm ν ν' ∧ cB f p μ' ∧ mB f p ν' ∧ 1 ≤ f ∧ f ≤ 5
def bmp (tl : Nat → Nat) (K : Nat) : Nat → Nat := fun k => if k = K then tl K + 1 else tl k
theorem bmp_le {tl : Nat → Nat} {s K : Nat} (h : ∀ k, tl k ≤ s) : ∀ k, bmp tl K k ≤ s + 1 := fun k => by
  unfold bmp
  split
  · have := h K; omega
  · have := h k; omega
theorem cK_bump {o : Nat} {h h' : aH} {sz K : Nat} {tl : Nat → Nat} {μ μ' : z_S} (hk : cK o h sz tl μ) (hc : cH o h' μ') (hK : K < 10) (h5 : K ≠ 5) (h6 : K ≠ 6) (hlt : tl K < 999) (e1 : μ'.1 (o + 1) K = nI (tl K + 1)) (e2 : ∀ k, k < 10 → k ≠ K → μ'.1 (o + 1) k = μ.1 (o + 1) k) (e3 : μ'.1 (o + 32) 1 = μ.1 (o + 32) 1) (e4 : ∀ f, f < 2 → μ'.1 (o + 35) f = μ.1 (o + 35) f) (e5 : ∀ k, k < 5 → hCnt h' k = if k = K then hCnt h K + 1 else hCnt h k) (e6 : hForm h' = hForm h) : cK o h' sz (bmp tl K) μ' := by
  obtain ⟨p1, p2, p3, p4, p5, p6, p7, p8⟩ := hk
  refine ⟨hc, by rw [e3]; exact p2, fun f b hf hb => by rw [e4 f hf] at hb; exact p3 f b hf hb, fun k hk => ?_, fun k hk => ?_, ?_, ?_, fun k => ?_⟩
  · unfold bmp
    by_cases c : k = K
    · rw [if_pos c, c]; exact e1
    · rw [if_neg c, e2 k hk c]; exact p4 k hk
  · unfold bmp
    rw [e5 k hk]
    by_cases c : k = K
    · rw [if_pos c, if_pos c, p5 K (by omega)]
    · rw [if_neg c, if_neg c]; exact p5 k hk
  · unfold bmp
    rw [if_neg (by omega), e6]; exact p6
  · unfold bmp
    rw [if_neg (by omega), e6]; exact p7
  · unfold bmp
    split
    · omega
    · exact p8 k
theorem b259 {N K : Nat} {x : Int32} {μ : z_S} (hK : K < 10) (hx : x = 0 ∨ x = 1) : f_X3_statement_B259 N (nI K) x μ = some (x, z_setI μ (z_hn μ.2.2.2 + 1) K (μ.1 (z_hn μ.2.2.2 + 1) K + 1)) := by
  unfold f_X3_statement_B259
  rw [z_in_nI hK (by decide), z_in_nI hK (by decide), nI_toNat (by omega), z_bd_eq, z_zb_ok hx]
theorem cK.nm {o : Nat} {h : aH} {sz : Nat} {tl : Nat → Nat} {μ : z_S} (hk : cK o h sz tl μ) : nmC o h μ := ⟨fun k hk2 => hk.1.1 k (by omega), hk.1.2.1⟩
theorem mK.nm {h : aH} {cd : Nat} {ν : z_S} (hm : mK h cd ν) : nmM h ν := ⟨fun k hk2 => hm.1 k (by omega), hm.2.1⟩
/-- room for one more, or not -/
theorem m_room {N K c r : Nat} (hK : K < 10) (hc : c < 2 ^ 31) (hr : r < 2 ^ 31) (hcr : c ≠ r) {ν : z_S} (h5 : ν.1 253 5 = 0) (h0 : ν.1 284 K = nI c) (b : Int32) : f_X12_isFull N (nI K) (nI r) b ν = some (0, ν) := by
  unfold f_X12_isFull f_X12_isFull_B23
  rw [if_pos h5, z_in_nI hK (by decide), nI_toNat (by omega), h0, if_neg (nI_ne hc hr hcr rfl), if_pos h5]
theorem m_full {N K r p : Nat} (hK : K < 10) {ν : z_S} (h5 : ν.1 253 5 = 0) (h0 : ν.1 284 K = nI r) : ∃ ν', f_X12_isFull N (nI K) (nI r) (nI p) ν = some (1, ν') ∧ yFr ν ν' ∧ mB 5 p ν' := by
  unfold f_X12_isFull f_X12_isFull_B23
  obtain ⟨ν', r1, r2, r3⟩ := m_failAt N 5 p h5
  rw [if_pos h5, z_in_nI hK (by decide), nI_toNat (by omega), h0, if_pos rfl, show (5 : Int32) = nI 5 from rfl, r1, z_bn_sm, if_neg (mB_ne r3 (by omega))]
  exact ⟨ν', rfl, r2, r3⟩
/-- one more name of a kind -/
theorem m_adds {N K c : Nat} (hK : K < 3) (hc : c < 8) {ν : z_S} (h0 : ν.1 284 K = nI c) (x : Int64) : f_X12_adds N (nI K) x ν = some (nI c, z_setI (z_setJ ν 285 (8 * K + c) x) 284 K (nI (c + 1))) := by
  unfold f_X12_adds
  have e1 : (8 : Int32) * nI K + nI c = nI (8 * K + c) := by rw [show (8 : Int32) = nI 8 from rfl, pk_mul, nI_add]
  rw [z_in_nI (show K < 10 by omega) (by decide), nI_toNat (show K < 2 ^ 31 by omega), h0, e1, z_in_nI (show 8 * K + c < 48 by omega) (by decide), nI_toNat (by omega), z_bd_eq, z_in_nI (show K < 10 by omega) (by decide), z_in_nI (show K < 10 by omega) (by decide), z_bd_eq, z_in_nI (show K < 10 by omega) (by decide)]
  rw [show (z_setJ ν 285 (8 * K + c) x).1 284 K = nI c from h0, nI_1]
  rw [sI_1, if_pos ⟨rfl, rfl⟩]
  rw [show nI (c + 1) - (1 : Int32) = nI c from by rw [← nI_1]; exact Int32.add_sub_cancel _ _]
