/-! a new name: the class -/
theorem cG_set {t : Nat → Nat} {n q : Nat} {g : Bool} {μ : z_S} (h : cG t n q g μ) {a : Nat} (ha : 4 ≤ a) (j : Nat) (x : Int32) : cG t n q g (z_setI μ a j x) := by
  obtain ⟨⟨x1, x2, x3, x4, x5⟩, ⟨t1, t2, t3, t4, t5, t6, t7⟩, h2, h3⟩ := h
  have e : ∀ b i, b < 4 → (z_setI μ a j x).1 b i = μ.1 b i := fun b i hb => by rw [sI_1, if_neg (by omega)]
  exact ⟨⟨x1, by rw [e _ _ (by decide)]; exact x2, fun k => by rw [e _ _ (by decide)]; exact x3 k, x4, fun k c hc => by rw [e _ _ (by decide)]; exact x5 k c hc⟩, ⟨by rw [e _ _ (by decide)]; exact t1, by rw [e _ _ (by decide)]; exact t2, by rw [e _ _ (by decide)]; exact t3, by rw [e _ _ (by decide)]; exact t4, by rw [e _ _ (by decide)]; exact t5, fun a b => by rw [e _ _ (by decide)]; exact t6 a b, fun a b => by rw [e _ _ (by decide)]; exact t7 a b⟩, by rw [e _ _ (by decide)]; exact h2, h3⟩
def nmC (o : Nat) (h : aH) (μ : z_S) : Prop := (∀ k, k < 3 → μ.1 (o + 1) k = nI (hCnt h k)) ∧ ∀ k, k < 3 → ∀ i, i < hCnt h k → μ.1 (o + 3 + k) i = nI (pk32 (hName h k i) 6)
theorem c_fnd {h : aH} (ok : okH h) (N : Nat) (hN : 10 ≤ N) {o k : Nat} (hko : z_kw true o = (2, 0)) (hk : k < 3) {l : List Nat} (hl : isNm l) {μ : z_S} (hn : nmC o h μ) : f_X2_find N o (nI k) (nI (pk32 l 6)) μ = some (optI (fnd h k l), μ) :=
  c_find N hN hko hk (ok_8 ok hk) (hn.1 k hk) (hn.2 k hk) (fun i hi => ok.2.2.2.2.2.1 k i hi) hl
theorem c_newL {h : aH} (ok : okH h) (N : Nat) (hN : 10 ≤ N) (a1 : Int32) {l : List Nat} (hl : isNm l) (e50 e35 : z_S → Option (Int32 × z_S)) {μ : z_S} (hn : nmC (z_hn μ.2.2.2) h μ) : ∀ f k, k ≤ 3 → 3 - k < f → (∀ j, j < k → fnd h j l = none) → (f_X3_newName_L17 N a1 (nI (pk32 l 6)) e50 e35 f (nI k) μ = e50 μ ∧ ∀ j, j < 3 → fnd h j l = none) ∨ (f_X3_newName_L17 N a1 (nI (pk32 l 6)) e50 e35 f (nI k) μ = e35 μ ∧ ∃ j, j < 3 ∧ fnd h j l ≠ none) := by
  intro f
  induction f with
  | zero => intro k h1 h2; omega
  | succ f ih =>
    intro k h1 h2 hno
    have eS : f_X3_newName_L17 N a1 (nI (pk32 l 6)) e50 e35 (f + 1) (nI k) μ = b_X3_newName_L17 N a1 (nI (pk32 l 6)) (f_X3_newName_L17 N a1 (nI (pk32 l 6)) e50 e35 f) e50 e35 (nI k) μ := rfl
    rw [eS]
    unfold b_X3_newName_L17
    by_cases hlt : k < 3
    · have ek : nI k + 1 = nI (k + 1) := nI_1 k
      rw [if_pos (show nI k < (3 : Int32) from nI_lt (b := 3) hlt (by decide)), c_fnd ok N hN (z_hn_k _) hlt hl hn, z_bn_sm]
      cases hf : fnd h k l with
      | none =>
        rw [show optI none = (-1 : Int32) from rfl, if_pos rfl, z_bd_eq, ek]
        refine ih (k + 1) (by omega) (by omega) (fun j hj => ?_)
        by_cases z : j = k
        · rw [z]; exact hf
        · exact hno j (by omega)
      | some i =>
        have hi := fndF_some _ _ _ hf
        have h8 := ok_8 ok hlt
        rw [show optI (some i) = nI i from rfl, if_neg (nI_nm1 (by omega))]
        exact Or.inr ⟨rfl, k, hlt, by rw [hf]; intro z; cases z⟩
    · rw [if_neg (show ¬ nI k < (3 : Int32) from nI_nlt (b := 3) (by omega) (by omega))]
      exact Or.inl ⟨rfl, fun j hj => hno j (by omega)⟩
theorem c_newName {h : aH} (ok : okH h) {t : Nat → Nat} {n q k : Nat} {g : Bool} (N : Nat) (hN : 1700 ≤ N) {μ : z_S} (hc : cG t n q g μ) (hn : nmC (z_hn μ.2.2.2) h μ) (hk : k < 3) (h8 : hCnt h k < 8) : ∃ x μ', f_X3_newName N (nI k) μ = some (x, μ') ∧
    ((tkK t n q g = 1 ∧ ¬ isOwn (tkW t n q g) ∧ tkE t n q ≤ q + 6 ∧ (∀ j, j < 3 → fnd h j (lts t q (tkE t n q - q)) = none) ∧ x = 1 ∧ uFr (z_setI μ (z_hn μ.2.2.2 + 3 + k) (hCnt h k) (nI (pk32 (lts t q (tkE t n q - q)) 6))) μ' ∧ cG t n (nxQ t n q) (nxG t n q g) μ') ∨ (tkK t n q g = 1 ∧ ¬ isOwn (tkW t n q g) ∧ tkE t n q ≤ q + 6 ∧ (∃ j, j < 3 ∧ fnd h j (lts t q (tkE t n q - q)) ≠ none) ∧ x = 0 ∧ uFr μ μ' ∧ cB 3 q μ') ∨ (¬ (tkK t n q g = 1 ∧ ¬ isOwn (tkW t n q g)) ∧ x = 0 ∧ uFr μ μ' ∧ cB 1 q μ') ∨ (tkK t n q g = 1 ∧ ¬ isOwn (tkW t n q g) ∧ q + 6 < tkE t n q ∧ x = 0 ∧ uFr μ μ' ∧ cB 1 (q + 6) μ')) := by
  obtain ⟨x, μ1, r1, r2, r3⟩ := c_nameHere N hc
  unfold f_X3_newName
  rw [r1, z_bn_sm]
  rcases r3 with ⟨a1, a2, a3, rfl, rfl⟩ | ⟨a1, rfl, a3⟩ | ⟨a1, a2, a3, rfl, a4⟩
  · have nm := tk_isNm a1 a3
    have hlt := pk32_lt 6 _ (fun c hc => (nm.2.2 c hc).2)
    have p6 : 32 ^ 6 = 1073741824 := by decide
    rw [if_neg (nI_nm1 (by omega))]
    have L := c_newL ok N (by omega) (nI k) nm (fun μ50 => z_in (nI k) 3 <| z_in (nI k) 10 <| z_in (μ50.1 ((z_hn μ50.2.2.2) + 1) (nI k).toNatClampNeg) 8 <| z_bd (z_setI μ50 ((z_hn μ50.2.2.2) + 3 + (nI k).toNatClampNeg) (μ50.1 ((z_hn μ50.2.2.2) + 1) (nI k).toNatClampNeg).toNatClampNeg (nI (pk32 (lts t q (tkE t n q - q)) 6))) fun μ_3 => z_bn (f_X10_next N μ_3) fun _ μ_4 => some ((1 : Int32), μ_4)) (fun μ35 => z_bn (f_X10_fail N (3 : Int32) μ35) fun x4 μ_5 => z_zb x4 (some (x4, μ_5))) hn N 0 (by omega) (by omega) (fun j hj => by omega)
    rcases L with ⟨s1, s2⟩ | ⟨s1, s2⟩
    · have ho : 4 ≤ z_hn μ1.2.2.2 + 3 + k := by have := hn56 μ1.2.2.2; omega
      obtain ⟨μ2, u1, u2, u3⟩ := c_next N hN (cG_set hc ho (hCnt h k) (nI (pk32 (lts t q (tkE t n q - q)) 6)))
      refine ⟨1, μ2, ?_, Or.inl ⟨a1, a2, a3, s2, rfl, u2, u3⟩⟩
      refine Eq.trans s1 ?_
      show z_in (nI k) 3 (z_in (nI k) 10 (z_in (μ1.1 ((z_hn μ1.2.2.2) + 1) (nI k).toNatClampNeg) 8 (z_bd (z_setI μ1 ((z_hn μ1.2.2.2) + 3 + (nI k).toNatClampNeg) (μ1.1 ((z_hn μ1.2.2.2) + 1) (nI k).toNatClampNeg).toNatClampNeg (nI (pk32 (lts t q (tkE t n q - q)) 6))) fun μ_3 => z_bn (f_X10_next N μ_3) fun _ μ_4 => some ((1 : Int32), μ_4)))) = _
      rw [z_in_nI (show k < 3 by omega) (by decide), z_in_nI (show k < 10 by omega) (by decide), nI_toNat (show k < 2 ^ 31 by omega), hn.1 k hk, z_in_nI h8 (by decide), nI_toNat (show hCnt h k < 2 ^ 31 by omega), z_bd_eq, u1, z_bn_sm]
    · obtain ⟨μ2, u1, u2, u3⟩ := c_fail N (f := 3) hc
      have u1' : f_X10_fail N (3 : Int32) μ1 = some (0, μ2) := u1
      refine ⟨0, μ2, ?_, Or.inr (Or.inl ⟨a1, a2, a3, s2, rfl, u2, u3⟩)⟩
      refine Eq.trans s1 ?_
      show (z_bn (f_X10_fail N (3 : Int32) μ1) fun x4 μ_5 => z_zb x4 (some (x4, μ_5))) = _
      rw [u1', z_bn_sm, z_zb_0]
  · rw [if_pos rfl]
    exact ⟨0, μ1, rfl, Or.inr (Or.inr (Or.inl ⟨a1, rfl, r2, a3⟩))⟩
  · rw [if_pos rfl]
    exact ⟨0, μ1, rfl, Or.inr (Or.inr (Or.inr ⟨a1, a2, a3, rfl, r2, a4⟩))⟩
