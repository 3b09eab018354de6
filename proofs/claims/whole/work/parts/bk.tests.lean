/-! the reference's tests: T before a fact, P behind one, G where it may go on -/
def tsGo (N : Nat) (E : z_S → Option (Unit × z_S)) (f1 : Nat) : Int32 → z_S → Option (Unit × z_S) := fun x3 μ_7 => if x3 = 0 then (f_X12_qTest_B105 N (f_X12_qTest_L2 N E f1) E μ_7) else f_X12_qTest_B106 N (f_X12_qTest_L2 N E f1) E (1 : Int32) μ_7
def tsT (N : Nat) (E : z_S → Option (Unit × z_S)) (f : Nat) (ν : z_S) : Option (Unit × z_S) := f_X12_qTest_L2 N E f 1 ν
def tsG (N : Nat) (E : z_S → Option (Unit × z_S)) (f1 f3 : Nat) (ν : z_S) : Option (Unit × z_S) := z_bn (f_X12_qGoesOnTest_L0 N (fun μ76 => f_X12_qGoesOnTest_B76 N μ76) f3 ν) (tsGo N E f1)
def tsP (N : Nat) (E : z_S → Option (Unit × z_S)) (f1 f3 f4 : Nat) (ν : z_S) : Option (Unit × z_S) := z_bn (f_X12_qDropsNots_L0 N f4 ν) (fun _ ν' => tsG N E f1 f3 ν')
def tsK (N : Nat) (E : z_S → Option (Unit × z_S)) (f1 : Nat) : Unit → z_S → Option (Unit × z_S) := fun _ μ_5 => z_bn (f_X12_qDropsNots N μ_5) fun _ μ_6 => if (μ_6.1 253 5) = 0 then (z_bn (f_X12_qGoesOnTest N μ_6) (tsGo N E f1)) else f_X12_qTest_B105 N (f_X12_qTest_L2 N E f1) E μ_6
theorem tsGo_0 {N : Nat} {E : z_S → Option (Unit × z_S)} {f : Nat} {ν : z_S} : tsGo N E (f + 1) 0 ν = E ν := by
  unfold tsGo
  rw [if_pos rfl]
  rfl
theorem tsGo_1 {N : Nat} {E : z_S → Option (Unit × z_S)} {f : Nat} {ν : z_S} : tsGo N E f 1 ν = tsT N E f ν := by
  unfold tsGo
  rw [if_neg (by decide)]
  rfl
theorem tsT_bad {N : Nat} {E : z_S → Option (Unit × z_S)} {f : Nat} {ν : z_S} (h5 : ¬ ν.1 253 5 = 0) : tsT N E (f + 1) ν = E ν := by
  show b_X12_qTest_L2 N _ E 1 ν = _
  unfold b_X12_qTest_L2
  rw [if_neg (by decide), if_neg h5]
theorem isOn_S {N : Nat} {a x : Int32} {ν ν' : z_S} (h : f_X12_qIsOn N a ν = some (x, ν')) : ν' = ν := by
  unfold f_X12_qIsOn at h
  split at h
  · unfold z_in at h
    split at h
    · cases h
    · split at h
      · exact (Prod.mk.inj (Option.some.inj h)).2.symm
      · exact (Prod.mk.inj (Option.some.inj h)).2.symm
  · exact (Prod.mk.inj (Option.some.inj h)).2.symm
theorem nots_5 {N : Nat} : ∀ {f : Nat} {ν ν' : z_S} {a : Unit}, f_X12_qDropsNots_L0 N f ν = some (a, ν') → ν'.1 253 5 = ν.1 253 5
  | 0, _, _, _, h => by cases h
  | f + 1, ν, ν', a, h => by
    have h' : b_X12_qDropsNots_L0 N (f_X12_qDropsNots_L0 N f) ν = some (a, ν') := h
    unfold b_X12_qDropsNots_L0 at h'
    split at h'
    · generalize hc : f_X12_qIsOn N 12 ν = r at h'
      cases r with
      | none => cases h'
      | some p =>
        obtain ⟨x, ν1⟩ := p
        have e := isOn_S hc
        subst e
        rw [z_bn_sm] at h'
        split at h'
        · rw [(Prod.mk.inj (Option.some.inj h')).2.symm]
        · rw [z_bd_eq] at h'
          generalize hd : f_X12_qDrops N (z_setI ν1 253 98 (ν1.1 253 98 - 1)) = r at h'
          cases r with
          | none => cases h'
          | some p =>
            obtain ⟨u, ν2⟩ := p
            rw [nots_5 (show f_X12_qDropsNots_L0 N f ν2 = some (a, ν') from h'), drops_5 hd, sI_1, if_neg (by omega)]
    · rw [(Prod.mk.inj (Option.some.inj h')).2.symm]
theorem tsK_ok {N : Nat} {E : z_S → Option (Unit × z_S)} {f1 : Nat} {ν : z_S} (h5 : ν.1 253 5 = 0) : tsK N E f1 () ν = tsP N E f1 N N ν := by
  unfold tsK tsP
  have e0 : f_X12_qDropsNots N ν = f_X12_qDropsNots_L0 N N ν := rfl
  rw [e0]
  generalize hc : f_X12_qDropsNots_L0 N N ν = r
  cases r with
  | none => rfl
  | some p =>
    obtain ⟨u, ν1⟩ := p
    rw [z_bn_sm, z_bn_sm, if_pos (by rw [nots_5 hc]; exact h5)]
    rfl
theorem tsK_bad {N : Nat} (hN : 1 ≤ N) {E : z_S → Option (Unit × z_S)} {f1 : Nat} {ν : z_S} (h5 : ¬ ν.1 253 5 = 0) : tsK N E (f1 + 1) () ν = E ν := by
  unfold tsK
  obtain ⟨M, hM⟩ : ∃ M, N = M + 1 := ⟨N - 1, by omega⟩
  have e : f_X12_qDropsNots N ν = some ((), ν) := by
    have e0 : f_X12_qDropsNots N ν = f_X12_qDropsNots_L0 N N ν := rfl
    rw [e0]
    have e1 : f_X12_qDropsNots_L0 N (M + 1) ν = some ((), ν) := by
      show b_X12_qDropsNots_L0 N _ ν = _
      unfold b_X12_qDropsNots_L0
      rw [if_neg h5]
    rw [← hM] at e1
    exact e1
  rw [e, z_bn_sm, if_neg h5]
  rfl
/-- what is not waiting on top -/
def topNe (x : Int32) (W : List Int32) : Prop := W = [] ∨ ∃ V y, W = V ++ [y] ∧ ¬ y = x
theorem m_isOnX {as : Bool} {Q W : List Int32} {op base : Nat} (N : Nat) {ν : z_S} (h : qM as Q W op base ν) (hl : W.length < 1690) {x : Int32} (ht : topNe x W) : f_X12_qIsOn N x ν = some (0, ν) := by
  rcases ht with rfl | ⟨V, y, rfl, hy⟩
  · exact m_isOn0 N h x
  · rw [snoc_len] at hl
    rw [m_isOn N h (by omega) x, if_neg hy]
theorem nots_0 {as : Bool} {Q W : List Int32} {op base : Nat} (N f : Nat) {ν : z_S} (h : qM as Q W op base ν) (hl : W.length < 1690) (h5 : ν.1 253 5 = 0) (ht : topNe 12 W) : f_X12_qDropsNots_L0 N (f + 1) ν = some ((), ν) := by
  show b_X12_qDropsNots_L0 N _ ν = _
  unfold b_X12_qDropsNots_L0
  rw [if_pos h5, m_isOnX N h hl ht, z_bn_sm, if_pos rfl]
theorem nots_1 {as : Bool} {Q W : List Int32} {op base : Nat} (N f : Nat) {ν : z_S} (h : qM as Q (W ++ [12]) (op + 1) base ν) (hl : Q.length + W.length < 1690) (h5 : ν.1 253 5 = 0) (ho : op ≤ 6) : ∃ ν', f_X12_qDropsNots_L0 N (f + 1) ν = f_X12_qDropsNots_L0 N f ν' ∧ jFr ν ν' ∧ qM as (Q ++ [12]) W op base ν' := by
  have e98 : ν.1 253 98 - (1 : Int32) = nI op := by rw [h.2.2.2.2.1]; exact pk_sub (b := 1) (by omega)
  obtain ⟨ν', r1, r2, r3⟩ := m_drops N (qM_op h op) hl
  refine ⟨ν', ?_, (jFr.set ν _ (by omega)).tr r2, r3⟩
  show b_X12_qDropsNots_L0 N _ ν = _
  unfold b_X12_qDropsNots_L0
  rw [if_pos h5, m_isOn N h (by omega) 12, z_bn_sm, if_pos rfl, if_neg (show ¬ (1 : Int32) = 0 by decide), z_bd_eq, e98, r1, z_bn_sm]
theorem tsP_G {as : Bool} {Q W : List Int32} {op base N : Nat} {E : z_S → Option (Unit × z_S)} {f1 f3 f4 : Nat} {ν : z_S} (h5 : ν.1 253 5 = 0) (h : qM as Q W op base ν) (hl : W.length < 1690) (ht : topNe 12 W) : tsP N E f1 f3 (f4 + 1) ν = tsG N E f1 f3 ν := by
  unfold tsP
  rw [nots_0 N f4 h hl h5 ht, z_bn_sm]
theorem tsP_not {as : Bool} {Q W : List Int32} {op base N : Nat} {E : z_S → Option (Unit × z_S)} {f1 f3 f4 : Nat} {ν : z_S} (h5 : ν.1 253 5 = 0) (h : qM as Q (W ++ [12]) (op + 1) base ν) (hl : Q.length + W.length < 1690) (ho : op ≤ 6) : ∃ ν', tsP N E f1 f3 (f4 + 1) ν = tsP N E f1 f3 f4 ν' ∧ jFr ν ν' ∧ qM as (Q ++ [12]) W op base ν' := by
  obtain ⟨ν', r1, r2, r3⟩ := nots_1 N f4 h hl h5 ho
  refine ⟨ν', ?_, r2, r3⟩
  unfold tsP
  rw [r1]
/-- is a square open -/
theorem m_sqL {as : Bool} {Q W : List Int32} {op base : Nat} (N : Nat) {ν : z_S} (h : qM as Q W op base ν) (hl : W.length < 1690) : ∀ f k, k ≤ W.length → W.length - k < f → (∀ j, j < k → ¬ W[j]? = some 25) → f_X12_qHasSquare_L2 N f (nI k) ν = some (if 25 ∈ W then 1 else 0, ν) := by
  intro f
  induction f with
  | zero => intro k _ h2; omega
  | succ f ih =>
    intro k h1 h2 h3
    show b_X12_qHasSquare_L2 N _ (nI k) ν = _
    unfold b_X12_qHasSquare_L2
    rw [h.2.2.1]
    by_cases c : k < W.length
    · obtain ⟨x, hx⟩ : ∃ x, W[k]? = some x := ⟨W[k], List.getElem?_eq_getElem c⟩
      rw [if_pos (nI_lt c (by omega)), z_in_nI (show k < 1700 by omega) (by decide), nI_toNat (by omega), h.2.2.2.1 k x hx]
      by_cases d : x = 25
      · rw [if_pos d, if_pos (by rw [← d]; exact List.mem_of_getElem? hx)]
      · rw [if_neg d, z_bd_eq, show nI k + 1 = nI (k + 1) from nI_1 _]
        exact ih (k + 1) (by omega) (by omega) (fun j hj => by
          by_cases e : j = k
          · rw [e, hx]; intro z; exact d (Option.some.inj z)
          · exact h3 j (by omega))
    · rw [if_neg (nI_nlt (by omega) (by omega)), if_neg]
      intro z
      obtain ⟨j, hj⟩ := List.getElem?_of_mem z
      have := (List.getElem?_eq_some_iff.mp hj).1
      exact h3 j (by omega) hj
theorem m_sq {as : Bool} {Q W : List Int32} {op base : Nat} (N : Nat) (hN : 1700 ≤ N) {ν : z_S} (h : qM as Q W op base ν) (hl : W.length < 1690) : f_X12_qHasSquare N ν = some (if 25 ∈ W then 1 else 0, ν) := by
  have := m_sqL N h hl N 0 (by omega) (by omega) (fun j hj => by omega)
  exact this
theorem sg_93 : sgnC 93 := ⟨by decide, by decide, by decide⟩
theorem sg_91 : sgnC 91 := ⟨by decide, by decide, by decide⟩
theorem m_L33 {as : Bool} {V : List Int32} {op base : Nat} (N : Nat) (e : z_S → Option (Int32 × z_S)) : ∀ m (pd : List Int32) f Q ν, pd.length = m → m < f → Q.length + V.length + m < 1680 → (∀ p ∈ pd, ¬ p = 25) → qM as Q (V ++ [25] ++ pd) op base ν → ∃ ν', f_X12_qGoesOnTest_L33 N e f ν = e ν' ∧ jFr ν ν' ∧ qM as (Q ++ pd.reverse) (V ++ [25]) op base ν' := by
  intro m
  induction m with
  | zero =>
    intro pd f Q ν h1 h2 h3 h4 h
    obtain ⟨f, rfl⟩ : ∃ g, f = g + 1 := ⟨f - 1, by omega⟩
    have : pd = [] := List.eq_nil_of_length_eq_zero h1
    subst this
    rw [List.append_nil] at h
    refine ⟨ν, ?_, jFr.rf ν, by rw [List.reverse_nil, List.append_nil]; exact h⟩
    show b_X12_qGoesOnTest_L33 N _ e ν = _
    unfold b_X12_qGoesOnTest_L33
    rw [m_isOn N h (by omega) 25, z_bn_sm, if_pos rfl, if_neg (show ¬ (1 : Int32) = 0 by decide)]
  | succ m ih =>
    intro pd f Q ν h1 h2 h3 h4 h
    obtain ⟨f, rfl⟩ : ∃ g, f = g + 1 := ⟨f - 1, by omega⟩
    rcases List.eq_nil_or_concat pd with y | ⟨p, x, y⟩
    · rw [y] at h1; cases h1
    · rw [List.concat_eq_append] at y
      subst y
      have l1 : p.length = m := by rw [snoc_len] at h1; omega
      rw [← List.append_assoc] at h
      have l2 : (V ++ [25] ++ p).length = V.length + 1 + m := by rw [List.length_append, snoc_len, l1]
      obtain ⟨ν1, r1, r2, r3⟩ := m_drops N h (by rw [l2]; omega)
      obtain ⟨ν2, s1, s2, s3⟩ := ih p f (Q ++ [x]) ν1 l1 (by omega) (by rw [snoc_len]; omega) (fun z hz => h4 z (List.mem_append_left _ hz)) r3
      refine ⟨ν2, ?_, r2.tr s2, ?_⟩
      · show b_X12_qGoesOnTest_L33 N _ e ν = _
        unfold b_X12_qGoesOnTest_L33
        rw [m_isOn N h (by rw [l2]; omega) 25, z_bn_sm, if_neg (h4 x (List.mem_append_right _ (List.mem_singleton.mpr rfl))), if_pos rfl, r1, z_bn_sm]
        exact s1
      · rw [rev_snoc]
        rw [List.append_assoc] at s3
        exact s3
/-- a square closed -/
theorem ts_close {t : Nat → Nat} {n q : Nat} {g as : Bool} {Q V pd : List Int32} {op base : Nat} {N : Nat} (hN : 1700 ≤ N) {E : z_S → Option (Unit × z_S)} {f1 f3 : Nat} {ν : z_S} (hm : mG t n q g ν) (h : qM as Q (V ++ [25] ++ pd) (op + 1) base ν) (ho : op ≤ 6) (hl : Q.length + V.length + pd.length < 1670) (hp : ∀ p ∈ pd, ¬ p = 25) (hs : tkS t n q = nI 93) : ∃ ν', tsG N E f1 (f3 + 1) ν = tsP N E f1 f3 N ν' ∧ zFr ν ν' ∧ mG t n (nxQ t n q) (nxG t n q g) ν' ∧ qM as (Q ++ pd.reverse) V op base ν' := by
  have lV := snoc_len V (25 : Int32)
  have lW : (V ++ [25] ++ pd).length = V.length + 1 + pd.length := by rw [List.length_append, lV]
  obtain ⟨ν1, r1, r2, r3⟩ := m_look N hN hm
  have hq1 := r2.qM h
  have fr2 := yFr.set ν1 (j := 2) (nI (q + 1)) (by omega)
  have hm2 := m_step1 (by decide) r3 hs
  have hq2 := fr2.qM hq1
  obtain ⟨EE, hEE⟩ : ∃ EE : z_S → Option (Int32 × z_S), EE = (fun μ49 => z_bd (z_setI μ49 253 97 ((μ49.1 253 97) - (1 : Int32))) fun μ_6 => z_bd (z_setI μ_6 253 98 ((μ_6.1 253 98) - (1 : Int32))) fun μ_7 => z_bn (f_X12_qDropsNots N μ_7) fun _ μ_8 => f_X12_qGoesOnTest_L0 N (fun μ76 => f_X12_qGoesOnTest_B76 N μ76) f3 μ_8) := ⟨_, rfl⟩
  obtain ⟨ν3, s1, s2, s3⟩ := m_L33 (as := as) (op := op + 1) N EE pd.length pd N Q _ rfl (by omega) (by omega) hp hq2
  obtain ⟨t1, t2⟩ := qM_top s3
  have hq4 := qM_op (qM_pop s3) op
  have fr4 : jFr ν3 (z_setI (z_setI ν3 253 97 (nI V.length)) 253 98 (nI op)) := (jFr.set ν3 _ (by omega)).tr (jFr.set _ _ (by omega))
  refine ⟨_, ?_, r2.z.tr (fr2.z.tr (s2.z.tr fr4.z)), fr4.mG (s2.mG hm2), hq4⟩
  unfold tsG tsP
  have e : f_X12_qGoesOnTest_L0 N (fun μ76 => f_X12_qGoesOnTest_B76 N μ76) (f3 + 1) ν = z_bn (f_X12_qDropsNots N (z_setI (z_setI ν3 253 97 (nI V.length)) 253 98 (nI op))) fun _ μ_8 => f_X12_qGoesOnTest_L0 N (fun μ76 => f_X12_qGoesOnTest_B76 N μ76) f3 μ_8 := by
    show b_X12_qGoesOnTest_L0 N _ _ ν = _
    unfold b_X12_qGoesOnTest_L0
    rw [if_pos hm.2.1, r1, z_bn_sm, if_pos (show lk t n q = (93 : Int32) from (lk_S hm.1.2.2.2.1 sg_93).mpr hs), m_sq N hN hq1 (by omega), z_bn_sm, if_pos (show (25 : Int32) ∈ V ++ [25] ++ pd from List.mem_append_left _ (List.mem_append_right _ (List.mem_singleton.mpr rfl))), if_neg (show ¬ (1 : Int32) = 0 by decide), r3.2.2.1, show nI q + (1 : Int32) = nI (q + 1) from nI_1 q, z_bd_eq, ← hEE, s1, hEE]
    dsimp only
    rw [t2, show nI (V.length + 1) - (1 : Int32) = nI V.length from pk_sub (b := 1) (by omega), z_bd_eq, show (z_setI ν3 253 97 (nI V.length)).1 253 98 - (1 : Int32) = nI op by rw [sI_1, if_neg (by omega), s3.2.2.2.2.1]; exact pk_sub (b := 1) (by omega), z_bd_eq]
  rw [e, z_bn_as]
  rfl
