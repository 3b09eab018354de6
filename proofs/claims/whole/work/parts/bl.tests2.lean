theorem m_L87 {as : Bool} {V : List Int32} {op base : Nat} (N : Nat) (e : z_S → Option (Int32 × z_S)) (hV : topNe 10 V) : ∀ m (ms : List Int32) f Q ν, ms.length = m → m < f → Q.length + V.length + m < 1680 → (∀ p ∈ ms, p = 10) → qM as Q (V ++ ms) op base ν → ∃ ν', f_X12_qGoesOnTest_L87 N e f ν = e ν' ∧ jFr ν ν' ∧ qM as (Q ++ ms.reverse) V op base ν' := by
  intro m
  induction m with
  | zero =>
    intro pd f Q ν h1 h2 h3 h4 h
    obtain ⟨f, rfl⟩ : ∃ g, f = g + 1 := ⟨f - 1, by omega⟩
    have : pd = [] := List.eq_nil_of_length_eq_zero h1
    subst this
    rw [List.append_nil] at h
    refine ⟨ν, ?_, jFr.rf ν, by rw [List.reverse_nil, List.append_nil]; exact h⟩
    show b_X12_qGoesOnTest_L87 N _ e ν = _
    unfold b_X12_qGoesOnTest_L87
    rw [m_isOnX N h (by omega) hV, z_bn_sm, if_pos rfl]
  | succ m ih =>
    intro pd f Q ν h1 h2 h3 h4 h
    obtain ⟨f, rfl⟩ : ∃ g, f = g + 1 := ⟨f - 1, by omega⟩
    rcases List.eq_nil_or_concat pd with y | ⟨p, x, y⟩
    · rw [y] at h1; cases h1
    · rw [List.concat_eq_append] at y
      subst y
      have l1 : p.length = m := by rw [snoc_len] at h1; omega
      rw [← List.append_assoc] at h
      have l2 : (V ++ p).length = V.length + m := by rw [List.length_append, l1]
      obtain ⟨ν1, r1, r2, r3⟩ := m_drops N h (by rw [l2]; omega)
      obtain ⟨ν2, s1, s2, s3⟩ := ih p f (Q ++ [x]) ν1 l1 (by omega) (by rw [snoc_len]; omega) (fun z hz => h4 z (List.mem_append_left _ hz)) r3
      refine ⟨ν2, ?_, r2.tr s2, ?_⟩
      · show b_X12_qGoesOnTest_L87 N _ e ν = _
        unfold b_X12_qGoesOnTest_L87
        rw [m_isOn N h (by rw [l2]; omega) 10, z_bn_sm, if_pos (h4 x (List.mem_append_right _ (List.mem_singleton.mpr rfl))), if_neg (show ¬ (1 : Int32) = 0 by decide), r1, z_bn_sm]
        exact s1
      · rw [rev_snoc]
        rw [List.append_assoc] at s3
        exact s3
theorem m_L137 {as : Bool} {V : List Int32} {op base : Nat} (N : Nat) (e : z_S → Option (Int32 × z_S)) (hV : topNe 10 V) (hV2 : topNe 11 V) : ∀ m (ms : List Int32) f Q ν, ms.length = m → m < f → Q.length + V.length + m < 1680 → (∀ p ∈ ms, p = 10 ∨ p = 11) → qM as Q (V ++ ms) op base ν → ∃ ν', f_X12_qGoesOnTest_L137 N e f ν = e ν' ∧ jFr ν ν' ∧ qM as (Q ++ ms.reverse) V op base ν' := by
  intro m
  induction m with
  | zero =>
    intro pd f Q ν h1 h2 h3 h4 h
    obtain ⟨f, rfl⟩ : ∃ g, f = g + 1 := ⟨f - 1, by omega⟩
    have : pd = [] := List.eq_nil_of_length_eq_zero h1
    subst this
    rw [List.append_nil] at h
    refine ⟨ν, ?_, jFr.rf ν, by rw [List.reverse_nil, List.append_nil]; exact h⟩
    show b_X12_qGoesOnTest_L137 N _ e ν = _
    unfold b_X12_qGoesOnTest_L137
    rw [m_isOnX N h (by omega) hV, z_bn_sm, if_pos rfl, m_isOnX N h (by omega) hV2, z_bn_sm, if_pos rfl]
  | succ m ih =>
    intro pd f Q ν h1 h2 h3 h4 h
    obtain ⟨f, rfl⟩ : ∃ g, f = g + 1 := ⟨f - 1, by omega⟩
    rcases List.eq_nil_or_concat pd with y | ⟨p, x, y⟩
    · rw [y] at h1; cases h1
    · rw [List.concat_eq_append] at y
      subst y
      have l1 : p.length = m := by rw [snoc_len] at h1; omega
      rw [← List.append_assoc] at h
      have l2 : (V ++ p).length = V.length + m := by rw [List.length_append, l1]
      obtain ⟨ν1, r1, r2, r3⟩ := m_drops N h (by rw [l2]; omega)
      obtain ⟨ν2, s1, s2, s3⟩ := ih p f (Q ++ [x]) ν1 l1 (by omega) (by rw [snoc_len]; omega) (fun z hz => h4 z (List.mem_append_left _ hz)) r3
      refine ⟨ν2, ?_, r2.tr s2, ?_⟩
      · show b_X12_qGoesOnTest_L137 N _ e ν = _
        unfold b_X12_qGoesOnTest_L137 f_X12_qGoesOnTest_B155
        have hx := h4 x (List.mem_append_right _ (List.mem_singleton.mpr rfl))
        rw [m_isOn N h (by rw [l2]; omega) 10, z_bn_sm]
        by_cases c : x = 10
        · rw [if_pos c, if_neg (show ¬ (1 : Int32) = 0 by decide), r1, z_bn_sm]
          exact s1
        · have c2 : x = 11 := by rcases hx with z | z; exact absurd z c; exact z
          rw [if_neg c, if_pos rfl, m_isOn N h (by rw [l2]; omega) 11, z_bn_sm, if_pos c2, if_neg (show ¬ (1 : Int32) = 0 by decide), r1, z_bn_sm]
          exact s1
      · rw [rev_snoc]
        rw [List.append_assoc] at s3
        exact s3
/-- no square is closed here -/
theorem ts_on {t : Nat → Nat} {n q : Nat} {g as : Bool} {Q W : List Int32} {op base : Nat} {N : Nat} (hN : 1700 ≤ N) {E : z_S → Option (Unit × z_S)} {f1 f3 : Nat} {ν : z_S} (hm : mG t n q g ν) (h : qM as Q W op base ν) (hl : W.length < 1690) (hno : ¬ (tkS t n q = nI 93 ∧ 25 ∈ W)) : ∃ ν1, tsG N E f1 (f3 + 1) ν = z_bn (f_X12_qGoesOnTest_B76 N ν1) (tsGo N E f1) ∧ yFr ν ν1 ∧ mA t n q g ν1 ∧ qM as Q W op base ν1 := by
  obtain ⟨ν1, r1, r2, r3⟩ := m_look N hN hm
  have hq1 := r2.qM h
  refine ⟨ν1, ?_, r2, r3, hq1⟩
  unfold tsG
  have e : f_X12_qGoesOnTest_L0 N (fun μ76 => f_X12_qGoesOnTest_B76 N μ76) (f3 + 1) ν = f_X12_qGoesOnTest_B76 N ν1 := by
    show b_X12_qGoesOnTest_L0 N _ _ ν = _
    unfold b_X12_qGoesOnTest_L0
    rw [if_pos hm.2.1, r1, z_bn_sm]
    by_cases c : lk t n q = nI 93
    · have cs := (lk_S hm.1.2.2.2.1 sg_93).mp c
      rw [if_pos (show lk t n q = (93 : Int32) from c), m_sq N hN hq1 hl, z_bn_sm, if_neg (fun z => hno ⟨cs, z⟩), if_pos rfl]
    · rw [if_neg (show ¬ lk t n q = (93 : Int32) from c)]
  rw [e]
theorem m_eatsK {t : Nat → Nat} {n q o k : Nat} {g : Bool} (N : Nat) (hN : 1700 ≤ N) (ho : wOK o k) {ν : z_S} (h : mA t n q g ν) : (¬ tkW t n q g = nI k → f_X12_eats N o ν = some (0, ν)) ∧ (tkW t n q g = nI k → ∃ ν2, f_X12_eats N o ν = some (1, ν2) ∧ yFr ν ν2 ∧ mG t n (nxQ t n q) (nxG t n q g) ν2) := by
  rcases m_eats0 N hN ho h.2.1 (m_lookA N hN h) h with ⟨c1, ν2, c2, c3, c4⟩ | ⟨c1, c2⟩
  · exact ⟨fun z => absurd c1 z, fun _ => ⟨ν2, c2, c3, c4⟩⟩
  · exact ⟨fun _ => c2, fun z => absurd z c1⟩
theorem tkW_S {t : Nat → Nat} {n q k c : Nat} {g : Bool} (hk : k < 34) (hc : c < 256) (h : tkW t n q g = nI k) : ¬ tkS t n q = nI c := fun z => by
  have := (tkW_k hk h).2.2.2.2.2.2
  rw [this] at z
  exact nI_nm1 (by omega) z.symm
/-- and -/
theorem ts_and {t : Nat → Nat} {n q : Nat} {g as : Bool} {Q V ms : List Int32} {op base : Nat} {N : Nat} (hN : 1700 ≤ N) {E : z_S → Option (Unit × z_S)} {f1 f3 : Nat} {ν : z_S} (hm : mG t n q g ν) (h : qM as Q (V ++ ms) op base ν) (hl : Q.length + V.length + ms.length < 1680) (hms : ∀ p ∈ ms, p = 10) (hV : topNe 10 V) (hw : tkW t n q g = nI 23) : ∃ ν', tsG N E f1 (f3 + 1) ν = tsT N E f1 ν' ∧ zFr ν ν' ∧ mG t n (nxQ t n q) (nxG t n q g) ν' ∧ qM as (Q ++ ms.reverse) (V ++ [10]) op base ν' := by
  have lW : (V ++ ms).length = V.length + ms.length := List.length_append
  obtain ⟨ν1, r1, r2, r3, r4⟩ := ts_on (E := E) (f1 := f1) (f3 := f3) hN hm h (by omega) (fun z => tkW_S (by omega) (by omega) hw z.1)
  obtain ⟨ν2, e1, e2, e3⟩ := (m_eatsK N hN wk_314 r3).2 hw
  obtain ⟨ν3, s1, s2, s3⟩ := m_L87 N (fun μ103 => z_in (μ103.1 253 97) 1700 <| z_bd (z_setI μ103 331 (μ103.1 253 97).toNatClampNeg (10 : Int32)) fun μ_20 => z_bd (z_setI μ_20 253 97 ((μ_20.1 253 97) + (1 : Int32))) fun μ_21 => some ((1 : Int32), μ_21)) hV ms.length ms N Q ν2 rfl (by omega) (by omega) hms (e2.qM r4)
  obtain ⟨w1, w2⟩ := qM_push s3 10 rfl
  refine ⟨_, ?_, r2.z.tr (e2.z.tr (s2.z.tr w2.z)), w2.mG (s2.mG e3), w1⟩
  rw [r1]
  unfold f_X12_qGoesOnTest_B76
  rw [e1, z_bn_sm, if_neg (show ¬ (1 : Int32) = 0 by decide), s1]
  rw [s3.2.2.1, z_in_nI (show V.length < 1700 by omega) (by decide), nI_toNat (by omega), z_bd_eq, z_bd_eq, show (z_setI ν3 331 V.length 10).1 253 97 + (1 : Int32) = nI (V.length + 1) by rw [sI_1, if_neg (by omega), s3.2.2.1]; exact nI_1 _, z_bn_sm, tsGo_1]
/-- or -/
theorem ts_or {t : Nat → Nat} {n q : Nat} {g as : Bool} {Q V ms : List Int32} {op base : Nat} {N : Nat} (hN : 1700 ≤ N) {E : z_S → Option (Unit × z_S)} {f1 f3 : Nat} {ν : z_S} (hm : mG t n q g ν) (h : qM as Q (V ++ ms) op base ν) (hl : Q.length + V.length + ms.length < 1680) (hms : ∀ p ∈ ms, p = 10 ∨ p = 11) (hV : topNe 10 V) (hV2 : topNe 11 V) (hw : tkW t n q g = nI 22) : ∃ ν', tsG N E f1 (f3 + 1) ν = tsT N E f1 ν' ∧ zFr ν ν' ∧ mG t n (nxQ t n q) (nxG t n q g) ν' ∧ qM as (Q ++ ms.reverse) (V ++ [11]) op base ν' := by
  have lW : (V ++ ms).length = V.length + ms.length := List.length_append
  obtain ⟨ν1, r1, r2, r3, r4⟩ := ts_on (E := E) (f1 := f1) (f3 := f3) hN hm h (by omega) (fun z => tkW_S (by omega) (by omega) hw z.1)
  obtain ⟨ν2, e1, e2, e3⟩ := (m_eatsK N hN wk_315 r3).2 hw
  obtain ⟨ν3, s1, s2, s3⟩ := m_L137 N (fun μ162 => z_in (μ162.1 253 97) 1700 <| z_bd (z_setI μ162 331 (μ162.1 253 97).toNatClampNeg (11 : Int32)) fun μ_16 => z_bd (z_setI μ_16 253 97 ((μ_16.1 253 97) + (1 : Int32))) fun μ_17 => some ((1 : Int32), μ_17)) hV hV2 ms.length ms N Q ν2 rfl (by omega) (by omega) hms (e2.qM r4)
  obtain ⟨w1, w2⟩ := qM_push s3 11 rfl
  refine ⟨_, ?_, r2.z.tr (e2.z.tr (s2.z.tr w2.z)), w2.mG (s2.mG e3), w1⟩
  rw [r1]
  unfold f_X12_qGoesOnTest_B76
  rw [(m_eatsK N hN wk_314 r3).1 (nI_ne (a := 22) (by omega) (by omega) (by omega) hw), z_bn_sm, if_pos rfl, e1, z_bn_sm, if_neg (show ¬ (1 : Int32) = 0 by decide), s1]
  rw [s3.2.2.1, z_in_nI (show V.length < 1700 by omega) (by decide), nI_toNat (by omega), z_bd_eq, z_bd_eq, show (z_setI ν3 331 V.length 11).1 253 97 + (1 : Int32) = nI (V.length + 1) by rw [sI_1, if_neg (by omega), s3.2.2.1]; exact nI_1 _, z_bn_sm, tsGo_1]
/-- a square is open, and nothing goes on -/
theorem ts_stop {t : Nat → Nat} {n q : Nat} {g as : Bool} {Q W : List Int32} {op base : Nat} {N : Nat} (hN : 1700 ≤ N) {E : z_S → Option (Unit × z_S)} {f1 f3 : Nat} {ν : z_S} (hm : mG t n q g ν) (h : qM as Q W op base ν) (hl : W.length < 1690) (hsq : 25 ∈ W) (hs : ¬ tkS t n q = nI 93) (h22 : ¬ tkW t n q g = nI 22) (h23 : ¬ tkW t n q g = nI 23) : ∃ ν', tsG N E (f1 + 1) (f3 + 1) ν = E ν' ∧ yFr ν ν' ∧ mB 1 q ν' := by
  obtain ⟨ν1, r1, r2, r3, r4⟩ := ts_on (E := E) (f1 := f1 + 1) (f3 := f3) hN hm h hl (fun z => hs z.1)
  obtain ⟨ν2, v1, v2, v3⟩ := m_failAt N 1 q r3.2.1
  refine ⟨ν2, ?_, r2.tr v2, v3⟩
  rw [r1]
  unfold f_X12_qGoesOnTest_B76
  rw [(m_eatsK N hN wk_314 r3).1 h23, z_bn_sm, if_pos rfl, (m_eatsK N hN wk_315 r3).1 h22, z_bn_sm, if_pos rfl, if_pos r3.2.1, m_sq N hN r4 hl, z_bn_sm, if_pos hsq, if_neg (show ¬ (1 : Int32) = 0 by decide), r3.2.2.1, show f_X12_fail N (1 : Int32) (nI q) ν1 = some ((), ν2) from v1, z_bn_sm, z_bn_sm, tsGo_0]
/-- no square is open, and nothing goes on -/
theorem ts_end {t : Nat → Nat} {n q : Nat} {g as : Bool} {Q W : List Int32} {op base : Nat} {N : Nat} (hN : 1700 ≤ N) {E : z_S → Option (Unit × z_S)} {f1 f3 : Nat} {ν : z_S} (hm : mG t n q g ν) (h : qM as Q W op base ν) (hl : W.length < 1690) (hsq : ¬ 25 ∈ W) (h22 : ¬ tkW t n q g = nI 22) (h23 : ¬ tkW t n q g = nI 23) : ∃ ν', tsG N E (f1 + 1) (f3 + 1) ν = E ν' ∧ yFr ν ν' ∧ mA t n q g ν' ∧ qM as Q W op base ν' := by
  obtain ⟨ν1, r1, r2, r3, r4⟩ := ts_on (E := E) (f1 := f1 + 1) (f3 := f3) hN hm h hl (fun z => hsq z.2)
  refine ⟨ν1, ?_, r2, r3, r4⟩
  rw [r1]
  unfold f_X12_qGoesOnTest_B76
  rw [(m_eatsK N hN wk_314 r3).1 h23, z_bn_sm, if_pos rfl, (m_eatsK N hN wk_315 r3).1 h22, z_bn_sm, if_pos rfl, if_pos r3.2.1, m_sq N hN r4 hl, z_bn_sm, if_neg hsq, if_pos rfl, z_bn_sm, tsGo_0]
