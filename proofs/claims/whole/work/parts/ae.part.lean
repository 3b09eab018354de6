/-! the reference before a part -/
theorem code_5 {N : Nat} {x : Int32} {ν ν' : z_S} {a : Unit} (h : f_X12_qCode N x ν = some (a, ν')) : ν'.1 253 5 = ν.1 253 5 := by
  unfold f_X12_qCode at h
  unfold z_in at h
  split at h
  · cases h
  · rw [z_bd_eq, z_bd_eq] at h
    have e := (Prod.mk.inj (Option.some.inj h)).2
    rw [← e, sI_1, if_neg (by omega), sI_1, if_neg (by omega)]
theorem drops_5 {N : Nat} {ν ν' : z_S} {a : Unit} (h : f_X12_qDrops N ν = some (a, ν')) : ν'.1 253 5 = ν.1 253 5 := by
  unfold f_X12_qDrops at h
  rw [z_bd_eq] at h
  unfold z_in at h
  split at h
  · cases h
  · generalize hc : f_X12_qCode N _ _ = r at h
    cases r with
    | none => cases h
    | some p =>
      obtain ⟨u, ν1⟩ := p
      have e := (Prod.mk.inj (Option.some.inj (show some ((), ν1) = some (a, ν') from h))).2
      rw [← e, code_5 hc, sI_1, if_neg (by omega)]
theorem ends_5 {N : Nat} : ∀ {f : Nat} {ν ν' : z_S} {a : Unit}, f_X12_qEndsPart_L0 N f ν = some (a, ν') → ν'.1 253 5 = ν.1 253 5
  | 0, _, _, _, h => by cases h
  | f + 1, ν, ν', a, h => by
    have h' : b_X12_qEndsPart_L0 N (f_X12_qEndsPart_L0 N f) ν = some (a, ν') := h
    unfold b_X12_qEndsPart_L0 at h'
    have fin : some ((), ν) = some (a, ν') → ν'.1 253 5 = ν.1 253 5 := fun z => by rw [← (Prod.mk.inj (Option.some.inj z)).2]
    split at h'
    · split at h'
      · unfold z_in at h'
        split at h'
        · cases h'
        · split at h'
          · exact fin h'
          · rw [z_bd_eq] at h'
            generalize hc : f_X12_qDrops N _ = r at h'
            cases r with
            | none => cases h'
            | some p =>
              obtain ⟨u, ν1⟩ := p
              rw [ends_5 (show f_X12_qEndsPart_L0 N f ν1 = some (a, ν') from h'), drops_5 hc, sI_1, if_neg (by omega)]
      · exact fin h'
    · exact fin h'
theorem RT_P {N : Nat} {c1 : Int32} {E : z_S → Option (Unit × z_S)} {f1 : Nat} {ν : z_S} (h5 : ν.1 253 5 = 0) : z_bn (z_bn (f_X12_qEndsPart N ν) fun _ μ_17 => some ((), μ_17)) (aPa N c1 E f1) = RP N c1 E f1 N N ν := by
  unfold RP
  have e0 : f_X12_qEndsPart N ν = f_X12_qEndsPart_L0 N N ν := rfl
  rw [e0]
  generalize hc : f_X12_qEndsPart_L0 N N ν = r
  cases r with
  | none => rfl
  | some p =>
    obtain ⟨u, ν1⟩ := p
    show aPa N c1 E f1 () ν1 = RG N c1 E f1 N ν1
    unfold aPa
    rw [if_pos (by rw [ends_5 hc]; exact h5)]
    rfl
theorem RT_bad {N : Nat} {c1 : Int32} {E : z_S → Option (Unit × z_S)} {f1 f2 : Nat} {ν : z_S} (h5 : ¬ ν.1 253 5 = 0) : RT N c1 E (f1 + 1) (f2 + 1) ν = E ν := by
  unfold RT
  have e : f_X12_qPartTold_L2 N (fun μ186 => f_X12_qPartTold_B186 N μ186) (f2 + 1) 1 ν = some ((), ν) := by
    show b_X12_qPartTold_L2 N _ _ 1 ν = _
    unfold b_X12_qPartTold_L2
    rw [if_neg (by decide), if_neg h5]
    show f_X12_qPartTold_B186 N ν = _
    unfold f_X12_qPartTold_B186
    rw [if_neg h5]
  rw [e, z_bn_sm]
  exact aPa_bad h5
theorem mB_ne {f p : Nat} {ν : z_S} (h : mB f p ν) (hf : 1 ≤ f ∧ f ≤ 5) : ¬ ν.1 253 5 = 0 := by
  rw [h.1]
  exact fun z => by have := (nI_eq (b := 0) (by omega) (by decide)).mp z; omega
theorem sg_40 : sgnC 40 := ⟨by decide, by decide, by decide⟩
/-- the head of the loop, behind blanks -/
theorem tq_head {t : Nat → Nat} {n q : Nat} {g as : Bool} {Q W : List Int32} {op base : Nat} {N : Nat} (hN : 1700 ≤ N) {f2 : Nat} {ν : z_S} (hm : mG t n q g ν) (h : qM as Q W op base ν) : ∃ ν1, yFr ν ν1 ∧ mA t n q g ν1 ∧ qM as Q W op base ν1 ∧
    f_X12_qPartTold_L2 N (fun μ186 => f_X12_qPartTold_B186 N μ186) (f2 + 1) 1 ν = (if lk t n q = (40 : Int32) then (z_bn (f_X12_qOpens N (20 : Int32) (nI q) ν1) fun _ μ_3 => z_bd (z_setI μ_3 253 2 ((μ_3.1 253 2) + (1 : Int32))) fun μ_4 => f_X12_qPartTold_L2 N (fun μ186 => f_X12_qPartTold_B186 N μ186) f2 1 μ_4) else if tkW t n q g = nI 26 then f_X12_qPartTold_B78 N (f_X12_qPartTold_L2 N (fun μ186 => f_X12_qPartTold_B186 N μ186) f2) (fun μ186 => f_X12_qPartTold_B186 N μ186) 1 ν1 else if tkW t n q g = nI 27 then f_X12_qPartTold_B78 N (f_X12_qPartTold_L2 N (fun μ186 => f_X12_qPartTold_B186 N μ186) f2) (fun μ186 => f_X12_qPartTold_B186 N μ186) 1 ν1 else if as = true ∧ tkW t n q g = nI 6 then (z_bn (f_X12_qOpens N (60 : Int32) (nI q) ν1) fun _ μ_7 => z_bn (f_X12_asks N 329 μ_7) fun _ μ_8 => f_X12_qPartTold_L2 N (fun μ186 => f_X12_qPartTold_B186 N μ186) f2 1 μ_8) else f_X12_qPartTold_L2 N (fun μ186 => f_X12_qPartTold_B186 N μ186) f2 0 ν1) := by
  obtain ⟨ν1, r1, r2, r3⟩ := m_look N hN hm
  have hq1 := r2.qM h
  refine ⟨ν1, r2, r3, hq1, ?_⟩
  show b_X12_qPartTold_L2 N (f_X12_qPartTold_L2 N (fun μ186 => f_X12_qPartTold_B186 N μ186) f2) (fun μ186 => f_X12_qPartTold_B186 N μ186) 1 ν = _
  unfold b_X12_qPartTold_L2
  have wo := (m_wordOf N hN r3 hq1.2.2.2.2.2.2).2
  have n10 : ¬ (1 : Int32) = 0 := by decide
  rw [if_neg n10, if_pos hm.2.1, r1, z_bn_sm, wo, z_bn_sm, r3.2.2.1]
  by_cases c : lk t n q = (40 : Int32)
  · rw [if_pos c, if_pos c]
    rfl
  · rw [if_neg c, if_neg c, show f_X12_isHere N 317 ν1 = _ from m_hereA N hN wk_317 r3, z_bn_sm]
    by_cases h26 : tkW t n q g = nI 26
    · rw [if_pos h26, if_neg n10, if_pos h26]
    · rw [if_neg h26, if_pos rfl, if_neg h26, show f_X12_isHere N 318 ν1 = _ from m_hereA N hN wk_318 r3, z_bn_sm]
      by_cases h27 : tkW t n q g = nI 27
      · rw [if_pos h27, if_neg n10, if_pos h27]
      · rw [if_neg h27, if_pos rfl, if_neg h27, pOf_is]
        by_cases h6 : as = true ∧ tkW t n q g = nI 6
        · rw [if_pos h6, if_pos h6, if_neg (by decide), r3.2.2.1]
          unfold f_X12_qAsksWord
          show (z_bn (f_X12_qOpens N (60 : Int32) (nI q) ν1) fun _ μ_7 => z_bn (z_bn (f_X12_asks N 329 μ_7) fun _ μ_11 => some ((), μ_11)) fun _ μ_8 => f_X12_qPartTold_L2 N (fun μ186 => f_X12_qPartTold_B186 N μ186) f2 1 μ_8) = _
          congr 1
          funext _ μ_7
          rw [z_bn_as]
          rfl
        · rw [if_neg h6, if_neg h6, if_pos rfl]
          rfl
theorem tq_paren {t : Nat → Nat} {n q : Nat} {g as : Bool} {Q W : List Int32} {op base : Nat} {N : Nat} (hN : 1700 ≤ N) {c1 : Int32} {E : z_S → Option (Unit × z_S)} {f1 f2 : Nat} {ν : z_S} (hm : mG t n q g ν) (h : qM as Q W op base ν) (hl : W.length < 1680) (ho : op ≤ 6) (hs : tkS t n q = nI 40) : (op = 6 ∧ ∃ ν', RT N c1 E (f1 + 1) (f2 + 2) ν = E ν' ∧ yFr ν ν' ∧ mB 4 q ν') ∨ (op < 6 ∧ ∃ ν', RT N c1 E (f1 + 1) (f2 + 2) ν = RT N c1 E (f1 + 1) (f2 + 1) ν' ∧ zFr ν ν' ∧ mG t n (nxQ t n q) (nxG t n q g) ν' ∧ qM as Q (W ++ [20]) (op + 1) base ν') := by
  obtain ⟨ν1, r2, r3, r4, r5⟩ := tq_head (f2 := f2 + 1) hN hm h
  have e1 : nI q + (1 : Int32) = nI (q + 1) := nI_1 q
  rw [if_pos (show lk t n q = (40 : Int32) from (lk_S hm.1.2.2.2.1 sg_40).mpr hs)] at r5
  rcases m_opens N r4 r3.2.1 ho (by omega) 20 q with ⟨y, ν2, s1, s2, s3⟩ | ⟨y, ν2, s1, s2, s3⟩
  · left
    have fr := yFr.set ν2 (j := 2) (ν2.1 253 2 + (1 : Int32)) (by omega)
    have b3 : mB 4 q (z_setI ν2 253 2 (ν2.1 253 2 + (1 : Int32))) := ⟨by rw [sI_1, if_neg (by omega)]; exact s3.1, by rw [sI_1, if_neg (by omega)]; exact s3.2⟩
    refine ⟨y, _, ?_, r2.tr (s2.tr fr), b3⟩
    rw [← RT_bad (N := N) (c1 := c1) (E := E) (f1 := f1) (f2 := f2) (mB_ne b3 (by omega))]
    unfold RT
    rw [r5, s1, z_bn_sm, z_bd_eq]
  · right
    have hA := s2.mA r3
    refine ⟨y, z_setI ν2 253 2 (nI (q + 1)), ?_, r2.z.tr (s2.z.tr (yFr.set ν2 (j := 2) _ (by omega)).z), m_step1 (by decide) hA hs, (yFr.set ν2 (j := 2) _ (by omega)).qM s3⟩
    unfold RT
    rw [r5, s1, z_bn_sm, hA.2.2.1, e1, z_bd_eq]
theorem tq_wish {t : Nat → Nat} {n q : Nat} {g as : Bool} {Q W : List Int32} {op base : Nat} {N : Nat} (hN : 1700 ≤ N) {c1 : Int32} {E : z_S → Option (Unit × z_S)} {f1 f2 : Nat} {ν : z_S} (hm : mG t n q g ν) (h : qM as Q W op base ν) (hl : W.length < 1680) (ho : op ≤ 6) (ha : as = true) (hw : tkW t n q g = nI 6) : (op = 6 ∧ ∃ ν', RT N c1 E (f1 + 1) (f2 + 2) ν = E ν' ∧ yFr ν ν' ∧ mB 4 q ν') ∨ (op < 6 ∧ ∃ ν', RT N c1 E (f1 + 1) (f2 + 2) ν = RT N c1 E (f1 + 1) (f2 + 1) ν' ∧ zFr ν ν' ∧ mG t n (nxQ t n q) (nxG t n q g) ν' ∧ qM as Q (W ++ [60]) (op + 1) base ν') := by
  obtain ⟨ν1, r2, r3, r4, r5⟩ := tq_head (f2 := f2 + 1) hN hm h
  have hk := tkW_k (by decide) hw
  have ns : ¬ lk t n q = (40 : Int32) := fun z => by
    have := (lk_S hm.1.2.2.2.1 sg_40).mp z
    rw [hk.2.2.2.2.2.2] at this
    exact absurd this (by decide)
  rw [if_neg ns, if_neg (by rw [hw]; decide), if_neg (by rw [hw]; decide), if_pos ⟨ha, hw⟩] at r5
  rcases m_opens N r4 r3.2.1 ho (by omega) 60 q with ⟨y, ν2, s1, s2, s3⟩ | ⟨y, ν2, s1, s2, s3⟩
  · left
    have b5 := mB_ne s3 (by omega)
    have ask : f_X12_asks N 329 ν2 = some ((), ν2) := by
      obtain ⟨w, -, w2, -⟩ := wk_329
      unfold f_X12_asks
      rw [z_kd_ok (by rw [w2]), if_neg b5]
    refine ⟨y, ν2, ?_, r2.tr s2, s3⟩
    rw [← RT_bad (N := N) (c1 := c1) (E := E) (f1 := f1) (f2 := f2) b5]
    unfold RT
    rw [r5, s1, z_bn_sm, ask, z_bn_sm]
  · right
    have hA := s2.mA r3
    obtain ⟨ν3, u1, u2, u3⟩ := m_asks N hN wk_329 hA.g
    rcases u3 with ⟨-, u3⟩ | ⟨z, -⟩
    · refine ⟨y, ν3, ?_, r2.z.tr (s2.z.tr u2.z), u3, u2.qM s3⟩
      unfold RT
      rw [r5, s1, z_bn_sm, u1, z_bn_sm]
    · exact absurd hw z
