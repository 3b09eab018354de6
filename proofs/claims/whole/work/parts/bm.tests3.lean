/-! the reference before a fact -/
theorem ts_head {t : Nat → Nat} {n q : Nat} {g : Bool} {N : Nat} (hN : 1700 ≤ N) {E : z_S → Option (Unit × z_S)} {f1 : Nat} {ν : z_S} (hm : mG t n q g ν) : ∃ ν1, yFr ν ν1 ∧ mA t n q g ν1 ∧ tsT N E (f1 + 1) ν = if tkS t n q = nI 91 then (z_bn (f_X12_qOpens N (25 : Int32) (nI q) ν1) fun _ μ_2 => z_bd (z_setI μ_2 253 2 ((μ_2.1 253 2) + (1 : Int32))) fun μ_3 => tsT N E f1 μ_3) else if tkW t n q g = nI 24 then (z_bn (f_X12_qOpens N (12 : Int32) (nI q) ν1) fun _ μ_8 => z_bn (f_X12_asks N 313 μ_8) fun _ μ_9 => tsT N E f1 μ_9) else z_bn (f_X12_qFact N ν1) (tsK N E f1) := by
  obtain ⟨ν1, r1, r2, r3⟩ := m_look N hN hm
  refine ⟨ν1, r2, r3, ?_⟩
  show b_X12_qTest_L2 N _ E 1 ν = _
  unfold b_X12_qTest_L2
  rw [if_neg (show ¬ (1 : Int32) = 0 by decide), if_pos hm.2.1, r1, z_bn_sm, r3.2.2.1]
  by_cases c : tkS t n q = nI 91
  · rw [if_pos c, if_pos (show lk t n q = (91 : Int32) from (lk_S hm.1.2.2.2.1 sg_91).mpr c)]
    rfl
  · rw [if_neg c, if_neg (show ¬ lk t n q = (91 : Int32) from fun z => c ((lk_S hm.1.2.2.2.1 sg_91).mp z)), m_hereA N hN wk_313 r3, z_bn_sm]
    by_cases d : tkW t n q g = nI 24
    · rw [if_pos d, if_pos d, if_neg (show ¬ (1 : Int32) = 0 by decide), r3.2.2.1]
      rfl
    · rw [if_neg d, if_neg d, if_pos rfl]
      rfl
theorem ts_sq {t : Nat → Nat} {n q : Nat} {g as : Bool} {Q W : List Int32} {op base : Nat} {N : Nat} (hN : 1700 ≤ N) {E : z_S → Option (Unit × z_S)} {f1 : Nat} {ν : z_S} (hm : mG t n q g ν) (h : qM as Q W op base ν) (ho : op ≤ 6) (hl : W.length < 1690) (hs : tkS t n q = nI 91) : (op = 6 ∧ ∃ ν', tsT N E (f1 + 2) ν = E ν' ∧ yFr ν ν' ∧ mB 4 q ν') ∨ (op < 6 ∧ ∃ ν', tsT N E (f1 + 2) ν = tsT N E (f1 + 1) ν' ∧ zFr ν ν' ∧ mG t n (nxQ t n q) (nxG t n q g) ν' ∧ qM as Q (W ++ [25]) (op + 1) base ν') := by
  obtain ⟨ν1, r2, r3, r4⟩ := ts_head (E := E) (f1 := f1 + 1) hN hm
  rw [r4, if_pos hs]
  rcases m_opens N (r2.qM h) r3.2.1 ho hl 25 q with ⟨c, ν2, s1, s2, s3⟩ | ⟨c, ν2, s1, s2, s3⟩
  · left
    have hB : mB 4 q (z_setI ν2 253 2 (ν2.1 253 2 + 1)) := ⟨by rw [sI_1, if_neg (by omega)]; exact s3.1, by rw [sI_1, if_neg (by omega)]; exact s3.2⟩
    refine ⟨c, z_setI ν2 253 2 (ν2.1 253 2 + 1), ?_, r2.tr (s2.tr (yFr.set ν2 (j := 2) _ (by omega))), hB⟩
    rw [s1, z_bn_sm, z_bd_eq, tsT_bad (mB_ne hB (by omega))]
  · right
    have hA2 := s2.mA r3
    have e1 : nI q + (1 : Int32) = nI (q + 1) := nI_1 q
    refine ⟨c, z_setI ν2 253 2 (nI (q + 1)), ?_, r2.z.tr (s2.z.tr (yFr.set ν2 (j := 2) _ (by omega)).z), m_step1 (by decide) hA2 hs, (yFr.set ν2 (j := 2) _ (by omega)).qM s3⟩
    rw [s1, z_bn_sm, z_bd_eq, hA2.2.2.1, e1]
theorem ts_nt {t : Nat → Nat} {n q : Nat} {g as : Bool} {Q W : List Int32} {op base : Nat} {N : Nat} (hN : 1700 ≤ N) {E : z_S → Option (Unit × z_S)} {f1 : Nat} {ν : z_S} (hm : mG t n q g ν) (h : qM as Q W op base ν) (ho : op ≤ 6) (hl : W.length < 1690) (hw : tkW t n q g = nI 24) : (op = 6 ∧ ∃ ν', tsT N E (f1 + 2) ν = E ν' ∧ yFr ν ν' ∧ mB 4 q ν') ∨ (op < 6 ∧ ∃ ν', tsT N E (f1 + 2) ν = tsT N E (f1 + 1) ν' ∧ zFr ν ν' ∧ mG t n (nxQ t n q) (nxG t n q g) ν' ∧ qM as Q (W ++ [12]) (op + 1) base ν') := by
  obtain ⟨ν1, r2, r3, r4⟩ := ts_head (E := E) (f1 := f1 + 1) hN hm
  rw [r4, if_neg (tkW_S (by omega) (by omega) hw), if_pos hw]
  rcases m_opens N (r2.qM h) r3.2.1 ho hl 12 q with ⟨c, ν2, s1, s2, s3⟩ | ⟨c, ν2, s1, s2, s3⟩
  · left
    have b5 := mB_ne s3 (by omega)
    refine ⟨c, ν2, ?_, r2.tr s2, s3⟩
    rw [s1, z_bn_sm, asks_bad wk_313 b5, z_bn_sm, tsT_bad b5]
  · right
    obtain ⟨ν3, u1, u2, u3⟩ := m_asks N hN wk_313 (s2.mA r3).g
    rcases u3 with ⟨_, u3⟩ | ⟨u3, _⟩
    rotate_left
    · exact absurd hw u3
    refine ⟨c, ν3, ?_, r2.z.tr (s2.z.tr u2.z), u3, u2.qM s3⟩
    rw [s1, z_bn_sm, u1, z_bn_sm]
theorem ts_all {t : Nat → Nat} {n q : Nat} {g as : Bool} {Q W : List Int32} {op base : Nat} {N : Nat} (hN : 1700 ≤ N) {E : z_S → Option (Unit × z_S)} {f1 : Nat} {ν : z_S} (hm : mG t n q g ν) (h : qM as Q W op base ν) (hl : Q.length < 1690) (hw : tkW t n q g = nI 25) : ∃ ν', tsT N E (f1 + 1) ν = tsP N E f1 N N ν' ∧ zFr ν ν' ∧ mG t n (nxQ t n q) (nxG t n q g) ν' ∧ qM as (Q ++ [13]) W op base ν' := by
  obtain ⟨ν1, r2, r3, r4⟩ := ts_head (E := E) (f1 := f1) hN hm
  obtain ⟨ν2, e1, e2, e3⟩ := (m_eatsK N hN wk_316 r3).2 hw
  obtain ⟨ν3, u1, u2, u3⟩ := m_code N (e2.qM (r2.qM h)) (by omega) 13
  have hm3 := u2.mG e3
  refine ⟨ν3, ?_, r2.z.tr (e2.z.tr u2.z), hm3, u3⟩
  rw [r4, if_neg (tkW_S (by omega) (by omega) hw), if_neg (nI_ne (a := 25) (by omega) (by omega) (by omega) hw)]
  unfold f_X12_qFact
  rw [e1, z_bn_sm, if_neg (show ¬ (1 : Int32) = 0 by decide), u1, z_bn_sm, z_bn_sm, tsK_ok hm3.2.1]
/-- a sum begins -/
theorem ts_sum {t : Nat → Nat} {n q : Nat} {g : Bool} {N : Nat} (hN : 1700 ≤ N) {E : z_S → Option (Unit × z_S)} {f1 : Nat} {ν : z_S} (hm : mG t n q g ν) (h91 : ¬ tkS t n q = nI 91) (h24 : ¬ tkW t n q g = nI 24) (h25 : ¬ tkW t n q g = nI 25) : ∃ ν1, yFr ν ν1 ∧ mA t n q g ν1 ∧ tsT N E (f1 + 1) ν = z_bn (z_bn (f_X12_qSums N ν1) fun _ μ_2 => if (μ_2.1 253 5) = 0 then (z_bn (f_X12_look N μ_2) fun x2 μ_3 => if x2 = (60 : Int32) then (f_X12_qFact_B63 N x2 μ_3) else if x2 = (62 : Int32) then (f_X12_qFact_B63 N x2 μ_3) else if x2 = (61 : Int32) then (f_X12_qFact_B63 N x2 μ_3) else z_bn (f_X12_fail N (1 : Int32) (μ_3.1 253 2) μ_3) fun _ μ_7 => some ((), μ_7)) else some ((), μ_2)) (tsK N E f1) := by
  obtain ⟨ν1, r2, r3, r4⟩ := ts_head (E := E) (f1 := f1) hN hm
  refine ⟨ν1, r2, r3, ?_⟩
  rw [r4, if_neg h91, if_neg h24]
  unfold f_X12_qFact
  rw [(m_eatsK N hN wk_316 r3).1 h25, z_bn_sm, if_pos rfl]
