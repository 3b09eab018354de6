/-! an evening goes by -/
theorem run_congr {V V' : Nat → Int} {Wf : Int → Int} (hV : ∀ k, k < 6 → V k = V' k) : ∀ (cs : List Int32) (st : List Int), (∀ c ∈ cs, -6 ≤ c ∨ (-16 ≤ c ∧ c ≤ -11)) → runV V Wf st cs = runV V' Wf st cs := by
  intro cs
  induction cs with
  | nil => intro st _; rfl
  | cons c cs ih =>
    intro st hc
    have es : stepV V Wf st c = stepV V' Wf st c := by
      unfold stepV
      by_cases c0 : 0 ≤ c
      · rw [if_pos c0, if_pos c0]
      · rw [if_neg c0, if_neg c0]
        by_cases c1 : -10 ≤ c
        · rw [if_pos c1, if_pos c1]
          have g0 : ¬ 0 ≤ c.toInt := fun z => c0 (Int32.le_iff_toInt_le.mpr z)
          have g1 := Int32.le_iff_toInt_le.mp c1
          rw [show (-10 : Int32).toInt = -10 from rfl] at g1
          have g2 : -6 ≤ c.toInt := by
            rcases hc c (by simp) with q | q
            · exact Int32.le_iff_toInt_le.mp q
            · have := Int32.le_iff_toInt_le.mp q.2
              rw [show (-11 : Int32).toInt = -11 from rfl] at this
              omega
          have e : (-1 - c).toInt = -1 - c.toInt := by
            rw [Int32.toInt_sub, show (-1 : Int32).toInt = -1 from rfl]
            exact Int.bmod_eq_of_le (by omega) (by omega)
          have hk : (-1 - c).toNatClampNeg < 6 := by
            show (-1 - c).toInt.toNat < 6
            rw [e]; omega
          rw [hV _ hk]
        · rw [if_neg c1, if_neg c1]
    unfold runV
    rw [es]
    cases stepV V' Wf st c with
    | none => rfl
    | some st' =>
      show (if st'.length ≤ 64 then runV V Wf st' cs else none) = (if st'.length ≤ 64 then runV V' Wf st' cs else none)
      rw [ih st' (fun c' hc' => hc c' (by simp [hc']))]
theorem formV_day {h : aH} (ok : okH h) {n n' : aN} (hd : nDay n = nDay n') (l i f : Nat) : formV h n l i f = formV h n' l i f := by
  unfold formV
  rw [run_congr (V := envV h n l (hHelp h i 1 : Int)) (V' := envV h n' l (hHelp h i 1 : Int)) (fun k hk => by
    unfold envV
    have hks : k = 0 ∨ k = 1 ∨ k = 2 ∨ k = 3 ∨ k = 4 ∨ k = 5 := by omega
    rcases hks with rfl | rfl | rfl | rfl | rfl | rfl
    · rfl
    · rfl
    · rfl
    · rfl
    · rfl
    · show (nDay n : Int) = (nDay n' : Int)
      rw [hd]) (formC h f) [] (formC_ok ok).2.1]
theorem timeV_day {h : aH} (ok : okH h) {n n' : aN} (hd : nDay n = nDay n') (l i : Nat) : timeV h n l i = timeV h n' l i := by
  unfold timeV
  rw [formV_day ok hd l i 0]
/-- the letters ahead of l are answered by the row -/
def nMid (h : aH) (n : aN) (R : Nat → Nat) : Nat → aN
  | 0 => n
  | l + 1 => if 0 < R l then nAns (nMid h n R l) l (R l - 1) (timeV h n l (R l - 1)) else nMid h n R l
theorem nMid_p (h : aH) (n : aN) (R : Nat → Nat) : ∀ l, nDay (nMid h n R l) = nDay n ∧ nStock (nMid h n R l) = nStock n ∧ nSheet (nMid h n R l) = nSheet n ∧ nGift (nMid h n R l) = nGift n ∧ (∀ q, nDone (nMid h n R l) q = if q < l ∧ 0 < R q then R q else nDone n q) ∧ ∀ i, nLeft (nMid h n R l) i = nLeft n i - sumL (fun q => if R q = i + 1 then timeV h n q i else 0) l
  | 0 => ⟨rfl, rfl, rfl, rfl, fun q => (if_neg (by omega)).symm, fun i => rfl⟩
  | l + 1 => by
    obtain ⟨h1, h2, h3, h4, h5, h6⟩ := nMid_p h n R l
    by_cases hp : 0 < R l
    · have e : nMid h n R (l + 1) = nAns (nMid h n R l) l (R l - 1) (timeV h n l (R l - 1)) := if_pos hp
      rw [e]
      refine ⟨h1, h2, h3, h4, fun q => ?_, fun i => ?_⟩
      · show (if q = l then R l - 1 + 1 else nDone (nMid h n R l) q) = _
        by_cases z : q = l
        · rw [if_pos z, if_pos ⟨by omega, by rw [z]; exact hp⟩, z]; omega
        · rw [if_neg z, h5 q]
          by_cases y : q < l ∧ 0 < R q
          · rw [if_pos y, if_pos ⟨by omega, y.2⟩]
          · rw [if_neg y, if_neg (fun w => y ⟨by omega, w.2⟩)]
      · show (if i = R l - 1 then nLeft (nMid h n R l) (R l - 1) - timeV h n l (R l - 1) else nLeft (nMid h n R l) i) = nLeft n i - (sumL _ l + (if R l = i + 1 then timeV h n l i else 0))
        by_cases z : i = R l - 1
        · rw [if_pos z, if_pos (show R l = i + 1 by omega), ← z, h6 i]; omega
        · rw [if_neg z, if_neg (by omega), h6 i]; rfl
    · have e : nMid h n R (l + 1) = nMid h n R l := if_neg hp
      rw [e]
      refine ⟨h1, h2, h3, h4, fun q => ?_, fun i => ?_⟩
      · rw [h5 q]
        by_cases y : q < l ∧ 0 < R q
        · rw [if_pos y, if_pos ⟨by omega, y.2⟩]
        · rw [if_neg y, if_neg (fun w => by
            by_cases z : q = l
            · rw [z] at w; exact hp w.2
            · exact y ⟨by omega, w.2⟩)]
      · rw [h6 i]
        show _ = nLeft n i - (sumL _ l + (if R l = i + 1 then timeV h n l i else 0))
        rw [if_neg (by omega)]; rfl
theorem nMid_ok {h : aH} {n : aN} (hn : okN h n) {R : Nat → Nat} (hR : ∀ l, l < hCnt h 0 → R l ≤ hCnt h 2) : ∀ l, l ≤ hCnt h 0 → okN h (nMid h n R l)
  | 0, _ => hn
  | l + 1, hl => by
    have ih := nMid_ok hn hR l (by omega)
    show okN h (if 0 < R l then nAns (nMid h n R l) l (R l - 1) (timeV h n l (R l - 1)) else nMid h n R l)
    by_cases hp : 0 < R l
    · rw [if_pos hp]
      have := hR l (by omega)
      exact ok_ans ih _ (by omega) (by omega)
    · rw [if_neg hp]; exact ih
/-- a state behind an evening with these answers -/
def nEve (h : aH) (n : aN) (R : Nat → Nat) : aN := (nDay n + 1, (fun k => if k < hCnt h 2 then hHelp h k 0 else 0), nStock n, (fun l => if 0 < R l then R l else nDone n l), nSheet n, nGift n)
theorem ok_eve {h : aH} {n : aN} (ok : okH h) (hn : okN h n) {R : Nat → Nat} (hR : ∀ l, l < hCnt h 0 → R l ≤ hCnt h 2) (hz : ∀ l, hCnt h 0 ≤ l → R l = 0) (hd : nDay n < 999) : okN h (nEve h n R) := by
  obtain ⟨q1, q2, q3, q4, q5, q6, q7, q8, q9⟩ := hn
  refine ⟨hd, fun k => ?_, fun k hk => if_neg (by omega), q4, q5, fun k => ?_, q7, q8, fun k hk => ⟨?_, (q9 k hk).2⟩⟩
  · show (if k < hCnt h 2 then hHelp h k 0 else 0) ≤ 240
    split
    · exact (ok.2.2.2.2.2.2.2.2.2.2.2.2.2.2.2.2.2.1 k).2.1
    · omega
  · show (if 0 < R k then R k else nDone n k) ≤ hCnt h 2
    split
    · next hp =>
      rcases Nat.lt_or_ge k (hCnt h 0) with y | y
      · exact hR k y
      · rw [hz k y] at hp; omega
    · exact q6 k
  · show (if 0 < R k then R k else nDone n k) = 0
    rw [hz k hk, if_neg (Nat.lt_irrefl 0)]
    exact (q9 k hk).1
theorem m_eveL {A : aS} (ok : okS A) (N : Nat) (hN : 1700 ≤ N) (c1 : Int32) {R : Nat → Nat} (hR : Feas (hCnt (sH A) 0) (hCnt (sH A) 2) (bearV (sH A) (sN A)) (timeV (sH A) (sN A)) (nLeft (sN A)) R) (e : z_S → Option (Int32 × z_S)) : ∀ f l ν, l ≤ hCnt (sH A) 0 → hCnt (sH A) 0 - l < f → mS (aNow A (nMid (sH A) (sN A) R l)) ν → rowM 300 R ν → ∃ ν', f_X12_eveningGoes_L7 N c1 e f (nI l) ν = e ν' ∧ mS (aNow A (nMid (sH A) (sN A) R (hCnt (sH A) 0))) ν' ∧ ∀ j, ν'.1 297 j = ν.1 297 j := by
  have h8 := ok.2.2.1.1
  have h3 := ok.2.2.1.2.2.1
  intro f
  induction f with
  | zero => intro l ν h1 h2; omega
  | succ f ih =>
    intro l ν h1 h2 h hr
    show ∃ ν', b_X12_eveningGoes_L7 N c1 (f_X12_eveningGoes_L7 N c1 e f) e (nI l) ν = _ ∧ _
    unfold b_X12_eveningGoes_L7 f_X12_eveningGoes_B37 f_X12_letterMany
    rw [z_bn_sm, show ν.1 284 (5 + 0) = nI (hCnt (sH A) 0) from h.2.2.2.2.2.2.1.1 0 (by decide)]
    by_cases hlt : l < hCnt (sH A) 0
    · have ek : nI l + 1 = nI (l + 1) := nI_1 l
      have hRl := hR.1 l hlt
      simp only [z_bd_eq]
      rw [if_pos (nI_lt hlt (by omega)), z_in_nI (show l < 8 by omega) (by decide), z_in_nI (show l < 8 by omega) (by decide), nI_toNat (by omega), hr l (by omega), ek]
      by_cases hp : 0 < R l
      · have hok : okS (aNow A (nMid (sH A) (sN A) R l)) := ok_now ok (nMid_ok ok.2.2.2.1 hR.1 l (by omega))
        have ei : nI (R l) - (1 : Int32) = nI (R l - 1) := pk_sub (b := 1) (by omega)
        have P := nMid_p (sH A) (sN A) R l
        have et : timeV (sH A) (nMid (sH A) (sN A) R l) l (R l - 1) = timeV (sH A) (sN A) l (R l - 1) := timeV_day ok.2.2.1 P.1 _ _
        have hle : timeV (sH A) (nMid (sH A) (sN A) R l) l (R l - 1) ≤ nLeft (nMid (sH A) (sN A) R l) (R l - 1) := by
          rw [et, P.2.2.2.2.2]
          have s1 := hR.2.2.2 (R l - 1) (by omega)
          have s2 := sumL_pre (f := fun q => if R q = R l - 1 + 1 then timeV (sH A) (sN A) q (R l - 1) else 0) 8 (show l + 1 ≤ 8 by omega)
          have s3 : sumL (fun q => if R q = R l - 1 + 1 then timeV (sH A) (sN A) q (R l - 1) else 0) (l + 1) = sumL (fun q => if R q = R l - 1 + 1 then timeV (sH A) (sN A) q (R l - 1) else 0) l + timeV (sH A) (sN A) l (R l - 1) := by
            show sumL _ l + (if R l = R l - 1 + 1 then timeV (sH A) (sN A) l (R l - 1) else 0) = _
            rw [if_pos (by omega)]
          omega
        obtain ⟨ν1, p1, p2, ν0, p3, p4, p5⟩ := m_ans hok h N hN (l := l) (i := R l - 1) hlt (show R l - 1 < hCnt (sH A) 2 by omega) hle
        have en : nAns (nMid (sH A) (sN A) R l) l (R l - 1) (timeV (sH A) (nMid (sH A) (sN A) R l) l (R l - 1)) = nMid (sH A) (sN A) R (l + 1) := by
          rw [et]
          exact (if_pos hp).symm
        have p2' : mS (aNow A (nMid (sH A) (sN A) R (l + 1))) ν1 := by rw [← en]; exact p2
        obtain ⟨ν2, r1, r2, r3⟩ := ih (l + 1) ν1 (by omega) (by omega) p2' (fun k hk => by rw [p5 _ _ (by decide), p3.2.1 _ _ (by omega)]; exact hr k hk)
        rw [if_pos (show (0 : Int32) < nI (R l) from nI_lt (a := 0) hp (by omega)), ei, p1, z_bn_sm]
        exact ⟨ν2, r1, r2, fun j => by rw [r3 j, p5 _ _ (by decide), p3.2.1 _ _ (by omega)]⟩
      · rw [if_neg (show ¬ (0 : Int32) < nI (R l) from nI_nlt (a := 0) (by omega) (by decide))]
        have en : nMid (sH A) (sN A) R (l + 1) = nMid (sH A) (sN A) R l := if_neg hp
        refine ih (l + 1) ν (by omega) (by omega) (by rw [en]; exact h) hr
    · have : l = hCnt (sH A) 0 := by omega
      subst this
      rw [if_neg (nI_nlt (Nat.le_refl _) (by omega))]
      exact ⟨ν, rfl, h, fun _ => rfl⟩
theorem m_leftAnew {h : aH} (ok : okH h) (N : Nat) (hN : 20 ≤ N) {ν : z_S} (hH : mH h ν) : ∃ ν', f_X12_leftAnew N ν = some ((), ν') ∧ ν'.2 = ν.2 ∧ ∀ a j, ν'.1 a j = if a = 296 ∧ 1 ≤ j ∧ j < 1 + hCnt h 2 then nI (hHelp h (j - 1) 0) else ν.1 a j := by
  have h3 := ok.2.2.1
  have key : ∀ f i ν1, i ≤ hCnt h 2 → hCnt h 2 - i < f → ν1.2 = ν.2 → (∀ a j, ν1.1 a j = if a = 296 ∧ 1 ≤ j ∧ j < 1 + i then nI (hHelp h (j - 1) 0) else ν.1 a j) → ∃ ν', f_X12_leftAnew_L2 N f (nI i) ν1 = some ((), ν') ∧ ν'.2 = ν.2 ∧ ∀ a j, ν'.1 a j = if a = 296 ∧ 1 ≤ j ∧ j < 1 + hCnt h 2 then nI (hHelp h (j - 1) 0) else ν.1 a j := by
    intro f
    induction f with
    | zero => intro i ν1 h1 h2; omega
    | succ f ih =>
      intro i ν1 h1 h2 h3' h4
      show ∃ ν', b_X12_leftAnew_L2 N (f_X12_leftAnew_L2 N f) (nI i) ν1 = _ ∧ _
      unfold b_X12_leftAnew_L2 f_X12_helperMany
      have hcnt : ν1.1 284 7 = nI (hCnt h 2) := by rw [h4, if_neg (by omega)]; exact hH.1 2 (by decide)
      rw [z_bn_sm, hcnt]
      by_cases hlt : i < hCnt h 2
      · have ek : nI i + 1 = nI (i + 1) := nI_1 i
        have e9 : (9 : Int32) + (3 : Int32) * nI i = nI (9 + 3 * i) := ix2 9 3 i
        have e1 : (1 : Int32) + nI i = nI (1 + i) := ix1 1 i
        have q9 : ν.1 291 (9 + 3 * i) = nI (hHelp h i 0) := hH.2.2.2.2.2.2.2.1 i hlt 0 (by decide)
        rw [if_pos (nI_lt hlt (by omega)), e9, z_in_nI (show 9 + 3 * i < 18 by omega) (by decide), e1, z_in_nI (show 1 + i < 32 by omega) (by decide), z_bd_eq, z_bd_eq, ek, nI_toNat (show 1 + i < 2 ^ 31 by omega), nI_toNat (show 9 + 3 * i < 2 ^ 31 by omega), h4, if_neg (by omega), q9]
        refine ih (i + 1) _ (by omega) (by omega) h3' (fun a j => ?_)
        rw [sI_1, h4]
        by_cases z : a = 296 ∧ j = 1 + i
        · rw [if_pos z, if_pos (by omega), z.2, show 1 + i - 1 = i by omega]
        · rw [if_neg z]
          by_cases y : a = 296 ∧ 1 ≤ j ∧ j < 1 + i
          · rw [if_pos y, if_pos (by omega)]
          · rw [if_neg y, if_neg (by omega)]
      · have : i = hCnt h 2 := by omega
        subst this
        rw [if_neg (nI_nlt (Nat.le_refl _) (by omega))]
        exact ⟨ν1, rfl, h3', h4⟩
  exact key N 0 ν (Nat.zero_le _) (by omega) rfl (fun a j => by rw [if_neg (by omega)])
theorem m_eve {A : aS} {ν : z_S} (ok : okS A) (h : mS A ν) (N : Nat) (hN : 70000 ≤ N) : ∃ R ν', f_X12_eveningGoes N ν = some (nI (cntP R 8), ν') ∧ isBest (hCnt (sH A) 0) (hCnt (sH A) 2) (bearV (sH A) (sN A)) (timeV (sH A) (sN A)) (nLeft (sN A)) (warmW (sH A) (sN A)) R ∧ mS (aNow A (nEve (sH A) (sN A) R)) ν' ∧ ∀ j, ν'.1 297 j = ν.1 297 j := by
  have h8 := ok.2.2.1.1
  have h3 := ok.2.2.1.2.2.1
  obtain ⟨R, ν1, p1, p2, p3, p4, p5⟩ := m_lays ok h N hN
  have h1 : mS (aNow A (nMid (sH A) (sN A) R 0)) ν1 := p2.mS h
  obtain ⟨ν2, q1, q2, q3⟩ := m_eveL ok N (by omega) (nI (cntP R 8)) p3.1 (fun μ43 => z_bd (z_setI μ43 296 0 ((μ43.1 296 0) + (1 : Int32))) fun μ_4 => z_bn (f_X12_leftAnew N μ_4) fun _ μ_5 => some (nI (cntP R 8), μ_5)) N 0 ν1 (Nat.zero_le _) (by omega) h1 p4
  have q1' : f_X12_eveningGoes_L7 N (nI (cntP R 8)) (fun μ43 => z_bd (z_setI μ43 296 0 ((μ43.1 296 0) + (1 : Int32))) fun μ_4 => z_bn (f_X12_leftAnew N μ_4) fun _ μ_5 => some (nI (cntP R 8), μ_5)) N (0 : Int32) ν1 = _ := q1
  have P := nMid_p (sH A) (sN A) R (hCnt (sH A) 0)
  have m9 := q2.2.2.2.2.2.2.2.1
  have day : ν2.1 296 0 = nI (nDay (sN A)) := by
    have := m9.1
    rw [show sN (aNow A (nMid (sH A) (sN A) R (hCnt (sH A) 0))) = nMid (sH A) (sN A) R (hCnt (sH A) 0) from rfl, P.1] at this
    exact this
  have ed : nI (nDay (sN A)) + (1 : Int32) = nI (nDay (sN A) + 1) := nI_1 _
  have hH3 : mH (sH A) (z_setI ν2 296 0 (nI (nDay (sN A) + 1))) := mH_of q2.2.2.2.2.2.2.1 (fun q j a b => by rw [sI_1, if_neg (by omega)]) (fun _ => rfl)
  obtain ⟨ν3, r1, r2, r3⟩ := m_leftAnew ok.2.2.1 N (by omega) hH3
  refine ⟨R, ν3, ?_, p3, ?_, fun j => ?_⟩
  · unfold f_X12_eveningGoes
    rw [p1, z_bn_sm, q1', z_bd_eq, day, ed, r1, z_bn_sm]
  · refine mS_now (A := aNow A (nMid (sH A) (sN A) R (hCnt (sH A) 0))) (n := nEve (sH A) (sN A) R) q2 r2 (fun o j ho => by rw [r3, if_neg (fun z => ho z.1), sI_1, if_neg (fun z => ho z.1)]) ?_
    obtain ⟨g1, g2, g3, g4⟩ := m9
    have hok := nMid_ok ok.2.2.2.1 p3.1.1 (hCnt (sH A) 0) (Nat.le_refl _)
    refine ⟨?_, fun j hj => ?_, fun j hj => ?_, fun j hj => ?_⟩
    · rw [r3, if_neg (by omega), sI_1, if_pos ⟨rfl, rfl⟩]; rfl
    · rw [r3]
      show _ = nI (if j < hCnt (sH A) 2 then hHelp (sH A) j 0 else 0)
      by_cases z : j < hCnt (sH A) 2
      · rw [if_pos (by omega), if_pos z, show 0 + 1 + j - 1 = j by omega]
      · rw [if_neg (by omega), if_neg z, sI_1, if_neg (by omega), g2 j hj]
        exact congrArg nI (hok.2.2.1 j (by omega))
    · rw [r3, if_neg (by omega), sI_1, if_neg (by omega), g3 j hj]
      exact congrArg (fun f => nI (f j)) P.2.1
    · obtain ⟨w1, w2, w3⟩ := g4 j hj
      rw [r3, if_neg (by omega), sI_1, if_neg (by omega), r3, if_neg (by omega), sI_1, if_neg (by omega), r3, if_neg (by omega), sI_1, if_neg (by omega), w1, w2, w3]
      refine ⟨?_, congrArg (fun f => nI (f j)) P.2.2.1, congrArg (fun f => nI (f j)) P.2.2.2.1⟩
      show nI (nDone (nMid (sH A) (sN A) R (hCnt (sH A) 0)) j) = nI (if 0 < R j then R j else nDone (sN A) j)
      rw [P.2.2.2.2.1 j]
      by_cases z : 0 < R j
      · have hj0 : j < hCnt (sH A) 0 := by
          rcases Nat.lt_or_ge j (hCnt (sH A) 0) with y | y
          · exact y
          · rw [p3.1.2.1 j y] at z; omega
        rw [if_pos z, if_pos ⟨hj0, z⟩]
      · rw [if_neg z, if_neg (fun y => z y.2)]
  · rw [r3, if_neg (by omega), sI_1, if_neg (by omega), q3 j, p2.2.1 _ _ (by omega) (by omega)]
/-! the class -/
theorem c_closeL {h : aH} (ok : okH h) (N o s : Nat) (hd : s + 6 ≤ o ∧ 39 ≤ s) {R : Nat → Nat} (hR : ∀ l, R l ≤ 3) (e : z_S → Option (Unit × z_S)) : ∀ f l μ, l ≤ hCnt h 0 → hCnt h 0 - l < f → μ.1 (o + 1) 0 = nI (hCnt h 0) → (∀ k, k < 8 → μ.1 9 k = nI (R k) - 1) → ∃ μ', f_X1_close_L2 N o s e f (nI l) μ = e μ' ∧ μ'.2 = μ.2 ∧ (∀ a j, a ≠ s + 3 → μ'.1 a j = μ.1 a j) ∧ ∀ k, k < 8 → μ'.1 (s + 3) k = if l ≤ k ∧ k < hCnt h 0 ∧ 0 < R k then nI (R k) - 1 else μ.1 (s + 3) k := by
  have h8 := ok.1
  intro f
  induction f with
  | zero => intro l μ h1 h2; omega
  | succ f ih =>
    intro l μ h1 h2 h3 h4
    show ∃ μ', b_X1_close_L2 N o s (f_X1_close_L2 N o s e f) e (nI l) μ = _ ∧ _
    unfold b_X1_close_L2 f_X1_close_B34
    rw [h3]
    by_cases hlt : l < hCnt h 0
    · have ek : nI l + 1 = nI (l + 1) := nI_1 l
      have hRl := hR l
      simp only [z_bd_eq]
      rw [if_pos (nI_lt hlt (by omega)), z_in_nI (show l < 8 by omega) (by decide), z_in_nI (show l < 8 by omega) (by decide), z_in_nI (show l < 8 by omega) (by decide), nI_toNat (by omega), h4 l (by omega), ek]
      by_cases hz : R l = 0
      · rw [if_pos (show nI (R l) - 1 = (-1 : Int32) from (nI_m1 (by omega)).mpr hz)]
        obtain ⟨μ', r1, r2, r3, r4⟩ := ih (l + 1) μ (by omega) (by omega) h3 h4
        refine ⟨μ', r1, r2, r3, fun k hk => ?_⟩
        rw [r4 k hk]
        by_cases y : l + 1 ≤ k ∧ k < hCnt h 0 ∧ 0 < R k
        · rw [if_pos y, if_pos (by omega)]
        · rw [if_neg y, if_neg (fun w => y ⟨by
            by_cases x : k = l
            · rw [x] at w; omega
            · omega, w.2⟩)]
      · rw [if_neg (show ¬ nI (R l) - 1 = (-1 : Int32) from fun z => hz ((nI_m1 (by omega)).mp z))]
        obtain ⟨μ', r1, r2, r3, r4⟩ := ih (l + 1) (z_setI μ (s + 3) l (nI (R l) - 1)) (by omega) (by omega) (by rw [sI_1, if_neg (by omega)]; exact h3) (fun k hk => by rw [sI_1, if_neg (by omega)]; exact h4 k hk)
        refine ⟨μ', r1, r2, fun a j ha => by rw [r3 a j ha, sI_1, if_neg (fun z => ha z.1)], fun k hk => ?_⟩
        rw [r4 k hk, sI_1]
        by_cases y : l + 1 ≤ k ∧ k < hCnt h 0 ∧ 0 < R k
        · rw [if_pos y, if_pos (by omega)]
        · rw [if_neg y]
          by_cases x : k = l
          · rw [if_pos ⟨rfl, x⟩, if_pos ⟨by omega, by omega, by rw [x]; omega⟩, x]
          · rw [if_neg (fun z => x z.2), if_neg (fun w => y ⟨by omega, w.2⟩)]
    · have : l = hCnt h 0 := by omega
      subst this
      rw [if_neg (nI_nlt (Nat.le_refl _) (by omega))]
      exact ⟨μ, rfl, rfl, fun _ _ _ => rfl, fun k hk => (if_neg (by omega)).symm⟩
theorem c_close {h : aH} {n : aN} {o s : Nat} (ok : okH h) (hn : okN h n) (hk : plK o s) (hst : stK s) (hd : s + 6 ≤ o) (N : Nat) (hN : 20 ≤ N) {R : Nat → Nat} (hR : ∀ l, R l ≤ 3) (hz : ∀ l, hCnt h 0 ≤ l → R l = 0) {μ : z_S} (hc : cH o h μ) (hcn : cN s n μ) (h9 : ∀ k, k < 8 → μ.1 9 k = nI (R k) - 1) : ∃ μ', f_X1_close N o s μ = some ((), μ') ∧ cN s (nEve h n R) μ' ∧ μ'.2 = μ.2 ∧ ∀ a j, a < s ∨ s + 6 ≤ a → μ'.1 a j = μ.1 a j := by
  obtain ⟨k1, k2, k3, k4, k5⟩ := hk
  obtain ⟨μ1, p1, p2, p3, p4⟩ := c_closeL ok N o s ⟨hd, k5⟩ hR (fun μ40 => z_bd (z_setI μ40 s 0 ((μ40.1 s 0) + (1 : Int32))) fun μ_2 => z_bn (f_X8_rest N s o μ_2) fun _ μ_3 => some ((), μ_3)) N 0 μ (Nat.zero_le _) (by have := ok.1; omega) (hc.1 0 (by decide)) h9
  have p1' : f_X1_close_L2 N o s (fun μ40 => z_bd (z_setI μ40 s 0 ((μ40.1 s 0) + (1 : Int32))) fun μ_2 => z_bn (f_X8_rest N s o μ_2) fun _ μ_3 => some ((), μ_3)) N (0 : Int32) μ = _ := p1
  have ed : nI (nDay n) + (1 : Int32) = nI (nDay n + 1) := nI_1 _
  have day : μ1.1 s 0 = nI (nDay n) := by rw [p3 _ _ (by omega)]; exact hcn.1
  have hc2 : cH o h (z_setI μ1 s 0 (nI (nDay n + 1))) := cH_of hc ⟨ok.1, ok.2.1, ok.2.2.1⟩ (fun q j a b => by rw [sI_1, if_neg (by omega), p3 _ _ (by omega)])
  obtain ⟨μ2, q1, q2, q3⟩ := c_rest N (by omega) hst k1 (Or.inl hd) ok hc2
  refine ⟨μ2, ?_, ⟨?_, fun k hk => ?_, fun k hk => ?_, fun k hk => ?_, fun k hk => ?_, fun k hk => ?_⟩, ?_, fun a j ha => ?_⟩
  · unfold f_X1_close
    rw [z_ko_ok k1, z_ko_ok k2, p1', z_bd_eq, day, ed, q1, z_bn_sm]
  · rw [q3, if_neg (by omega), sI_1, if_pos ⟨rfl, rfl⟩]; rfl
  · rw [q3, if_pos ⟨rfl, hk⟩]; rfl
  · rw [q3, if_neg (by omega), sI_1, if_neg (by omega), p3 _ _ (by omega)]; exact hcn.2.2.1 k hk
  · rw [q3, if_neg (by omega), sI_1, if_neg (by omega), p4 k hk]
    show _ = nI (if 0 < R k then R k else nDone n k) - 1
    by_cases z : 0 < R k
    · have hj0 : k < hCnt h 0 := by
        rcases Nat.lt_or_ge k (hCnt h 0) with y | y
        · exact y
        · rw [hz k y] at z; omega
      rw [if_pos z, if_pos ⟨Nat.zero_le _, hj0, z⟩]
    · rw [if_neg z, if_neg (fun y => z y.2.2)]; exact hcn.2.2.2.1 k hk
  · rw [q3, if_neg (by omega), sI_1, if_neg (by omega), p3 _ _ (by omega)]; exact hcn.2.2.2.2.1 k hk
  · rw [q3, if_neg (by omega), sI_1, if_neg (by omega), p3 _ _ (by omega)]; exact hcn.2.2.2.2.2 k hk
  · rw [q2]
    show μ1.2 = _
    rw [p2]
  · rw [q3, if_neg (by omega), sI_1, if_neg (by omega), p3 _ _ (by omega)]
theorem st39 : stK 39 := ⟨by decide +kernel, by decide +kernel, by decide +kernel, by decide +kernel, by decide +kernel, by decide +kernel⟩
