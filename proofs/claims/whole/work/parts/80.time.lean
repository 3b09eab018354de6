/-! times and warmth -/
theorem run_len {V : Nat → Int} {Wf : Int → Int} : ∀ (cs : List Int32) (st : List Int) (m : Nat), cRun 64 st.length cs = some m → (∀ c ∈ cs, -6 ≤ c ∨ (-16 ≤ c ∧ c ≤ -11)) → ∃ fin, runV V Wf st cs = some fin ∧ fin.length = m := by
  intro cs
  induction cs with
  | nil => intro st m h _; cases h; exact ⟨st, rfl, rfl⟩
  | cons c cs ih =>
    intro st m h hc
    have key : ∀ d', cStep st.length c = some d' → ∃ st', stepV V Wf st c = some st' ∧ st'.length = d' := by
      intro d' hd
      unfold cStep at hd
      unfold stepV
      by_cases c1 : 0 ≤ c
      · have c2 : -10 ≤ c := by rw [Int32.le_iff_toInt_le] at c1 ⊢; rw [Int32.toInt_zero] at c1; rw [show (-10 : Int32).toInt = -10 from rfl]; omega
        rw [if_pos c2] at hd
        cases hd
        rw [if_pos c1]
        exact ⟨_, rfl, rfl⟩
      · rw [if_neg c1]
        by_cases c2 : -10 ≤ c
        · rw [if_pos c2] at hd
          cases hd
          rw [if_pos c2]
          exact ⟨_, rfl, rfl⟩
        · rw [if_neg c2] at hd ⊢
          have c3 : -16 ≤ c ∧ c ≤ -11 := by
            rcases hc c (by simp) with q | q
            · exfalso
              apply c2
              rw [Int32.le_iff_toInt_le] at q ⊢
              rw [show (-10 : Int32).toInt = -10 from rfl]
              rw [show (-6 : Int32).toInt = -6 from rfl] at q
              omega
            · exact q
          have q1 := Int32.le_iff_toInt_le.mp c3.1
          have q2 := Int32.le_iff_toInt_le.mp c3.2
          rw [show (-16 : Int32).toInt = -16 from rfl] at q1
          rw [show (-11 : Int32).toInt = -11 from rfl] at q2
          rw [if_neg (by rintro (z | z) <;> rw [z] at q1 <;> exact absurd q1 (by decide)), if_pos (show -21 ≤ c by rw [Int32.le_iff_toInt_le, show (-21 : Int32).toInt = -21 from rfl]; omega)] at hd
          rw [if_pos (show -22 < c by rw [Int32.lt_iff_toInt_lt, show (-22 : Int32).toInt = -22 from rfl]; omega)]
          by_cases h2 : 2 ≤ st.length
          · rw [if_pos h2] at hd
            cases hd
            match st, h2 with
            | b :: a :: r, _ =>
              have hj : ∃ v, joinV c a b = some v := by
                have hcs : c = -11 ∨ c = -12 ∨ c = -13 ∨ c = -14 ∨ c = -15 ∨ c = -16 := by
                  have : c.toInt = -11 ∨ c.toInt = -12 ∨ c.toInt = -13 ∨ c.toInt = -14 ∨ c.toInt = -15 ∨ c.toInt = -16 := by omega
                  rcases this with q | q | q | q | q | q
                  · exact Or.inl (Int32.toInt_inj.mp q)
                  · exact Or.inr (Or.inl (Int32.toInt_inj.mp q))
                  · exact Or.inr (Or.inr (Or.inl (Int32.toInt_inj.mp q)))
                  · exact Or.inr (Or.inr (Or.inr (Or.inl (Int32.toInt_inj.mp q))))
                  · exact Or.inr (Or.inr (Or.inr (Or.inr (Or.inl (Int32.toInt_inj.mp q)))))
                  · exact Or.inr (Or.inr (Or.inr (Or.inr (Or.inr (Int32.toInt_inj.mp q)))))
                rcases hcs with rfl | rfl | rfl | rfl | rfl | rfl
                · exact ⟨_, rfl⟩
                · exact ⟨_, rfl⟩
                · exact ⟨_, rfl⟩
                · exact ⟨_, rfl⟩
                · exact ⟨_, rfl⟩
                · exact ⟨_, rfl⟩
              obtain ⟨v, hv⟩ := hj
              refine ⟨v :: r, ?_, by simp⟩
              show (match joinV c a b with | some v => some (v :: r) | none => none) = _
              rw [hv]
          · rw [if_neg h2] at hd
            cases hd
    unfold cRun at h
    cases hs : cStep st.length c with
    | none => rw [hs] at h; cases h
    | some d' =>
      rw [hs] at h
      obtain ⟨st', p1, p2⟩ := key d' hs
      by_cases hd : d' ≤ 64
      · have h' : cRun 64 d' cs = some m := by
          have h2 : (if d' ≤ 64 then cRun 64 d' cs else none) = some m := h
          rw [if_pos hd] at h2; exact h2
        rw [← p2] at h'
        obtain ⟨fin, q1, q2⟩ := ih st' m h' (fun c' hc' => hc c' (by simp [hc']))
        refine ⟨fin, ?_, q2⟩
        unfold runV
        rw [p1]
        show (if st'.length ≤ 64 then runV V Wf st' cs else none) = _
        rw [if_pos (by omega)]
        exact q1
      · have h2 : (if d' ≤ 64 then cRun 64 d' cs else none) = some m := h
        rw [if_neg hd] at h2; cases h2
def formC (h : aH) (f : Nat) : List Int32 := (hForm h f).getD (formD f)
/-- what a formula tells of a letter and a helper -/
def formV (h : aH) (n : aN) (l i f : Nat) : Int := match runV (envV h n l (hHelp h i 1 : Int)) (wishF (envW h l)) [] (formC h f) with
  | some [v] => v
  | _ => 0
theorem formC_ok {h : aH} (ok : okH h) {f : Nat} : (∀ c ∈ formC h f, c.toInt ≤ 9999) ∧ (∀ c ∈ formC h f, -6 ≤ c ∨ (-16 ≤ c ∧ c ≤ -11)) ∧ cRun 64 0 (formC h f) = some 1 := by
  unfold formC
  cases hf : hForm h f with
  | none =>
    show (∀ c ∈ formD f, c.toInt ≤ 9999) ∧ (∀ c ∈ formD f, -6 ≤ c ∨ (-16 ≤ c ∧ c ≤ -11)) ∧ cRun 64 0 (formD f) = some 1
    unfold formD
    by_cases f0 : f = 0
    · rw [if_pos f0]; decide
    · rw [if_neg f0]; decide
  | some cs =>
    obtain ⟨⟨k1, k2⟩, k3⟩ := ok.2.2.2.2.2.2.2.2.2.2.2.2.2.2.2.2.2.2.2.2 f cs hf
    refine ⟨fun c hc => ?_, k3, k1⟩
    have := Int32.le_iff_toInt_le.mp (k2 c hc).2
    rw [show (9999 : Int32).toInt = 9999 from rfl] at this
    exact this
theorem formV_run {h : aH} (ok : okH h) (n : aN) (l i f : Nat) : runV (envV h n l (hHelp h i 1 : Int)) (wishF (envW h l)) [] (formC h f) = some [formV h n l i f] := by
  obtain ⟨-, k2, k3⟩ := formC_ok ok (f := f)
  obtain ⟨fin, p1, p2⟩ := run_len (V := envV h n l (hHelp h i 1 : Int)) (Wf := wishF (envW h l)) (formC h f) [] 1 k3 k2
  unfold formV
  rw [p1]
  match fin, p2 with
  | [v], _ => rfl
def timeV (h : aH) (n : aN) (l i : Nat) : Nat := if formV h n l i 0 < 1 then 1 else if 999 < formV h n l i 0 then 999 else (formV h n l i 0).toNat
def warmV (h : aH) (n : aN) (l i : Nat) : Int := formV h n l i 1
theorem timeV_bd (h : aH) (n : aN) (l i : Nat) : 1 ≤ timeV h n l i ∧ timeV h n l i ≤ 999 := by
  unfold timeV
  split
  · omega
  · split <;> omega
/-- only the machine's own objects have changed -/
def cFr (μ μ' : z_S) : Prop := μ'.2 = μ.2 ∧ ∀ o j, ¬ (4 ≤ o ∧ o ≤ 7) → μ'.1 o j = μ.1 o j
theorem cFr.rf (μ : z_S) : cFr μ μ := ⟨rfl, fun _ _ _ => rfl⟩
theorem cFr.tr {μ μ1 μ2 : z_S} (h : cFr μ μ1) (g : cFr μ1 μ2) : cFr μ μ2 := ⟨g.1.trans h.1, fun o j ho => (g.2 o j ho).trans (h.2 o j ho)⟩
theorem cFr.cS {A : aS} {μ μ' : z_S} (ok : okS A) (h : cS A μ) (g : cFr μ μ') : cS A μ' := cS_scr ok h (by rw [g.1]) (fun o j ho => g.2 o j (by unfold cRel at ho; omega))
theorem cFr.cH {o : Nat} {h : aH} {μ μ' : z_S} (ok : okH h) (ho : 56 ≤ o) (hc : cH o h μ) (g : cFr μ μ') : cH o h μ' := cH_of hc ⟨ok.1, ok.2.1, ok.2.2.1⟩ (fun q j h1 h2 => g.2 q j (by omega))
theorem cFr.cN {s : Nat} {n : aN} {μ μ' : z_S} (hs : 39 ≤ s) (hc : cN s n μ) (g : cFr μ μ') : cN s n μ' := cN_of hc (fun q j h1 h2 => g.2 q j (by omega))
def aBase (h : aH) (n : aN) : aS := ((0, fun _ => 0), (fun _ => 0), (0, 0), h, n, [], [], [], 0)
theorem okBase {h : aH} {n : aN} (ok : okH h) (hn : okN h n) : okS (aBase h n) := ⟨Nat.zero_le _, fun _ => Nat.zero_lt_succ 255, ok, hn, Nat.zero_le _, fun _ hx => absurd hx List.not_mem_nil, Nat.zero_le _, fun _ hx => absurd hx List.not_mem_nil, Nat.zero_le _, fun _ hx => absurd hx List.not_mem_nil, Nat.two_pow_pos 31⟩
theorem c_lookAt {h : aH} {n : aN} {μ : z_S} {o s : Nat} (ok : okH h) (hn : okN h n) (ho : z_kw true o = (2, 0)) (hs : z_kw true s = (8, 0)) (ho1 : 56 ≤ o) (hs1 : 39 ≤ s) (hc : cH o h μ) (hcn : cN s n μ) (N : Nat) (hN : 5 ≤ N) {l : Nat} (hl : l < hCnt h 0) : ∃ μ', f_X4_lookAt N o s (nI l) μ = some ((), μ') ∧ cFr μ μ' ∧ (∀ g, g < 4 → μ'.1 6 g = iI (envW h l g)) ∧ ∀ hand k, k < 10 → k ≠ 3 → μ'.1 5 k = iI (envV h n l hand k) := by
  have h8 := ok.1
  have el : (nI l).toNatClampNeg = l := nI_toNat (by omega)
  have zi : ∀ X : Option (Unit × z_S), z_in (nI l) 8 X = X := fun X => z_in_nI (by omega) (by decide) X
  have e0 : (0 : Int32).toNatClampNeg = 0 := rfl
  have e4 : (4 : Int32).toNatClampNeg = 4 := rfl
  generalize hμ1 : z_cpS μ (o + 11 + l) 0 6 0 4 = μ1
  have o1 : ∀ a j, a ≠ 6 → μ1.1 a j = μ.1 a j := fun a j ha => by rw [← hμ1, cpS_1, if_neg (fun z => ha z.1)]
  have w1 : ∀ g, g < 4 → μ1.1 6 g = iI (envW h l g) := fun g hg => by
    rw [← hμ1, cpS_1, if_pos ⟨rfl, by omega, by omega⟩, show 0 + (g - 0) = g by omega, hc.2.2.2.2.1 l (by omega) g hg, nI_iI]; rfl
  have b1 : μ1.2 = μ.2 := by rw [← hμ1]; rfl
  have q := hc.2.2.1 l hl
  generalize hμ4 : z_setI (z_setI (z_setI μ1 5 0 (nI (hMail h l 0))) 5 1 (nI (hMail h l 1))) 5 2 (nI (hMail h l 2)) = μ4
  have o4 : ∀ a j, a ≠ 5 → μ4.1 a j = μ1.1 a j := fun a j ha => by rw [← hμ4, sI_1, if_neg (fun z => ha z.1), sI_1, if_neg (fun z => ha z.1), sI_1, if_neg (fun z => ha z.1)]
  have c4 : cH o h μ4 := cH_of hc ⟨ok.1, ok.2.1, ok.2.2.1⟩ (fun q j h1 h2 => by rw [o4 _ _ (by omega), o1 _ _ (by omega)])
  have n4 : cN s n μ4 := cN_of hcn (fun q j h1 h2 => by rw [o4 _ _ (by omega), o1 _ _ (by omega)])
  have ew : f_X2_allWishes N o (nI l) μ4 = some (nI (wAll h l (hCnt h 1)), μ4) := by
    exact c_wishes (okBase ok hn) o ho c4 N hN (show l < 8 by omega)
  have d9 : nI (nDone n l) - (1 : Int32) + (1 : Int32) = nI (nDone n l) := nI_back _
  have g9 : nI (nGift n l) - (1 : Int32) + (1 : Int32) = nI (nGift n l) := nI_back _
  generalize hμ7 : z_setI (z_setI (z_setI μ4 5 4 (nI (wAll h l (hCnt h 1)))) 5 5 (nI (nDay n))) 5 6 (nI l) = μ7
  have o7 : ∀ a j, a ≠ 5 → μ7.1 a j = μ4.1 a j := fun a j ha => by rw [← hμ7, sI_1, if_neg (fun z => ha z.1), sI_1, if_neg (fun z => ha z.1), sI_1, if_neg (fun z => ha z.1)]
  have n7 : cN s n μ7 := cN_of n4 (fun q j h1 h2 => o7 _ _ (by omega))
  refine ⟨z_setI (z_setI (z_setI μ7 5 7 (nI (nSheet n l))) 5 8 (nI (nDone n l))) 5 9 (nI (nGift n l)), ?_, ⟨?_, fun a j ha => ?_⟩, fun g hg => ?_, fun hand k hk h3 => ?_⟩
  · unfold f_X4_lookAt
    rw [z_ko_ok ho, z_ko_ok hs]
    simp only [z_bd_eq, zi, el, e0, e4]
    rw [show z_cpin (0 : Int32) (0 : Int32) (4 : Int32) 4 4 = fun (X : Option (Unit × z_S)) => X from rfl]
    rw [hμ1]
    have r1 : μ1.1 (o + 6) l = nI (hMail h l 0) := by rw [o1 _ _ (by omega)]; exact q.1
    rw [r1]
    have r2 : (z_setI μ1 5 0 (nI (hMail h l 0))).1 (o + 7) l = nI (hMail h l 1) := by rw [sI_1, if_neg (by omega), o1 _ _ (by omega)]; exact q.2.1
    rw [r2]
    have r3 : (z_setI (z_setI μ1 5 0 (nI (hMail h l 0))) 5 1 (nI (hMail h l 1))).1 (o + 8) l = nI (hMail h l 2) := by rw [sI_1, if_neg (by omega), sI_1, if_neg (by omega), o1 _ _ (by omega)]; exact q.2.2
    rw [r3, hμ4, ew, z_bn_sm]
    have r5 : (z_setI μ4 5 4 (nI (wAll h l (hCnt h 1)))).1 s 0 = nI (nDay n) := by rw [sI_1, if_neg (by omega)]; exact n4.1
    rw [r5, hμ7]
    have r7 : μ7.1 (s + 4) l = nI (nSheet n l) := n7.2.2.2.2.1 l (by omega)
    rw [r7]
    have r8 : (z_setI μ7 5 7 (nI (nSheet n l))).1 (s + 3) l = nI (nDone n l) - 1 := by rw [sI_1, if_neg (by omega)]; exact n7.2.2.2.1 l (by omega)
    rw [r8, d9]
    have r9 : (z_setI (z_setI μ7 5 7 (nI (nSheet n l))) 5 8 (nI (nDone n l))).1 (s + 5) l = nI (nGift n l) - 1 := by rw [sI_1, if_neg (by omega), sI_1, if_neg (by omega)]; exact n7.2.2.2.2.2 l (by omega)
    rw [r9, g9]
  · rw [sI_2, sI_2, sI_2, ← hμ7, sI_2, sI_2, sI_2, ← hμ4, sI_2, sI_2, sI_2]; exact b1
  · rw [sI_1, if_neg (by omega), sI_1, if_neg (by omega), sI_1, if_neg (by omega), o7 _ _ (by omega), o4 _ _ (by omega), o1 _ _ (by omega)]
  · rw [sI_1, if_neg (by omega), sI_1, if_neg (by omega), sI_1, if_neg (by omega), o7 _ _ (by omega), o4 _ _ (by omega)]; exact w1 g hg
  · have hks : k = 0 ∨ k = 1 ∨ k = 2 ∨ k = 4 ∨ k = 5 ∨ k = 6 ∨ k = 7 ∨ k = 8 ∨ k = 9 := by omega
    have low : k < 7 → (z_setI (z_setI (z_setI μ7 5 7 (nI (nSheet n l))) 5 8 (nI (nDone n l))) 5 9 (nI (nGift n l))).1 5 k = μ7.1 5 k := fun z => by rw [sI_1, if_neg (by omega), sI_1, if_neg (by omega), sI_1, if_neg (by omega)]
    have low4 : k < 4 → μ7.1 5 k = μ4.1 5 k := fun z => by rw [← hμ7, sI_1, if_neg (by omega), sI_1, if_neg (by omega), sI_1, if_neg (by omega)]
    rcases hks with rfl | rfl | rfl | rfl | rfl | rfl | rfl | rfl | rfl
    · rw [low (by omega), low4 (by omega), ← hμ4, sI_1, if_neg (by omega), sI_1, if_neg (by omega), sI_1, if_pos ⟨rfl, rfl⟩, nI_iI]; rfl
    · rw [low (by omega), low4 (by omega), ← hμ4, sI_1, if_neg (by omega), sI_1, if_pos ⟨rfl, rfl⟩, nI_iI]; rfl
    · rw [low (by omega), low4 (by omega), ← hμ4, sI_1, if_pos ⟨rfl, rfl⟩, nI_iI]; rfl
    · rw [low (by omega), ← hμ7, sI_1, if_neg (by omega), sI_1, if_neg (by omega), sI_1, if_pos ⟨rfl, rfl⟩, nI_iI]; rfl
    · rw [low (by omega), ← hμ7, sI_1, if_neg (by omega), sI_1, if_pos ⟨rfl, rfl⟩, nI_iI]; rfl
    · rw [low (by omega), ← hμ7, sI_1, if_pos ⟨rfl, rfl⟩, nI_iI]; rfl
    · rw [sI_1, if_neg (by omega), sI_1, if_neg (by omega), sI_1, if_pos ⟨rfl, rfl⟩, nI_iI]; rfl
    · rw [sI_1, if_neg (by omega), sI_1, if_pos ⟨rfl, rfl⟩, nI_iI]; rfl
    · rw [sI_1, if_pos ⟨rfl, rfl⟩, nI_iI]; rfl
theorem c_form {h : aH} {n : aN} {μ : z_S} {o s : Nat} (ok : okH h) (hn : okN h n) (ho : z_kw true o = (2, 0)) (hs : z_kw true s = (8, 0)) (hko : z_kw true (o + 32) = (0, 0)) (ho1 : 56 ≤ o) (hs1 : 39 ≤ s) (hc : cH o h μ) (hcn : cN s n μ) (N : Nat) (hN : 1700 ≤ N) {l i f : Nat} (hl : l < hCnt h 0) (hi : i < hCnt h 2) (hf : f < 2) : ∃ μ1 μ', f_X4_lookAt N o s (nI l) μ = some ((), μ1) ∧ μ1.1 (o + 30) i = nI (hHelp h i 1) ∧ f_X4_run N (o + 32) ((z_setI μ1 5 3 (nI (hHelp h i 1))).1 (o + 34) f) ((z_setI μ1 5 3 (nI (hHelp h i 1))).1 (o + 35) f) (z_setI μ1 5 3 (nI (hHelp h i 1))) = some (iI (formV h n l i f), μ') ∧ bdM (formV h n l i f) ∧ cFr μ μ' := by
  have h8 := ok.1
  have h9 := (ok.2.2.2.2.2.2.2.2.2.2.2.2.2.2.2.2.2.1 i).2.2.1
  obtain ⟨μ1, p1, p2, p3, p4⟩ := c_lookAt ok hn ho hs ho1 hs1 hc hcn N (by omega) hl
  have c1 := p2.cH ok ho1 hc
  generalize hμ2 : z_setI μ1 5 3 (nI (hHelp h i 1)) = μ2
  have f2 : cFr μ1 μ2 := ⟨by rw [← hμ2]; rfl, fun o j hh => by rw [← hμ2, sI_1, if_neg (by omega)]⟩
  have c2 := f2.cH ok ho1 c1
  have env : cEnv (envV h n l (hHelp h i 1 : Int)) (envW h l) μ2 := by
    refine ⟨fun k hk => ?_, fun g hg => ?_⟩
    · rw [← hμ2, sI_1]
      by_cases h3 : k = 3
      · rw [if_pos ⟨rfl, h3⟩, h3, nI_iI]; rfl
      · rw [if_neg (fun z => h3 z.2)]; exact p4 _ k hk h3
    · rw [← hμ2, sI_1, if_neg (by omega)]; exact p3 g hg
  obtain ⟨a, b, g1, g2, g3, g4, g5⟩ := c2.2.2.2.2.2.2.2.2.2.2 f hf
  have g4' : b = a + (formC h f).length := g4
  obtain ⟨k1, k2, k3⟩ := formC_ok ok (f := f)
  obtain ⟨μ', r1, r2, r3, r4⟩ := c_run N hko (by omega) (fun k _ => envV_bd ok hn (show l < 8 by omega) (bd_nat (by omega)) k) (fun g _ => envW_bd ok l g) env (cs := formC h f) (a := a) (v := formV h n l i f) (by omega) (by omega) k1 g5 (formV_run ok n l i f)
  refine ⟨μ1, μ', p1, (c1.2.2.2.2.2.2.2.1 i hi).2.1, ?_, r2, p2.tr (f2.tr ⟨r3, fun o j hh => r4 o j (by omega) (by omega)⟩)⟩
  rw [hμ2, g1, g2, g4']
  exact r1
