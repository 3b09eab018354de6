theorem c_102 {t : Nat → Nat} {n q : Nat} (N : Nat) (hN : 1700 ≤ N) {μ : z_S} (hx : cX t n μ) (hq : q ≤ n) (h5 : μ.1 1 5 = nI q) (g : Bool) : ∃ μ', f_X10_next_B102 N (if g = true then 1 else 0) μ = some ((), μ') ∧ xFr μ μ' ∧ cT t n q g μ' := by
  have hn := hx.1
  unfold f_X10_next_B102
  rw [h5, hx.2.1]
  have key : ∀ s0, ∃ μ5, μ5 = z_setI (z_setI (z_setI μ 1 6 (-1 : Int32)) 1 7 (-1 : Int32)) 1 9 (nI q) ∧ xFr μ μ5 ∧ μ5.1 1 5 = nI q ∧ μ5.1 1 6 = -1 ∧ μ5.1 1 7 = -1 ∧ μ5.1 1 9 = nI q ∧ f_X10_next_B127 N (if g = true then 1 else 0) s0 μ = (if s0 = (-1 : Int32) then (z_bd (z_setI μ5 1 4 (0 : Int32)) fun μ_6 => some ((), μ_6)) else if s0 < (97 : Int32) then (f_X10_next_B207 N (if g = true then 1 else 0) s0 μ5) else if (122 : Int32) < s0 then (f_X10_next_B207 N (if g = true then 1 else 0) s0 μ5) else z_bn (f_X10_readWord N μ5) fun _ μ_12 => if (if g = true then (1 : Int32) else 0) = 0 then (f_X10_next_B185 N (if g = true then 1 else 0) (1 : Int32) μ_12) else f_X10_next_B185 N (if g = true then 1 else 0) (4 : Int32) μ_12) := fun s0 => by
    refine ⟨_, rfl, (xFr.set μ (j := 6) (-1) (by omega)).tr ((xFr.set _ (j := 7) (-1) (by omega)).tr (xFr.set _ (j := 9) (nI q) (by omega))), ?_, ?_, ?_, ?_, ?_⟩
    · rw [sI_1, if_neg (by omega), sI_1, if_neg (by omega), sI_1, if_neg (by omega)]; exact h5
    · rw [sI_1, if_neg (by omega), sI_1, if_neg (by omega), sI_1, if_pos ⟨rfl, rfl⟩]
    · rw [sI_1, if_neg (by omega), sI_1, if_pos ⟨rfl, rfl⟩]
    · rw [sI_1, if_pos ⟨rfl, rfl⟩]
    · unfold f_X10_next_B127
      simp only [z_bd_eq]
      rw [show (z_setI (z_setI μ 1 6 (-1 : Int32)) 1 7 (-1 : Int32)).1 1 5 = nI q by rw [sI_1, if_neg (by omega), sI_1, if_neg (by omega)]; exact h5]
  by_cases hlt : q < n
  · have hb := hx.2.2.2.1 q
    rw [if_pos (nI_lt hlt (by omega)), z_in_nI (show q < 1600 by omega) (by decide), nI_toNat (show q < 2 ^ 31 by omega), hx.2.2.1 q]
    obtain ⟨μ5, -, fr, m5, m6, m7, m9, e⟩ := key (nI (t q))
    have hx5 := fr.cX hx
    rw [e, if_neg (nI_nm1 (by omega))]
    have sgn : ¬ ltB t q = true → ¬ dgB t q = true → ∃ μ', f_X10_next_B239 N (nI (t q)) μ5 = some ((), μ') ∧ xFr μ μ' ∧ cT t n q g μ' := fun nl nd => by
      have eE : tkE t n q = q + 1 := by unfold tkE; rw [if_neg (by omega), if_neg nl, if_neg nd]
      have eK : tkK t n q g = 3 := by unfold tkK; rw [if_neg (by omega), if_neg nl, if_neg nd]
      have eS : tkS t n q = nI (t q) := by unfold tkS; rw [if_neg (by omega), if_neg nl, if_neg nd]
      have eW : tkW t n q g = -1 := by unfold tkW; rw [if_neg (by omega), if_neg nl]
      unfold f_X10_next_B239
      simp only [z_bd_eq]
      refine ⟨_, rfl, fr.tr ((xFr.set μ5 (j := 4) 3 (by omega)).tr ((xFr.set _ (j := 6) (nI (t q)) (by omega)).tr (xFr.set _ (j := 9) _ (by omega)))), ?_, ?_, ?_, ?_, ?_, fun z => by rw [eK] at z; omega, fun z => by rw [eK] at z; omega⟩
      · rw [sI_1, if_neg (by omega), sI_1, if_neg (by omega), sI_1, if_neg (by omega)]; exact m5
      · rw [sI_1, if_pos ⟨rfl, rfl⟩, sI_1, if_neg (by omega), sI_1, if_neg (by omega), m9, eE]; exact nI_1 q
      · rw [sI_1, if_neg (by omega), sI_1, if_neg (by omega), sI_1, if_pos ⟨rfl, rfl⟩, eK]; rfl
      · rw [sI_1, if_neg (by omega), sI_1, if_pos ⟨rfl, rfl⟩, eS]
      · rw [sI_1, if_neg (by omega), sI_1, if_neg (by omega), sI_1, if_neg (by omega), eW]; exact m7
    have dig : ¬ ltB t q = true → ∃ μ', f_X10_next_B207 N (if g = true then 1 else 0) (nI (t q)) μ5 = some ((), μ') ∧ xFr μ μ' ∧ cT t n q g μ' := fun nl => by
      unfold f_X10_next_B207
      by_cases c1 : t q < 48
      · rw [if_pos (show nI (t q) < (48 : Int32) from nI_lt (b := 48) c1 (by decide))]
        exact sgn nl (fun z => by have := dgB_t.mp z; omega)
      · rw [if_neg (show ¬ nI (t q) < (48 : Int32) from nI_nlt (b := 48) (by omega) (by omega))]
        by_cases c2 : 57 < t q
        · rw [if_pos (show (57 : Int32) < nI (t q) from nI_lt (a := 57) c2 (by omega))]
          exact sgn nl (fun z => by have := dgB_t.mp z; omega)
        · rw [if_neg (show ¬ (57 : Int32) < nI (t q) from nI_nlt (a := 57) (by omega) (by decide))]
          have cd : dgB t q = true := dgB_t.mpr ⟨by omega, by omega⟩
          have eE : tkE t n q = endE n (dgB t) q := by unfold tkE; rw [if_neg (by omega), if_neg nl, if_pos cd]
          have eK : tkK t n q g = if g = true then 4 else 2 := by unfold tkK; rw [if_neg (by omega), if_neg nl, if_pos cd]
          have eS : tkS t n q = -1 := by unfold tkS; rw [if_neg (by omega), if_neg nl, if_pos cd]
          have eW : tkW t n q g = -1 := by unfold tkW; rw [if_neg (by omega), if_neg nl]
          have fr8 := xFr.set μ5 (j := 8) 0 (by omega)
          obtain ⟨μ6, r1, r2, r3, r4, r5⟩ := c_digL (t := t) (n := n) (q := q) N N q (z_setI μ5 1 8 0) (Nat.le_refl _) (by omega) (by omega) (fr8.cX hx5) (by rw [sI_1, if_neg (by omega)]; exact m5) (by rw [sI_1, if_neg (by omega)]; exact m9) (fun _ => by rw [sI_1, if_pos ⟨rfl, rfl⟩, Nat.sub_self]; rfl) (fun k a b => by omega)
          have q5 : μ6.1 1 5 = nI q := by rw [r5 5 (by decide) (by decide), sI_1, if_neg (by omega)]; exact m5
          have q6 : μ6.1 1 6 = -1 := by rw [r5 6 (by decide) (by decide), sI_1, if_neg (by omega)]; exact m6
          have q7 : μ6.1 1 7 = -1 := by rw [r5 7 (by decide) (by decide), sI_1, if_neg (by omega)]; exact m7
          unfold f_X10_readDigits
          rw [z_bd_eq, r1, z_bn_sm]
          unfold f_X10_next_B233
          simp only [z_bd_eq]
          have fin : ∀ k : Nat, tkK t n q g = k → ∃ μ', some ((), z_setI μ6 1 4 (nI k)) = some ((), μ') ∧ xFr μ μ' ∧ cT t n q g μ' := fun k hk => by
            refine ⟨_, rfl, fr.tr (fr8.tr (r2.tr (xFr.set μ6 (j := 4) _ (by omega)))), ?_, ?_, ?_, ?_, ?_, fun z => ?_, fun _ z => ?_⟩
            · rw [sI_1, if_neg (by omega)]; exact q5
            · rw [sI_1, if_neg (by omega), eE]; exact r3
            · rw [sI_1, if_pos ⟨rfl, rfl⟩, hk]
            · rw [sI_1, if_neg (by omega), eS]; exact q6
            · rw [sI_1, if_neg (by omega), eW]; exact q7
            · rw [eK] at z
              split at z <;> omega
            · rw [sI_1, if_neg (by omega), eE]
              rw [eE] at z
              exact r4 z
          cases g with
          | true => exact fin 4 eK
          | false => exact fin 2 eK
    by_cases c1 : t q < 97
    · rw [if_pos (show nI (t q) < (97 : Int32) from nI_lt (b := 97) c1 (by decide))]
      exact dig (fun z => by have := ltB_t.mp z; omega)
    · rw [if_neg (show ¬ nI (t q) < (97 : Int32) from nI_nlt (b := 97) (by omega) (by omega))]
      by_cases c2 : 122 < t q
      · rw [if_pos (show (122 : Int32) < nI (t q) from nI_lt (a := 122) c2 (by omega))]
        exact dig (fun z => by have := ltB_t.mp z; omega)
      · rw [if_neg (show ¬ (122 : Int32) < nI (t q) from nI_nlt (a := 122) (by omega) (by decide))]
        have cl : ltB t q = true := ltB_t.mpr ⟨by omega, by omega⟩
        have eE : tkE t n q = endE n (ltB t) q := by unfold tkE; rw [if_neg (by omega), if_pos cl]
        have eK : tkK t n q g = if g = true then 4 else 1 := by unfold tkK; rw [if_neg (by omega), if_pos cl]
        have eS : tkS t n q = -1 := by unfold tkS; rw [if_neg (by omega), if_pos cl]
        have eW : tkW t n q g = if g = true then -1 else wix (lts t q (tkE t n q - q)) := by unfold tkW; rw [if_neg (by omega), if_pos cl]
        obtain ⟨μ6, r1, r2, r3, r4, r5, r6⟩ := c_word (q := q) N hN hx5 hlt cl m5 m9 m7
        rw [r1, z_bn_sm]
        unfold f_X10_next_B185 f_X10_next_B201
        simp only [z_bd_eq]
        have fin : ∀ (k : Nat) x, tkK t n q g = k → x = tkW t n q g → ∃ μ', some ((), z_setI (z_setI μ6 1 4 (nI k)) 1 7 x) = some ((), μ') ∧ xFr μ μ' ∧ cT t n q g μ' := fun k x hk hxw => by
          refine ⟨_, rfl, fr.tr (r2.tr ((xFr.set μ6 (j := 4) _ (by omega)).tr (xFr.set _ (j := 7) _ (by omega)))), ?_, ?_, ?_, ?_, ?_, fun _ z => ?_, fun z => ?_⟩
          · rw [sI_1, if_neg (by omega), sI_1, if_neg (by omega), r6 5 (by decide) (by decide) (by decide)]; exact m5
          · rw [sI_1, if_neg (by omega), sI_1, if_neg (by omega), eE]; exact r3
          · rw [sI_1, if_neg (by omega), sI_1, if_pos ⟨rfl, rfl⟩, hk]
          · rw [sI_1, if_neg (by omega), sI_1, if_neg (by omega), eS, r6 6 (by decide) (by decide) (by decide)]; exact m6
          · rw [sI_1, if_pos ⟨rfl, rfl⟩, hxw]
          · rw [sI_1, if_neg (by omega), sI_1, if_neg (by omega), eE]
            rw [eE] at z
            exact r5 z
          · rw [eK] at z
            split at z <;> omega
        cases g with
        | true => exact fin 4 _ eK eW.symm
        | false =>
          refine fin 1 _ eK ?_
          rw [eW, sI_1, if_neg (by omega), r4, eE]
          rfl
  · have : q = n := by omega
    subst this
    rw [if_neg (nI_nlt (Nat.le_refl _) (by omega))]
    obtain ⟨μ5, -, fr, m5, m6, m7, m9, e⟩ := key (-1)
    rw [e, if_pos rfl, z_bd_eq]
    refine ⟨_, rfl, fr.tr (xFr.set μ5 (j := 4) 0 (by omega)), ?_, ?_, ?_, ?_, ?_, fun z => ?_, fun z => ?_⟩
    · rw [sI_1, if_neg (by omega)]; exact m5
    · rw [sI_1, if_neg (by omega), m9]; unfold tkE; rw [if_pos (Nat.le_refl _)]
    · rw [sI_1, if_pos ⟨rfl, rfl⟩]; unfold tkK; rw [if_pos (Nat.le_refl _)]; rfl
    · rw [sI_1, if_neg (by omega), m6]; unfold tkS; rw [if_pos (Nat.le_refl _)]
    · rw [sI_1, if_neg (by omega), m7]; unfold tkW; rw [if_pos (Nat.le_refl _)]
    · unfold tkK at z; rw [if_pos (Nat.le_refl _)] at z; omega
    · unfold tkK at z; rw [if_pos (Nat.le_refl _)] at z; omega
/-- the place behind blanks -/
def skp (t : Nat → Nat) (n e : Nat) : Nat := endE n (blB t) e
theorem c_next0 {t : Nat → Nat} {n e : Nat} (N : Nat) (hN : 1700 ≤ N) {μ : z_S} (hx : cX t n μ) (he : e ≤ n) (h9 : μ.1 1 9 = nI e) : ∃ μ', f_X10_next N μ = some ((), μ') ∧ xFr μ μ' ∧ cT t n (skp t n e) (decide ((μ.1 1 4 = 1 ∨ μ.1 1 4 = 2) ∧ skp t n e = e)) μ' := by
  have hn := hx.1
  obtain ⟨b1, b2, b3, b4⟩ := endE_b (P := blB t) he
  have go : ∀ s0 : Int32, s0 = 0 ∨ s0 = 1 → ∃ μ', f_X10_next_B21 N s0 μ = some ((), μ') ∧ xFr μ μ' ∧ cT t n (skp t n e) (decide (s0 = 1 ∧ skp t n e = e)) μ' := fun s0 hs => by
    have fr := xFr.set μ (j := 5) (nI e) (by omega)
    obtain ⟨μ1, r1, r2, r3, r4⟩ := c_blank (t := t) (n := n) N s0 (fun μ82 => f_X10_next_B82 N s0 μ82) N e (z_setI μ 1 5 (nI e)) he (by omega) (fr.cX hx) (by rw [sI_1, if_pos ⟨rfl, rfl⟩])
    have r9 : μ1.1 1 9 = nI e := by rw [r4 9 (by decide), sI_1, if_neg (by omega)]; exact h9
    have hx1 := (fr.tr r2).cX hx
    unfold f_X10_next_B21
    rw [h9, z_bd_eq, r1]
    show ∃ μ', f_X10_next_B82 N s0 μ1 = _ ∧ _
    unfold f_X10_next_B82 f_X10_next_B101
    have hsk : skp t n e ≤ n := b2
    have r3' : μ1.1 1 5 = nI (skp t n e) := r3
    have fin : ∀ g : Bool, ∃ μ', f_X10_next_B102 N (if g = true then 1 else 0) μ1 = some ((), μ') ∧ xFr μ μ' ∧ cT t n (skp t n e) g μ' := fun g => by
      obtain ⟨μ', s1, s2, s3⟩ := c_102 N hN hx1 hsk r3' g
      exact ⟨μ', s1, (fr.tr r2).tr s2, s3⟩
    rcases hs with rfl | rfl
    · rw [if_pos rfl, show decide ((0 : Int32) = 1 ∧ skp t n e = e) = false from decide_eq_false (fun z => absurd z.1 (by decide))]
      exact fin false
    · rw [if_neg (by decide), r3', r9]
      by_cases c : skp t n e = e
      · rw [if_pos (by rw [c]), show decide ((1 : Int32) = 1 ∧ skp t n e = e) = true from decide_eq_true ⟨rfl, c⟩]
        exact fin true
      · rw [if_neg (fun z => c ((nI_eq (by omega) (by omega)).mp z)), show decide ((1 : Int32) = 1 ∧ skp t n e = e) = false from decide_eq_false (fun z => c z.2)]
        exact fin false
  unfold f_X10_next f_X10_next_B16
  by_cases c1 : μ.1 1 4 = 1
  · rw [if_pos c1, show decide ((μ.1 1 4 = 1 ∨ μ.1 1 4 = 2) ∧ skp t n e = e) = decide ((1 : Int32) = 1 ∧ skp t n e = e) from decide_eq_decide.mpr ⟨fun z => ⟨rfl, z.2⟩, fun z => ⟨Or.inl c1, z.2⟩⟩]
    exact go 1 (Or.inr rfl)
  · rw [if_neg c1]
    by_cases c2 : μ.1 1 4 = 2
    · rw [if_pos c2, show decide ((μ.1 1 4 = 1 ∨ μ.1 1 4 = 2) ∧ skp t n e = e) = decide ((1 : Int32) = 1 ∧ skp t n e = e) from decide_eq_decide.mpr ⟨fun z => ⟨rfl, z.2⟩, fun z => ⟨Or.inr c2, z.2⟩⟩]
      exact go 1 (Or.inr rfl)
    · rw [if_neg c2, show decide ((μ.1 1 4 = 1 ∨ μ.1 1 4 = 2) ∧ skp t n e = e) = decide ((0 : Int32) = 1 ∧ skp t n e = e) from decide_eq_decide.mpr ⟨fun z => by rcases z.1 with y | y; exact absurd y c1; exact absurd y c2, fun z => absurd z.1 (by decide)⟩]
      exact go 0 (Or.inl rfl)
