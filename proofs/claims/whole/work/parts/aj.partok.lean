/-! class and reference read a part -/
theorem c_opens {t : Nat → Nat} {n q op : Nat} {g : Bool} (N : Nat) (hN : 1700 ≤ N) {μ : z_S} (h : cG t n q g μ) (ho : op ≤ 6) : (op = 6 ∧ ∃ μ', f_X9_opens N (nI op) μ = some (0, μ') ∧ uFr μ μ' ∧ cB 4 q μ') ∨ (op < 6 ∧ ∃ μ', f_X9_opens N (nI op) μ = some (1, μ') ∧ uFr μ μ' ∧ cG t n (nxQ t n q) (nxG t n q g) μ') := by
  unfold f_X9_opens
  by_cases c : op < 6
  · right
    obtain ⟨μ', r1, r2, r3⟩ := c_next N hN h
    rw [if_pos (show nI op < (6 : Int32) from nI_lt (b := 6) c (by decide)), r1, z_bn_sm]
    exact ⟨c, μ', rfl, r2, r3⟩
  · left
    obtain ⟨μ', r1, r2, r3⟩ := c_fail N (f := 4) h
    have r1' : f_X10_fail N (4 : Int32) μ = some (0, μ') := r1
    rw [if_neg (show ¬ nI op < (6 : Int32) from nI_nlt (b := 6) (by omega) (by omega)), r1', z_bn_sm, z_zb_0]
    exact ⟨by omega, μ', rfl, r2, r3⟩
theorem tkK_2S {t : Nat → Nat} {n q : Nat} {g : Bool} (h : tkK t n q g = 2) : tkS t n q = -1 ∧ tkW t n q g = -1 := by
  have hk := tkK_2.mp h
  have nl : ¬ ltB t q = true := fun z => by
    have w1 := ltB_t.mp z
    have w2 := dgB_t.mp hk.2.1
    omega
  constructor
  · unfold tkS; rw [if_neg (by omega), if_neg nl, if_pos hk.2.1]
  · unfold tkW; rw [if_neg (by omega), if_neg nl]
theorem pPart_m1 (as : Bool) : pPart as (-1) = -1 := by cases as <;> rfl
theorem cmap_num {v : Nat} (h : v ≤ 9999) : cmap (nI v) = nI (1000 + v) ∧ 0 ≤ nI v ∧ nI v ≤ 9999 := by
  have h0 : (0 : Int32) ≤ nI v := nI_pos' (by omega)
  refine ⟨?_, h0, ?_⟩
  · unfold cmap
    rw [if_pos h0, show nI v + (1000 : Int32) = nI (v + 1000) from nI_add v 1000, Nat.add_comm]
  · rw [Int32.le_iff_toInt_le]
    have e1 : (9999 : Int32).toInt = 9999 := rfl
    have e2 : (nI v).toInt = (v : Int) := nI_toInt (by omega)
    rw [e1, e2]
    omega
theorem val_ok : ∀ v, v < 10 → cmap (-1 - nI v) = nI (40 + v) ∧ ¬ (0 ≤ (-1 - nI v : Int32)) ∧ (-10 ≤ (-1 - nI v : Int32)) ∧ (-1 - nI v : Int32) ≤ 9999 ∧ (-23 ≤ (-1 - nI v : Int32)) ∧ (v < 6 → -6 ≤ (-1 - nI v : Int32)) := by decide +kernel
theorem val_3 : ∀ v, v < 10 → ¬ v = 3 → ¬ (-1 - nI v : Int32) = -4 := by decide +kernel
theorem okc_num {as : Bool} {v : Nat} (h : v ≤ 9999) : okc as (nI v) := by
  obtain ⟨-, a, b⟩ := cmap_num h
  rw [Int32.le_iff_toInt_le] at a
  have e0 : (0 : Int32).toInt = 0 := rfl
  rw [e0] at a
  refine ⟨?_, b, fun _ => Or.inl ?_, fun _ z => ?_⟩
  · rw [Int32.le_iff_toInt_le, show (-23 : Int32).toInt = -23 from rfl]; omega
  · rw [Int32.le_iff_toInt_le, show (-6 : Int32).toInt = -6 from rfl]; omega
  · rw [z] at a; exact absurd a (by decide)
/-- a number, a value, or a fault -/
theorem part_leaf {t : Nat → Nat} {n N : Nat} (hN : 1700 ≤ N) {as : Bool} {c1 : Int32} {E : z_S → Option (Unit × z_S)} {base D op K : Nat} (hK : 1 ≤ K) {q g C Q W μ ν f1 f2} (hpre : preS t n as base op q g C Q W μ ν f1) (hf2 : 8 ≤ f2 + op) (h40 : ¬ tkS t n q = nI 40) (h26 : ¬ tkW t n q g = nI 26) (h27 : ¬ tkW t n q g = nI 27) (h6 : ¬ (as = true ∧ tkW t n q g = nI 6)) : pRes t n N as c1 E base op K q C Q W μ ν (r_X9 N (D + 1) 5 (nI op) μ) (RT N c1 E f1 f2 ν) := by
  obtain ⟨pc, pC, pf, pm, pq, pb, pl1, pl2, pf1, po⟩ := hpre
  have hn := pc.1.1
  have hq := pc.2.2.2
  have nb := nxQ_b (t := t) hq
  have k4 := tkK_4 (t := t) (n := n) (q := q) (g := g)
  obtain ⟨f1, rfl⟩ : ∃ k, f1 = k + 1 := ⟨f1 - 1, by omega⟩
  obtain ⟨f2, rfl⟩ : ∃ k, f2 = k + 2 := ⟨f2 - 2, by omega⟩
  have eS : r_X9 N (D + 1) 5 (nI op) μ = g_X9_part N (r_X9 N D 0) (r_X9 N D 1) (r_X9 N D 2) (r_X9 N D 3) (r_X9 N D 4) (r_X9 N D 5) (r_X9 N D 6) (nI op) μ := rfl
  rw [eS]
  unfold g_X9_part
  rw [pc.2.1.2.2.1, pc.2.1.2.2.2.1, pc.2.1.2.2.2.2.1]
  by_cases c2 : tkK t n q g = 2
  · obtain ⟨eS2, eW2⟩ := tkK_2S c2
    have hlt2 := (tkK_2.mp c2).1
    rw [if_pos (show nI (tkK t n q g) = (2 : Int32) by rw [c2]; rfl)]
    obtain ⟨x, μ1, a1, a2, a3⟩ := c_takeNumber N hN pc (a := 0) (b := 9999) (by decide) (by decide)
    have a1' : f_X10_takeNumber N (0 : Int32) (9999 : Int32) μ = some (x, μ1) := a1
    rw [a1', z_bn_sm]
    have T := tq_num (c1 := c1) (E := E) (f1 := f1) (f2 := f2) hN pm pq (by omega) h40 h26 h27 h6 (by rw [eW2]; exact pPart_m1 as)
    rcases T with ⟨-, b2, ν1, b3, b4, b5, b6, b7⟩ | ⟨z, -⟩ | ⟨-, b2, ν1, b3, b4, b5⟩
    · rcases a3 with ⟨-, -, -, -, rfl, a4⟩ | ⟨z, -⟩ | ⟨-, z, -⟩ | ⟨-, -, z, -⟩
      · obtain ⟨m1, m2, m3⟩ := cmap_num b7
        obtain ⟨μ2, d1, d2, d3⟩ := c_addC N (a2.cC pC) (by omega) (nI (numV t q (tkE t n q - q)))
        have hc2 := d2.cG a4
        rw [d1, z_bn_sm, if_pos hc2.2.2.1]
        refine Or.inl ⟨_, _, [nI (numV t q (tkE t n q - q))], μ2, ν1, f1 + 1, N, N, rfl, b3, a2.v.tr d2.v, b4, hc2, d3, b5, ?_, by rw [List.length_singleton]; have := nb.2.2 (tkK_2.mp c2).1; omega, nb.2.2 (tkK_2.mp c2).1, by omega, by omega, by omega, numC_mono hK (numC_num m2), fun c hc => by rw [List.mem_singleton.mp hc]; exact okc_num b7⟩
        rw [List.map_cons, List.map_nil, m1]
        exact b6
      · exact absurd c2 z
      · omega
      · exact absurd ⟨Nat.zero_le _, b7⟩ z
    · exact absurd c2 z
    · rcases a3 with ⟨-, z, -⟩ | ⟨z, -⟩ | ⟨-, -, rfl, a4⟩ | ⟨-, z, -⟩
      · omega
      · exact absurd c2 z
      · obtain ⟨μ2, d1, d2, d3⟩ := c_addL N (a2.cL (pC.l (by omega))) (-1)
        have hB := d2.cB a4
        rw [d1, z_bn_sm, if_neg (by rw [hB.1]; decide)]
        exact Or.inr ⟨1, q + 4, μ2, ν1, rfl, b3, a2.v.tr d2.v, b4, hB, b5.1, by decide, by decide, ⟨d3, b5.2⟩⟩
      · omega
  · rw [if_neg (show ¬ nI (tkK t n q g) = (2 : Int32) from fun z => c2 ((nI_eq (b := 2) (by omega) (by decide)).mp z)), if_neg (show ¬ tkS t n q = (40 : Int32) from h40), if_neg (show ¬ tkW t n q g = (26 : Int32) from h26), if_neg (show ¬ tkW t n q g = (27 : Int32) from h27)]
    have leaf : pRes t n N as c1 E base op K q C Q W μ ν (f_X9_part_B207 N (r_X9 N D 0) (r_X9 N D 1) (r_X9 N D 2) (r_X9 N D 3) (r_X9 N D 4) (r_X9 N D 5) (r_X9 N D 6) (pPart as (tkW t n q g)) μ) (RT N c1 E (f1 + 1) (f2 + 2) ν) := by
      unfold f_X9_part_B207
      rcases pPart_is as (tkW t n q g) with y | ⟨v, k, k1, k2, k3, k4', k5, k6, k7, k8, k9⟩
      · rw [y, if_pos rfl]
        obtain ⟨μ1, a1, a2, a3⟩ := c_fail N (f := 1) pc
        have a1' : f_X10_fail N (1 : Int32) μ = some (0, μ1) := a1
        rw [a1', z_bn_sm, z_zb_0]
        rcases tq_num (c1 := c1) (E := E) (f1 := f1) (f2 := f2) hN pm pq (by omega) h40 h26 h27 h6 y with ⟨z, -⟩ | ⟨-, ν1, b3, b4, b5⟩ | ⟨z, -⟩
        · exact absurd z c2
        · exact Or.inr ⟨1, q, μ1, ν1, rfl, b3, a2.v, b4, a3, b5.1, by decide, by decide, ⟨a2.cL (pC.l (by omega)), b5.2⟩⟩
        · exact absurd z c2
      · rw [k3, if_neg (nI_nm1 (by omega))]
        obtain ⟨m1, m2, m3, m4, m5, m6⟩ := val_ok v k1
        have nv3 : as = true → ¬ v = 3 := fun ha hv => by
          have e : pPart as (tkW t n q g) = -1 := by unfold pPart; rw [k5, hv, ha]; rfl
          rw [k3, hv] at e
          exact absurd e (by decide)
        have hqn := (tkW_k k2 k4').1
        obtain ⟨μ1, a1, a2, a3⟩ := c_next N hN pc
        obtain ⟨μ2, d1, d2, d3⟩ := c_addC N (a2.cC pC) (by omega) ((-1 : Int32) - nI v)
        rw [a1, z_bn_sm, d1, z_bn_sm]
        obtain ⟨ν1, b3, b4, b5, b6⟩ := tq_val (c1 := c1) (E := E) (f1 := f1 + 1) (f2 := f2) hN pm pq (by omega) k1 k3
        refine Or.inl ⟨_, _, [(-1 : Int32) - nI v], μ2, ν1, f1 + 1, N, N, rfl, b3, a2.v.tr d2.v, b4, d2.cG a3, d3, b5, ?_, by rw [List.length_singleton]; have := nb.2.2 hqn; omega, nb.2.2 hqn, by omega, by omega, by omega, numC_mono hK (numC_val m2 m3), fun c hc => by rw [List.mem_singleton.mp hc]; exact ⟨m5, m4, fun z => Or.inl (m6 (k6 z)), fun z => val_3 v k1 (nv3 z)⟩⟩
        rw [List.map_cons, List.map_nil, m1]
        exact b6
    have val : f_X9_part_B177 N (r_X9 N D 0) (r_X9 N D 1) (r_X9 N D 2) (r_X9 N D 3) (r_X9 N D 4) (r_X9 N D 5) (r_X9 N D 6) μ = f_X9_part_B207 N (r_X9 N D 0) (r_X9 N D 1) (r_X9 N D 2) (r_X9 N D 3) (r_X9 N D 4) (r_X9 N D 5) (r_X9 N D 6) (pPart as (tkW t n q g)) μ := by
      unfold f_X9_part_B177
      rw [pf, pc.2.1.2.2.2.2.1]
      have cv := c_value as N (tkW t n q g) μ
      cases as with
      | true =>
        rw [if_pos rfl] at cv
        rw [if_neg (show ¬ (if true = true then (1 : Int32) else 0) = 0 by decide), cv, z_bn_sm]
      | false =>
        rw [if_neg (by decide)] at cv
        rw [if_pos (show (if false = true then (1 : Int32) else 0) = 0 by decide), cv, z_bn_sm]
    rw [val, pf]
    cases as with
    | true =>
      rw [if_neg (show ¬ (if true = true then (1 : Int32) else 0) = 0 by decide), if_neg (show ¬ tkW t n q g = (6 : Int32) from fun z => h6 ⟨rfl, z⟩)]
      exact leaf
    | false =>
      rw [if_pos (show (if false = true then (1 : Int32) else 0) = 0 by decide)]
      exact leaf
