/-- the pile, top first, in a row -/
def cSt : List Int → (Nat → Int32) → Prop
  | [], _ => True
  | x :: st, f => f st.length = iI x ∧ cSt st f
theorem cSt_of : ∀ (st : List Int) {f g : Nat → Int32}, (∀ k, k < st.length → g k = f k) → cSt st f → cSt st g
  | [], _, _, _, _ => True.intro
  | x :: st, f, g, e, h => ⟨by rw [e _ (by simp)]; exact h.1, cSt_of st (fun k hk => e k (by simp; omega)) h.2⟩
/-- the class' pile holds st; beside it the memory is μ0 -/
def cStk (st : List Int) (μ0 μ : z_S) : Prop := μ.1 4 3 = nI st.length ∧ cSt st (μ.1 7) ∧ μ.2 = μ0.2 ∧ ∀ o j, o ≠ 7 → ¬ (o = 4 ∧ j = 3) → μ.1 o j = μ0.1 o j
theorem c_push (N : Nat) {st : List Int} {μ0 μ : z_S} (h : cStk st μ0 μ) (hl : st.length < 64) (x : Int) : ∃ μ', f_X4_push N (iI x) μ = some ((), μ') ∧ cStk (x :: st) μ0 μ' := by
  obtain ⟨h1, h2, h3, h4⟩ := h
  have e1 : nI st.length + (1 : Int32) = nI (st.length + 1) := nI_1 _
  refine ⟨z_setI (z_setI μ 4 3 (nI (st.length + 1))) 7 st.length (iI x), ?_, ?_, ⟨?_, ?_⟩, ?_, fun o j ho hn => ?_⟩
  · unfold f_X4_push
    rw [h1, if_pos (show nI st.length < (64 : Int32) from nI_lt (b := 64) hl (by decide)), z_bd_eq, e1, z_bd_eq, z_in_nI hl (by decide), z_bd_eq, nI_toNat (by omega)]
  · rw [sI_1, if_neg (by omega), sI_1, if_pos ⟨rfl, rfl⟩]; rfl
  · rw [sI_1, if_pos ⟨rfl, rfl⟩]
  · refine cSt_of st (fun k hk => ?_) h2
    rw [sI_1, if_neg (by omega), sI_1, if_neg (by omega)]
  · exact h3
  · rw [sI_1, if_neg (by omega), sI_1, if_neg hn]
    exact h4 o j ho hn
theorem c_pop (N : Nat) {st : List Int} {x : Int} {μ0 μ : z_S} (h : cStk (x :: st) μ0 μ) (hl : st.length < 64) : ∃ μ', f_X4_pop N μ = some (iI x, μ') ∧ cStk st μ0 μ' := by
  obtain ⟨h1, ⟨h2, h2'⟩, h3, h4⟩ := h
  have h1' : μ.1 4 3 = nI (st.length + 1) := h1
  have e1 : nI (st.length + 1) - (1 : Int32) = nI st.length := nI_pred _
  have e7 : (z_setI μ 4 3 (nI st.length)).1 7 st.length = iI x := by rw [sI_1, if_neg (by omega)]; exact h2
  refine ⟨z_setI μ 4 3 (nI st.length), ?_, ?_, ?_, h3, fun o j ho hn => ?_⟩
  · unfold f_X4_pop
    rw [h1', if_pos (show (0 : Int32) < nI (st.length + 1) from nI_lt (a := 0) (by omega) (by omega)), e1, z_bd_eq, z_bd_eq, z_in_nI hl (by decide), nI_toNat (by omega), e7]
  · rw [sI_1, if_pos ⟨rfl, rfl⟩]
  · refine cSt_of st (fun k hk => ?_) h2'
    rw [sI_1, if_neg (by omega)]
  · rw [sI_1, if_neg hn]
    exact h4 o j ho hn
def wishF (w : Nat → Int) (a : Int) : Int := if 0 ≤ a ∧ a < 4 then w a.toNat else 0
theorem wishF_bd {w : Nat → Int} (hw : ∀ g, g < 4 → bdM (w g)) (a : Int) : bdM (wishF w a) := by
  unfold wishF
  split
  · exact hw _ (by omega)
  · exact bd_0
theorem c_wishOf (N : Nat) {μ : z_S} {w : Nat → Int} (hw : ∀ g, g < 4 → μ.1 6 g = iI (w g)) {a : Int} (ha : bdM a) : f_X4_wishOf N (iI a) μ = some (iI (wishF w a), μ) := by
  unfold f_X4_wishOf wishF
  by_cases c1 : a < 0
  · rw [if_pos (show iI a < 0 from (iI_lt ha bd_0).mpr c1), if_neg (by omega)]; rfl
  · rw [if_neg (show ¬ iI a < 0 from fun z => c1 ((iI_lt ha bd_0).mp z))]
    by_cases c2 : a < 4
    · obtain ⟨k, hk⟩ : ∃ k : Nat, a = (k : Int) := ⟨a.toNat, by omega⟩
      subst hk
      rw [if_pos (show iI (k : Int) < (4 : Int32) from (iI_lt (b := 4) ha ⟨by decide, by decide⟩).mpr c2), if_pos ⟨by omega, c2⟩, ← nI_iI, z_in_nI (show k < 4 by omega) (by decide), nI_toNat (by omega), hw k (by omega)]
      rfl
    · rw [if_neg (show ¬ iI a < (4 : Int32) from fun z => c2 ((iI_lt (b := 4) ha ⟨by decide, by decide⟩).mp z)), if_neg (by omega)]; rfl
/-- what the codes' values are -/
def cEnv (V w : Nat → Int) (μ : z_S) : Prop := (∀ k, k < 10 → μ.1 5 k = iI (V k)) ∧ ∀ g, g < 4 → μ.1 6 g = iI (w g)
theorem cEnv_of {V w : Nat → Int} {μ0 μ : z_S} {st : List Int} (h : cEnv V w μ0) (hs : cStk st μ0 μ) : cEnv V w μ := ⟨fun k hk => by rw [hs.2.2.2 _ _ (by omega) (by omega)]; exact h.1 k hk, fun g hg => by rw [hs.2.2.2 _ _ (by omega) (by omega)]; exact h.2 g hg⟩
theorem c_stepR (N : Nat) (o1 : Nat) (c3 : Int32) (kb : Int32 → z_S → Option (Int32 × z_S)) (e : z_S → Option (Int32 × z_S)) {V w : Nat → Int} (hV : ∀ k, k < 10 → bdM (V k)) (hw : ∀ g, g < 4 → bdM (w g)) {μ0 μ : z_S} (he : cEnv V w μ0) {st st' : List Int} (hs : cStk st μ0 μ) (hl : st.length ≤ 64) (hl' : st'.length ≤ 64) (hb : ∀ x ∈ st, bdM x) {k : Nat} (hk : k < 1600) (hc3 : nI k < c3) {c : Int32} (hc : μ.1 (o1 + 1) k = c) (h : stepV V (wishF w) st c = some st') : ∃ μ', b_X4_run_L8 N o1 c3 kb e (nI k) μ = kb (nI (k + 1)) μ' ∧ cStk st' μ0 μ' := by
  have ek : nI k + 1 = nI (k + 1) := nI_1 k
  unfold b_X4_run_L8 f_X4_run_B116 f_X4_run_B119
  rw [if_pos hc3, z_in_nI hk (by decide), nI_toNat (by omega), hc]
  simp only [z_bd_eq]
  rw [ek]
  have heμ := cEnv_of he hs
  unfold stepV at h
  split at h
  · next h0 =>
    cases h
    rw [if_neg (fun z => by rw [Int32.lt_iff_toInt_lt] at z; rw [Int32.le_iff_toInt_le] at h0; omega)]
    obtain ⟨μ', g1, g2⟩ := c_push N hs (show st.length < 64 from hl') c.toInt
    rw [show iI c.toInt = c from Int32.ofInt_toInt c] at g1
    rw [g1, z_bn_sm]
    exact ⟨μ', rfl, g2⟩
  next h0 =>
  have hneg : c < 0 := by
    rw [Int32.lt_iff_toInt_lt]
    rw [Int32.le_iff_toInt_le] at h0
    omega
  rw [if_pos hneg]
  split at h
  · next h1 =>
    cases h
    rw [if_neg (fun z => by rw [Int32.lt_iff_toInt_lt] at z; rw [Int32.le_iff_toInt_le] at h1; omega)]
    have g1 := Int32.le_iff_toInt_le.mp h1
    have g0 := Int32.lt_iff_toInt_lt.mp hneg
    rw [Int32.toInt_zero] at g0
    rw [show (-10 : Int32).toInt = -10 from rfl] at g1
    have ev : ((-1 : Int32) - c).toInt = -1 - c.toInt := by
      rw [Int32.toInt_sub, show (-1 : Int32).toInt = -1 from rfl]
      exact Int.bmod_eq_of_le (by omega) (by omega)
    have hin : 0 ≤ ((-1 : Int32) - c).toInt ∧ ((-1 : Int32) - c).toInt < (10 : Nat) := by rw [ev]; omega
    obtain ⟨j, hj, ej⟩ := small hin (by decide)
    rw [ej, z_in_nI hj (by decide), nI_toNat (by omega), heμ.1 j hj]
    have hl'' : st.length < 64 := hl'
    obtain ⟨μ', p1, p2⟩ := c_push N hs hl'' (V j)
    rw [p1, z_bn_sm]
    exact ⟨μ', rfl, p2⟩
  next h1 =>
  rw [if_pos (show c < (-10 : Int32) by rw [Int32.lt_iff_toInt_lt]; rw [Int32.le_iff_toInt_le] at h1; omega)]
  split at h
  · next h2 =>
    rw [if_pos h2]
    split at h
    · next b a r =>
      split at h
      · next v hv =>
        cases h
        have ha := hb a (by simp)
        have hbb := hb b (by simp)
        have hl2 : r.length + 2 ≤ 64 := by simpa using hl
        obtain ⟨μ1, p1, p2⟩ := c_pop N hs (by simp; omega)
        obtain ⟨μ2, q1, q2⟩ := c_pop N p2 (by omega)
        obtain ⟨μ3, r1, r2⟩ := c_push N q2 (by omega) v
        rw [p1, z_bn_sm, q1, z_bn_sm, c_pair N ha hbb hv, z_bn_sm, r1, z_bn_sm]
        exact ⟨μ3, rfl, r2⟩
      · cases h
    · cases h
  next h2 =>
  rw [if_neg h2]
  split at h
  · next a r =>
    have ha := hb a (by simp)
    have hl2 : r.length + 1 ≤ 64 := by simpa using hl
    obtain ⟨μ1, p1, p2⟩ := c_pop N hs (by omega)
    split at h
    · next h3 =>
      split at h
      · cases h
        rw [if_pos h3, p1, z_bn_sm, show (1 : Int32) - iI a = iI (1 - a) by rw [show (1 : Int32) = iI 1 from rfl, ← Int32.ofInt_sub]]
        obtain ⟨μ3, r1, r2⟩ := c_push N p2 (by omega) (1 - a)
        rw [r1, z_bn_sm]
        exact ⟨μ3, rfl, r2⟩
      · cases h
    · next h3 =>
      cases h
      rw [if_neg h3, p1, z_bn_sm, c_wishOf N (cEnv_of he p2).2 ha, z_bn_sm]
      obtain ⟨μ3, r1, r2⟩ := c_push N p2 (by omega) (wishF w a)
      rw [r1, z_bn_sm]
      exact ⟨μ3, rfl, r2⟩
  · cases h
theorem c_runL (N : Nat) (o1 : Nat) (ho : 7 ≤ o1) (e : z_S → Option (Int32 × z_S)) {V w : Nat → Int} (hV : ∀ k, k < 10 → bdM (V k)) (hw : ∀ g, g < 4 → bdM (w g)) {μ0 : z_S} (he : cEnv V w μ0) : ∀ (cs : List Int32) (n a : Nat) (st : List Int) (μ : z_S) (fin : List Int), cs.length < n → a + cs.length ≤ 1600 → cStk st μ0 μ → st.length ≤ 64 → (∀ x ∈ st, bdM x) → (∀ c ∈ cs, c.toInt ≤ 9999) → (∀ k c, cs[k]? = some c → μ0.1 (o1 + 1) (a + k) = c) → runV V (wishF w) st cs = some fin → ∃ μ', f_X4_run_L8 N o1 (nI (a + cs.length)) e n (nI a) μ = e μ' ∧ cStk fin μ0 μ' ∧ ∀ x ∈ fin, bdM x := by
  intro cs
  induction cs with
  | nil =>
    intro n a st μ fin h1 h2 h3 h4 h5 h6 h7 h8
    cases n with
    | zero => exact absurd h1 (Nat.not_lt_zero _)
    | succ n =>
      cases h8
      refine ⟨μ, ?_, h3, h5⟩
      show b_X4_run_L8 N o1 (nI (a + 0)) (f_X4_run_L8 N o1 (nI (a + 0)) e n) e (nI a) μ = _
      unfold b_X4_run_L8
      rw [if_neg (nI_nlt (by omega) (by simp at h2; omega))]
  | cons c cs ih =>
    intro n a st μ fin h1 h2 h3 h4 h5 h6 h7 h8
    cases n with
    | zero => exact absurd h1 (Nat.not_lt_zero _)
    | succ n =>
      have h2' : a + (cs.length + 1) ≤ 1600 := h2
      have h1' : cs.length + 1 < n + 1 := h1
      unfold runV at h8
      split at h8
      · cases h8
      · next st' hst =>
        split at h8
        · next hle =>
          have hcc := h7 0 c rfl
          rw [Nat.add_zero] at hcc
          obtain ⟨μ1, p1, p2⟩ := c_stepR N o1 (nI (a + (cs.length + 1))) (f_X4_run_L8 N o1 (nI (a + (cs.length + 1))) e n) e hV hw he h3 h4 hle h5 (show a < 1600 by omega) (nI_lt (by omega) (by omega)) (by rw [h3.2.2.2 _ _ (by omega) (by omega)]; exact hcc) hst
          have hb' := stepV_bd hV (wishF_bd hw) (h6 c (by simp)) h5 hst
          obtain ⟨μ2, q1, q2, q3⟩ := ih n (a + 1) st' μ1 fin (by omega) (by omega) p2 hle hb' (fun c' hc' => h6 c' (by simp [hc'])) (fun k c' hc' => by rw [show a + 1 + k = a + (k + 1) by omega]; exact h7 (k + 1) c' hc') h8
          refine ⟨μ2, ?_, q2, q3⟩
          show b_X4_run_L8 N o1 (nI (a + (cs.length + 1))) (f_X4_run_L8 N o1 (nI (a + (cs.length + 1))) e n) e (nI a) μ = _
          rw [p1]
          rw [show a + 1 + cs.length = a + (cs.length + 1) by omega] at q1
          exact q1
        · cases h8
theorem c_run (N : Nat) {o1 : Nat} (hko : z_kw true o1 = (0, 0)) (ho : 7 ≤ o1) {V w : Nat → Int} (hV : ∀ k, k < 10 → bdM (V k)) (hw : ∀ g, g < 4 → bdM (w g)) {μ : z_S} (he : cEnv V w μ) {cs : List Int32} {a : Nat} {v : Int} (hN : cs.length < N) (ha : a + cs.length ≤ 1600) (hc : ∀ c ∈ cs, c.toInt ≤ 9999) (hcs : ∀ k c, cs[k]? = some c → μ.1 (o1 + 1) (a + k) = c) (hr : runV V (wishF w) [] cs = some [v]) : ∃ μ', f_X4_run N o1 (nI a) (nI (a + cs.length)) μ = some (iI v, μ') ∧ bdM v ∧ μ'.2 = μ.2 ∧ ∀ o j, o ≠ 7 → ¬ (o = 4 ∧ j = 3) → μ'.1 o j = μ.1 o j := by
  have hs0 : cStk [] μ (z_setI μ 4 3 0) := ⟨by rw [sI_1, if_pos ⟨rfl, rfl⟩]; rfl, True.intro, rfl, fun o j _ hn => by rw [sI_1, if_neg hn]⟩
  obtain ⟨μ1, p1, p2, p3⟩ := c_runL N o1 ho (fun μ125 => z_bn (f_X4_pop N μ125) fun x9 μ_12 => some (x9, μ_12)) hV hw he cs N a [] (z_setI μ 4 3 0) [v] hN ha hs0 (Nat.zero_le _) (fun x hx => by cases hx) hc hcs hr
  obtain ⟨μ2, q1, q2⟩ := c_pop N p2 (by decide)
  refine ⟨μ2, ?_, p3 v (by simp), q2.2.2.1, q2.2.2.2⟩
  unfold f_X4_run
  rw [z_ko_ok hko, z_bd_eq, p1, q1, z_bn_sm]
