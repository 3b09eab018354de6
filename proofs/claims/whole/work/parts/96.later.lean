/-! later, finished -/
theorem m_aside (N : Nat) (hN : 40 ≤ N) (ν : z_S) : ∃ ν', f_X12_putsAside N ν = some ((), ν') ∧ ν'.2 = ν.2 ∧ ∀ a j, ν'.1 a j = if a = 297 ∧ j < 32 then ν.1 296 j else ν.1 a j := by
  have key : ∀ f k ν1, k ≤ 32 → 32 - k < f → ν1.2 = ν.2 → (∀ a j, ν1.1 a j = if a = 297 ∧ j < k then ν.1 296 j else ν.1 a j) → ∃ ν', f_X12_putsAside_L2 N f (nI k) ν1 = some ((), ν') ∧ ν'.2 = ν.2 ∧ ∀ a j, ν'.1 a j = if a = 297 ∧ j < 32 then ν.1 296 j else ν.1 a j := by
    intro f
    induction f with
    | zero => intro k ν1 h1 h2; omega
    | succ f ih =>
      intro k ν1 h1 h2 h3 h4
      show ∃ ν', b_X12_putsAside_L2 N (f_X12_putsAside_L2 N f) (nI k) ν1 = _ ∧ _
      unfold b_X12_putsAside_L2
      by_cases hlt : k < 32
      · have ek : nI k + 1 = nI (k + 1) := nI_1 k
        rw [if_pos (show nI k < (32 : Int32) from nI_lt (b := 32) hlt (by decide)), z_in_nI hlt (by decide), z_in_nI hlt (by decide), z_bd_eq, z_bd_eq, ek, nI_toNat (by omega)]
        refine ih (k + 1) _ (by omega) (by omega) h3 (fun a j => ?_)
        rw [sI_1, h4, h4, if_neg (c := 296 = 297 ∧ k < k) (by omega)]
        by_cases z : a = 297 ∧ j = k
        · rw [if_pos z, if_pos (by omega), z.2]
        · rw [if_neg z]
          by_cases y : a = 297 ∧ j < k
          · rw [if_pos y, if_pos (by omega)]
          · rw [if_neg y, if_neg (by omega)]
      · have : k = 32 := by omega
        subst this
        rw [if_neg (show ¬ nI 32 < (32 : Int32) by decide)]
        exact ⟨ν1, rfl, h3, h4⟩
  exact key N 0 ν (by omega) (by omega) rfl (fun a j => by rw [if_neg (by omega)])
theorem m_back (N : Nat) (hN : 40 ≤ N) (ν : z_S) : ∃ ν', f_X12_takesBack N ν = some ((), ν') ∧ ν'.2 = ν.2 ∧ ∀ a j, ν'.1 a j = if a = 296 ∧ j < 32 then ν.1 297 j else ν.1 a j := by
  have key : ∀ f k ν1, k ≤ 32 → 32 - k < f → ν1.2 = ν.2 → (∀ a j, ν1.1 a j = if a = 296 ∧ j < k then ν.1 297 j else ν.1 a j) → ∃ ν', f_X12_takesBack_L2 N f (nI k) ν1 = some ((), ν') ∧ ν'.2 = ν.2 ∧ ∀ a j, ν'.1 a j = if a = 296 ∧ j < 32 then ν.1 297 j else ν.1 a j := by
    intro f
    induction f with
    | zero => intro k ν1 h1 h2; omega
    | succ f ih =>
      intro k ν1 h1 h2 h3 h4
      show ∃ ν', b_X12_takesBack_L2 N (f_X12_takesBack_L2 N f) (nI k) ν1 = _ ∧ _
      unfold b_X12_takesBack_L2
      by_cases hlt : k < 32
      · have ek : nI k + 1 = nI (k + 1) := nI_1 k
        rw [if_pos (show nI k < (32 : Int32) from nI_lt (b := 32) hlt (by decide)), z_in_nI hlt (by decide), z_in_nI hlt (by decide), z_bd_eq, z_bd_eq, ek, nI_toNat (by omega)]
        refine ih (k + 1) _ (by omega) (by omega) h3 (fun a j => ?_)
        rw [sI_1, h4, h4, if_neg (c := 297 = 296 ∧ k < k) (by omega)]
        by_cases z : a = 296 ∧ j = k
        · rw [if_pos z, if_pos (by omega), z.2]
        · rw [if_neg z]
          by_cases y : a = 296 ∧ j < k
          · rw [if_pos y, if_pos (by omega)]
          · rw [if_neg y, if_neg (by omega)]
      · have : k = 32 := by omega
        subst this
        rw [if_neg (show ¬ nI 32 < (32 : Int32) by decide)]
        exact ⟨ν1, rfl, h3, h4⟩
  exact key N 0 ν (by omega) (by omega) rfl (fun a j => by rw [if_neg (by omega)])
theorem m_answered {A : aS} {ν : z_S} (ok : okS A) (h : mS A ν) (N : Nat) (hN : 20 ≤ N) : f_X12_answeredMany N ν = some (nI (cntP (nDone (sN A)) 8), ν) := by
  have h8 := ok.2.2.1.1
  have h3 := ok.2.2.1.2.2.1
  have key : ∀ f l, l ≤ hCnt (sH A) 0 → hCnt (sH A) 0 - l < f → f_X12_answeredMany_L4 N f (nI (cntP (nDone (sN A)) l)) (nI l) ν = some (nI (cntP (nDone (sN A)) (hCnt (sH A) 0)), ν) := by
    intro f
    induction f with
    | zero => intro l h1 h2; omega
    | succ f ih =>
      intro l h1 h2
      show b_X12_answeredMany_L4 N (f_X12_answeredMany_L4 N f) (nI (cntP (nDone (sN A)) l)) (nI l) ν = _
      unfold b_X12_answeredMany_L4 f_X12_answeredMany_B23 f_X12_letterMany
      rw [z_bn_sm, h.2.2.2.2.2.2.1.1 0 (by decide)]
      by_cases hlt : l < hCnt (sH A) 0
      · have ek : nI l + 1 = nI (l + 1) := nI_1 l
        have ec : nI (cntP (nDone (sN A)) l) + 1 = nI (cntP (nDone (sN A)) l + 1) := nI_1 _
        have e1 : cntP (nDone (sN A)) (l + 1) = if 0 < nDone (sN A) l then cntP (nDone (sN A)) l + 1 else cntP (nDone (sN A)) l := rfl
        have hd := ok.2.2.2.1.2.2.2.2.2.1 l
        have ih' := ih (l + 1) (by omega) (by omega)
        rw [e1] at ih'
        simp only [z_bd_eq]
        rw [if_pos (nI_lt hlt (by omega)), (m_now h N (show l < 8 by omega)).1, z_bn_sm, ek, ec]
        by_cases c : 0 < nDone (sN A) l
        · rw [if_pos c] at ih'
          rw [if_pos (show (0 : Int32) < nI (nDone (sN A) l) from nI_lt (a := 0) c (by omega))]
          exact ih'
        · rw [if_neg c] at ih'
          rw [if_neg (show ¬ (0 : Int32) < nI (nDone (sN A) l) from nI_nlt (a := 0) (by omega) (by decide))]
          exact ih'
      · have : l = hCnt (sH A) 0 := by omega
        subst this
        rw [if_neg (nI_nlt (Nat.le_refl _) (by omega))]
  have := key N 0 (Nat.zero_le _) (by omega)
  rw [cntP_stop (fun k hk => (ok.2.2.2.1.2.2.2.2.2.2.2.2 k hk).1) 8 h8]
  exact this
/-- both look ahead: the class' scratch and the reference's now hold n, aside lies what is now -/
def aheadI (A : aS) (n : aN) (ν0 μ ν : z_S) : Prop := okN (sH A) n ∧ cS A μ ∧ cN 45 n μ ∧ mS (aNow A n) ν ∧ ∀ j, j < 32 → ν.1 297 j = ν0.1 296 j
theorem ahead_0 {A : aS} {μ ν : z_S} (ok : okS A) (hc : cS A μ) (hm : mS A ν) (N : Nat) (hN : 40 ≤ N) : ∃ μ1 ν1, f_X8_copyFrom N 45 39 μ = some ((), μ1) ∧ f_X12_putsAside N ν = some ((), ν1) ∧ aheadI A (sN A) ν μ1 ν1 ∧ μ1.1 39 0 = nI (nDay (sN A)) := by
  obtain ⟨μ1, p1, p2, p3, p4⟩ := c_copy N (s0 := 45) (s1 := 39) k45 k39 (Or.inr (by omega)) μ
  obtain ⟨ν1, q1, q2, q3⟩ := m_aside N hN ν
  have hc1 : cS A μ1 := cS_scr ok hc (by rw [p4]) (fun o j ho => p3 o j (by unfold cRel at ho; omega))
  refine ⟨μ1, ν1, p1, q1, ⟨ok.2.2.2.1, hc1, p2 _ hc.2.2.2.2.2.2.2.2.1, ?_, fun j hj => by rw [q3, if_pos ⟨rfl, hj⟩]⟩, hc1.2.2.2.2.2.2.2.2.1.1⟩
  have : mS A ν1 := mS_scr hm (fun o j ho => by rw [q3, if_neg (by unfold mRel at ho; omega)]) (fun j => by rw [q2]) (by rw [q2])
  exact this
theorem ahead_step {A : aS} {n : aN} {μ ν ν0 : z_S} (ok : okS A) (hi : aheadI A n ν0 μ ν) (N : Nat) (hN : 70000 ≤ N) (hd : nDay n < 999) : ∃ n' μ1 μ2 x ν2, f_X1_plan N (z_hn μ.2.2.1) 45 μ = some ((), μ1) ∧ f_X1_close N (z_hn μ1.2.2.1) 45 μ1 = some ((), μ2) ∧ f_X12_eveningGoes N ν = some (x, ν2) ∧ aheadI A n' ν0 μ2 ν2 ∧ nDay n' = nDay n + 1 := by
  obtain ⟨i1, i2, i3, i4, i5⟩ := hi
  have okn : okS (aNow A n) := ok_now ok i1
  obtain ⟨R, μ1, μ2, p1, p2, p3, p4, p5, p6, p7, p8⟩ := c_eveS ok.2.2.1 i1 (plK45 μ.2.2.1) st45 (hn45 _) N (by omega) i2.2.2.2.2.2.2.2.1 i3
  obtain ⟨B, ν2, q1, q2, q3, q4⟩ := m_eve okn i4 N hN
  have e : R = B := funext (best_uniq ok.2.2.1.2.2.1 ok.2.2.1.1 p3 q2)
  subst e
  refine ⟨nEve (sH A) n R, μ1, μ2, _, ν2, p1, by rw [p6]; exact p2, q1, ⟨ok_eve ok.2.2.1 i1 p3.1.1 p3.1.2.1 hd, ?_, p5, q3, fun j hj => by rw [q4]; exact i5 j hj⟩, rfl⟩
  exact cS_scr ok i2 (by rw [p7]) (fun o j ho => p8 o j (by unfold cRel at ho; omega) (by unfold cRel at ho; omega))
theorem ahead_end {A : aS} {n : aN} {μ ν ν0 : z_S} (ok : okS A) (hm0 : mS A ν0) (hi : aheadI A n ν0 μ ν) (N : Nat) (hN : 40 ≤ N) : f_X8_countDone N 45 μ = some (nI (cntP (nDone n) 8), μ) ∧ f_X12_answeredMany N ν = some (nI (cntP (nDone n) 8), ν) ∧ ∃ ν', f_X12_takesBack N ν = some ((), ν') ∧ mS A ν' := by
  obtain ⟨i1, i2, i3, i4, i5⟩ := hi
  have okn : okS (aNow A n) := ok_now ok i1
  refine ⟨(c_counts i1 ⟨ok.2.2.1.2.2.1, ok.2.2.1.2.1⟩ k45 i3 N (by omega)).1, m_answered okn i4 N (by omega), ?_⟩
  obtain ⟨ν', q1, q2, q3⟩ := m_back N hN ν
  refine ⟨ν', q1, ?_⟩
  have := mS_now (A := aNow A n) (n := sN A) (ν' := ν') i4 q2 (fun o j ho => by rw [q3, if_neg (fun z => ho z.1)]) (mN_copy (o := 296) (b := 0) (ν := ν0) hm0.2.2.2.2.2.2.2.1 (fun j hj => by
    rw [Nat.zero_add, q3, if_pos ⟨rfl, hj⟩]; exact i5 j hj))
  exact this
theorem la_loop (N : Nat) (hN : 70000 ≤ N) {n : Nat} (hn : n ≤ 30) {A : aS} {ν0 : z_S} (ok : okS A) (hm0 : mS A ν0) : ∀ f k (s : aN) μ ν, aheadI A s ν0 μ ν → k ≤ n → n - k < f → nDay s + (n - k) ≤ 999 → z_Op (f_X11_later_L40 N (nI n) (fun μ81 => z_bn (f_X8_countDone N 45 μ81) fun x2 μ_4 => some (x2, μ_4)) f (nI k) μ) (f_X12_later_L19 N (nI n) (fun μ35 => z_bn (f_X12_answeredMany N μ35) fun x4 μ_4 => z_bn (f_X12_takesBack N μ_4) fun _ μ_5 => some (x4, μ_5)) f (nI k) ν) := by
  intro f
  induction f with
  | zero => intro k s μ ν _ h1 h2; omega
  | succ f ih =>
    intro k s μ ν hi h1 h2 h3
    show z_Op (b_X11_later_L40 N (nI n) (f_X11_later_L40 N (nI n) _ f) _ (nI k) μ) (b_X12_later_L19 N (nI n) (f_X12_later_L19 N (nI n) _ f) _ (nI k) ν)
    unfold b_X11_later_L40 b_X12_later_L19
    by_cases hlt : k < n
    · have ek : nI k + 1 = nI (k + 1) := nI_1 k
      obtain ⟨n', μ1, μ2, x, ν2, p1, p2, p3, p4, p5⟩ := ahead_step ok hi N hN (by omega)
      rw [if_pos (nI_lt hlt (by omega)), if_pos (nI_lt hlt (by omega)), p1, z_bn_sm, p2, z_bn_sm, p3, z_bn_sm, z_bd_eq, z_bd_eq, ek]
      exact ih (k + 1) n' μ2 ν2 p4 (by omega) (by omega) (by omega)
    · rw [if_neg (nI_nlt (by omega) (by omega)), if_neg (nI_nlt (by omega) (by omega))]
      obtain ⟨e1, e2, ν', e3, e4⟩ := ahead_end ok hm0 hi N (by omega)
      show z_Op (z_bn (f_X8_countDone N 45 μ) fun x2 μ_4 => some (x2, μ_4)) (z_bn (f_X12_answeredMany N ν) fun x4 μ_4 => z_bn (f_X12_takesBack N μ_4) fun _ μ_5 => some (x4, μ_5))
      rw [e1, z_bn_sm, e2, z_bn_sm, e3, z_bn_sm]
      exact ⟨_, _, _, rfl, rfl, A, ok, hi.2.1, e4⟩
theorem op_later {A : aS} {μ ν : z_S} (ok : okS A) (hc : cS A μ) (hm : mS A ν) (N : Nat) (hN : 70000 ≤ N) (a : Int32) : z_Op (f_X11_later N a μ) (f_X12_later N a ν) := by
  have hd := ok.2.2.2.1.1
  unfold f_X11_later f_X12_later
  have e0 : (0 : Int32).toInt = 0 := rfl
  have e30 : (30 : Int32).toInt = 30 := rfl
  have hm' := m_ahead ok hm N a 0 30 (by decide) (by decide)
  rw [e0, e30] at hm'
  have l0 : a < 0 ↔ a.toInt < 0 := by rw [Int32.lt_iff_toInt_lt, Int32.toInt_zero]
  have l30 : (30 : Int32) < a ↔ 30 < a.toInt := by rw [Int32.lt_iff_toInt_lt]; exact Iff.rfl
  have hno : ¬ goP A 0 30 a → z_Op (some ((-1 : Int32), μ)) (z_bn (f_X12_isAhead N a 0 30 ν) fun x1 μ_1 => if x1 = 0 then some (-1, μ_1) else z_bn (f_X12_putsAside N μ_1) fun _ μ_2 => f_X12_later_L19 N a (fun μ35 => z_bn (f_X12_answeredMany N μ35) fun x4 μ_4 => z_bn (f_X12_takesBack N μ_4) fun _ μ_5 => some (x4, μ_5)) N 0 μ_2) := by
    intro z
    rcases hm' with ⟨k1, k2⟩ | ⟨k1, k2⟩
    · exact absurd k1 z
    · rw [k2, z_bn_sm, if_pos rfl]
      exact ⟨_, _, _, rfl, rfl, A, ok, hc, hm⟩
  by_cases c0 : a < 0
  · rw [if_pos c0]
    exact hno (fun z => by rw [l0] at c0; have := z.1; omega)
  · rw [if_neg c0]
    by_cases c1 : (30 : Int32) < a
    · rw [if_pos c1]
      exact hno (fun z => by rw [l30] at c1; have := z.2.1; omega)
    · rw [if_neg c1, show μ.1 39 0 = nI (nDay (sN A)) from hc.2.2.2.2.2.2.2.2.1.1]
      rw [l0] at c0
      rw [l30] at c1
      have e3 : (999 : Int32) < nI (nDay (sN A)) + a ↔ 999 < (nDay (sN A) : Int) + a.toInt := by
        rw [Int32.lt_iff_toInt_lt, day_add hd (by omega) (by omega)]; exact Iff.rfl
      by_cases c2 : (999 : Int32) < nI (nDay (sN A)) + a
      · rw [if_pos c2]
        exact hno (fun z => by rw [e3] at c2; have := z.2.2; omega)
      · rw [if_neg c2]
        rw [e3] at c2
        rcases hm' with ⟨k1, k2⟩ | ⟨k1, k2⟩
        · obtain ⟨μ1, ν1, q1, q2, q3, q4⟩ := ahead_0 ok hc hm N (by omega)
          rw [q1, z_bn_sm, k2, z_bn_sm, if_neg (by decide), q2, z_bn_sm]
          obtain ⟨n, hn1, rfl⟩ := small (w := a) (n := 31) ⟨by omega, by omega⟩ (by decide)
          rw [nI_toInt (by omega)] at c2
          exact la_loop N hN (by omega) ok hm N 0 (sN A) μ1 ν1 q3 (Nat.zero_le _) (by omega) (by omega)
        · exact absurd ⟨by omega, by omega, by omega⟩ k1
theorem fi_loop (N : Nat) (hN : 70000 ≤ N) {A : aS} {ν0 : z_S} (ok : okS A) (hm0 : mS A ν0) {m : Nat} (hm : m = min 30 (999 - nDay (sN A))) : ∀ f k (s : aN) μ ν, aheadI A s ν0 μ ν → k ≤ m → m - k + 1 < f → nDay s = nDay (sN A) + k → z_Op (f_X11_finished_L30 N (nI m) f (nI k) μ) (f_X12_finished_L6 N (fun y46_1 μ46 => f_X12_finished_B46 N y46_1 μ46) f (nI k) ν) := by
  have hd := ok.2.2.2.1.1
  have h8 := ok.2.2.1.1
  intro f
  induction f with
  | zero => intro k s μ ν _ h1 h2; omega
  | succ f ih =>
    intro k s μ ν hi h1 h2 h3
    obtain ⟨e1, e2, ν', e3, e4⟩ := ahead_end ok hm0 hi N (by omega)
    have hcb := cntP_le (nDone s) 8
    have hle : cntP (nDone s) 8 ≤ hCnt (sH A) 0 := by
      rw [cntP_stop (fun k hk => (hi.1.2.2.2.2.2.2.2.2 k hk).1) 8 h8]
      exact cntP_le _ _
    have hcl : ∀ μ', cS A μ' → μ'.1 (z_hn μ'.2.2.1 + 1) 0 = nI (hCnt (sH A) 0) := fun μ' q => q.2.2.2.2.2.2.2.1.1 0 (by decide)
    have hml : ν.1 284 (5 + 0) = nI (hCnt (sH A) 0) := hi.2.2.2.1.2.2.2.2.2.2.1.1 0 (by decide)
    have hday : ν.1 296 0 = nI (nDay s) := hi.2.2.2.1.2.2.2.2.2.2.2.1.1
    show z_Op (b_X11_finished_L30 N (nI m) (f_X11_finished_L30 N (nI m) f) (nI k) μ) (b_X12_finished_L6 N (f_X12_finished_L6 N _ f) _ (nI k) ν)
    unfold b_X11_finished_L30 f_X11_finished_B91 b_X12_finished_L6 f_X12_letterMany
    have hB : f_X12_finished_B46 N (nI k) ν = if cntP (nDone s) 8 = hCnt (sH A) 0 then some (nI k, ν') else some (-1, ν') := by
      unfold f_X12_finished_B46 f_X12_finished_B62 f_X12_letterMany
      rw [e2, z_bn_sm, z_bn_sm, hml]
      by_cases c : cntP (nDone s) 8 = hCnt (sH A) 0
      · rw [if_pos (by rw [c]), if_pos c, e3, z_bn_sm, if_neg (by decide)]
      · rw [if_neg (fun z => c ((nI_eq (by omega) (by omega)).mp z)), if_neg c, e3, z_bn_sm, if_pos rfl]
    rw [if_neg (nI_nlt h1 (by omega)), e1, z_bn_sm, hcl μ hi.2.1, e2, z_bn_sm, z_bn_sm, hml]
    by_cases c : cntP (nDone s) 8 = hCnt (sH A) 0
    · rw [if_pos (by rw [c]), if_neg (nI_nlt (by omega) (by omega))]
      show z_Op (some (nI k, μ)) (f_X12_finished_B46 N (nI k) ν)
      rw [hB, if_pos c]
      exact ⟨_, _, _, rfl, rfl, A, ok, hi.2.1, e4⟩
    · rw [if_neg (fun z => c ((nI_eq (by omega) (by omega)).mp z)), if_pos (c := nI (cntP (nDone s) 8) < nI (hCnt (sH A) 0)) (nI_lt (by omega) (by omega))]
      have ek : nI k + 1 = nI (k + 1) := nI_1 k
      by_cases hlt : k < m
      · obtain ⟨n', μ1, μ2, x, ν2, p1, p2, p3, p4, p5⟩ := ahead_step ok hi N hN (by omega)
        rw [if_pos (nI_lt hlt (by omega)), if_pos (show nI k < (30 : Int32) from nI_lt (b := 30) (by omega) (by decide)), hday, if_pos (show nI (nDay s) < (999 : Int32) from nI_lt (b := 999) (by omega) (by decide)), p1, z_bn_sm, p2, z_bn_sm, p3, z_bn_sm, z_bd_eq, z_bd_eq, ek]
        exact ih (k + 1) n' μ2 ν2 p4 (by omega) (by omega) (by omega)
      · have hkm : k = m := by omega
        rw [if_neg (c := nI k < nI m) (nI_nlt (by omega) (by omega)), z_bd_eq, ek]
        have hcN : f_X11_finished_L30 N (nI m) f (nI (k + 1)) μ = some (-1, μ) := by
          obtain ⟨f', rfl⟩ : ∃ f', f = f' + 1 := ⟨f - 1, by omega⟩
          show b_X11_finished_L30 N (nI m) (f_X11_finished_L30 N (nI m) f') (nI (k + 1)) μ = _
          unfold b_X11_finished_L30
          rw [if_pos (nI_lt (by omega) (by omega))]
        have hE : z_Op (some ((-1 : Int32), μ)) (f_X12_finished_B46 N (nI k) ν) := by
          rw [hB, if_neg c]
          exact ⟨_, _, _, rfl, rfl, A, ok, hi.2.1, e4⟩
        rw [hcN]
        by_cases c30 : k < 30
        · rw [if_pos (show nI k < (30 : Int32) from nI_lt (b := 30) c30 (by decide)), hday, if_neg (show ¬ nI (nDay s) < (999 : Int32) from nI_nlt (b := 999) (by omega) (by omega))]
          exact hE
        · rw [if_neg (show ¬ nI k < (30 : Int32) from nI_nlt (b := 30) (by omega) (by omega))]
          exact hE
theorem op_finished {A : aS} {μ ν : z_S} (ok : okS A) (hc : cS A μ) (hm : mS A ν) (N : Nat) (hN : 70000 ≤ N) : z_Op (f_X11_finished N μ) (f_X12_finished N ν) := by
  have hd := ok.2.2.2.1.1
  unfold f_X11_finished f_X12_finished f_J9_min_7cf53
  obtain ⟨μ1, ν1, q1, q2, q3, q4⟩ := ahead_0 ok hc hm N (by omega)
  rw [q1, z_bn_sm, q2, z_bn_sm, q4]
  have es : (999 : Int32) - nI (nDay (sN A)) = nI (999 - nDay (sN A)) := pk_sub (a := 999) hd
  rw [es]
  by_cases c : 999 - nDay (sN A) < 30
  · rw [if_pos (show nI (999 - nDay (sN A)) < (30 : Int32) from nI_lt (b := 30) c (by decide)), z_bn_sm]
    exact fi_loop N hN ok hm (m := 999 - nDay (sN A)) (by omega) N 0 (sN A) μ1 ν1 q3 (Nat.zero_le _) (by omega) rfl
  · rw [if_neg (show ¬ nI (999 - nDay (sN A)) < (30 : Int32) from nI_nlt (b := 30) (by omega) (by omega)), z_bn_sm]
    exact fi_loop N hN ok hm (m := 30) (by omega) N 0 (sN A) μ1 ν1 q3 (Nat.zero_le _) (by omega) rfl
