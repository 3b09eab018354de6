/-! evenings, chance -/
theorem c_eveS {h : aH} {n : aN} {c : Bool} {s : Nat} (ok : okH h) (hn : okN h n) (hk : plK (z_hn c) s) (hst : stK s) (hd : s + 6 ≤ z_hn c) (N : Nat) (hN : 1700 ≤ N) {μ : z_S} (hc : cH (z_hn c) h μ) (hcn : cN s n μ) : ∃ R μ1 μ2, f_X1_plan N (z_hn c) s μ = some ((), μ1) ∧ f_X1_close N (z_hn c) s μ1 = some ((), μ2) ∧ isBest (hCnt h 0) (hCnt h 2) (bearV h n) (timeV h n) (nLeft n) (warmW h n) R ∧ μ2.1 8 2 = nI (cntP R 8) ∧ cN s (nEve h n R) μ2 ∧ μ1.2.2 = μ.2.2 ∧ μ2.2.2 = μ.2.2 ∧ ∀ a j, ¬ (4 ≤ a ∧ a ≤ 20) → a < s ∨ s + 6 ≤ a → μ2.1 a j = μ.1 a j := by
  have hs39 := hk.2.2.2.2
  obtain ⟨R, μ1, p1, p2, p3, p4, p5, p6⟩ := c_plan ok hn hk N hN hc hcn
  obtain ⟨μ2, q1, q2, q3, q4⟩ := c_close ok hn hk hst hd N (by omega) (Feas_3 ok.2.2.1 p3.1) p3.1.2.1 (p2.cH ok hk.2.2.2.1 hc) (p2.cN hs39 hcn) p4
  exact ⟨R, μ1, μ2, p1, q1, p3, by rw [q4 _ _ (by omega)]; exact p5, q2, p2.1, by rw [q3]; exact p2.1, fun a j h1 h2 => by rw [q4 a j h2]; exact p2.2 a j h1⟩
theorem hn39 (c : Bool) : 39 + 6 ≤ z_hn c := by cases c <;> decide
theorem hn45 (c : Bool) : 45 + 6 ≤ z_hn c := by cases c <;> decide
/-- an evening on both sides -/
theorem op_eve {A : aS} {μ ν : z_S} (ok : okS A) (hc : cS A μ) (hm : mS A ν) (N : Nat) (hN : 70000 ≤ N) (hd : nDay (sN A) < 999) : ∃ R μ1 μ2 ν2, f_X1_plan N (z_hn μ.2.2.1) 39 μ = some ((), μ1) ∧ f_X1_close N (z_hn μ1.2.2.1) 39 μ1 = some ((), μ2) ∧ μ2.1 8 2 = nI (cntP R 8) ∧ f_X12_eveningGoes N ν = some (nI (cntP R 8), ν2) ∧ okS (aNow A (nEve (sH A) (sN A) R)) ∧ cS (aNow A (nEve (sH A) (sN A) R)) μ2 ∧ mS (aNow A (nEve (sH A) (sN A) R)) ν2 := by
  obtain ⟨R, μ1, μ2, p1, p2, p3, p4, p5, p6, p7, p8⟩ := c_eveS ok.2.2.1 ok.2.2.2.1 (plK39 μ.2.2.1) st39 (hn39 _) N (by omega) hc.2.2.2.2.2.2.2.1 hc.2.2.2.2.2.2.2.2.1
  obtain ⟨B, ν2, q1, q2, q3, -⟩ := m_eve ok hm N hN
  have e : R = B := funext (best_uniq ok.2.2.1.2.2.1 ok.2.2.1.1 p3 q2)
  subst e
  have hok := ok_eve ok.2.2.1 ok.2.2.2.1 p3.1.1 p3.1.2.1 hd
  refine ⟨R, μ1, μ2, ν2, p1, by rw [p6]; exact p2, p4, q1, ok_now ok hok, ?_, q3⟩
  -- first the plan's scratch, then the state
  have hcS : cS A (fun a j => if 39 ≤ a ∧ a < 45 then μ.1 a j else μ2.1 a j, μ2.2.1, μ2.2.2) := by
    refine cS_scr ok hc (by rw [show ((fun a j => if 39 ≤ a ∧ a < 45 then μ.1 a j else μ2.1 a j, μ2.2.1, μ2.2.2) : z_S).2.2 = μ2.2.2 from rfl, p7]) (fun o j ho => ?_)
    show (if 39 ≤ o ∧ o < 45 then μ.1 o j else μ2.1 o j) = μ.1 o j
    by_cases z : 39 ≤ o ∧ o < 45
    · rw [if_pos z]
    · rw [if_neg z]
      exact p8 o j (by unfold cRel at ho; omega) (by omega)
  refine cS_now ok hcS rfl (fun o j ho => ?_) p5
  show μ2.1 o j = (if 39 ≤ o ∧ o < 45 then μ.1 o j else μ2.1 o j)
  rw [if_neg (by omega)]
theorem day_add {d : Nat} (hd : d ≤ 999) {a : Int32} (h0 : 0 ≤ a.toInt) (h1 : a.toInt ≤ 50) : (nI d + a).toInt = d + a.toInt := by
  rw [Int32.toInt_add, nI_toInt (by omega)]
  exact Int.bmod_eq_of_le (by omega) (by omega)
def goP (A : aS) (lo hi : Int) (a : Int32) : Prop := lo ≤ a.toInt ∧ a.toInt ≤ hi ∧ (nDay (sN A) : Int) + a.toInt ≤ 999
theorem c_goBy {A : aS} {μ : z_S} (ok : okS A) (h : cS A μ) (N : Nat) (a : Int32) : (goP A 1 50 a ∧ f_X11_canGoBy N a μ = some (1, μ)) ∨ (¬ goP A 1 50 a ∧ f_X11_canGoBy N a μ = some (0, μ)) := by
  have hd := ok.2.2.2.1.1
  have e1 : a < (1 : Int32) ↔ a.toInt < 1 := by rw [Int32.lt_iff_toInt_lt]; exact Iff.rfl
  have e2 : (50 : Int32) < a ↔ 50 < a.toInt := by rw [Int32.lt_iff_toInt_lt]; exact Iff.rfl
  unfold f_X11_canGoBy
  rw [show μ.1 39 0 = nI (nDay (sN A)) from h.2.2.2.2.2.2.2.2.1.1]
  by_cases c1 : a < (1 : Int32)
  · rw [if_pos c1]
    rw [e1] at c1
    exact Or.inr ⟨fun z => by have := z.1; omega, rfl⟩
  · rw [if_neg c1]
    rw [e1] at c1
    by_cases c2 : (50 : Int32) < a
    · rw [if_pos c2]
      rw [e2] at c2
      exact Or.inr ⟨fun z => by have := z.2.1; omega, rfl⟩
    · rw [if_neg c2]
      rw [e2] at c2
      have e3 : (999 : Int32) < nI (nDay (sN A)) + a ↔ 999 < (nDay (sN A) : Int) + a.toInt := by
        rw [Int32.lt_iff_toInt_lt, day_add hd (by omega) (by omega)]; exact Iff.rfl
      by_cases c3 : (999 : Int32) < nI (nDay (sN A)) + a
      · rw [if_pos c3]
        rw [e3] at c3
        exact Or.inr ⟨fun z => by have := z.2.2; omega, rfl⟩
      · rw [if_neg c3]
        rw [e3] at c3
        exact Or.inl ⟨⟨by omega, by omega, by omega⟩, rfl⟩
theorem m_ahead {A : aS} {ν : z_S} (ok : okS A) (h : mS A ν) (N : Nat) (a lo hi : Int32) (hlo : 0 ≤ lo.toInt) (hhi : hi.toInt ≤ 50) : (goP A lo.toInt hi.toInt a ∧ f_X12_isAhead N a lo hi ν = some (1, ν)) ∨ (¬ goP A lo.toInt hi.toInt a ∧ f_X12_isAhead N a lo hi ν = some (0, ν)) := by
  have hd := ok.2.2.2.1.1
  unfold f_X12_isAhead
  rw [m_isIn, z_bn_sm, i64, i64, i64, show ν.1 296 0 = nI (nDay (sN A)) from h.2.2.2.2.2.2.2.1.1]
  by_cases c : lo.toInt ≤ a.toInt ∧ a.toInt ≤ hi.toInt
  · rw [if_pos c, if_neg (by decide)]
    have e3 : (999 : Int32) < nI (nDay (sN A)) + a ↔ 999 < (nDay (sN A) : Int) + a.toInt := by
      rw [Int32.lt_iff_toInt_lt, day_add hd (by omega) (by omega)]; exact Iff.rfl
    by_cases c3 : (999 : Int32) < nI (nDay (sN A)) + a
    · rw [if_pos c3]
      rw [e3] at c3
      exact Or.inr ⟨fun z => by have := z.2.2; omega, rfl⟩
    · rw [if_neg c3]
      rw [e3] at c3
      exact Or.inl ⟨⟨c.1, c.2, by omega⟩, rfl⟩
  · rw [if_neg c, if_pos rfl]
    exact Or.inr ⟨fun z => c ⟨z.1, z.2.1⟩, rfl⟩
theorem ev_loop (N : Nat) (hN : 70000 ≤ N) {n : Nat} (hn : n ≤ 50) : ∀ f k (A : aS) μ ν v, okS A → cS A μ → mS A ν → k ≤ n → n - k < f → nDay (sN A) + (n - k) ≤ 999 → z_Op (f_X11_evenings_L22 N (nI n) f v (nI k) μ) (f_X12_evenings_L25 N (nI n) f v (nI k) ν) := by
  intro f
  induction f with
  | zero => intro k A μ ν v _ _ _ h1 h2; omega
  | succ f ih =>
    intro k A μ ν v ok hc hm h1 h2 h3
    show z_Op (b_X11_evenings_L22 N (nI n) (f_X11_evenings_L22 N (nI n) f) v (nI k) μ) (b_X12_evenings_L25 N (nI n) (f_X12_evenings_L25 N (nI n) f) v (nI k) ν)
    unfold b_X11_evenings_L22 b_X12_evenings_L25
    by_cases hlt : k < n
    · have ek : nI k + 1 = nI (k + 1) := nI_1 k
      obtain ⟨R, μ1, μ2, ν2, p1, p2, p3, p4, p5, p6, p7⟩ := op_eve ok hc hm N hN (by omega)
      rw [if_pos (nI_lt hlt (by omega)), if_pos (nI_lt hlt (by omega)), p1, z_bn_sm, p2, z_bn_sm, p4, z_bn_sm, p3]
      simp only [z_bd_eq]
      rw [ek]
      refine ih (k + 1) _ μ2 ν2 _ p5 p6 p7 (by omega) (by omega) ?_
      show nDay (sN A) + 1 + (n - (k + 1)) ≤ 999
      omega
    · rw [if_neg (nI_nlt (by omega) (by omega)), if_neg (nI_nlt (by omega) (by omega))]
      exact ⟨_, _, _, rfl, rfl, A, ok, hc, hm⟩
theorem op_evenings {A : aS} {μ ν : z_S} (ok : okS A) (hc : cS A μ) (hm : mS A ν) (N : Nat) (hN : 70000 ≤ N) (a : Int32) : z_Op (f_X11_evenings N a μ) (f_X12_evenings N a ν) := by
  unfold f_X11_evenings f_X12_evenings
  have e1 : (1 : Int32).toInt = 1 := rfl
  have e50 : (50 : Int32).toInt = 50 := rfl
  have hm' := m_ahead ok hm N a 1 50 (by decide) (by decide)
  rw [e1, e50] at hm'
  rcases c_goBy ok hc N a with ⟨g1, g2⟩ | ⟨g1, g2⟩
  · rcases hm' with ⟨k1, k2⟩ | ⟨k1, k2⟩
    · rw [g2, z_bn_sm, k2, z_bn_sm, if_neg (by decide), if_neg (by decide)]
      obtain ⟨μ1, r1, r2⟩ := c_remember ok hc N
      obtain ⟨ν1, s1, s2⟩ := m_keeps ok hm N (by omega)
      rw [r1, z_bn_sm, s1, z_bn_sm]
      obtain ⟨n, hn1, rfl⟩ := small (w := a) (n := 51) ⟨by have := g1.1; omega, by have := g1.2.1; omega⟩ (by decide)
      have hg := g1.2.2
      rw [nI_toInt (by omega)] at hg
      exact ev_loop N hN (by omega) N 0 (aKeep A) μ1 ν1 0 (ok_keep ok) r2 s2 (Nat.zero_le _) (by omega) (by show nDay (sN A) + (n - 0) ≤ 999; omega)
    · exact absurd g1 k1
  · rcases hm' with ⟨k1, k2⟩ | ⟨k1, k2⟩
    · exact absurd k1 g1
    · rw [g2, z_bn_sm, k2, z_bn_sm, if_pos rfl, if_pos rfl]
      obtain ⟨μ', h1, h2⟩ := c_refN ok hc N (k := 3) (by decide)
      have h1' : f_X11_refuseNumber N 3 μ = some (-1, μ') := h1
      obtain ⟨ν', q1, q2⟩ := m_refuses hm N (k := 3) (by decide)
      have q1' : f_X12_refuses N 3 ν = some (-1, ν') := q1
      rw [h1', z_bn_sm, q1', z_bn_sm]
      exact ⟨-1, μ', ν', rfl, rfl, _, ok_ref ok 3, h2, q2⟩
/-! chance -/
theorem andJ31 (a : Int) : iJ a &&& (2147483647 : Int64) = iJ (a % 2147483648) := by
  apply Int64.toBitVec_inj.mp
  apply BitVec.eq_of_toNat_eq
  rw [Int64.toBitVec_and, BitVec.toNat_and, show (2147483647 : Int64).toBitVec.toNat = 2 ^ 31 - 1 from rfl, Nat.and_two_pow_sub_one_eq_mod]
  show (BitVec.ofInt 64 a).toNat % 2 ^ 31 = (BitVec.ofInt 64 (a % 2147483648)).toNat
  rw [BitVec.toNat_ofInt, BitVec.toNat_ofInt]
  omega
def seedN (s : Nat) : Nat := (1103515245 * s + 12345) % 2147483648
theorem seedN_lt (s : Nat) : seedN s < 2147483648 := Nat.mod_lt _ (by decide)
theorem ok_seedS {A : aS} (ok : okS A) {k : Nat} (hk : k < 2 ^ 31) : okS (aSeed A k) := by
  obtain ⟨o1, o2, o3, o4, o5, o6, o7, o8, o9, o10, o11⟩ := ok
  exact ⟨o1, o2, o3, o4, o5, o6, o7, o8, o9, o10, hk⟩
theorem c_seedS {A : aS} {μ : z_S} (ok : okS A) (h : cS A μ) (k : Nat) : cS (aSeed A k) (z_setI μ 0 19 (nI k)) := by
  have h' := h
  obtain ⟨a1, a2, a3, a4, a5, a6, a7, a8, a9, b1, ⟨old, b2, b3, b4⟩, c1, c2, d1, d2, d3⟩ := h'
  refine cS_of ok h rfl rfl (fun q j h1 h2 g1 g2 g3 g4 => by rw [sI_1, if_neg (by omega)]) (fun j => by rw [sI_1, if_neg (by omega)]) ?_ (fun k => ?_) (fun k hk => ?_) ?_ ?_ ?_ ?_ ?_ ?_ (fun k q hq => ?_) ?_ (fun k x hx => ?_) ?_
  · rw [sI_1, if_neg (by omega)]; exact a1
  · rw [sI_1, if_neg (by omega)]; exact a2 k
  · rw [sI_1, if_neg (by omega)]; exact a4 k hk
  · rw [sI_1, if_neg (by omega)]; exact a5
  · rw [sI_1, if_neg (by omega)]; exact a6
  · exact cN_of a9 (fun o j h1 h2 => by rw [sI_1, if_neg (by omega)])
  · rw [sI_1, if_neg (by omega)]; exact b1
  · exact ⟨old, b2, by rw [sI_1, if_neg (by omega)]; exact b3, fun i a hi => cN_of (b4 i a hi) (fun o j h1 h2 => by rw [sI_1, if_neg (by omega)])⟩
  · rw [sI_1, if_neg (by omega)]; exact c1
  · exact ⟨by rw [sI_1, if_neg (by omega)]; exact (c2 k q hq).1, by rw [sI_1, if_neg (by omega)]; exact (c2 k q hq).2⟩
  · rw [sI_1, if_neg (by omega)]; exact d1
  · rw [sI_1, if_neg (by omega)]; exact d2 k x hx
  · rw [sI_1, if_pos ⟨rfl, rfl⟩]; rfl
theorem m_seedS {A : aS} {ν : z_S} (h : mS A ν) (k : Nat) : mS (aSeed A k) (z_setJ ν 253 70 (lN k)) := by
  have h' := h
  obtain ⟨a1, a2, a3, a4, a5, a6, a7, a8, b1, ⟨nw, b2, b3, b4⟩, c1, c2, d1, d2, d3⟩ := h'
  refine mS_of h rfl (fun q j h1 h2 => by rfl) (fun _ => by rw [sJ_21, if_neg (by omega)]) (fun q j hq => by rfl) ?_ (fun k => ?_) (fun k hk => ?_) ?_ ?_ ?_ ?_ ?_ ?_ (fun k q hq => ?_) ?_ (fun k x hx => ?_) ?_
  · skip; exact a1
  · skip; exact a2 k
  · skip; exact a4 k hk
  · skip; exact a5
  · skip; exact a6
  · exact mN_of a8 (fun j h1 h2 => by rfl)
  · skip; exact b1
  · exact ⟨nw, b2, by skip; exact b3, fun i a hi => mN_of (b4 i a hi) (fun j h1 h2 => by rfl)⟩
  · skip; exact c1
  · exact ⟨by skip; exact (c2 k q hq).1, by obtain ⟨-, x, y, q1, q2, q3, q4, q5⟩ := c2 k q hq; exact ⟨x, y, q1, q2, q3, by skip; exact q4, by skip; exact q5⟩⟩
  · skip; exact d1
  · skip; exact d2 k x hx
  · rw [sJ_21, if_pos ⟨rfl, rfl⟩]; rfl
theorem c_draw {A : aS} {μ : z_S} (ok : okS A) (h : cS A μ) (N : Nat) : f_X11_drawOfHundred N μ = some (nI (seedN (sSeed A) / 64 % 100), z_setI μ 0 19 (nI (seedN (sSeed A)))) := by
  have hs := ok.2.2.2.2.2.2.2.2.2.2
  have hl := seedN_lt (sSeed A)
  have e1 : (((1103515245 : Int64) * (nI (sSeed A)).toInt64 + (12345 : Int64)) &&& (2147483647 : Int64)).toInt32 = nI (seedN (sSeed A)) := by
    rw [nI_J hs, show (1103515245 : Int64) = iJ 1103515245 from rfl, show (12345 : Int64) = iJ 12345 from rfl, ← Int64.ofInt_mul, ← Int64.ofInt_add, andJ31, iJ_I, nI_iI]
    congr 1
  unfold f_X11_drawOfHundred
  rw [h.2.2.2.2.2.2.2.2.2.2.2.2.2.2.2, e1, z_bd_eq, z_nz_ok (by decide), z_nz_ok (by decide), sI_1, if_pos ⟨rfl, rfl⟩, show (64 : Int32) = nI 64 from rfl, show (100 : Int32) = nI 100 from rfl, pk_div (by omega) (by decide) (by decide), pk_rem (by omega) (by decide) (by decide)]
theorem m_draw {A : aS} {ν : z_S} (ok : okS A) (h : mS A ν) (N : Nat) : f_X12_drawOf N (100 : Int32) ν = some (nI (seedN (sSeed A) / 64 % 100), z_setJ ν 253 70 (lN (seedN (sSeed A)))) := by
  have hs := ok.2.2.2.2.2.2.2.2.2.2
  have hl := seedN_lt (sSeed A)
  have e1 : ((1103515245 : Int64) * lN (sSeed A) + (12345 : Int64)) - ((1103515245 : Int64) * lN (sSeed A) + (12345 : Int64)) / (2147483648 : Int64) * (2147483648 : Int64) = lN (seedN (sSeed A)) := by
    rw [show (1103515245 : Int64) = lN 1103515245 from rfl, show (12345 : Int64) = lN 12345 from rfl, show (2147483648 : Int64) = lN 2147483648 from rfl, lN_mul, lN_add, pk_lRem (by omega) (by decide) (by decide)]
    rfl
  unfold f_X12_drawOf
  rw [show ν.2.1 253 70 = lN (sSeed A) from h.2.2.2.2.2.2.2.2.2.2.2.2.2.2, e1, z_nzJ_ok (by decide), z_bd_eq, z_nzJ_ok (by decide), z_nzJ_ok (by decide), sJ_21, if_pos ⟨rfl, rfl⟩, show (64 : Int64) = lN 64 from rfl, show (100 : Int32).toInt64 = lN 100 from rfl, pk_lDiv (by omega) (by decide) (by decide), pk_lRem (by omega) (by decide) (by decide), lN_i]
def nCold (s : aN) (i : Nat) : aN := (s.1, upN (nLeft s) i 0, nStock s, nDone s, nSheet s, nGift s)
theorem ok_cold {h : aH} {s : aN} (hs : okN h s) (i : Nat) : okN h (nCold s i) := by
  obtain ⟨q1, q2, q3, q4, q5, q6, q7, q8, q9⟩ := hs
  refine ⟨q1, fun k => ?_, fun k hk => ?_, q4, q5, q6, q7, q8, q9⟩
  · show (if k = i then 0 else nLeft s k) ≤ 240
    split
    · omega
    · exact q2 k
  · show (if k = i then 0 else nLeft s k) = 0
    split
    · rfl
    · exact q3 k hk
theorem c_coldS {A : aS} {μ : z_S} (ok : okS A) (h : cS A μ) (i : Nat) : cS (aNow A (nCold (sN A) i)) (z_setI μ 40 i 0) := by
  refine cS_now ok h rfl (fun o j ho => by rw [sI_1, if_neg (by omega)]) ?_
  obtain ⟨g1, g2, g3, g4, g5, g6⟩ := h.2.2.2.2.2.2.2.2.1
  refine ⟨?_, fun j hj => ?_, fun j hj => ?_, fun j hj => ?_, fun j hj => ?_, fun j hj => ?_⟩
  · rw [sI_1, if_neg (by omega)]; exact g1
  · rw [sI_1]
    show _ = nI (if j = i then 0 else nLeft (sN A) j)
    by_cases e : j = i
    · rw [if_pos ⟨rfl, e⟩, if_pos e]; rfl
    · rw [if_neg (fun q => e q.2), if_neg e]; exact g2 j hj
  · rw [sI_1, if_neg (by omega)]; exact g3 j hj
  · rw [sI_1, if_neg (by omega)]; exact g4 j hj
  · rw [sI_1, if_neg (by omega)]; exact g5 j hj
  · rw [sI_1, if_neg (by omega)]; exact g6 j hj
theorem m_coldS {A : aS} {ν : z_S} (h : mS A ν) {i : Nat} (hi : i < 3) : mS (aNow A (nCold (sN A) i)) (z_setI ν 296 (1 + i) 0) := by
  refine mS_now h rfl (fun o j ho => by rw [sI_1, if_neg (fun q => ho q.1)]) ?_
  obtain ⟨g1, g2, g3, g4⟩ := h.2.2.2.2.2.2.2.1
  refine ⟨?_, fun j hj => ?_, fun j hj => ?_, fun j hj => ⟨?_, ?_, ?_⟩⟩
  · rw [sI_1, if_neg (by omega)]; exact g1
  · rw [sI_1]
    show _ = nI (if j = i then 0 else nLeft (sN A) j)
    by_cases e : j = i
    · rw [if_pos (by omega), if_pos e]; rfl
    · rw [if_neg (by omega), if_neg e]; exact g2 j hj
  · rw [sI_1, if_neg (by omega)]; exact g3 j hj
  · rw [sI_1, if_neg (by omega)]; exact (g4 j hj).1
  · rw [sI_1, if_neg (by omega)]; exact (g4 j hj).2.1
  · rw [sI_1, if_neg (by omega)]; exact (g4 j hj).2.2
theorem cold_loop (N : Nat) (c1 c3 v : Int32) (e : Int32 → z_S → Option (Int32 × z_S)) (h : aH) (d : Nat) : ∀ f i (A : aS) μ ν c, okS A → cS A μ → mS A ν → sH A = h → nDay (sN A) = d → i ≤ hCnt h 2 → hCnt h 2 - i < f → ∃ c' μ' ν' A', f_X11_catchColds_L4 N f (nI c) (nI i) μ = some (nI c', μ') ∧ f_X12_chance_L33 N c1 c3 e f (v + nI c) (nI i) ν = e (v + nI c') ν' ∧ okS A' ∧ cS A' μ' ∧ mS A' ν' ∧ sH A' = h ∧ nDay (sN A') = d := by
  intro f
  induction f with
  | zero => intro i A μ ν c _ _ _ _ _ h1 h2; omega
  | succ f ih =>
    intro i A μ ν c ok hc hm hh hd h1 h2
    have h3 := ok.2.2.1.2.2.1
    show ∃ c' μ' ν' A', b_X11_catchColds_L4 N (f_X11_catchColds_L4 N f) (nI c) (nI i) μ = _ ∧ b_X12_chance_L33 N c1 c3 (f_X12_chance_L33 N c1 c3 e f) e (v + nI c) (nI i) ν = _ ∧ _
    unfold b_X11_catchColds_L4 f_X11_catchColds_B44 b_X12_chance_L33 f_X12_chance_B70 f_X12_helperMany
    rw [hh] at h3
    rw [hc.2.2.2.2.2.2.2.1.1 2 (by decide), z_bn_sm, hm.2.2.2.2.2.2.1.1 2 (by decide), hh]
    by_cases hlt : i < hCnt h 2
    · have ek : nI i + 1 = nI (i + 1) := nI_1 i
      have ec : nI c + 1 = nI (c + 1) := nI_1 c
      have ev : v + nI c + 1 = v + nI (c + 1) := by rw [Int32.add_assoc, ec]
      have e1 : (1 : Int32) + nI i = nI (1 + i) := ix1 1 i
      have hcl := hc.2.2.2.2.2.2.2.1.2.2.2.2.2.2.2.2.2.1
      have hml := hm.2.2.2.2.2.2.1.2.2.2.2.2.2.2.2.2.1
      have hcb := ok.2.2.1.2.2.2.2.2.2.2.2.2.2.2.2.2.2.2.2.2.2.2.1
      have dr1 := c_draw ok hc N
      have dr2 := m_draw ok hm N
      have hsl := seedN_lt (sSeed A)
      generalize seedN (sSeed A) = sd at dr1 dr2 hsl
      have okd := ok_seedS ok hsl
      have hcd := c_seedS ok hc sd
      have hmd := m_seedS hm sd
      have hz := z_hn_lt μ.2.2.1
      simp only [z_bd_eq]
      rw [if_pos (nI_lt hlt (by omega)), if_pos (nI_lt hlt (by omega)), dr1, z_bn_sm, dr2, z_bn_sm, ek, ec, ev, e1, z_in_nI (show i < 3 by omega) (by decide), z_in_nI (show 1 + i < 32 by omega) (by decide), nI_toNat (show i < 2 ^ 31 by omega), nI_toNat (show 1 + i < 2 ^ 31 by omega)]
      have r1 : (z_setI μ 0 19 (nI sd)).1 (z_hn (z_setI μ 0 19 (nI sd)).2.2.1) 16 = nI (hCold (sH A)) := hcd.2.2.2.2.2.2.2.1.2.2.2.2.2.2.2.2.2.1
      have r2 : (z_setJ ν 253 70 (lN sd)).1 292 3 = nI (hCold (sH A)) := hmd.2.2.2.2.2.2.1.2.2.2.2.2.2.2.2.2.1
      rw [r1, r2]
      have hm100 : sd / 64 % 100 < 100 := Nat.mod_lt _ (by decide)
      by_cases hcold : sd / 64 % 100 < hCold (sH A)
      · rw [if_pos (nI_lt hcold (by omega)), if_pos (nI_lt hcold (by omega))]
        exact ih (i + 1) (aNow (aSeed A sd) (nCold (sN A) i)) _ _ (c + 1) (ok_now okd (ok_cold ok.2.2.2.1 i)) (c_coldS okd hcd i) (m_coldS hmd (by omega)) hh hd (by omega) (by omega)
      · rw [if_neg (nI_nlt (by omega) (by omega)), if_neg (nI_nlt (by omega) (by omega))]
        exact ih (i + 1) (aSeed A sd) _ _ c okd hcd hmd hh hd (by omega) (by omega)
    · have : i = hCnt h 2 := by omega
      subst this
      rw [if_neg (nI_nlt (Nat.le_refl _) (by omega)), if_neg (nI_nlt (Nat.le_refl _) (by omega))]
      exact ⟨c, μ, ν, A, rfl, rfl, ok, hc, hm, hh, hd⟩
theorem ch_loop (N : Nat) (hN : 70000 ≤ N) {n : Nat} (hn : n ≤ 50) : ∀ f k (A : aS) μ ν v, okS A → cS A μ → mS A ν → k ≤ n → n - k < f → nDay (sN A) + (n - k) ≤ 999 → z_Op (f_X11_chance_L22 N (nI n) f v (nI k) μ) (f_X12_chance_L25 N (nI n) f v (nI k) ν) := by
  intro f
  induction f with
  | zero => intro k A μ ν v _ _ _ h1 h2; omega
  | succ f ih =>
    intro k A μ ν v ok hc hm h1 h2 h3
    show z_Op (b_X11_chance_L22 N (nI n) (f_X11_chance_L22 N (nI n) f) v (nI k) μ) (b_X12_chance_L25 N (nI n) (f_X12_chance_L25 N (nI n) f) v (nI k) ν)
    unfold b_X11_chance_L22 b_X12_chance_L25
    have h3' := ok.2.2.1.2.2.1
    by_cases hlt : k < n
    · have ek : nI k + 1 = nI (k + 1) := nI_1 k
      obtain ⟨c', μ1, ν1, A1, q1, q2, q3, q4, q5, q6, q7⟩ := cold_loop N (nI n) (nI k) v (fun y76_2 μ76 => z_bn (f_X12_eveningGoes N μ76) fun x7 μ_7 => z_bd (nI k + 1) fun x8 => f_X12_chance_L25 N (nI n) f y76_2 x8 μ_7) (sH A) (nDay (sN A)) N 0 A μ ν 0 ok hc hm rfl rfl (Nat.zero_le _) (by omega)
      have q1' : f_X11_catchColds N μ = some (nI c', μ1) := q1
      have ev : v + nI 0 = v := by
        rw [show nI 0 = (0 : Int32) from rfl, Int32.add_zero]
      rw [ev] at q2
      have q2' : f_X12_chance_L33 N (nI n) (nI k) (fun y76_2 μ76 => z_bn (f_X12_eveningGoes N μ76) fun x7 μ_7 => z_bd (nI k + 1) fun x8 => f_X12_chance_L25 N (nI n) f y76_2 x8 μ_7) N v (0 : Int32) ν = _ := q2
      obtain ⟨R, μ2, μ3, ν3, p1, p2, p3, p4, p5, p6, p7⟩ := op_eve q3 q4 q5 N hN (by omega)
      rw [if_pos (nI_lt hlt (by omega)), if_pos (nI_lt hlt (by omega)), q1', z_bn_sm, q2', p4, z_bn_sm]
      simp only [z_bd_eq]
      rw [p1, z_bn_sm, p2, z_bn_sm, ek]
      refine ih (k + 1) _ μ3 ν3 _ p5 p6 p7 (by omega) (by omega) ?_
      show nDay (sN A1) + 1 + (n - (k + 1)) ≤ 999
      omega
    · rw [if_neg (nI_nlt (by omega) (by omega)), if_neg (nI_nlt (by omega) (by omega))]
      exact ⟨_, _, _, rfl, rfl, A, ok, hc, hm⟩
theorem op_chance {A : aS} {μ ν : z_S} (ok : okS A) (hc : cS A μ) (hm : mS A ν) (N : Nat) (hN : 70000 ≤ N) (a : Int32) : z_Op (f_X11_chance N a μ) (f_X12_chance N a ν) := by
  unfold f_X11_chance f_X12_chance
  have e1 : (1 : Int32).toInt = 1 := rfl
  have e50 : (50 : Int32).toInt = 50 := rfl
  have hm' := m_ahead ok hm N a 1 50 (by decide) (by decide)
  rw [e1, e50] at hm'
  rcases c_goBy ok hc N a with ⟨g1, g2⟩ | ⟨g1, g2⟩
  · rcases hm' with ⟨k1, k2⟩ | ⟨k1, k2⟩
    · rw [g2, z_bn_sm, k2, z_bn_sm, if_neg (by decide), if_neg (by decide)]
      obtain ⟨μ1, r1, r2⟩ := c_remember ok hc N
      obtain ⟨ν1, s1, s2⟩ := m_keeps ok hm N (by omega)
      rw [r1, z_bn_sm, s1, z_bn_sm]
      obtain ⟨n, hn1, rfl⟩ := small (w := a) (n := 51) ⟨by have := g1.1; omega, by have := g1.2.1; omega⟩ (by decide)
      have hg := g1.2.2
      rw [nI_toInt (by omega)] at hg
      exact ch_loop N hN (by omega) N 0 (aKeep A) μ1 ν1 0 (ok_keep ok) r2 s2 (Nat.zero_le _) (by omega) (by show nDay (sN A) + (n - 0) ≤ 999; omega)
    · exact absurd g1 k1
  · rcases hm' with ⟨k1, k2⟩ | ⟨k1, k2⟩
    · exact absurd k1 g1
    · rw [g2, z_bn_sm, k2, z_bn_sm, if_pos rfl, if_pos rfl]
      obtain ⟨μ', h1, h2⟩ := c_refN ok hc N (k := 3) (by decide)
      have h1' : f_X11_refuseNumber N 3 μ = some (-1, μ') := h1
      obtain ⟨ν', q1, q2⟩ := m_refuses hm N (k := 3) (by decide)
      have q1' : f_X12_refuses N 3 ν = some (-1, ν') := q1
      rw [h1', z_bn_sm, q1', z_bn_sm]
      exact ⟨-1, μ', ν', rfl, rfl, _, ok_ref ok 3, h2, q2⟩
