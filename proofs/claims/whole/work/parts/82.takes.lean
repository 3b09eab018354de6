/-! takes, warmth, can, answer -/
theorem hn32 (c : Bool) : z_kw true (z_hn c + 32) = (0, 0) := by cases c <;> decide +kernel
theorem hn56 (c : Bool) : 56 ≤ z_hn c := by cases c <;> decide
theorem k39 : z_kw true 39 = (8, 0) := by decide +kernel
theorem c_timeN {A : aS} {μ : z_S} (ok : okS A) (h : cS A μ) (N : Nat) (hN : 1700 ≤ N) {l i : Nat} (hl : l < hCnt (sH A) 0) (hi : i < hCnt (sH A) 2) : ∃ μ', f_X4_timeOf N (z_hn μ.2.2.1) 39 (nI l) (nI i) μ = some (nI (timeV (sH A) (sN A) l i), μ') ∧ cFr μ μ' :=
  c_time ok.2.2.1 ok.2.2.2.1 (z_hn_k _) k39 (hn32 _) (hn56 _) (by decide) h.2.2.2.2.2.2.2.1 h.2.2.2.2.2.2.2.2.1 N hN hl hi
theorem c_warmN {A : aS} {μ : z_S} (ok : okS A) (h : cS A μ) (N : Nat) (hN : 1700 ≤ N) {l i : Nat} (hl : l < hCnt (sH A) 0) (hi : i < hCnt (sH A) 2) : ∃ μ', f_X4_warmthOf N (z_hn μ.2.2.1) 39 (nI l) (nI i) μ = some (iI (warmV (sH A) (sN A) l i), μ') ∧ bdM (warmV (sH A) (sN A) l i) ∧ cFr μ μ' :=
  c_warm ok.2.2.1 ok.2.2.2.1 (z_hn_k _) k39 (hn32 _) (hn56 _) (by decide) h.2.2.2.2.2.2.2.1 h.2.2.2.2.2.2.2.2.1 N hN hl hi
theorem c_ableN {A : aS} {μ : z_S} (ok : okS A) (h : cS A μ) (N : Nat) (hN : 1700 ≤ N) {l i : Nat} (hl : l < hCnt (sH A) 0) (hi : i < hCnt (sH A) 2) : ∃ r μ', f_X4_timeIfAble N (z_hn μ.2.2.1) 39 (nI l) (nI i) μ = some (r, μ') ∧ cFr μ μ' ∧ ((ableV (sH A) (sN A) l i ∧ r = nI (timeV (sH A) (sN A) l i)) ∨ (¬ ableV (sH A) (sN A) l i ∧ r = -1)) :=
  c_able ok.2.2.1 ok.2.2.2.1 (z_hn_k _) k39 (hn32 _) (hn56 _) (by decide) h.2.2.2.2.2.2.2.1 h.2.2.2.2.2.2.2.2.1 N hN hl hi
theorem m_bear {A : aS} {ν : z_S} (ok : okS A) (h : mS A ν) (N : Nat) {l i : Nat} (hl : l < hCnt (sH A) 0) (hi : i < hCnt (sH A) 2) : f_X12_doesBear N (nI l) (nI i) ν = some (if hMail (sH A) l 2 ≤ hHelp (sH A) i 2 then 1 else 0, ν) := by
  have h8 := ok.2.2.1.1
  have h3 := ok.2.2.1.2.2.1
  have hb1 := (ok.2.2.1.2.2.2.2.2.2.2.2.2.2.2.2.2.2.2.2.2.1 i).2.2.2
  have hb2 := (ok.2.2.1.2.2.2.2.2.2.1 l).2.2
  have e11 : (11 : Int32) + (3 : Int32) * nI i = nI (11 + 3 * i) := ix2 11 3 i
  have e26 : (26 : Int32) + (3 : Int32) * nI l = nI (26 + 3 * l) := ix2 26 3 l
  have q11 : ν.1 291 (11 + 3 * i) = nI (hHelp (sH A) i 2) := by
    have := h.2.2.2.2.2.2.1.2.2.2.2.2.2.2.1 i hi 2 (by decide)
    rw [show 9 + 3 * i + 2 = 11 + 3 * i by omega] at this
    exact this
  have q26 : ν.1 286 (26 + 3 * l) = nI (hMail (sH A) l 2) := by
    have := h.2.2.2.2.2.2.1.2.2.1 l hl 2 (by decide)
    rw [show 24 + 3 * l + 2 = 26 + 3 * l by omega] at this
    exact this
  unfold f_X12_doesBear
  rw [e11, e26, z_in_nI (show 11 + 3 * i < 18 by omega) (by decide), z_in_nI (show 26 + 3 * l < 48 by omega) (by decide), nI_toNat (show 11 + 3 * i < 2 ^ 31 by omega), nI_toNat (show 26 + 3 * l < 2 ^ 31 by omega), q11, q26]
  by_cases c : hMail (sH A) l 2 ≤ hHelp (sH A) i 2
  · rw [if_neg (nI_nlt c (by omega)), if_pos c]
  · rw [if_pos (nI_lt (by omega) (by omega)), if_neg c]
theorem m_can {A : aS} {ν : z_S} (ok : okS A) (h : mS A ν) (N : Nat) (hN : 1700 ≤ N) {l i : Nat} (hl : l < hCnt (sH A) 0) (hi : i < hCnt (sH A) 2) : ∃ r ν', f_X12_canAnswer N (nI l) (nI i) ν = some (r, ν') ∧ mFr ν ν' ∧ ((ableV (sH A) (sN A) l i ∧ r = 1) ∨ (¬ ableV (sH A) (sN A) l i ∧ r = 0)) := by
  have h8 := ok.2.2.1.1
  have h3 := ok.2.2.1.2.2.1
  have hd := ok.2.2.2.1.2.2.2.2.2.1 l
  have hlf := ok.2.2.2.1.2.1 i
  have ht := timeV_bd (sH A) (sN A) l i
  unfold f_X12_canAnswer
  rw [(m_now h N (show l < 8 by omega)).1, z_bn_sm]
  by_cases c1 : nDone (sN A) l = 0
  · rw [if_pos ((nI_z (by omega)).mpr c1), m_bear ok h N hl hi, z_bn_sm]
    by_cases c2 : hMail (sH A) l 2 ≤ hHelp (sH A) i 2
    · rw [if_pos c2, if_neg (by decide), m_left h N (show i < 3 by omega), z_bn_sm]
      obtain ⟨ν', p1, p2⟩ := m_time ok h N hN hl hi
      rw [p1, z_bn_sm]
      by_cases c4 : timeV (sH A) (sN A) l i ≤ nLeft (sN A) i
      · rw [if_neg (nI_nlt c4 (by omega))]
        exact ⟨_, ν', rfl, p2, Or.inl ⟨⟨c1, c2, c4⟩, rfl⟩⟩
      · rw [if_pos (nI_lt (by omega) (by omega))]
        exact ⟨_, ν', rfl, p2, Or.inr ⟨fun z => c4 z.2.2, rfl⟩⟩
    · rw [if_neg c2, if_pos rfl]
      exact ⟨_, ν, rfl, mFr.rf ν, Or.inr ⟨fun z => c2 z.2.1, rfl⟩⟩
  · rw [if_neg (fun z => c1 ((nI_z (by omega)).mp z))]
    exact ⟨_, ν, rfl, mFr.rf ν, Or.inr ⟨fun z => c1 z.1, rfl⟩⟩
theorem nI_nm1 {k : Nat} (h : k < 2 ^ 31) : ¬ nI k = -1 := fun z => by
  have := congrArg Int32.toInt z
  rw [nI_toInt h, show (-1 : Int32).toInt = -1 from rfl] at this
  omega
theorem op_takes {A : aS} {μ ν : z_S} (ok : okS A) (hc : cS A μ) (hm : mS A ν) (N : Nat) (hN : 1700 ≤ N) (a b : Int32) : z_Op (f_X11_takes N a b μ) (f_X12_takes N a b ν) := by
  have h8 := ok.2.2.1.1
  have h3 := ok.2.2.1.2.2.1
  have h10 : ¬ (1 : Int32) = 0 := by decide
  unfold f_X11_takes f_X12_takes
  rw [c_isL ok hc, z_bn_sm, m_isL ok hm, z_bn_sm]
  by_cases hl : 0 ≤ a.toInt ∧ a.toInt < hCnt (sH A) 0
  · rw [if_pos hl, if_neg h10, if_neg h10, c_isH ok hc, z_bn_sm, m_isH ok hm, z_bn_sm]
    by_cases hg : 0 ≤ b.toInt ∧ b.toInt < hCnt (sH A) 2
    · rw [if_pos hg, if_neg h10, if_neg h10]
      obtain ⟨l, hl1, rfl⟩ := small hl (by omega)
      obtain ⟨i, hi1, rfl⟩ := small hg (by omega)
      obtain ⟨μ', p1, p2⟩ := c_timeN ok hc N hN hl1 hi1
      obtain ⟨ν', q1, q2⟩ := m_time ok hm N hN hl1 hi1
      rw [p1, z_bn_sm, q1, z_bn_sm]
      exact ⟨_, _, _, rfl, rfl, A, ok, p2.cS ok hc, q2.mS hm⟩
    · rw [if_neg hg, if_pos rfl, if_pos rfl]
      exact ⟨_, _, _, rfl, rfl, A, ok, hc, hm⟩
  · rw [if_neg hl, if_pos rfl, if_pos rfl]
    exact ⟨_, _, _, rfl, rfl, A, ok, hc, hm⟩
theorem op_warmth {A : aS} {μ ν : z_S} (ok : okS A) (hc : cS A μ) (hm : mS A ν) (N : Nat) (hN : 1700 ≤ N) (a b : Int32) : z_Op (f_X11_warmth N a b μ) (f_X12_warmth N a b ν) := by
  have h8 := ok.2.2.1.1
  have h3 := ok.2.2.1.2.2.1
  have h10 : ¬ (1 : Int32) = 0 := by decide
  unfold f_X11_warmth f_X12_warmth
  rw [c_isL ok hc, z_bn_sm, m_isL ok hm, z_bn_sm]
  by_cases hl : 0 ≤ a.toInt ∧ a.toInt < hCnt (sH A) 0
  · rw [if_pos hl, if_neg h10, if_neg h10, c_isH ok hc, z_bn_sm, m_isH ok hm, z_bn_sm]
    by_cases hg : 0 ≤ b.toInt ∧ b.toInt < hCnt (sH A) 2
    · rw [if_pos hg, if_neg h10, if_neg h10]
      obtain ⟨l, hl1, rfl⟩ := small hl (by omega)
      obtain ⟨i, hi1, rfl⟩ := small hg (by omega)
      obtain ⟨μ', p1, p3, p2⟩ := c_warmN ok hc N hN hl1 hi1
      obtain ⟨ν', q1, q2⟩ := m_warm ok hm N hN hl1 hi1
      rw [p1, z_bn_sm, q1, z_bn_sm, iI_J p3]
      exact ⟨_, _, _, rfl, rfl, A, ok, p2.cS ok hc, q2.mS hm⟩
    · rw [if_neg hg, if_pos rfl, if_pos rfl]
      exact ⟨_, _, _, rfl, rfl, A, ok, hc, hm⟩
  · rw [if_neg hl, if_pos rfl, if_pos rfl]
    exact ⟨_, _, _, rfl, rfl, A, ok, hc, hm⟩
theorem op_can {A : aS} {μ ν : z_S} (ok : okS A) (hc : cS A μ) (hm : mS A ν) (N : Nat) (hN : 1700 ≤ N) (a b : Int32) : z_Op (f_X11_can N a b μ) (f_X12_can N a b ν) := by
  have h8 := ok.2.2.1.1
  have h3 := ok.2.2.1.2.2.1
  have h10 : ¬ (1 : Int32) = 0 := by decide
  unfold f_X11_can f_X12_can
  rw [c_isL ok hc, z_bn_sm, m_isL ok hm, z_bn_sm]
  by_cases hl : 0 ≤ a.toInt ∧ a.toInt < hCnt (sH A) 0
  · rw [if_pos hl, if_neg h10, if_neg h10, c_isH ok hc, z_bn_sm, m_isH ok hm, z_bn_sm]
    by_cases hg : 0 ≤ b.toInt ∧ b.toInt < hCnt (sH A) 2
    · rw [if_pos hg, if_neg h10, if_neg h10]
      obtain ⟨l, hl1, rfl⟩ := small hl (by omega)
      obtain ⟨i, hi1, rfl⟩ := small hg (by omega)
      obtain ⟨r, μ', p1, p2, p3⟩ := c_ableN ok hc N hN hl1 hi1
      obtain ⟨q, ν', q1, q2, q3⟩ := m_can ok hm N hN hl1 hi1
      have ht := timeV_bd (sH A) (sN A) l i
      rw [p1, z_bn_sm, q1, z_bn_sm]
      rcases p3 with ⟨p3, rfl⟩ | ⟨p3, rfl⟩
      · rcases q3 with ⟨q3, rfl⟩ | ⟨q3, rfl⟩
        · rw [if_neg (nI_nm1 (by omega)), if_neg h10]
          exact ⟨_, _, _, rfl, rfl, A, ok, p2.cS ok hc, q2.mS hm⟩
        · exact absurd p3 q3
      · rcases q3 with ⟨q3, rfl⟩ | ⟨q3, rfl⟩
        · exact absurd q3 p3
        · rw [if_pos rfl, if_pos rfl]
          exact ⟨_, _, _, rfl, rfl, A, ok, p2.cS ok hc, q2.mS hm⟩
    · rw [if_neg hg, if_pos rfl, if_pos rfl]
      exact ⟨_, _, _, rfl, rfl, A, ok, hc, hm⟩
  · rw [if_neg hl, if_pos rfl, if_pos rfl]
    exact ⟨_, _, _, rfl, rfl, A, ok, hc, hm⟩
def nAns (s : aN) (l i t : Nat) : aN := (s.1, upN (nLeft s) i (nLeft s i - t), nStock s, upN (nDone s) l (i + 1), nSheet s, nGift s)
theorem ok_ans {h : aH} {s : aN} (hs : okN h s) {l i : Nat} (t : Nat) (hl : l < hCnt h 0) (hi : i < hCnt h 2) : okN h (nAns s l i t) := by
  obtain ⟨q1, q2, q3, q4, q5, q6, q7, q8, q9⟩ := hs
  refine ⟨q1, fun k => ?_, fun k hk => ?_, q4, q5, fun k => ?_, q7, q8, fun k hk => ⟨?_, (q9 k hk).2⟩⟩
  · show (if k = i then nLeft s i - t else nLeft s k) ≤ 240
    split
    · have := q2 i; omega
    · exact q2 k
  · show (if k = i then nLeft s i - t else nLeft s k) = 0
    rw [if_neg (by omega)]; exact q3 k hk
  · show (if k = l then i + 1 else nDone s k) ≤ hCnt h 2
    split
    · omega
    · exact q6 k
  · show (if k = l then i + 1 else nDone s k) = 0
    rw [if_neg (by omega)]; exact (q9 k hk).1
theorem m_ans {A : aS} {ν : z_S} (ok : okS A) (h : mS A ν) (N : Nat) (hN : 1700 ≤ N) {l i : Nat} (hl : l < hCnt (sH A) 0) (hi : i < hCnt (sH A) 2) (hle : timeV (sH A) (sN A) l i ≤ nLeft (sN A) i) : ∃ ν', f_X12_isAnswered N (nI l) (nI i) ν = some ((), ν') ∧ mS (aNow A (nAns (sN A) l i (timeV (sH A) (sN A) l i))) ν' ∧ ∃ ν1, mFr ν ν1 ∧ ν'.2 = ν1.2 ∧ ∀ o j, o ≠ 296 → ν'.1 o j = ν1.1 o j := by
  have h8 := ok.2.2.1.1
  have h3 := ok.2.2.1.2.2.1
  obtain ⟨ν1, p1, p2⟩ := m_time ok h N hN hl hi
  have h1 := p2.mS h
  have e1 : (1 : Int32) + nI i = nI (1 + i) := ix1 1 i
  have e8 : (8 : Int32) + (3 : Int32) * nI l = nI (8 + 3 * l) := ix2 8 3 l
  have ei : nI i + (1 : Int32) = nI (i + 1) := nI_1 i
  have m9 := h1.2.2.2.2.2.2.2.1
  have q1 : ν.1 296 (1 + i) = nI (nLeft (sN A) i) := by
    have := h.2.2.2.2.2.2.2.1.2.1 i (by omega)
    rw [show 0 + 1 + i = 1 + i by omega] at this
    exact this
  have es : nI (nLeft (sN A) i) - nI (timeV (sH A) (sN A) l i) = nI (nLeft (sN A) i - timeV (sH A) (sN A) l i) := pk_sub hle
  refine ⟨z_setI (z_setI ν1 296 (1 + i) (nI (nLeft (sN A) i - timeV (sH A) (sN A) l i))) 296 (8 + 3 * l) (nI (i + 1)), ?_, ?_, ν1, p2, rfl, fun o j ho => ?_⟩
  · unfold f_X12_isAnswered
    simp only [z_bd_eq]
    rw [e1, z_in_nI (show 1 + i < 32 by omega) (by decide), p1, z_bn_sm, z_in_nI (show 1 + i < 32 by omega) (by decide), nI_toNat (show 1 + i < 2 ^ 31 by omega), q1, es, e8, z_in_nI (show 8 + 3 * l < 32 by omega) (by decide), nI_toNat (show 8 + 3 * l < 2 ^ 31 by omega), ei]
  · refine mS_now h1 rfl (fun o j ho => by rw [sI_1, if_neg (fun q => ho q.1), sI_1, if_neg (fun q => ho q.1)]) ?_
    obtain ⟨g1, g2, g3, g4⟩ := m9
    refine ⟨?_, fun j hj => ?_, fun j hj => ?_, fun j hj => ⟨?_, ?_, ?_⟩⟩
    · rw [sI_1, if_neg (by omega), sI_1, if_neg (by omega)]; exact g1
    · rw [sI_1, if_neg (by omega), sI_1]
      show _ = nI (if j = i then nLeft (sN A) i - timeV (sH A) (sN A) l i else nLeft (sN A) j)
      by_cases e : j = i
      · rw [if_pos (by omega), if_pos e]
      · rw [if_neg (by omega), if_neg e]; exact g2 j hj
    · rw [sI_1, if_neg (by omega), sI_1, if_neg (by omega)]; exact g3 j hj
    · rw [sI_1]
      show _ = nI (if j = l then i + 1 else nDone (sN A) j)
      by_cases e : j = l
      · rw [if_pos (by omega), if_pos e]
      · rw [if_neg (by omega), if_neg e, sI_1, if_neg (by omega)]; exact (g4 j hj).1
    · rw [sI_1, if_neg (by omega), sI_1, if_neg (by omega)]; exact (g4 j hj).2.1
    · rw [sI_1, if_neg (by omega), sI_1, if_neg (by omega)]; exact (g4 j hj).2.2
  · rw [sI_1, if_neg (fun q => ho q.1), sI_1, if_neg (fun q => ho q.1)]
theorem op_answer {A : aS} {μ ν : z_S} (ok : okS A) (hc : cS A μ) (hm : mS A ν) (N : Nat) (hN : 1700 ≤ N) (a b : Int32) : z_Op (f_X11_answer N a b μ) (f_X12_answer N a b ν) := by
  have h8 := ok.2.2.1.1
  have h3 := ok.2.2.1.2.2.1
  have h10 : ¬ (1 : Int32) = 0 := by decide
  have hno : ∀ μ1 ν1, cS A μ1 → mS A ν1 → z_Op (z_bn (f_X11_refuseNumber N 2 μ1) fun x1 μ_1 => some (x1, μ_1)) (z_bn (f_X12_refuses N 2 ν1) fun x1 μ_1 => some (x1, μ_1)) := by
    intro μ1 ν1 hc hm
    obtain ⟨μ', h1, h2⟩ := c_refN ok hc N (k := 2) (by decide)
    have h1' : f_X11_refuseNumber N 2 μ1 = some (-1, μ') := h1
    obtain ⟨ν', g1, g2⟩ := m_refuses hm N (k := 2) (by decide)
    have g1' : f_X12_refuses N 2 ν1 = some (-1, ν') := g1
    rw [h1', z_bn_sm, g1', z_bn_sm]
    exact ⟨-1, μ', ν', rfl, rfl, _, ok_ref ok 2, h2, g2⟩
  unfold f_X11_answer f_X12_answer f_X11_answer_B16 f_X12_answer_B25
  rw [c_isL ok hc, z_bn_sm, m_isL ok hm, z_bn_sm]
  by_cases hl : 0 ≤ a.toInt ∧ a.toInt < hCnt (sH A) 0
  · rw [if_pos hl, if_neg h10, if_neg h10, c_isH ok hc, z_bn_sm, m_isH ok hm, z_bn_sm]
    by_cases hg : 0 ≤ b.toInt ∧ b.toInt < hCnt (sH A) 2
    · rw [if_pos hg, if_neg h10, if_neg h10]
      obtain ⟨l, hl1, rfl⟩ := small hl (by omega)
      obtain ⟨i, hi1, rfl⟩ := small hg (by omega)
      obtain ⟨r, μ1, p1, p2, p3⟩ := c_ableN ok hc N hN hl1 hi1
      obtain ⟨q, ν1, q1, q2, q3⟩ := m_can ok hm N hN hl1 hi1
      have ht := timeV_bd (sH A) (sN A) l i
      rw [p1, z_bn_sm, q1, z_bn_sm]
      rcases p3 with ⟨p3, rfl⟩ | ⟨p3, rfl⟩
      · rcases q3 with ⟨q3, rfl⟩ | ⟨q3, rfl⟩
        · rw [if_neg (nI_nm1 (by omega)), if_neg h10]
          obtain ⟨μ2, r1, r2⟩ := c_remember ok (p2.cS ok hc) N
          obtain ⟨ν2, s1, s2⟩ := m_keeps ok (q2.mS hm) N (by omega)
          obtain ⟨ν3, t1, t2⟩ := m_time (ok_keep ok) s2 N hN (l := l) (i := i) hl1 hi1
          obtain ⟨ν4, u1, u2, -⟩ := m_ans (ok_keep ok) (t2.mS s2) N hN (l := l) (i := i) hl1 hi1 p3.2.2
          have k9 := r2.2.2.2.2.2.2.2.2.1
          have q40 : (z_setI μ2 42 l (nI i)).1 40 i = nI (nLeft (sN A) i) := by rw [sI_1, if_neg (by omega)]; exact k9.2.1 i (by omega)
          have es : nI (nLeft (sN A) i) - nI (timeV (sH A) (sN A) l i) = nI (nLeft (sN A) i - timeV (sH A) (sN A) l i) := pk_sub p3.2.2
          rw [r1, z_bn_sm, s1, z_bn_sm, t1, z_bn_sm, u1, z_bn_sm]
          simp only [z_bd_eq]
          rw [z_in_nI (show l < 8 by omega) (by decide), z_in_nI (show i < 3 by omega) (by decide), z_in_nI (show i < 3 by omega) (by decide), nI_toNat (show l < 2 ^ 31 by omega), nI_toNat (show i < 2 ^ 31 by omega), q40, es]
          refine ⟨_, _, _, rfl, rfl, aNow (aKeep A) (nAns (sN A) l i (timeV (sH A) (sN A) l i)), ok_now (ok_keep ok) (ok_ans ok.2.2.2.1 _ hl1 hi1), ?_, u2⟩
          refine cS_now (ok_keep ok) r2 rfl (fun o j ho => by rw [sI_1, if_neg (by omega), sI_1, if_neg (by omega)]) ?_
          obtain ⟨g1, g2, g3, g4, g5, g6⟩ := k9
          refine ⟨?_, fun j hj => ?_, fun j hj => ?_, fun j hj => ?_, fun j hj => ?_, fun j hj => ?_⟩
          · rw [sI_1, if_neg (by omega), sI_1, if_neg (by omega)]; exact g1
          · rw [sI_1]
            show _ = nI (if j = i then nLeft (sN A) i - timeV (sH A) (sN A) l i else nLeft (sN A) j)
            by_cases e : j = i
            · rw [if_pos ⟨rfl, e⟩, if_pos e]
            · rw [if_neg (fun q => e q.2), if_neg e, sI_1, if_neg (by omega)]; exact g2 j hj
          · rw [sI_1, if_neg (by omega), sI_1, if_neg (by omega)]; exact g3 j hj
          · rw [sI_1, if_neg (by omega), sI_1]
            show _ = nI (if j = l then i + 1 else nDone (sN A) j) - 1
            by_cases e : j = l
            · rw [if_pos ⟨rfl, e⟩, if_pos e]; exact (nI_pred i).symm
            · rw [if_neg (fun q => e q.2), if_neg e]; exact g4 j hj
          · rw [sI_1, if_neg (by omega), sI_1, if_neg (by omega)]; exact g5 j hj
          · rw [sI_1, if_neg (by omega), sI_1, if_neg (by omega)]; exact g6 j hj
        · exact absurd p3 q3
      · rcases q3 with ⟨q3, rfl⟩ | ⟨q3, rfl⟩
        · exact absurd q3 p3
        · rw [if_pos rfl, if_pos rfl]
          exact hno _ _ (p2.cS ok hc) (q2.mS hm)
    · rw [if_neg hg, if_pos rfl, if_pos rfl]
      exact hno _ _ hc hm
  · rw [if_neg hl, if_pos rfl, if_pos rfl]
    exact hno _ _ hc hm
