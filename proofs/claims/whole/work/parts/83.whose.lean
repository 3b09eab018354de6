/-! whose, watched -/
def fitV (A : aS) (i : Nat) : List (Nat × Nat) → Bool
  | [] => true
  | q :: r => if timeV (sH A) (sN A) q.1 i = q.2 then fitV A i r else false
theorem drop_at {α : Type} {L : List α} {k : Nat} (h : k < L.length) : ∃ q, L[k]? = some q ∧ L.drop k = q :: L.drop (k + 1) := ⟨L[k], List.getElem?_eq_getElem h, List.drop_eq_getElem_cons h⟩
theorem c_fits {A : aS} (ok : okS A) (N : Nat) (hN : 1700 ≤ N) {i : Nat} (hi : i < hCnt (sH A) 2) : ∀ n k μ, cS A μ → k ≤ (sSeen A).length → (sSeen A).length - k < n → ∃ μ', f_X11_fitsSeen_L2 N (nI i) n (nI k) μ = some (if fitV A i ((sSeen A).drop k) then 1 else 0, μ') ∧ cFr μ μ' := by
  have hlen := ok.2.2.2.2.2.2.1
  intro n
  induction n with
  | zero => intro k μ _ h1 h2; omega
  | succ n ih =>
    intro k μ h h1 h2
    show ∃ μ', b_X11_fitsSeen_L2 N (nI i) (f_X11_fitsSeen_L2 N (nI i) n) (nI k) μ = _ ∧ _
    unfold b_X11_fitsSeen_L2
    rw [h.2.2.2.2.2.2.2.2.2.2.2.1]
    by_cases hlt : k < (sSeen A).length
    · obtain ⟨q, q1, q2⟩ := drop_at hlt
      have qo := ok.2.2.2.2.2.2.2.1 q (List.mem_of_getElem? q1)
      obtain ⟨s1, s2⟩ := h.2.2.2.2.2.2.2.2.2.2.2.2.1 k q q1
      have ek : nI k + 1 = nI (k + 1) := nI_1 k
      obtain ⟨μ1, p1, p2⟩ := c_timeN ok h N hN qo.1 hi
      have ht := timeV_bd (sH A) (sN A) q.1 i
      have hc1 := p2.cS ok h
      obtain ⟨-, s2'⟩ := hc1.2.2.2.2.2.2.2.2.2.2.2.2.1 k q q1
      rw [if_pos (nI_lt hlt (by omega)), z_in_nI (show k < 16 by omega) (by decide), nI_toNat (by omega), s1, p1, z_bn_sm, z_in_nI (show k < 16 by omega) (by decide), s2', z_bd_eq, ek, q2]
      show ∃ μ', _ = some (if (if timeV (sH A) (sN A) q.1 i = q.2 then fitV A i ((sSeen A).drop (k + 1)) else false) = true then 1 else 0, μ') ∧ _
      by_cases c : timeV (sH A) (sN A) q.1 i = q.2
      · rw [if_pos (by rw [c]), if_pos c]
        obtain ⟨μ2, r1, r2⟩ := ih (k + 1) μ1 hc1 (by omega) (by omega)
        exact ⟨μ2, r1, p2.tr r2⟩
      · rw [if_neg (fun z => c ((nI_eq (by omega) (by omega)).mp z)), if_neg c]
        exact ⟨μ1, rfl, p2⟩
    · have : k = (sSeen A).length := by omega
      subst this
      rw [if_neg (nI_nlt (Nat.le_refl _) (by omega)), List.drop_length]
      exact ⟨μ, rfl, cFr.rf μ⟩
theorem m_fits {A : aS} (ok : okS A) (N : Nat) (hN : 1700 ≤ N) {i : Nat} (hi : i < hCnt (sH A) 2) : ∀ n k ν, mS A ν → k ≤ (sSeen A).length → (sSeen A).length - k < n → ∃ ν', f_X12_isAsTold_L2 N (nI i) n (nI k) ν = some (if fitV A i ((sSeen A).drop k) then 1 else 0, ν') ∧ mFr ν ν' := by
  have hlen := ok.2.2.2.2.2.2.1
  intro n
  induction n with
  | zero => intro k ν _ h1 h2; omega
  | succ n ih =>
    intro k ν h h1 h2
    show ∃ ν', b_X12_isAsTold_L2 N (nI i) (f_X12_isAsTold_L2 N (nI i) n) (nI k) ν = _ ∧ _
    unfold b_X12_isAsTold_L2
    rw [h.2.2.2.2.2.2.2.2.2.2.1]
    by_cases hlt : k < (sSeen A).length
    · obtain ⟨q, q1, q2⟩ := drop_at hlt
      have qo := ok.2.2.2.2.2.2.2.1 q (List.mem_of_getElem? q1)
      obtain ⟨s1, -⟩ := h.2.2.2.2.2.2.2.2.2.2.2.1 k q q1
      have ek : nI k + 1 = nI (k + 1) := nI_1 k
      have e3 : (3 : Int32) * nI k = nI (3 * k) := pk_mul 3 k
      have e31 : nI (3 * k) + (1 : Int32) = nI (3 * k + 1) := nI_1 _
      have e32 : nI (3 * k) + (2 : Int32) = nI (3 * k + 2) := ix1 _ 2
      obtain ⟨ν1, p1, p2⟩ := m_time ok h N hN qo.1 hi
      have ht := timeV_bd (sH A) (sN A) q.1 i
      have hc1 := p2.mS h
      obtain ⟨-, x, y, x1, y1, xy, s3, s4⟩ := hc1.2.2.2.2.2.2.2.2.2.2.2.1 k q q1
      have exy : (256 : Int32) * nI x + nI y = nI q.2 := by rw [show (256 : Int32) = nI 256 from rfl, pk_mul, nI_add, xy]
      rw [if_pos (nI_lt hlt (by omega)), e3, z_in_nI (show 3 * k < 48 by omega) (by decide), nI_toNat (show 3 * k < 2 ^ 31 by omega), s1, p1, z_bn_sm, e31, e32, z_in_nI (show 3 * k + 1 < 48 by omega) (by decide), z_in_nI (show 3 * k + 2 < 48 by omega) (by decide), nI_toNat (show 3 * k + 1 < 2 ^ 31 by omega), nI_toNat (show 3 * k + 2 < 2 ^ 31 by omega), s3, s4, exy, z_bd_eq, ek, q2]
      show ∃ ν', _ = some (if (if timeV (sH A) (sN A) q.1 i = q.2 then fitV A i ((sSeen A).drop (k + 1)) else false) = true then 1 else 0, ν') ∧ _
      by_cases c : timeV (sH A) (sN A) q.1 i = q.2
      · rw [if_pos (by rw [c]), if_pos c]
        obtain ⟨ν2, r1, r2⟩ := ih (k + 1) ν1 hc1 (by omega) (by omega)
        exact ⟨ν2, r1, p2.tr r2⟩
      · rw [if_neg (fun z => c ((nI_eq (by omega) (by omega)).mp z)), if_neg c]
        exact ⟨ν1, rfl, p2⟩
    · have : k = (sSeen A).length := by omega
      subst this
      rw [if_neg (nI_nlt (Nat.le_refl _) (by omega)), List.drop_length]
      exact ⟨ν, rfl, mFr.rf ν⟩
def whoV (A : aS) : Nat → Int32
  | 0 => 0
  | k + 1 => if fitV A k (sSeen A) then whoV A k ||| ((1 : Int32) <<< (nI k &&& 31)) else whoV A k
theorem c_whose {A : aS} (ok : okS A) (N : Nat) (hN : 1700 ≤ N) {μ : z_S} (h : cS A μ) : ∃ μ', f_X11_whose N μ = some (whoV A (hCnt (sH A) 2), μ') ∧ cFr μ μ' := by
  have h3 := ok.2.2.1.2.2.1
  have hlen := ok.2.2.2.2.2.2.1
  have key : ∀ n k μ1, cS A μ1 → k ≤ hCnt (sH A) 2 → hCnt (sH A) 2 - k < n → ∃ μ', f_X11_whose_L4 N n (whoV A k) (nI k) μ1 = some (whoV A (hCnt (sH A) 2), μ') ∧ cFr μ1 μ' := by
    intro n
    induction n with
    | zero => intro k μ1 _ h1 h2; omega
    | succ n ih =>
      intro k μ1 hc h1 h2
      show ∃ μ', b_X11_whose_L4 N (f_X11_whose_L4 N n) (whoV A k) (nI k) μ1 = _ ∧ _
      unfold b_X11_whose_L4 f_X11_whose_B31
      rw [hc.2.2.2.2.2.2.2.1.1 2 (by decide)]
      by_cases hlt : k < hCnt (sH A) 2
      · have ek : nI k + 1 = nI (k + 1) := nI_1 k
        obtain ⟨μ2, p1, p2⟩ := c_fits ok N hN hlt N 0 μ1 hc (Nat.zero_le _) (by omega)
        have p1' : f_X11_fitsSeen N (nI k) μ1 = some (if fitV A k (sSeen A) then 1 else 0, μ2) := p1
        obtain ⟨μ3, r1, r2⟩ := ih (k + 1) μ2 (p2.cS ok hc) (by omega) (by omega)
        rw [if_pos (nI_lt hlt (by omega)), p1', z_bn_sm]
        simp only [z_bd_eq]
        rw [ek]
        have r1' : f_X11_whose_L4 N n (if fitV A k (sSeen A) then whoV A k ||| ((1 : Int32) <<< (nI k &&& 31)) else whoV A k) (nI (k + 1)) μ2 = _ := r1
        by_cases c : fitV A k (sSeen A) = true
        · rw [if_pos c] at r1' ⊢
          rw [if_neg (by decide)]
          exact ⟨μ3, r1', p2.tr r2⟩
        · rw [if_neg c] at r1' ⊢
          rw [if_pos rfl]
          exact ⟨μ3, r1', p2.tr r2⟩
      · have : k = hCnt (sH A) 2 := by omega
        subst this
        rw [if_neg (nI_nlt (Nat.le_refl _) (by omega))]
        exact ⟨μ1, rfl, cFr.rf _⟩
  exact key N 0 μ h (Nat.zero_le _) (by omega)
theorem m_whose {A : aS} (ok : okS A) (N : Nat) (hN : 1700 ≤ N) {ν : z_S} (h : mS A ν) : ∃ ν', f_X12_whose N ν = some (whoV A (hCnt (sH A) 2), ν') ∧ mFr ν ν' := by
  have h3 := ok.2.2.1.2.2.1
  have hlen := ok.2.2.2.2.2.2.1
  have key : ∀ n k ν1, mS A ν1 → k ≤ hCnt (sH A) 2 → hCnt (sH A) 2 - k < n → ∃ ν', f_X12_whose_L4 N n (whoV A k) (nI k) ν1 = some (whoV A (hCnt (sH A) 2), ν') ∧ mFr ν1 ν' := by
    intro n
    induction n with
    | zero => intro k μ1 _ h1 h2; omega
    | succ n ih =>
      intro k ν1 hc h1 h2
      show ∃ ν', b_X12_whose_L4 N (f_X12_whose_L4 N n) (whoV A k) (nI k) ν1 = _ ∧ _
      unfold b_X12_whose_L4 f_X12_whose_B26 f_X12_helperMany
      rw [z_bn_sm, hc.2.2.2.2.2.2.1.1 2 (by decide)]
      by_cases hlt : k < hCnt (sH A) 2
      · have ek : nI k + 1 = nI (k + 1) := nI_1 k
        obtain ⟨ν2, p1, p2⟩ := m_fits ok N hN hlt N 0 ν1 hc (Nat.zero_le _) (by omega)
        have p1' : f_X12_isAsTold N (nI k) ν1 = some (if fitV A k (sSeen A) then 1 else 0, ν2) := p1
        obtain ⟨ν3, r1, r2⟩ := ih (k + 1) ν2 (p2.mS hc) (by omega) (by omega)
        rw [if_pos (nI_lt hlt (by omega)), p1', z_bn_sm]
        simp only [z_bd_eq]
        rw [ek]
        have r1' : f_X12_whose_L4 N n (if fitV A k (sSeen A) then whoV A k ||| ((1 : Int32) <<< (nI k &&& 31)) else whoV A k) (nI (k + 1)) ν2 = _ := r1
        by_cases c : fitV A k (sSeen A) = true
        · rw [if_pos c] at r1' ⊢
          rw [if_neg (by decide)]
          exact ⟨ν3, r1', p2.tr r2⟩
        · rw [if_neg c] at r1' ⊢
          rw [if_pos rfl]
          exact ⟨ν3, r1', p2.tr r2⟩
      · have : k = hCnt (sH A) 2 := by omega
        subst this
        rw [if_neg (nI_nlt (Nat.le_refl _) (by omega))]
        exact ⟨ν1, rfl, mFr.rf _⟩
  exact key N 0 ν h (Nat.zero_le _) (by omega)
theorem op_whose {A : aS} {μ ν : z_S} (ok : okS A) (hc : cS A μ) (hm : mS A ν) (N : Nat) (hN : 1700 ≤ N) : z_Op (f_X11_whose N μ) (f_X12_whose N ν) := by
  obtain ⟨μ', p1, p2⟩ := c_whose ok N hN hc
  obtain ⟨ν', q1, q2⟩ := m_whose ok N hN hm
  exact ⟨_, μ', ν', p1, q1, A, ok, p2.cS ok hc, q2.mS hm⟩
/-! watched -/
def inS (S : Int32) (k : Nat) : Prop := ((S >>> (nI k &&& 31)) &&& (1 : Int32)) = (1 : Int32)
def alkV (A : aS) (S : Int32) (l i : Nat) : Nat → Nat
  | 0 => 0
  | k + 1 => if ((S >>> (nI k &&& 31)) &&& (1 : Int32)) = (1 : Int32) ∧ timeV (sH A) (sN A) l k = timeV (sH A) (sN A) l i then alkV A S l i k + 1 else alkV A S l i k
theorem alkV_le (A : aS) (S : Int32) (l i : Nat) : ∀ k, alkV A S l i k ≤ k
  | 0 => Nat.le_refl 0
  | k + 1 => by
    have := alkV_le A S l i k
    have e : alkV A S l i (k + 1) = if ((S >>> (nI k &&& 31)) &&& (1 : Int32)) = (1 : Int32) ∧ timeV (sH A) (sN A) l k = timeV (sH A) (sN A) l i then alkV A S l i k + 1 else alkV A S l i k := rfl
    rw [e]
    split <;> omega
def mostV (A : aS) (S : Int32) (l : Nat) : Nat → Nat
  | 0 => 0
  | i + 1 => if ((S >>> (nI i &&& 31)) &&& (1 : Int32)) = (1 : Int32) then (if mostV A S l i < alkV A S l i (hCnt (sH A) 2) then alkV A S l i (hCnt (sH A) 2) else mostV A S l i) else mostV A S l i
theorem mostV_le (A : aS) (S : Int32) (l : Nat) : ∀ k, mostV A S l k ≤ hCnt (sH A) 2
  | 0 => Nat.zero_le _
  | k + 1 => by
    have := mostV_le A S l k
    have := alkV_le A S l k (hCnt (sH A) 2)
    show (if _ then (if mostV A S l k < alkV A S l k (hCnt (sH A) 2) then alkV A S l k (hCnt (sH A) 2) else mostV A S l k) else mostV A S l k) ≤ _
    split
    · split <;> omega
    · omega
theorem c_alike {A : aS} (ok : okS A) (N : Nat) (hN : 1700 ≤ N) {l i : Nat} (hl : l < hCnt (sH A) 0) (hi : i < hCnt (sH A) 2) (S : Int32) {μ : z_S} (h : cS A μ) : ∃ μ', f_X11_alike N (nI l) (nI i) S μ = some (nI (alkV A S l i (hCnt (sH A) 2)), μ') ∧ cFr μ μ' := by
  have h3 := ok.2.2.1.2.2.1
  have key : ∀ n k μ1, cS A μ1 → k ≤ hCnt (sH A) 2 → hCnt (sH A) 2 - k < n → ∃ μ', f_X11_alike_L25 N (nI l) S (nI (timeV (sH A) (sN A) l i)) n (nI (alkV A S l i k)) (nI k) μ1 = some (nI (alkV A S l i (hCnt (sH A) 2)), μ') ∧ cFr μ1 μ' := by
    intro n
    induction n with
    | zero => intro k μ1 _ h1 h2; omega
    | succ n ih =>
      intro k μ1 hc h1 h2
      show ∃ μ', b_X11_alike_L25 N (nI l) S (nI (timeV (sH A) (sN A) l i)) (f_X11_alike_L25 N (nI l) S (nI (timeV (sH A) (sN A) l i)) n) (nI (alkV A S l i k)) (nI k) μ1 = _ ∧ _
      unfold b_X11_alike_L25 f_X11_alike_B75
      rw [hc.2.2.2.2.2.2.2.1.1 2 (by decide)]
      by_cases hlt : k < hCnt (sH A) 2
      · have ek : nI k + 1 = nI (k + 1) := nI_1 k
        have ea : nI (alkV A S l i k) + 1 = nI (alkV A S l i k + 1) := nI_1 _
        simp only [z_bd_eq]
        rw [if_pos (nI_lt hlt (by omega)), ek, ea]
        have t1 := timeV_bd (sH A) (sN A) l k
        have t2 := timeV_bd (sH A) (sN A) l i
        by_cases c1 : ((S >>> (nI k &&& 31)) &&& (1 : Int32)) = (1 : Int32)
        · rw [if_pos c1]
          obtain ⟨μ2, p1, p2⟩ := c_timeN ok hc N hN hl hlt
          obtain ⟨μ3, r1, r2⟩ := ih (k + 1) μ2 (p2.cS ok hc) (by omega) (by omega)
          have r1' : f_X11_alike_L25 N (nI l) S (nI (timeV (sH A) (sN A) l i)) n (nI (if ((S >>> (nI k &&& 31)) &&& (1 : Int32)) = (1 : Int32) ∧ timeV (sH A) (sN A) l k = timeV (sH A) (sN A) l i then alkV A S l i k + 1 else alkV A S l i k)) (nI (k + 1)) μ2 = _ := r1
          rw [p1, z_bn_sm]
          by_cases c2 : timeV (sH A) (sN A) l k = timeV (sH A) (sN A) l i
          · rw [if_pos ⟨c1, c2⟩] at r1'
            rw [if_pos (by rw [c2])]
            exact ⟨μ3, r1', p2.tr r2⟩
          · rw [if_neg (fun z => c2 z.2)] at r1'
            rw [if_neg (fun z => c2 ((nI_eq (by omega) (by omega)).mp z))]
            exact ⟨μ3, r1', p2.tr r2⟩
        · rw [if_neg c1]
          obtain ⟨μ3, r1, r2⟩ := ih (k + 1) μ1 hc (by omega) (by omega)
          have r1' : f_X11_alike_L25 N (nI l) S (nI (timeV (sH A) (sN A) l i)) n (nI (if ((S >>> (nI k &&& 31)) &&& (1 : Int32)) = (1 : Int32) ∧ timeV (sH A) (sN A) l k = timeV (sH A) (sN A) l i then alkV A S l i k + 1 else alkV A S l i k)) (nI (k + 1)) μ1 = _ := r1
          rw [if_neg (fun z => c1 z.1)] at r1'
          exact ⟨μ3, r1', r2⟩
      · have : k = hCnt (sH A) 2 := by omega
        subst this
        rw [if_neg (nI_nlt (Nat.le_refl _) (by omega))]
        exact ⟨μ1, rfl, cFr.rf _⟩
  unfold f_X11_alike
  obtain ⟨μ1, p1, p2⟩ := c_timeN ok h N hN hl hi
  obtain ⟨μ2, r1, r2⟩ := key N 0 μ1 (p2.cS ok h) (Nat.zero_le _) (by omega)
  rw [p1, z_bn_sm]
  exact ⟨μ2, r1, p2.tr r2⟩
theorem c_most {A : aS} (ok : okS A) (N : Nat) (hN : 1700 ≤ N) {l : Nat} (hl : l < hCnt (sH A) 0) (S : Int32) {μ : z_S} (h : cS A μ) : ∃ μ', f_X11_mostAlike N (nI l) S μ = some (nI (mostV A S l (hCnt (sH A) 2)), μ') ∧ cFr μ μ' := by
  have h3 := ok.2.2.1.2.2.1
  have key : ∀ n k μ1, cS A μ1 → k ≤ hCnt (sH A) 2 → hCnt (sH A) 2 - k < n → ∃ μ', f_X11_mostAlike_L5 N (nI l) S n (nI (mostV A S l k)) (nI k) μ1 = some (nI (mostV A S l (hCnt (sH A) 2)), μ') ∧ cFr μ1 μ' := by
    intro n
    induction n with
    | zero => intro k μ1 _ h1 h2; omega
    | succ n ih =>
      intro k μ1 hc h1 h2
      show ∃ μ', b_X11_mostAlike_L5 N (nI l) S (f_X11_mostAlike_L5 N (nI l) S n) (nI (mostV A S l k)) (nI k) μ1 = _ ∧ _
      unfold b_X11_mostAlike_L5 f_X11_mostAlike_B42 f_J9_max_7cf53
      rw [hc.2.2.2.2.2.2.2.1.1 2 (by decide)]
      by_cases hlt : k < hCnt (sH A) 2
      · have ek : nI k + 1 = nI (k + 1) := nI_1 k
        simp only [z_bd_eq]
        rw [if_pos (nI_lt hlt (by omega)), ek]
        have m1 := mostV_le A S l k
        have m2 := alkV_le A S l k (hCnt (sH A) 2)
        by_cases c1 : ((S >>> (nI k &&& 31)) &&& (1 : Int32)) = (1 : Int32)
        · rw [if_pos c1]
          obtain ⟨μ2, p1, p2⟩ := c_alike ok N hN hl hlt S hc
          obtain ⟨μ3, r1, r2⟩ := ih (k + 1) μ2 (p2.cS ok hc) (by omega) (by omega)
          have r1' : f_X11_mostAlike_L5 N (nI l) S n (nI (if ((S >>> (nI k &&& 31)) &&& (1 : Int32)) = (1 : Int32) then (if mostV A S l k < alkV A S l k (hCnt (sH A) 2) then alkV A S l k (hCnt (sH A) 2) else mostV A S l k) else mostV A S l k)) (nI (k + 1)) μ2 = _ := r1
          rw [if_pos c1] at r1'
          rw [p1, z_bn_sm]
          by_cases c2 : mostV A S l k < alkV A S l k (hCnt (sH A) 2)
          · rw [if_pos c2] at r1'
            rw [if_pos (nI_lt c2 (by omega)), z_bn_sm]
            exact ⟨μ3, r1', p2.tr r2⟩
          · rw [if_neg c2] at r1'
            rw [if_neg (nI_nlt (by omega) (by omega)), z_bn_sm]
            exact ⟨μ3, r1', p2.tr r2⟩
        · rw [if_neg c1]
          obtain ⟨μ3, r1, r2⟩ := ih (k + 1) μ1 hc (by omega) (by omega)
          have r1' : f_X11_mostAlike_L5 N (nI l) S n (nI (if ((S >>> (nI k &&& 31)) &&& (1 : Int32)) = (1 : Int32) then (if mostV A S l k < alkV A S l k (hCnt (sH A) 2) then alkV A S l k (hCnt (sH A) 2) else mostV A S l k) else mostV A S l k)) (nI (k + 1)) μ1 = _ := r1
          rw [if_neg c1] at r1'
          exact ⟨μ3, r1', r2⟩
      · have : k = hCnt (sH A) 2 := by omega
        subst this
        rw [if_neg (nI_nlt (Nat.le_refl _) (by omega))]
        exact ⟨μ1, rfl, cFr.rf _⟩
  exact key N 0 μ h (Nat.zero_le _) (by omega)
theorem m_alike {A : aS} (ok : okS A) (N : Nat) (hN : 1700 ≤ N) {l i : Nat} (hl : l < hCnt (sH A) 0) (hi : i < hCnt (sH A) 2) (S c3 : Int32) (hS : ((S >>> (nI i &&& 31)) &&& (1 : Int32)) = (1 : Int32)) (e : Int32 → z_S → Option (Int32 × z_S)) : ∀ n k ν1, mS A ν1 → k ≤ hCnt (sH A) 2 → hCnt (sH A) 2 - k < n → ∃ ν', f_X12_mostAlike_L20 N (nI l) S c3 (nI i) e n (nI (alkV A S l i k)) (nI k) ν1 = e (nI (alkV A S l i (hCnt (sH A) 2))) ν' ∧ mFr ν1 ν' := by
  have h3 := ok.2.2.1.2.2.1
  intro n
  induction n with
  | zero => intro k μ1 _ h1 h2; omega
  | succ n ih =>
    intro k ν1 hc h1 h2
    show ∃ ν', b_X12_mostAlike_L20 N (nI l) S c3 (nI i) (f_X12_mostAlike_L20 N (nI l) S c3 (nI i) e n) e (nI (alkV A S l i k)) (nI k) ν1 = _ ∧ _
    unfold b_X12_mostAlike_L20 f_X12_mostAlike_B69 f_X12_helperMany
    rw [z_bn_sm, hc.2.2.2.2.2.2.1.1 2 (by decide)]
    by_cases hlt : k < hCnt (sH A) 2
    · have ek : nI k + 1 = nI (k + 1) := nI_1 k
      have ea : nI (alkV A S l i k) + 1 = nI (alkV A S l i k + 1) := nI_1 _
      simp only [z_bd_eq]
      rw [if_pos (nI_lt hlt (by omega)), ek, ea, if_pos hS]
      have t1 := timeV_bd (sH A) (sN A) l k
      have t2 := timeV_bd (sH A) (sN A) l i
      by_cases c1 : ((S >>> (nI k &&& 31)) &&& (1 : Int32)) = (1 : Int32)
      · rw [if_pos c1]
        obtain ⟨ν2, p1, p2⟩ := m_time ok hc N hN hl hlt
        obtain ⟨ν3, q1, q2⟩ := m_time ok (p2.mS hc) N hN hl hi
        obtain ⟨ν4, r1, r2⟩ := ih (k + 1) ν3 (q2.mS (p2.mS hc)) (by omega) (by omega)
        have r1' : f_X12_mostAlike_L20 N (nI l) S c3 (nI i) e n (nI (if ((S >>> (nI k &&& 31)) &&& (1 : Int32)) = (1 : Int32) ∧ timeV (sH A) (sN A) l k = timeV (sH A) (sN A) l i then alkV A S l i k + 1 else alkV A S l i k)) (nI (k + 1)) ν3 = _ := r1
        rw [p1, z_bn_sm, q1, z_bn_sm]
        by_cases c2 : timeV (sH A) (sN A) l k = timeV (sH A) (sN A) l i
        · rw [if_pos ⟨c1, c2⟩] at r1'
          rw [if_pos (by rw [c2])]
          exact ⟨ν4, r1', p2.tr (q2.tr r2)⟩
        · rw [if_neg (fun z => c2 z.2)] at r1'
          rw [if_neg (fun z => c2 ((nI_eq (by omega) (by omega)).mp z))]
          exact ⟨ν4, r1', p2.tr (q2.tr r2)⟩
      · rw [if_neg c1]
        obtain ⟨ν3, r1, r2⟩ := ih (k + 1) ν1 hc (by omega) (by omega)
        have r1' : f_X12_mostAlike_L20 N (nI l) S c3 (nI i) e n (nI (if ((S >>> (nI k &&& 31)) &&& (1 : Int32)) = (1 : Int32) ∧ timeV (sH A) (sN A) l k = timeV (sH A) (sN A) l i then alkV A S l i k + 1 else alkV A S l i k)) (nI (k + 1)) ν1 = _ := r1
        rw [if_neg (fun z => c1 z.1)] at r1'
        exact ⟨ν3, r1', r2⟩
    · have : k = hCnt (sH A) 2 := by omega
      subst this
      rw [if_neg (nI_nlt (Nat.le_refl _) (by omega))]
      exact ⟨ν1, rfl, mFr.rf _⟩
theorem m_alike0 {A : aS} (ok : okS A) (N : Nat) {l i : Nat} (S c3 : Int32) (hS : ¬ ((S >>> (nI i &&& 31)) &&& (1 : Int32)) = (1 : Int32)) (e : Int32 → z_S → Option (Int32 × z_S)) : ∀ n k ν1, mS A ν1 → k ≤ hCnt (sH A) 2 → hCnt (sH A) 2 - k < n → f_X12_mostAlike_L20 N (nI l) S c3 (nI i) e n (nI 0) (nI k) ν1 = e (nI 0) ν1 := by
  have h3 := ok.2.2.1.2.2.1
  intro n
  induction n with
  | zero => intro k μ1 _ h1 h2; omega
  | succ n ih =>
    intro k ν1 hc h1 h2
    show b_X12_mostAlike_L20 N (nI l) S c3 (nI i) (f_X12_mostAlike_L20 N (nI l) S c3 (nI i) e n) e (nI 0) (nI k) ν1 = _
    unfold b_X12_mostAlike_L20 f_X12_mostAlike_B69 f_X12_helperMany
    rw [z_bn_sm, hc.2.2.2.2.2.2.1.1 2 (by decide)]
    by_cases hlt : k < hCnt (sH A) 2
    · have ek : nI k + 1 = nI (k + 1) := nI_1 k
      simp only [z_bd_eq]
      rw [if_pos (nI_lt hlt (by omega)), ek, if_neg hS]
      exact ih (k + 1) ν1 hc (by omega) (by omega)
    · rw [if_neg (nI_nlt (by omega) (by omega))]
theorem m_most {A : aS} (ok : okS A) (N : Nat) (hN : 1700 ≤ N) {l : Nat} (hl : l < hCnt (sH A) 0) (S : Int32) {ν : z_S} (h : mS A ν) : ∃ ν', f_X12_mostAlike N (nI l) S ν = some (nI (mostV A S l (hCnt (sH A) 2)), ν') ∧ mFr ν ν' := by
  have h3 := ok.2.2.1.2.2.1
  have key : ∀ n k ν1, mS A ν1 → k ≤ hCnt (sH A) 2 → hCnt (sH A) 2 - k < n → ∃ ν', f_X12_mostAlike_L5 N (nI l) S n (nI (mostV A S l k)) (nI k) ν1 = some (nI (mostV A S l (hCnt (sH A) 2)), ν') ∧ mFr ν1 ν' := by
    intro n
    induction n with
    | zero => intro k μ1 _ h1 h2; omega
    | succ n ih =>
      intro k ν1 hc h1 h2
      show ∃ ν', b_X12_mostAlike_L5 N (nI l) S (f_X12_mostAlike_L5 N (nI l) S n) (nI (mostV A S l k)) (nI k) ν1 = _ ∧ _
      unfold b_X12_mostAlike_L5 f_X12_mostAlike_B84 f_X12_helperMany
      rw [z_bn_sm, hc.2.2.2.2.2.2.1.1 2 (by decide)]
      by_cases hlt : k < hCnt (sH A) 2
      · have ek : nI k + 1 = nI (k + 1) := nI_1 k
        simp only [z_bd_eq]
        rw [if_pos (nI_lt hlt (by omega)), ek]
        have m1 := mostV_le A S l k
        have m2 := alkV_le A S l k (hCnt (sH A) 2)
        have ih' : ∀ ν2, mS A ν2 → ∃ ν', f_X12_mostAlike_L5 N (nI l) S n (nI (if ((S >>> (nI k &&& 31)) &&& (1 : Int32)) = (1 : Int32) then (if mostV A S l k < alkV A S l k (hCnt (sH A) 2) then alkV A S l k (hCnt (sH A) 2) else mostV A S l k) else mostV A S l k)) (nI (k + 1)) ν2 = some (nI (mostV A S l (hCnt (sH A) 2)), ν') ∧ mFr ν2 ν' := fun ν2 h2 => ih (k + 1) ν2 h2 (by omega) (by omega)
        by_cases c1 : ((S >>> (nI k &&& 31)) &&& (1 : Int32)) = (1 : Int32)
        · obtain ⟨ν2, p1, p2⟩ := m_alike ok N hN hl hlt S (nI (mostV A S l k)) c1 (fun y75_5 μ75 => if nI (mostV A S l k) < y75_5 then f_X12_mostAlike_L5 N (nI l) S n y75_5 (nI (k + 1)) μ75 else f_X12_mostAlike_L5 N (nI l) S n (nI (mostV A S l k)) (nI (k + 1)) μ75) N 0 ν1 hc (Nat.zero_le _) (by omega)
          obtain ⟨ν3, r1, r2⟩ := ih' ν2 (p2.mS hc)
          rw [if_pos c1] at r1
          have p1' : f_X12_mostAlike_L20 N (nI l) S (nI (mostV A S l k)) (nI k) (fun y75_5 μ75 => if nI (mostV A S l k) < y75_5 then f_X12_mostAlike_L5 N (nI l) S n y75_5 (nI (k + 1)) μ75 else f_X12_mostAlike_L5 N (nI l) S n (nI (mostV A S l k)) (nI (k + 1)) μ75) N (0 : Int32) (0 : Int32) ν1 = _ := p1
          rw [p1']
          by_cases c2 : mostV A S l k < alkV A S l k (hCnt (sH A) 2)
          · rw [if_pos c2] at r1
            rw [if_pos (nI_lt c2 (by omega))]
            exact ⟨ν3, r1, p2.tr r2⟩
          · rw [if_neg c2] at r1
            rw [if_neg (nI_nlt (by omega) (by omega))]
            exact ⟨ν3, r1, p2.tr r2⟩
        · have p1 := m_alike0 ok N (l := l) S (nI (mostV A S l k)) c1 (fun y75_5 μ75 => if nI (mostV A S l k) < y75_5 then f_X12_mostAlike_L5 N (nI l) S n y75_5 (nI (k + 1)) μ75 else f_X12_mostAlike_L5 N (nI l) S n (nI (mostV A S l k)) (nI (k + 1)) μ75) N 0 ν1 hc (Nat.zero_le _) (by omega)
          obtain ⟨ν3, r1, r2⟩ := ih' ν1 hc
          rw [if_neg c1] at r1
          have p1' : f_X12_mostAlike_L20 N (nI l) S (nI (mostV A S l k)) (nI k) (fun y75_5 μ75 => if nI (mostV A S l k) < y75_5 then f_X12_mostAlike_L5 N (nI l) S n y75_5 (nI (k + 1)) μ75 else f_X12_mostAlike_L5 N (nI l) S n (nI (mostV A S l k)) (nI (k + 1)) μ75) N (0 : Int32) (0 : Int32) ν1 = _ := p1
          rw [p1', if_neg (nI_nlt (Nat.zero_le _) (by omega))]
          exact ⟨ν3, r1, r2⟩
      · have : k = hCnt (sH A) 2 := by omega
        subst this
        rw [if_neg (nI_nlt (Nat.le_refl _) (by omega))]
        exact ⟨ν1, rfl, mFr.rf _⟩
  exact key N 0 ν h (Nat.zero_le _) (by omega)
/-- the letter to watch among the first n + 1, and the most who are left -/
def watV (A : aS) (S : Int32) : Nat → Nat × Nat
  | 0 => (0, mostV A S 0 (hCnt (sH A) 2))
  | n + 1 => if mostV A S (n + 1) (hCnt (sH A) 2) < (watV A S n).2 then (n + 1, mostV A S (n + 1) (hCnt (sH A) 2)) else watV A S n
theorem watV_le (A : aS) (S : Int32) : ∀ n, (watV A S n).2 ≤ hCnt (sH A) 2 ∧ (watV A S n).1 ≤ n
  | 0 => ⟨mostV_le _ _ _ _, Nat.le_refl _⟩
  | n + 1 => by
    have := watV_le A S n
    have m := mostV_le A S (n + 1) (hCnt (sH A) 2)
    show (if _ then (n + 1, mostV A S (n + 1) (hCnt (sH A) 2)) else watV A S n).2 ≤ _ ∧ (if _ then (n + 1, mostV A S (n + 1) (hCnt (sH A) 2)) else watV A S n).1 ≤ _
    split
    · exact ⟨m, Nat.le_refl _⟩
    · omega
theorem c_watL {A : aS} (ok : okS A) (N : Nat) (hN : 1700 ≤ N) (c1 S : Int32) (e : Int32 → Int32 → z_S → Option (Int32 × z_S)) : ∀ n k μ1, cS A μ1 → k + 1 ≤ hCnt (sH A) 0 → hCnt (sH A) 0 - k < n → ∃ μ', f_X11_watched_L48 N c1 S (nI (hCnt (sH A) 0)) e n (nI (watV A S k).1) (nI (watV A S k).2) (nI (k + 1)) μ1 = e (nI (watV A S (hCnt (sH A) 0 - 1)).1) (nI (watV A S (hCnt (sH A) 0 - 1)).2) μ' ∧ cFr μ1 μ' := by
  have h8 := ok.2.2.1.1
  have h3 := ok.2.2.1.2.2.1
  intro n
  induction n with
  | zero => intro k μ1 _ h1 h2; omega
  | succ n ih =>
    intro k μ1 hc h1 h2
    show ∃ μ', b_X11_watched_L48 N c1 S (nI (hCnt (sH A) 0)) (f_X11_watched_L48 N c1 S (nI (hCnt (sH A) 0)) e n) e (nI (watV A S k).1) (nI (watV A S k).2) (nI (k + 1)) μ1 = _ ∧ _
    unfold b_X11_watched_L48 f_X11_watched_B78
    have w := watV_le A S k
    by_cases hlt : k + 1 < hCnt (sH A) 0
    · have ek : nI (k + 1) + 1 = nI (k + 1 + 1) := nI_1 _
      obtain ⟨μ2, p1, p2⟩ := c_most ok N hN hlt S hc
      obtain ⟨μ3, r1, r2⟩ := ih (k + 1) μ2 (p2.cS ok hc) (by omega) (by omega)
      have m := mostV_le A S (k + 1) (hCnt (sH A) 2)
      have ew : watV A S (k + 1) = if mostV A S (k + 1) (hCnt (sH A) 2) < (watV A S k).2 then (k + 1, mostV A S (k + 1) (hCnt (sH A) 2)) else watV A S k := rfl
      rw [ew] at r1
      rw [if_pos (nI_lt hlt (by omega)), p1, z_bn_sm, z_bd_eq, z_bd_eq, ek]
      by_cases c : mostV A S (k + 1) (hCnt (sH A) 2) < (watV A S k).2
      · rw [if_pos c] at r1
        rw [if_pos (nI_lt c (by omega))]
        exact ⟨μ3, r1, p2.tr r2⟩
      · rw [if_neg c] at r1
        rw [if_neg (nI_nlt (by omega) (by omega))]
        exact ⟨μ3, r1, p2.tr r2⟩
    · have : hCnt (sH A) 0 - 1 = k := by omega
      rw [this, if_neg (nI_nlt (by omega) (by omega))]
      exact ⟨μ1, rfl, cFr.rf _⟩
theorem m_watL {A : aS} (ok : okS A) (N : Nat) (hN : 1700 ≤ N) (c1 S : Int32) (hS : ¬ S = 0) (e : Int32 → Int32 → z_S → Option (Int32 × z_S)) : ∀ n k ν1, mS A ν1 → k + 1 ≤ hCnt (sH A) 0 → hCnt (sH A) 0 - k < n → ∃ ν', f_X12_watched_L25 N c1 S e n (nI (watV A S k).1) (nI (watV A S k).2) (nI (k + 1)) ν1 = e (nI (watV A S (hCnt (sH A) 0 - 1)).1) (nI (watV A S (hCnt (sH A) 0 - 1)).2) ν' ∧ mFr ν1 ν' := by
  have h8 := ok.2.2.1.1
  have h3 := ok.2.2.1.2.2.1
  intro n
  induction n with
  | zero => intro k μ1 _ h1 h2; omega
  | succ n ih =>
    intro k ν1 hc h1 h2
    show ∃ ν', b_X12_watched_L25 N c1 S (f_X12_watched_L25 N c1 S e n) e (nI (watV A S k).1) (nI (watV A S k).2) (nI (k + 1)) ν1 = _ ∧ _
    unfold b_X12_watched_L25 f_X12_watched_B62 f_X12_watched_B69 f_X12_letterMany
    have w := watV_le A S k
    rw [z_bn_sm, hc.2.2.2.2.2.2.1.1 0 (by decide)]
    by_cases hlt : k + 1 < hCnt (sH A) 0
    · have ek : nI (k + 1) + 1 = nI (k + 1 + 1) := nI_1 _
      obtain ⟨ν2, p1, p2⟩ := m_most ok N hN hlt S hc
      obtain ⟨ν3, r1, r2⟩ := ih (k + 1) ν2 (p2.mS hc) (by omega) (by omega)
      have m := mostV_le A S (k + 1) (hCnt (sH A) 2)
      have ew : watV A S (k + 1) = if mostV A S (k + 1) (hCnt (sH A) 2) < (watV A S k).2 then (k + 1, mostV A S (k + 1) (hCnt (sH A) 2)) else watV A S k := rfl
      rw [ew] at r1
      rw [if_pos (nI_lt hlt (by omega)), if_neg hS, p1, z_bn_sm, if_neg (nI_nm1 (by omega))]
      simp only [z_bd_eq]
      rw [ek]
      by_cases c : mostV A S (k + 1) (hCnt (sH A) 2) < (watV A S k).2
      · rw [if_pos c] at r1
        rw [if_pos (nI_lt c (by omega))]
        exact ⟨ν3, r1, p2.tr r2⟩
      · rw [if_neg c] at r1
        rw [if_neg (nI_nlt (by omega) (by omega))]
        exact ⟨ν3, r1, p2.tr r2⟩
    · have : hCnt (sH A) 0 - 1 = k := by omega
      rw [this, if_neg (nI_nlt (by omega) (by omega))]
      exact ⟨ν1, rfl, mFr.rf _⟩
theorem op_watched {A : aS} {μ ν : z_S} (ok : okS A) (hc : cS A μ) (hm : mS A ν) (N : Nat) (hN : 1700 ≤ N) (a : Int32) : z_Op (f_X11_watched N a μ) (f_X12_watched N a ν) := by
  have h8 := ok.2.2.1.1
  have h3 := ok.2.2.1.2.2.1
  obtain ⟨μ1, p1, p2⟩ := c_whose ok N hN hc
  obtain ⟨ν1, q1, q2⟩ := m_whose ok N hN hm
  have hc1 := p2.cS ok hc
  have hm1 := q2.mS hm
  unfold f_X11_watched f_X12_watched
  rw [p1, z_bn_sm, hc1.2.2.2.2.2.2.2.1.1 0 (by decide), z_bd_eq, m_isIn, z_bn_sm]
  have e0 : (0 : Int64).toInt = 0 := rfl
  have e1 : (1 : Int64).toInt = 1 := rfl
  rw [e0, e1, i64]
  have l0 : a < 0 ↔ a.toInt < 0 := by rw [Int32.lt_iff_toInt_lt, Int32.toInt_zero]
  have l1 : (1 : Int32) < a ↔ 1 < a.toInt := by rw [Int32.lt_iff_toInt_lt]; exact Iff.rfl
  by_cases c0 : a < 0
  · rw [if_pos c0, if_neg (c := 0 ≤ a.toInt ∧ a.toInt ≤ 1) (by rw [l0] at c0; omega), if_pos rfl]
    exact ⟨_, _, _, rfl, rfl, A, ok, hc1, hm⟩
  · rw [if_neg c0]
    by_cases c1 : (1 : Int32) < a
    · rw [if_pos c1, if_neg (c := 0 ≤ a.toInt ∧ a.toInt ≤ 1) (by rw [l1] at c1; omega), if_pos rfl]
      exact ⟨_, _, _, rfl, rfl, A, ok, hc1, hm⟩
    · rw [if_neg c1, if_pos (c := 0 ≤ a.toInt ∧ a.toInt ≤ 1) (by rw [l0] at c0; rw [l1] at c1; omega), if_neg (show ¬ (1 : Int32) = 0 by decide), q1, z_bn_sm]
      generalize hS : whoV A (hCnt (sH A) 2) = S
      have step1 : f_X12_watched_L25 N a S (fun y75_3 y75_4 μ75 => f_X12_watched_B75 N a y75_3 y75_4 μ75) N (-1 : Int32) (0 : Int32) (0 : Int32) ν1 = b_X12_watched_L25 N a S (f_X12_watched_L25 N a S (fun y75_3 y75_4 μ75 => f_X12_watched_B75 N a y75_3 y75_4 μ75) (N - 1)) (fun y75_3 y75_4 μ75 => f_X12_watched_B75 N a y75_3 y75_4 μ75) (-1 : Int32) (0 : Int32) (0 : Int32) ν1 := by
        conv => lhs; rw [show N = (N - 1) + 1 by omega]
        rw [show N - 1 + 1 = N by omega]
        have : ∀ m, N = m + 1 → f_X12_watched_L25 N a S (fun y75_3 y75_4 μ75 => f_X12_watched_B75 N a y75_3 y75_4 μ75) (m + 1) (-1 : Int32) (0 : Int32) (0 : Int32) ν1 = b_X12_watched_L25 N a S (f_X12_watched_L25 N a S (fun y75_3 y75_4 μ75 => f_X12_watched_B75 N a y75_3 y75_4 μ75) m) (fun y75_3 y75_4 μ75 => f_X12_watched_B75 N a y75_3 y75_4 μ75) (-1 : Int32) (0 : Int32) (0 : Int32) ν1 := fun m _ => rfl
        have := this (N - 1) (by omega)
        rw [show N - 1 + 1 = N by omega] at this
        exact this
      rw [step1]
      unfold b_X12_watched_L25 f_X12_watched_B62 f_X12_watched_B69 f_X12_letterMany f_X12_watched_B75
      rw [z_bn_sm, hm1.2.2.2.2.2.2.1.1 0 (by decide)]
      by_cases c2 : S = 0
      · rw [if_pos c2]
        by_cases c3 : hCnt (sH A) 0 = 0
        · rw [c3, if_neg (show ¬ (0 : Int32) < nI 0 by decide)]
          exact ⟨_, _, _, rfl, rfl, A, ok, hc1, hm1⟩
        · rw [if_pos (show (0 : Int32) < nI (hCnt (sH A) 0) from nI_lt (a := 0) (by omega) (by omega)), if_pos c2]
          exact ⟨_, _, _, rfl, rfl, A, ok, hc1, hm1⟩
      · rw [if_neg c2]
        by_cases c3 : hCnt (sH A) 0 = 0
        · rw [c3, if_pos (show nI 0 = (0 : Int32) from rfl), if_neg (show ¬ (0 : Int32) < nI 0 by decide)]
          exact ⟨_, _, _, rfl, rfl, A, ok, hc1, hm1⟩
        · rw [if_neg (fun z => c3 ((nI_z (by omega)).mp z)), if_pos (show (0 : Int32) < nI (hCnt (sH A) 0) from nI_lt (a := 0) (by omega) (by omega)), if_neg c2]
          obtain ⟨μ2, r1, r2⟩ := c_most ok N hN (l := 0) (by omega) S hc1
          obtain ⟨ν2, s1, s2⟩ := m_most ok N hN (l := 0) (by omega) S hm1
          have r1' : f_X11_mostAlike N (0 : Int32) S μ1 = _ := r1
          have s1' : f_X12_mostAlike N (0 : Int32) S ν1 = _ := s1
          have hc2 := r2.cS ok hc1
          have hm2 := s2.mS hm1
          obtain ⟨μ3, t1, t2⟩ := c_watL ok N hN a S (fun y84_4 y84_5 μ84 => if a = 0 then (some (y84_4, μ84)) else some (y84_5, μ84)) N 0 μ2 hc2 (by omega) (by omega)
          obtain ⟨ν3, u1, u2⟩ := m_watL ok N hN a S c2 (fun y75_3 y75_4 μ75 => if y75_3 = (-1 : Int32) then (some ((-1 : Int32), μ75)) else if a = 0 then (some (y75_3, μ75)) else some (y75_4, μ75)) (N - 1) 0 ν2 hm2 (by omega) (by omega)
          have t1' : f_X11_watched_L48 N a S (nI (hCnt (sH A) 0)) (fun y84_4 y84_5 μ84 => if a = 0 then (some (y84_4, μ84)) else some (y84_5, μ84)) N (0 : Int32) (nI (mostV A S 0 (hCnt (sH A) 2))) (1 : Int32) μ2 = _ := t1
          have u1' : f_X12_watched_L25 N a S (fun y75_3 y75_4 μ75 => if y75_3 = (-1 : Int32) then (some ((-1 : Int32), μ75)) else if a = 0 then (some (y75_3, μ75)) else some (y75_4, μ75)) (N - 1) (0 : Int32) (nI (mostV A S 0 (hCnt (sH A) 2))) (1 : Int32) ν2 = _ := u1
          rw [r1', z_bn_sm, t1', s1', z_bn_sm, if_pos rfl, z_bd_eq, show (0 : Int32) + 1 = 1 from rfl, u1']
          have w := watV_le A S (hCnt (sH A) 0 - 1)
          rw [if_neg (nI_nm1 (by omega))]
          by_cases ca : a = 0
          · rw [if_pos ca, if_pos ca]
            exact ⟨_, _, _, rfl, rfl, A, ok, t2.cS ok hc2, u2.mS hm2⟩
          · rw [if_neg ca, if_neg ca]
            exact ⟨_, _, _, rfl, rfl, A, ok, t2.cS ok hc2, u2.mS hm2⟩
