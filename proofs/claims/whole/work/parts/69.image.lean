/-! image -/
def segN (f : Nat → Nat) : Nat → Nat → List Nat
  | _, 0 => []
  | i, m + 1 => f i :: segN f (i + 1) m
theorem segN_len (f : Nat → Nat) : ∀ m i, (segN f i m).length = m
  | 0, _ => rfl
  | m + 1, i => congrArg Nat.succ (segN_len f m (i + 1))
theorem segN_mem {f : Nat → Nat} {x : Nat} : ∀ m i, x ∈ segN f i m → ∃ k, x = f k
  | 0, _, h => nomatch h
  | m + 1, i, h => by
    rcases List.mem_cons.mp h with h | h
    · exact ⟨i, h⟩
    · exact segN_mem m (i + 1) h
theorem segN_cat (L : List Nat) (f : Nat → Nat) (i m : Nat) : L ++ segN f i (m + 1) = (L ++ [f i]) ++ segN f (i + 1) m := by
  rw [List.append_assoc]; rfl
theorem getD_push (L : List Nat) (x j : Nat) : (L ++ [x]).getD j 0 = if j < L.length then L.getD j 0 else if j = L.length then x else 0 := by
  rw [List.getD_eq_getElem?_getD, List.getD_eq_getElem?_getD, List.getElem?_append]
  by_cases h : j < L.length
  · rw [if_pos h, if_pos h]
  · rw [if_neg h, if_neg h]
    by_cases e : j = L.length
    · rw [if_pos e, e, Nat.sub_self]; rfl
    · rw [if_neg e, List.getElem?_eq_none (by rw [List.length_singleton]; omega)]; rfl
def wC (L : List Nat) (μ μ' : z_S) : Prop := μ'.2 = μ.2 ∧ ∀ a j, μ'.1 a j = if a = 54 ∧ j < L.length then nI (L.getD j 0) else μ.1 a j
def wM (L : List Nat) (ν ν' : z_S) : Prop := ν'.2 = ν.2 ∧ ∀ a j, ν'.1 a j = if a = 333 ∧ j < L.length then nI (L.getD j 0) else if a = 253 ∧ j = 105 then nI L.length else ν.1 a j
theorem wC_push {L : List Nat} {μ μ' : z_S} (h : wC L μ μ') (x : Nat) : wC (L ++ [x]) μ (z_setI μ' 54 L.length (nI x)) := by
  refine ⟨h.1, fun a j => ?_⟩
  rw [sI_1, h.2, getD_push, List.length_append, List.length_singleton]
  by_cases ha : a = 54
  · by_cases hj : j = L.length
    · rw [if_pos ⟨ha, hj⟩, if_pos ⟨ha, by omega⟩, if_neg (by omega), if_pos hj]
    · rw [if_neg (fun q => hj q.2)]
      by_cases hl : j < L.length
      · rw [if_pos ⟨ha, hl⟩, if_pos ⟨ha, by omega⟩, if_pos hl]
      · rw [if_neg (fun q => hl q.2), if_neg (by omega)]
  · rw [if_neg (fun q => ha q.1), if_neg (fun q => ha q.1), if_neg (fun q => ha q.1)]
theorem wM_push {L : List Nat} {ν ν' : z_S} (h : wM L ν ν') (hl : L.length < 34) (N x : Nat) : ∃ ν2, f_X12_writes N (nI x) ν' = some ((), ν2) ∧ wM (L ++ [x]) ν ν2 := by
  have e : ν'.1 253 105 = nI L.length := by rw [h.2, if_neg (by omega), if_pos ⟨rfl, rfl⟩]
  refine ⟨z_setI (z_setI ν' 333 L.length (nI x)) 253 105 (nI L.length + 1), ?_, ?_⟩
  · unfold f_X12_writes
    rw [e, z_in_nI hl (by decide), nI_toNat (by omega), z_bd_eq, z_bd_eq, sI_1, if_neg (by omega), e]
  · refine ⟨h.1, fun a j => ?_⟩
    rw [sI_1, sI_1, h.2, getD_push, List.length_append, List.length_singleton]
    by_cases h1 : a = 253 ∧ j = 105
    · rw [if_pos h1, if_neg (by omega), if_pos h1]
      exact nI_1 _
    · rw [if_neg h1, if_neg h1, if_neg h1]
      by_cases ha : a = 333
      · by_cases hj : j = L.length
        · rw [if_pos ⟨ha, hj⟩, if_pos ⟨ha, by omega⟩, if_neg (by omega), if_pos hj]
        · rw [if_neg (fun q => hj q.2)]
          by_cases hl : j < L.length
          · rw [if_pos ⟨ha, hl⟩, if_pos ⟨ha, by omega⟩, if_pos hl]
          · rw [if_neg (fun q => hl q.2), if_neg (by omega)]
      · rw [if_neg (fun q => ha q.1), if_neg (fun q => ha q.1), if_neg (fun q => ha q.1)]
/-- done, sheet and gift, letter by letter -/
def tri (s : aN) (k : Nat) : Nat := if k % 3 = 0 then nDone s (k / 3) else if k % 3 = 1 then nSheet s (k / 3) else nGift s (k / 3)
def imgL (h : aH) (s : aN) : List Nat := [nDay s / 256, nDay s % 256] ++ segN (nLeft s) 0 (hCnt h 2) ++ segN (nStock s) 0 (hCnt h 1) ++ segN (tri s) 0 (3 * hCnt h 0)
def chk (L : List Nat) : Nat := L.foldl (fun c x => (3 * c + x) % 251) 89
theorem chk_lt (L : List Nat) : chk L < 251 := by
  have key : ∀ (L : List Nat) c, c < 251 → L.foldl (fun c x => (3 * c + x) % 251) c < 251 := by
    intro L
    induction L with
    | nil => intro c h; exact h
    | cons x r ih => intro c _; exact ih _ (Nat.mod_lt _ (by decide))
  exact key L 89 (by decide)
def fullL (h : aH) (s : aN) : List Nat := imgL h s ++ [chk (imgL h s)]
theorem wC_cnt {A : aS} {μ μ' : z_S} {L : List Nat} (hc : cS A μ) (h : wC L μ μ') {k : Nat} (hk : k < 5) : μ'.1 (z_hn μ'.2.2.1 + 1) k = nI (hCnt (sH A) k) := by
  rw [h.2, h.1, if_neg (by have := z_hn_lt μ.2.2.1; omega)]
  exact hc.2.2.2.2.2.2.2.1.1 k hk
theorem wM_cnt {A : aS} {ν ν' : z_S} {L : List Nat} (hm : mS A ν) (h : wM L ν ν') {k : Nat} (hk : k < 5) : ν'.1 284 (5 + k) = nI (hCnt (sH A) k) := by
  rw [h.2, if_neg (by omega), if_neg (by omega)]
  exact hm.2.2.2.2.2.2.1.1 k hk
theorem c_img1 {A : aS} {μ : z_S} (ok : okS A) (hc : cS A μ) (N : Nat) (e80 : Int32 → z_S → Option (Int32 × z_S)) : ∀ n m i (L : List Nat) μ', i + m = hCnt (sH A) 2 → m < n → L.length + m ≤ 34 → wC L μ μ' → ∃ μ2, f_X11_image_L43 N e80 n (nI L.length) (nI i) μ' = e80 (nI (L ++ segN (nLeft (sN A)) i m).length) μ2 ∧ wC (L ++ segN (nLeft (sN A)) i m) μ μ2 := by
  have h3 := ok.2.2.1.2.2.1
  intro n
  induction n with
  | zero => intro m i L μ' h1 h2; omega
  | succ n ih =>
    intro m i L μ' h1 h2 h4 hw
    show ∃ μ2, b_X11_image_L43 N (f_X11_image_L43 N e80 n) e80 (nI L.length) (nI i) μ' = _ ∧ _
    unfold b_X11_image_L43
    rw [wC_cnt hc hw (by decide)]
    cases m with
    | zero =>
      rw [if_neg (nI_nlt (by omega) (by omega))]
      exact ⟨μ', by rw [show segN (nLeft (sN A)) i 0 = [] from rfl, List.append_nil], by rw [show segN (nLeft (sN A)) i 0 = [] from rfl, List.append_nil]; exact hw⟩
    | succ m =>
      have e1 : nI L.length + 1 = nI (L ++ [nLeft (sN A) i]).length := by rw [List.length_append]; exact nI_1 _
      have e2 : nI i + 1 = nI (i + 1) := nI_1 i
      have ev : μ'.1 40 i = nI (nLeft (sN A) i) := by rw [hw.2, if_neg (by omega)]; exact hc.2.2.2.2.2.2.2.2.1.2.1 i (by omega)
      rw [if_pos (nI_lt (by omega) (by omega)), z_bd_eq, z_in_nI (show i < 3 by omega) (by decide), z_in_nI (show L.length < 34 by omega) (by decide), z_bd_eq, z_bd_eq, nI_toNat (show i < 2 ^ 31 by omega), nI_toNat (show L.length < 2 ^ 31 by omega), ev, e1, e2]
      obtain ⟨μ2, g1, g2⟩ := ih m (i + 1) (L ++ [nLeft (sN A) i]) _ (by omega) (by omega) (by rw [List.length_append, List.length_singleton]; omega) (wC_push hw _)
      refine ⟨μ2, ?_, ?_⟩
      · rw [g1, segN_cat]
      · rw [segN_cat]; exact g2
theorem c_img2 {A : aS} {μ : z_S} (ok : okS A) (hc : cS A μ) (N : Nat) (e80 : Int32 → z_S → Option (Int32 × z_S)) : ∀ n m i (L : List Nat) μ', i + m = hCnt (sH A) 1 → m < n → L.length + m ≤ 34 → wC L μ μ' → ∃ μ2, f_X11_image_L82 N e80 n (nI L.length) (nI i) μ' = e80 (nI (L ++ segN (nStock (sN A)) i m).length) μ2 ∧ wC (L ++ segN (nStock (sN A)) i m) μ μ2 := by
  have h3 := ok.2.2.1.2.1
  intro n
  induction n with
  | zero => intro m i L μ' h1 h2; omega
  | succ n ih =>
    intro m i L μ' h1 h2 h4 hw
    show ∃ μ2, b_X11_image_L82 N (f_X11_image_L82 N e80 n) e80 (nI L.length) (nI i) μ' = _ ∧ _
    unfold b_X11_image_L82
    rw [wC_cnt hc hw (by decide)]
    cases m with
    | zero =>
      rw [if_neg (nI_nlt (by omega) (by omega))]
      exact ⟨μ', by rw [show segN (nStock (sN A)) i 0 = [] from rfl, List.append_nil], by rw [show segN (nStock (sN A)) i 0 = [] from rfl, List.append_nil]; exact hw⟩
    | succ m =>
      have e1 : nI L.length + 1 = nI (L ++ [nStock (sN A) i]).length := by rw [List.length_append]; exact nI_1 _
      have e2 : nI i + 1 = nI (i + 1) := nI_1 i
      have ev : μ'.1 41 i = nI (nStock (sN A) i) := by rw [hw.2, if_neg (by omega)]; exact hc.2.2.2.2.2.2.2.2.1.2.2.1 i (by omega)
      rw [if_pos (nI_lt (by omega) (by omega)), z_bd_eq, z_in_nI (show i < 4 by omega) (by decide), z_in_nI (show L.length < 34 by omega) (by decide), z_bd_eq, z_bd_eq, nI_toNat (show i < 2 ^ 31 by omega), nI_toNat (show L.length < 2 ^ 31 by omega), ev, e1, e2]
      obtain ⟨μ2, g1, g2⟩ := ih m (i + 1) (L ++ [nStock (sN A) i]) _ (by omega) (by omega) (by rw [List.length_append, List.length_singleton]; omega) (wC_push hw _)
      refine ⟨μ2, ?_, ?_⟩
      · rw [g1, segN_cat]
      · rw [segN_cat]; exact g2
theorem tri_0 (s : aN) (k : Nat) : tri s (3 * k) = nDone s k := by
  unfold tri; rw [if_pos (by omega), show 3 * k / 3 = k by omega]
theorem tri_1 (s : aN) (k : Nat) : tri s (3 * k + 1) = nSheet s k := by
  unfold tri; rw [if_neg (by omega), if_pos (by omega), show (3 * k + 1) / 3 = k by omega]
theorem tri_2 (s : aN) (k : Nat) : tri s (3 * k + 2) = nGift s k := by
  unfold tri; rw [if_neg (by omega), if_neg (by omega), show (3 * k + 2) / 3 = k by omega]
theorem nI_back (k : Nat) : nI k - 1 + 1 = nI k := by
  rw [Int32.sub_add_cancel]
theorem c_img3 {A : aS} {μ : z_S} (ok : okS A) (hc : cS A μ) (N : Nat) (e80 : Int32 → z_S → Option (Int32 × z_S)) : ∀ n m i (L : List Nat) μ', i + m = hCnt (sH A) 0 → m < n → L.length + 3 * m ≤ 34 → wC L μ μ' → ∃ μ2, f_X11_image_L121 N e80 n (nI L.length) (nI i) μ' = e80 (nI (L ++ segN (tri (sN A)) (3 * i) (3 * m)).length) μ2 ∧ wC (L ++ segN (tri (sN A)) (3 * i) (3 * m)) μ μ2 := by
  have h3 := ok.2.2.1.1
  intro n
  induction n with
  | zero => intro m i L μ' h1 h2; omega
  | succ n ih =>
    intro m i L μ' h1 h2 h4 hw
    show ∃ μ2, b_X11_image_L121 N (f_X11_image_L121 N e80 n) e80 (nI L.length) (nI i) μ' = _ ∧ _
    unfold b_X11_image_L121
    rw [wC_cnt hc hw (by decide)]
    cases m with
    | zero =>
      rw [if_neg (nI_nlt (by omega) (by omega))]
      exact ⟨μ', by rw [show segN (tri (sN A)) (3 * i) (3 * 0) = [] from rfl, List.append_nil], by rw [show segN (tri (sN A)) (3 * i) (3 * 0) = [] from rfl, List.append_nil]; exact hw⟩
    | succ m =>
      have hN9 := hc.2.2.2.2.2.2.2.2.1
      generalize hL1 : L ++ [tri (sN A) (3 * i)] = L1
      have k1 : L1.length = L.length + 1 := by rw [← hL1, List.length_append, List.length_singleton]
      generalize hL2 : L1 ++ [tri (sN A) (3 * i + 1)] = L2
      have k2 : L2.length = L1.length + 1 := by rw [← hL2, List.length_append, List.length_singleton]
      generalize hL3 : L2 ++ [tri (sN A) (3 * i + 2)] = L3
      have k3 : L3.length = L2.length + 1 := by rw [← hL3, List.length_append, List.length_singleton]
      have e1 : nI L.length + 1 = nI L1.length := by rw [k1]; exact nI_1 _
      have e2 : nI L1.length + 1 = nI L2.length := by rw [k2]; exact nI_1 _
      have e3 : nI L2.length + 1 = nI L3.length := by rw [k3]; exact nI_1 _
      have ei : nI i + 1 = nI (i + 1) := nI_1 i
      have v1 : μ'.1 42 i + (1 : Int32) = nI (tri (sN A) (3 * i)) := by
        rw [hw.2, if_neg (by omega), tri_0, show μ.1 42 i = _ from hN9.2.2.2.1 i (by omega)]; exact nI_back _
      have w1 := wC_push hw (tri (sN A) (3 * i))
      rw [hL1] at w1
      have v2 : (z_setI μ' 54 L.length (nI (tri (sN A) (3 * i)))).1 43 i = nI (tri (sN A) (3 * i + 1)) := by
        rw [w1.2, if_neg (by omega), tri_1]; exact hN9.2.2.2.2.1 i (by omega)
      have w2 := wC_push w1 (tri (sN A) (3 * i + 1))
      rw [hL2] at w2
      have v3 : (z_setI (z_setI μ' 54 L.length (nI (tri (sN A) (3 * i)))) 54 L1.length (nI (tri (sN A) (3 * i + 1)))).1 44 i + (1 : Int32) = nI (tri (sN A) (3 * i + 2)) := by
        rw [w2.2, if_neg (by omega), tri_2, show μ.1 44 i = _ from hN9.2.2.2.2.2 i (by omega)]; exact nI_back _
      have w3 := wC_push w2 (tri (sN A) (3 * i + 2))
      rw [hL3] at w3
      rw [if_pos (nI_lt (by omega) (by omega))]
      simp only [z_bd_eq]
      rw [e1, e2, e3, z_in_nI (show i < 8 by omega) (by decide), z_in_nI (show i < 8 by omega) (by decide), z_in_nI (show i < 8 by omega) (by decide), z_in_nI (show L.length < 34 by omega) (by decide), z_in_nI (show L1.length < 34 by omega) (by decide), z_in_nI (show L2.length < 34 by omega) (by decide), nI_toNat (show i < 2 ^ 31 by omega), nI_toNat (show L.length < 2 ^ 31 by omega), nI_toNat (show L1.length < 2 ^ 31 by omega), nI_toNat (show L2.length < 2 ^ 31 by omega), v1, v2, v3, ei]
      obtain ⟨μ2, g1, g2⟩ := ih m (i + 1) L3 _ (by omega) (by omega) (by omega) w3
      have ecat : L ++ segN (tri (sN A)) (3 * i) (3 * (m + 1)) = L3 ++ segN (tri (sN A)) (3 * (i + 1)) (3 * m) := by
        rw [show 3 * (m + 1) = 3 * m + 1 + 1 + 1 by omega, segN_cat, segN_cat, segN_cat, hL1, hL2, hL3]; rfl
      refine ⟨μ2, ?_, ?_⟩
      · rw [g1, ecat]
      · rw [ecat]; exact g2
theorem chk_step (L : List Nat) (x : Nat) : chk (L ++ [x]) = (3 * chk L + x) % 251 := by
  unfold chk; rw [List.foldl_append]; rfl
theorem take_step {L : List Nat} {k : Nat} (h : k < L.length) : L.take (k + 1) = L.take k ++ [L.getD k 0] := by
  rw [List.take_add_one, List.getD_eq_getElem?_getD, List.getElem?_eq_getElem h]; rfl
theorem c_chk {o : Nat} {μ : z_S} {L : List Nat} (N : Nat) (hN : L.length < N) (hL : L.length < 1600) (hko : (z_kw true o).1 = 20) (hn : L.length ≤ (z_kw true o).2) (hn2 : (z_kw true o).2 < 2 ^ 31) (hx : ∀ x ∈ L, x < 256) (hv : ∀ k, k < L.length → μ.1 o k = nI (L.getD k 0)) : f_X11_checkByte N o (nI L.length) μ = some (nI (chk L), μ) := by
  have key : ∀ n k, k ≤ L.length → L.length - k < n → f_X11_checkByte_L5 N o (nI L.length) n (nI (chk (L.take k))) (nI k) μ = some (nI (chk L), μ) := by
    intro n
    induction n with
    | zero => intro k h1 h2; omega
    | succ n ih =>
      intro k h1 h2
      show b_X11_checkByte_L5 N o (nI L.length) (f_X11_checkByte_L5 N o (nI L.length) n) (nI (chk (L.take k))) (nI k) μ = _
      unfold b_X11_checkByte_L5
      by_cases hlt : k < L.length
      · have hb : L.getD k 0 < 256 := by
          rw [List.getD_eq_getElem?_getD, List.getElem?_eq_getElem hlt]; exact hx _ (List.getElem_mem hlt)
        have hq := chk_lt (L.take k)
        have e : (3 : Int32) * nI (chk (L.take k)) + nI (L.getD k 0) = nI (3 * chk (L.take k) + L.getD k 0) := by
          show nI 3 * _ + _ = _
          rw [pk_mul, nI_add]
        have ek : nI k + 1 = nI (k + 1) := nI_1 k
        rw [if_pos (nI_lt hlt (by omega)), z_in_nI (by omega) hn2, z_nz_ok (by decide), nI_toNat (by omega), hv k hlt, z_bd_eq, z_bd_eq, e, show nI (3 * chk (L.take k) + L.getD k 0) - nI (3 * chk (L.take k) + L.getD k 0) / (251 : Int32) * (251 : Int32) = nI ((3 * chk (L.take k) + L.getD k 0) % 251) from pk_rem (d := 251) (by omega) (by decide) (by decide), ek, ← chk_step, ← take_step hlt]
        exact ih (k + 1) (by omega) (by omega)
      · rw [if_neg (nI_nlt (by omega) (by omega)), List.take_of_length_le (by omega)]
  unfold f_X11_checkByte
  rw [z_kd_ok hko]
  exact key N 0 (Nat.zero_le _) (by omega)
theorem m_chk {o : Nat} {μ : z_S} {L : List Nat} (N : Nat) (hN : L.length < N) (hL : L.length < 1600) (hko : (z_kw false o).1 = 20) (hn : L.length ≤ (z_kw false o).2) (hn2 : (z_kw false o).2 < 2 ^ 31) (hx : ∀ x ∈ L, x < 256) (hv : ∀ k, k < L.length → μ.1 o k = nI (L.getD k 0)) : f_X12_checked N o (nI L.length) μ = some (nI (chk L), μ) := by
  have key : ∀ n k, k ≤ L.length → L.length - k < n → f_X12_checked_L5 N o (nI L.length) n (nI (chk (L.take k))) (nI k) μ = some (nI (chk L), μ) := by
    intro n
    induction n with
    | zero => intro k h1 h2; omega
    | succ n ih =>
      intro k h1 h2
      show b_X12_checked_L5 N o (nI L.length) (f_X12_checked_L5 N o (nI L.length) n) (nI (chk (L.take k))) (nI k) μ = _
      unfold b_X12_checked_L5
      by_cases hlt : k < L.length
      · have hb : L.getD k 0 < 256 := by
          rw [List.getD_eq_getElem?_getD, List.getElem?_eq_getElem hlt]; exact hx _ (List.getElem_mem hlt)
        have hq := chk_lt (L.take k)
        have e : (3 : Int32) * nI (chk (L.take k)) + nI (L.getD k 0) = nI (3 * chk (L.take k) + L.getD k 0) := by
          show nI 3 * _ + _ = _
          rw [pk_mul, nI_add]
        have ek : nI k + 1 = nI (k + 1) := nI_1 k
        rw [if_pos (nI_lt hlt (by omega)), z_in_nI (by omega) hn2, z_nz_ok (by decide), nI_toNat (by omega), hv k hlt, z_bd_eq, z_bd_eq, e, show nI (3 * chk (L.take k) + L.getD k 0) - nI (3 * chk (L.take k) + L.getD k 0) / (251 : Int32) * (251 : Int32) = nI ((3 * chk (L.take k) + L.getD k 0) % 251) from pk_rem (d := 251) (by omega) (by decide) (by decide), ek, ← chk_step, ← take_step hlt]
        exact ih (k + 1) (by omega) (by omega)
      · rw [if_neg (nI_nlt (by omega) (by omega)), List.take_of_length_le (by omega)]
  unfold f_X12_checked
  rw [z_kd_ok hko]
  exact key N 0 (Nat.zero_le _) (by omega)
theorem m_img1 {A : aS} {ν : z_S} (ok : okS A) (hm : mS A ν) (N : Nat) (e : z_S → Option (Int32 × z_S)) : ∀ n m i (L : List Nat) ν', i + m = hCnt (sH A) 2 → m < n → L.length + m ≤ 34 → wM L ν ν' → ∃ ν2, f_X12_image_L35 N e n (nI i) ν' = e ν2 ∧ wM (L ++ segN (nLeft (sN A)) i m) ν ν2 := by
  have h3 := ok.2.2.1.2.2.1
  intro n
  induction n with
  | zero => intro m i L ν' h1 h2; omega
  | succ n ih =>
    intro m i L ν' h1 h2 h4 hw
    show ∃ ν2, b_X12_image_L35 N (f_X12_image_L35 N e n) e (nI i) ν' = _ ∧ _
    unfold b_X12_image_L35 f_X12_helperMany
    rw [wM_cnt (k := 2) hm hw (by decide), z_bn_sm]
    cases m with
    | zero =>
      rw [if_neg (nI_nlt (by omega) (by omega))]
      exact ⟨ν', rfl, by rw [show segN (nLeft (sN A)) i 0 = [] from rfl, List.append_nil]; exact hw⟩
    | succ m =>
      have ei : nI i + 1 = nI (i + 1) := nI_1 i
      have ev : f_X12_leftOf N (nI i) ν' = some (nI (nLeft (sN A) i), ν') := by
        unfold f_X12_leftOf
        have e1 : (1 : Int32) + nI i = nI (1 + i) := ix1 1 i
        have hs := hm.2.2.2.2.2.2.2.1.2.1 i (by omega)
        rw [show 0 + 1 + i = 1 + i by omega] at hs
        rw [e1, z_in_nI (by omega) (by decide), nI_toNat (by omega), hw.2, if_neg (by omega), if_neg (by omega), hs]
      obtain ⟨ν3, p1, p2⟩ := wM_push hw (by omega) N (nLeft (sN A) i)
      rw [if_pos (nI_lt (by omega) (by omega)), ev, z_bn_sm, p1, z_bn_sm, z_bd_eq, ei]
      obtain ⟨ν2, g1, g2⟩ := ih m (i + 1) _ _ (by omega) (by omega) (by rw [List.length_append, List.length_singleton]; omega) p2
      exact ⟨ν2, g1, by rw [segN_cat]; exact g2⟩
theorem m_img2 {A : aS} {ν : z_S} (ok : okS A) (hm : mS A ν) (N : Nat) (e : z_S → Option (Int32 × z_S)) : ∀ n m i (L : List Nat) ν', i + m = hCnt (sH A) 1 → m < n → L.length + m ≤ 34 → wM L ν ν' → ∃ ν2, f_X12_image_L60 N e n (nI i) ν' = e ν2 ∧ wM (L ++ segN (nStock (sN A)) i m) ν ν2 := by
  have h3 := ok.2.2.1.2.1
  intro n
  induction n with
  | zero => intro m i L ν' h1 h2; omega
  | succ n ih =>
    intro m i L ν' h1 h2 h4 hw
    show ∃ ν2, b_X12_image_L60 N (f_X12_image_L60 N e n) e (nI i) ν' = _ ∧ _
    unfold b_X12_image_L60 f_X12_giftMany
    rw [wM_cnt (k := 1) hm hw (by decide), z_bn_sm]
    cases m with
    | zero =>
      rw [if_neg (nI_nlt (by omega) (by omega))]
      exact ⟨ν', rfl, by rw [show segN (nStock (sN A)) i 0 = [] from rfl, List.append_nil]; exact hw⟩
    | succ m =>
      have ei : nI i + 1 = nI (i + 1) := nI_1 i
      have e1 : (4 : Int32) + nI i = nI (4 + i) := ix1 4 i
      have ev : ν'.1 296 (4 + i) = nI (nStock (sN A) i) := by
        have hs := hm.2.2.2.2.2.2.2.1.2.2.1 i (by omega)
        rw [show 0 + 4 + i = 4 + i by omega] at hs
        rw [hw.2, if_neg (by omega), if_neg (by omega), hs]
      obtain ⟨ν3, p1, p2⟩ := wM_push hw (by omega) N (nStock (sN A) i)
      rw [if_pos (nI_lt (by omega) (by omega)), e1, z_in_nI (show 4 + i < 32 by omega) (by decide), nI_toNat (by omega), ev, p1, z_bn_sm, z_bd_eq, ei]
      obtain ⟨ν2, g1, g2⟩ := ih m (i + 1) _ _ (by omega) (by omega) (by rw [List.length_append, List.length_singleton]; omega) p2
      exact ⟨ν2, g1, by rw [segN_cat]; exact g2⟩
theorem mN_tri {a : aN} {ν : z_S} (h : mN 296 0 a ν) {i : Nat} (hi : i < 24) : ν.1 296 (8 + i) = nI (tri a i) := by
  have h4 := h.2.2.2 (i / 3) (by omega)
  rcases (show i % 3 = 0 ∨ i % 3 = 1 ∨ i % 3 = 2 by omega) with e | e | e
  · have q : i = 3 * (i / 3) := by omega
    rw [show 8 + i = 0 + 8 + 3 * (i / 3) by omega, h4.1]
    rw (config := {occs := .pos [2]}) [q]
    rw [tri_0]
  · have q : i = 3 * (i / 3) + 1 := by omega
    rw [show 8 + i = 0 + 9 + 3 * (i / 3) by omega, h4.2.1]
    rw (config := {occs := .pos [2]}) [q]
    rw [tri_1]
  · have q : i = 3 * (i / 3) + 2 := by omega
    rw [show 8 + i = 0 + 10 + 3 * (i / 3) by omega, h4.2.2]
    rw (config := {occs := .pos [2]}) [q]
    rw [tri_2]
theorem m_img3 {A : aS} {ν : z_S} (ok : okS A) (hm : mS A ν) (N : Nat) (e : z_S → Option (Int32 × z_S)) : ∀ n m i (L : List Nat) ν', i + m = 3 * hCnt (sH A) 0 → m < n → L.length + m ≤ 34 → wM L ν ν' → ∃ ν2, f_X12_image_L88 N e n (nI i) ν' = e ν2 ∧ wM (L ++ segN (tri (sN A)) i m) ν ν2 := by
  have h3 := ok.2.2.1.1
  intro n
  induction n with
  | zero => intro m i L ν' h1 h2; omega
  | succ n ih =>
    intro m i L ν' h1 h2 h4 hw
    show ∃ ν2, b_X12_image_L88 N (f_X12_image_L88 N e n) e (nI i) ν' = _ ∧ _
    unfold b_X12_image_L88 f_X12_letterMany
    rw [wM_cnt (k := 0) hm hw (by decide), z_bn_sm, show (3 : Int32) * nI (hCnt (sH A) 0) = nI (3 * hCnt (sH A) 0) from pk_mul 3 _]
    cases m with
    | zero =>
      rw [if_neg (nI_nlt (by omega) (by omega))]
      exact ⟨ν', rfl, by rw [show segN (tri (sN A)) i 0 = [] from rfl, List.append_nil]; exact hw⟩
    | succ m =>
      have ei : nI i + 1 = nI (i + 1) := nI_1 i
      have e1 : (8 : Int32) + nI i = nI (8 + i) := ix1 8 i
      have ev : ν'.1 296 (8 + i) = nI (tri (sN A) i) := by
        rw [hw.2, if_neg (by omega), if_neg (by omega)]
        exact mN_tri hm.2.2.2.2.2.2.2.1 (by omega)
      obtain ⟨ν3, p1, p2⟩ := wM_push hw (by omega) N (tri (sN A) i)
      rw [if_pos (nI_lt (by omega) (by omega)), e1, z_in_nI (show 8 + i < 32 by omega) (by decide), nI_toNat (by omega), ev, p1, z_bn_sm, z_bd_eq, ei]
      obtain ⟨ν2, g1, g2⟩ := ih m (i + 1) _ _ (by omega) (by omega) (by rw [List.length_append, List.length_singleton]; omega) p2
      exact ⟨ν2, g1, by rw [segN_cat]; exact g2⟩
