theorem m_run {t : Nat → Nat} {n : Nat} (N o : Nat) (e : Int32 → z_S → Option (Int32 × z_S)) {ν : z_S} (hx : mX t n ν) : ∀ f i, i ≤ n → n - i < f → f_X12_isHere_L35 N o e f (nI i) ν = e (nI (endE n (ltB t) i)) ν := by
  have hn := hx.1
  intro f
  induction f with
  | zero => intro i h1 h2; omega
  | succ f ih =>
    intro i h1 h2
    show b_X12_isHere_L35 N o (f_X12_isHere_L35 N o e f) e (nI i) ν = _
    unfold b_X12_isHere_L35
    rw [hx.2.1]
    by_cases hlt : i < n
    · have ek : nI i + 1 = nI (i + 1) := nI_1 i
      rw [if_pos (nI_lt hlt (by omega)), z_in_nI (show i < 1600 by omega) (by decide), nI_toNat (show i < 2 ^ 31 by omega), hx.2.2.1 i, m_isLt N (hx.2.2.2.1 i), z_bn_sm, endE_lt hlt]
      by_cases c : ltB t i = true
      · rw [if_pos (ltB_t.mp c), if_neg (by decide), z_bd_eq, ek, if_pos c]
        exact ih (i + 1) (by omega) (by omega)
      · rw [if_neg (fun z => c (ltB_t.mpr z)), if_pos rfl, if_neg c]
    · rw [if_neg (nI_nlt (by omega) (by omega)), endE_ge (by omega)]
theorem m_cmp {t : Nat → Nat} {n q o k : Nat} (N : Nat) {w : List Nat} (hk : z_kw false o = (22, w.length)) (hw : (o, w.map (· + 96)) ∈ mWords) (h26 : w.length ≤ 6 ∧ ∀ c ∈ w, 1 ≤ c ∧ c ≤ 26) {ν : z_S} (hx : mX t n ν) (h2 : ν.1 253 2 = nI q) (hq : q + w.length ≤ n) : ∀ f i, i ≤ w.length → w.length - i < f → (∀ j, j < i → w[j]? = some (t (q + j) - 96) ∧ 97 ≤ t (q + j)) → ∃ b, f_X12_isHere_L76 N o f (nI i) ν = some (b, ν) ∧ ((b = 1 ∧ ∀ j, j < w.length → w[j]? = some (t (q + j) - 96) ∧ 97 ≤ t (q + j)) ∨ (b = 0 ∧ ∃ j, j < w.length ∧ ¬ w[j]? = some (t (q + j) - 96) ∨ j < w.length ∧ t (q + j) < 97)) := by
  have hn := hx.1
  intro f
  induction f with
  | zero => intro i h1 h2; omega
  | succ f ih =>
    intro i h1 h3 hj
    show ∃ b, b_X12_isHere_L76 N o (f_X12_isHere_L76 N o f) (nI i) ν = _ ∧ _
    unfold b_X12_isHere_L76
    rw [hk, h2]
    show ∃ b, (if nI i < nI w.length then _ else _) = _ ∧ _
    by_cases hlt : i < w.length
    · have ek : nI i + 1 = nI (i + 1) := nI_1 i
      have ea : nI q + nI i = nI (q + i) := nI_add q i
      have hwi : w[i]? = some w[i] := List.getElem?_eq_getElem hlt
      have hc := h26.2 w[i] (List.getElem_mem hlt)
      have ho : ν.1 o i = nI (w[i] + 96) := hx.2.2.2.2 _ hw i _ (by show (w.map (· + 96))[i]? = _; rw [List.getElem?_map, hwi]; rfl)
      have ht := hx.2.2.2.1 (q + i)
      rw [if_pos (nI_lt hlt (by omega)), ea, z_in_nI (show q + i < 1600 by omega) (by decide)]
      show ∃ b, z_in (nI i) w.length (if ν.1 254 (nI (q + i)).toNatClampNeg = ν.1 o (nI i).toNatClampNeg then _ else _) = _ ∧ _
      rw [z_in_nI hlt (by omega), nI_toNat (show q + i < 2 ^ 31 by omega), nI_toNat (show i < 2 ^ 31 by omega), hx.2.2.1, ho, z_bd_eq, ek]
      by_cases c : t (q + i) = w[i] + 96
      · rw [if_pos (by rw [c])]
        refine ih (i + 1) (by omega) (by omega) (fun j hj1 => ?_)
        by_cases z : j = i
        · rw [z, hwi, c]
          exact ⟨by rw [Nat.add_sub_cancel], by omega⟩
        · exact hj j (by omega)
      · rw [if_neg (fun z => c ((nI_eq (by omega) (by omega)).mp z))]
        refine ⟨0, rfl, Or.inr ⟨rfl, i, ?_⟩⟩
        rcases Nat.lt_or_ge (t (q + i)) 97 with y | y
        · exact Or.inr ⟨hlt, y⟩
        · refine Or.inl ⟨hlt, fun z => c ?_⟩
          rw [hwi] at z
          have := Option.some.inj z
          omega
    · have : i = w.length := by omega
      rw [if_neg (nI_nlt (by omega) (by omega))]
      exact ⟨1, rfl, Or.inl ⟨rfl, fun j hj1 => hj j (by omega)⟩⟩
theorem m_here0 {t : Nat → Nat} {n q o k : Nat} {g : Bool} (N : Nat) (hN : 1700 ≤ N) (ho : wOK o k) {ν ν' : z_S} (h5 : ν.1 253 5 = 0) (hl : f_X12_look N ν = some (lk t n q, ν')) (h : mA t n q g ν') : f_X12_isHere N o ν = some (if tkW t n q g = nI k then 1 else 0, ν') := by
  obtain ⟨w, hw1, hw2, hw3⟩ := ho
  obtain ⟨hx, h5', h2, hq, hs, d, hd, hdq, hg⟩ := h
  have hn := hx.1
  have hk34 : k < 34 := (List.getElem?_eq_some_iff.mp hw1).1
  have hwok := words_ok w (List.mem_of_getElem? hw1)
  unfold f_X12_isHere
  rw [z_kd_ok (by rw [hw2]), if_pos h5, hl, z_bn_sm, lk_lt N hx.2.2.2.1, z_bn_sm]
  by_cases c : q < n ∧ ltB t q = true
  · rw [if_pos c, if_neg (by decide), h2, hd]
    have eW : tkW t n q g = if g = true then -1 else wix (lts t q (tkE t n q - q)) := by unfold tkW; rw [if_neg (by omega), if_pos c.2]
    have eE : tkE t n q = endE n (ltB t) q := by unfold tkE; rw [if_neg (by omega), if_pos c.2]
    rw [eW, eE]
    by_cases cg : g = true
    · have hd1 := hg.mp cg
      have e1 : nI d - 1 = nI q := by rw [hd1]; exact pk_sub (b := 1) (by omega)
      rw [if_pos e1.symm, if_pos cg, if_neg (fun z => nI_nm1 (by omega) z.symm)]
    · have hd1 : ¬ d = q + 1 := fun z => cg (hg.mpr z)
      rw [if_neg (fun z => hd1 ((nI_dec (by omega) (by omega)).mp z.symm)), if_neg cg, z_bd_eq, m_run N o (fun y61_2 μ61 => f_X12_isHere_B61 N o y61_2 μ61) hx N q (by omega) (by omega)]
      obtain ⟨b1, b2, b3, b4⟩ := endE_b (P := ltB t) hq
      generalize hE : endE n (ltB t) q = E at *
      show f_X12_isHere_B61 N o (nI E) ν' = _
      unfold f_X12_isHere_B61
      rw [h2, show nI E - nI q = nI (E - q) from pk_sub (by omega), hw2]
      show (if nI (E - q) = nI w.length then _ else _) = _
      by_cases cl : E - q = w.length
      · rw [if_pos (by rw [cl])]
        obtain ⟨b, r1, r2⟩ := m_cmp (k := k) N hw2 hw3 ⟨hwok.2.1, hwok.2.2⟩ hx h2 (by omega) N 0 (Nat.zero_le _) (by omega) (fun j hj => by omega)
        have r1' : f_X12_isHere_L76 N o N (0 : Int32) ν' = some (b, ν') := r1
        rw [r1']
        rcases r2 with ⟨rfl, r2⟩ | ⟨rfl, j, r2⟩
        · rw [if_pos ((wix_iff hw1).mpr ?_)]
          refine List.ext_getElem? (fun i => ?_)
          rcases Nat.lt_or_ge i w.length with y | y
          · rw [(r2 i y).1, lts_get (by omega)]
          · rw [List.getElem?_eq_none (by rw [lts_len]; omega), List.getElem?_eq_none y]
        · rw [if_neg]
          intro z
          have e := (wix_iff hw1).mp z
          have hj : j < w.length := by rcases r2 with y | y <;> exact y.1
          have hlt := ltB_t.mp (b3 (q + j) (by omega) (by omega))
          rcases r2 with y | y
          · apply y.2
            rw [← e, lts_get (by omega)]
          · omega
      · rw [if_neg (fun z => cl ((nI_eq (by omega) (by omega)).mp z)), if_neg]
        intro z
        have e := (wix_iff hw1).mp z
        apply cl
        rw [← e, lts_len]
  · rw [if_neg c, if_pos rfl]
    have eW : tkW t n q g = -1 := by
      unfold tkW
      by_cases y : n ≤ q
      · rw [if_pos y]
      · rw [if_neg y, if_neg (fun z => c ⟨by omega, z⟩)]
    rw [eW, if_neg (fun z => nI_nm1 (by omega) z.symm)]
theorem m_hereA {t : Nat → Nat} {n q o k : Nat} {g : Bool} (N : Nat) (hN : 1700 ≤ N) (ho : wOK o k) {ν : z_S} (h : mA t n q g ν) : f_X12_isHere N o ν = some (if tkW t n q g = nI k then 1 else 0, ν) := m_here0 N hN ho h.2.1 (m_lookA N hN h) h
theorem tkW_k {t : Nat → Nat} {n q k : Nat} {g : Bool} (hk : k < 34) (h : tkW t n q g = nI k) : q < n ∧ ltB t q = true ∧ g = false ∧ tkE t n q = endE n (ltB t) q ∧ tkK t n q g = 1 ∧ wix (lts t q (tkE t n q - q)) = nI k ∧ tkS t n q = -1 := by
  have nm := nI_nm1 (k := k) (by omega)
  unfold tkW at h
  by_cases y : n ≤ q
  · rw [if_pos y] at h; exact absurd h.symm nm
  · rw [if_neg y] at h
    by_cases c : ltB t q = true
    · rw [if_pos c] at h
      by_cases cg : g = true
      · rw [if_pos cg] at h; exact absurd h.symm nm
      · rw [if_neg cg] at h
        refine ⟨by omega, c, by cases g; rfl; exact absurd rfl cg, ?_, ?_, h, ?_⟩
        · unfold tkE; rw [if_neg y, if_pos c]
        · unfold tkK; rw [if_neg y, if_pos c, if_neg cg]
        · unfold tkS; rw [if_neg y, if_pos c]
    · rw [if_neg c] at h; exact absurd h.symm nm
theorem m_eats0 {t : Nat → Nat} {n q o k : Nat} {g : Bool} (N : Nat) (hN : 1700 ≤ N) (ho : wOK o k) {ν ν' : z_S} (h5 : ν.1 253 5 = 0) (hl : f_X12_look N ν = some (lk t n q, ν')) (h : mA t n q g ν') : (tkW t n q g = nI k ∧ ∃ ν2, f_X12_eats N o ν = some (1, ν2) ∧ yFr ν' ν2 ∧ mG t n (nxQ t n q) (nxG t n q g) ν2) ∨ (¬ tkW t n q g = nI k ∧ f_X12_eats N o ν = some (0, ν')) := by
  have hh := m_here0 N hN ho h5 hl h
  obtain ⟨w, hw1, hw2, hw3⟩ := ho
  have hk34 : k < 34 := (List.getElem?_eq_some_iff.mp hw1).1
  unfold f_X12_eats
  rw [z_kd_ok (by rw [hw2]), hh, z_bn_sm]
  by_cases c : tkW t n q g = nI k
  · obtain ⟨c1, c2, c3, c4, c5, c6, -⟩ := tkW_k hk34 c
    obtain ⟨hx, h5', h2, hq, hs, d, hd, hdq, hg⟩ := h
    have hn := hx.1
    obtain ⟨a1, a2, a3⟩ := tkE_b (t := t) hq
    have el : tkE t n q - q = w.length := by rw [← (wix_iff hw1).mp c6, lts_len]
    have e1 : nI q + Int32.ofNat w.length = nI (tkE t n q) := by
      show nI q + nI w.length = _
      rw [nI_add, show q + w.length = tkE t n q by omega]
    left
    rw [if_pos c, if_neg (by decide), hw2, h2, z_bd_eq, e1, z_bd_eq]
    have fr := (yFr.set ν' (j := 2) (nI (tkE t n q)) (by omega)).tr (yFr.set _ (j := 4) ((z_setI ν' 253 2 (nI (tkE t n q))).1 253 2) (by omega))
    have eg : nxG t n q g = decide (nxQ t n q = tkE t n q) := by
      unfold nxG
      exact decide_eq_decide.mpr ⟨fun z => z.2, fun z => ⟨Or.inl c5, z⟩⟩
    refine ⟨c, _, rfl, fr, fr.mX hx, ?_, tkE t n q, tkE t n q + 1, ?_, a2, rfl, ?_, Nat.le_refl _, ?_⟩
    · rw [sI_1, if_neg (by omega), sI_1, if_neg (by omega)]; exact h5'
    · rw [sI_1, if_neg (by omega), sI_1, if_pos ⟨rfl, rfl⟩]
    · rw [sI_1, if_pos ⟨rfl, rfl⟩, sI_1, if_pos ⟨rfl, rfl⟩]
      exact (pk_sub (a := tkE t n q + 1) (b := 1) (by omega)).symm
    · rw [eg]
      exact ⟨fun z => by have := of_decide_eq_true z; omega, fun z => decide_eq_true (by omega)⟩
  · right
    rw [if_neg c, if_pos rfl]
    exact ⟨c, rfl⟩
theorem m_eats {t : Nat → Nat} {n q o k : Nat} {g : Bool} (N : Nat) (hN : 1700 ≤ N) (ho : wOK o k) {ν : z_S} (h : mG t n q g ν) : ∃ b ν', f_X12_eats N o ν = some (b, ν') ∧ yFr ν ν' ∧ ((tkW t n q g = nI k ∧ b = 1 ∧ mG t n (nxQ t n q) (nxG t n q g) ν') ∨ (¬ tkW t n q g = nI k ∧ b = 0 ∧ mA t n q g ν')) := by
  obtain ⟨ν1, r1, r2, r3⟩ := m_look N hN h
  rcases m_eats0 N hN ho h.2.1 r1 r3 with ⟨c, ν2, s1, s2, s3⟩ | ⟨c, s1⟩
  · exact ⟨1, ν2, s1, r2.tr s2, Or.inl ⟨c, rfl, s3⟩⟩
  · exact ⟨0, ν1, s1, r2, Or.inr ⟨c, rfl, r3⟩⟩
theorem m_failAt (N : Nat) (f p : Nat) {ν : z_S} (h : ν.1 253 5 = 0) (hf : ¬ nI f = 0 := by decide) : ∃ ν', f_X12_fail N (nI f) (nI p) ν = some ((), ν') ∧ yFr ν ν' ∧ mB f p ν' := by
  unfold f_X12_fail
  rw [if_pos h, z_bd_eq, z_bd_eq]
  have h2 : ¬ (z_setI (z_setI ν 253 5 (nI f)) 253 6 (nI p)).1 253 5 = 0 := by rw [sI_1, if_neg (by omega), sI_1, if_pos ⟨rfl, rfl⟩]; exact hf
  refine ⟨_, rfl, ⟨rfl, fun a j q => by rw [sI_1, if_neg (fun z => q ⟨z.1, Or.inr (Or.inr (Or.inl ⟨Or.inr z.2, h2⟩))⟩), sI_1, if_neg (fun z => q ⟨z.1, Or.inr (Or.inr (Or.inl ⟨Or.inl z.2, h2⟩))⟩)]⟩, ?_, ?_⟩
  · rw [sI_1, if_neg (by omega), sI_1, if_pos ⟨rfl, rfl⟩]
  · rw [sI_1, if_pos ⟨rfl, rfl⟩]
theorem m_asks {t : Nat → Nat} {n q o k : Nat} {g : Bool} (N : Nat) (hN : 1700 ≤ N) (ho : wOK o k) {ν : z_S} (h : mG t n q g ν) : ∃ ν', f_X12_asks N o ν = some ((), ν') ∧ yFr ν ν' ∧ ((tkW t n q g = nI k ∧ mG t n (nxQ t n q) (nxG t n q g) ν') ∨ (¬ tkW t n q g = nI k ∧ mB 1 q ν')) := by
  obtain ⟨b, ν1, r1, r2, r3⟩ := m_eats N hN ho h
  obtain ⟨w, hw1, hw2, hw3⟩ := ho
  unfold f_X12_asks
  rw [z_kd_ok (by rw [hw2]), if_pos h.2.1, r1, z_bn_sm]
  rcases r3 with ⟨c, rfl, r3⟩ | ⟨c, rfl, r3⟩
  · rw [if_neg (by decide)]
    exact ⟨ν1, rfl, r2, Or.inl ⟨c, r3⟩⟩
  · obtain ⟨ν2, s1, s2, s3⟩ := m_failAt N 1 q r3.2.1
    have s1' : f_X12_fail N (1 : Int32) (nI q) ν1 = some ((), ν2) := s1
    rw [if_pos rfl, r3.2.2.1, s1', z_bn_sm]
    exact ⟨ν2, rfl, r2.tr s2, Or.inr ⟨c, s3⟩⟩
/-- a sign: no letter, no figure, no blank -/
def sgnC (c : Nat) : Prop := c < 256 ∧ ¬ (97 ≤ c ∧ c ≤ 122) ∧ ¬ (48 ≤ c ∧ c ≤ 57)
theorem lk_S {t : Nat → Nat} {n q c : Nat} (ht : ∀ k, t k < 256) (hc : sgnC c) : lk t n q = nI c ↔ tkS t n q = nI c := by
  obtain ⟨c1, c2, c3⟩ := hc
  have hb := ht q
  have nm := nI_nm1 (k := c) (by omega)
  unfold lk tkS
  by_cases y : q < n
  · rw [if_pos y, if_neg (by omega)]
    by_cases z : ltB t q = true
    · rw [if_pos z]
      have := ltB_t.mp z
      exact ⟨fun w => by have := (nI_eq (by omega) (by omega)).mp w; omega, fun w => absurd w.symm nm⟩
    · rw [if_neg z]
      by_cases z2 : dgB t q = true
      · rw [if_pos z2]
        have := dgB_t.mp z2
        exact ⟨fun w => by have := (nI_eq (by omega) (by omega)).mp w; omega, fun w => absurd w.symm nm⟩
      · rw [if_neg z2]
  · rw [if_neg y, if_pos (by omega)]
theorem tkS_c {t : Nat → Nat} {n q c : Nat} {g : Bool} (hc : c < 256) (h : tkS t n q = nI c) : q < n ∧ tkE t n q = q + 1 ∧ tkK t n q g = 3 ∧ nxG t n q g = false ∧ tkW t n q g = -1 := by
  have nm := nI_nm1 (k := c) (by omega)
  have key : q < n ∧ ¬ ltB t q = true ∧ ¬ dgB t q = true := by
    unfold tkS at h
    by_cases y : n ≤ q
    · rw [if_pos y] at h; exact absurd h.symm nm
    · rw [if_neg y] at h
      by_cases z : ltB t q = true
      · rw [if_pos z] at h; exact absurd h.symm nm
      · rw [if_neg z] at h
        by_cases z2 : dgB t q = true
        · rw [if_pos z2] at h; exact absurd h.symm nm
        · exact ⟨by omega, z, z2⟩
  obtain ⟨k1, k2, k3⟩ := key
  have eK : tkK t n q g = 3 := by unfold tkK; rw [if_neg (by omega), if_neg k2, if_neg k3]
  refine ⟨k1, by unfold tkE; rw [if_neg (by omega), if_neg k2, if_neg k3], eK, ?_, by unfold tkW; rw [if_neg (by omega), if_neg k2]⟩
  unfold nxG
  rw [eK]
  exact decide_eq_false (fun z => by omega)
theorem m_step1 {t : Nat → Nat} {n q c : Nat} {g : Bool} (hc : c < 256) {ν : z_S} (h : mA t n q g ν) (hs : tkS t n q = nI c) : mG t n (nxQ t n q) (nxG t n q g) (z_setI ν 253 2 (nI (q + 1))) := by
  obtain ⟨k1, k2, k3, k4, -⟩ := tkS_c (g := g) hc hs
  obtain ⟨hx, h5', h2, hq, hs, d, hd, hdq, hg⟩ := h
  have b := (skp_b (t := t) (show q + 1 ≤ n by omega)).1
  refine ⟨(yFr.set ν (j := 2) _ (by omega)).mX hx, by rw [sI_1, if_neg (by omega)]; exact h5', q + 1, d, by rw [sI_1, if_pos ⟨rfl, rfl⟩], by omega, by unfold nxQ; rw [k2], by rw [sI_1, if_neg (by omega)]; exact hd, by omega, ?_⟩
  rw [k4]
  refine ⟨fun z => absurd z (by decide), fun z => ?_⟩
  unfold nxQ at z
  rw [k2] at z
  omega
theorem m_takesSign {t : Nat → Nat} {n q c : Nat} {g : Bool} (N : Nat) (hN : 1700 ≤ N) (hc : sgnC c) {ν : z_S} (h : mG t n q g ν) : ∃ b ν', f_X12_takesSign N (nI c) ν = some (b, ν') ∧ yFr ν ν' ∧ ((tkS t n q = nI c ∧ b = 1 ∧ mG t n (nxQ t n q) (nxG t n q g) ν' ∧ ν'.1 253 2 = nI (q + 1)) ∨ (¬ tkS t n q = nI c ∧ b = 0 ∧ mA t n q g ν')) := by
  obtain ⟨ν1, r1, r2, r3⟩ := m_look N hN h
  unfold f_X12_takesSign
  rw [if_pos h.2.1, r1, z_bn_sm]
  by_cases y : lk t n q = nI c
  · have ys := (lk_S h.1.2.2.2.1 hc).mp y
    have e1 : nI q + (1 : Int32) = nI (q + 1) := nI_1 q
    rw [if_pos y, r3.2.2.1, e1, z_bd_eq]
    exact ⟨1, _, rfl, r2.tr (yFr.set ν1 (j := 2) _ (by omega)), Or.inl ⟨ys, rfl, m_step1 hc.1 r3 ys, by rw [sI_1, if_pos ⟨rfl, rfl⟩]⟩⟩
  · rw [if_neg y]
    exact ⟨0, ν1, rfl, r2, Or.inr ⟨fun z => y ((lk_S h.1.2.2.2.1 hc).mpr z), rfl, r3⟩⟩
theorem m_asksSign {t : Nat → Nat} {n q c : Nat} {g : Bool} (N : Nat) (hN : 1700 ≤ N) (hc : sgnC c) {ν : z_S} (h : mG t n q g ν) : ∃ ν', f_X12_asksSign N (nI c) ν = some ((), ν') ∧ yFr ν ν' ∧ ((tkS t n q = nI c ∧ mG t n (nxQ t n q) (nxG t n q g) ν') ∨ (¬ tkS t n q = nI c ∧ mB 1 q ν')) := by
  obtain ⟨b, ν1, r1, r2, r3⟩ := m_takesSign N hN hc h
  unfold f_X12_asksSign
  rw [if_pos h.2.1, r1, z_bn_sm]
  rcases r3 with ⟨y, rfl, r3, -⟩ | ⟨y, rfl, r3⟩
  · rw [if_neg (by decide)]
    exact ⟨ν1, rfl, r2, Or.inl ⟨y, r3⟩⟩
  · obtain ⟨ν2, s1, s2, s3⟩ := m_failAt N 1 q r3.2.1
    have s1' : f_X12_fail N (1 : Int32) (nI q) ν1 = some ((), ν2) := s1
    rw [if_pos rfl, r3.2.2.1, s1', z_bn_sm]
    exact ⟨ν2, rfl, r2.tr s2, Or.inr ⟨y, s3⟩⟩
