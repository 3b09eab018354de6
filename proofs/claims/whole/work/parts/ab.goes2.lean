theorem tkS_t {t : Nat → Nat} {n q c : Nat} (ht : ∀ k, t k < 256) (hc : c < 256) (h : tkS t n q = nI c) : t q = c := by
  have nm := nI_nm1 (k := c) (by omega)
  have hb := ht q
  unfold tkS at h
  by_cases y : n ≤ q
  · rw [if_pos y] at h; exact absurd h.symm nm
  · rw [if_neg y] at h
    by_cases z : ltB t q = true
    · rw [if_pos z] at h; exact absurd h.symm nm
    · rw [if_neg z] at h
      by_cases z2 : dgB t q = true
      · rw [if_pos z2] at h; exact absurd h.symm nm
      · rw [if_neg z2] at h
        exact (nI_eq (by omega) (by omega)).mp h
def top34 (V : List Int32) : Prop := V = [] ∨ ∃ U x, V = U ++ [x] ∧ ¬ (x = 3 ∨ x = 4)
theorem m_L162 {as : Bool} {V : List Int32} {op base : Nat} (N : Nat) (c1 : Int32) (e : z_S → Option (Int32 × z_S)) (hV : top34 V) : ∀ m (ms : List Int32) f Q ν, ms.length = m → m < f → Q.length + V.length + m < 1680 → (∀ p ∈ ms, p = 3 ∨ p = 4) → qM as Q (V ++ ms) op base ν → ∃ ν', f_X12_qGoesOn_L162 N c1 e f ν = e ν' ∧ jFr ν ν' ∧ qM as (Q ++ ms.reverse) V op base ν' := by
  intro m
  induction m with
  | zero =>
    intro ms f Q ν h1 h2 h3 h4 h
    obtain ⟨f, rfl⟩ : ∃ g, f = g + 1 := ⟨f - 1, by omega⟩
    have : ms = [] := List.eq_nil_of_length_eq_zero h1
    subst this
    rw [List.append_nil] at h
    refine ⟨ν, ?_, jFr.rf ν, by rw [List.reverse_nil, List.append_nil]; exact h⟩
    show b_X12_qGoesOn_L162 N c1 _ e ν = _
    unfold b_X12_qGoesOn_L162
    rcases hV with rfl | ⟨U, x, rfl, hx⟩
    · rw [m_isOn0 N h, z_bn_sm, if_pos rfl, m_isOn0 N h, z_bn_sm, if_pos rfl]
    · rw [snoc_len] at h3
      rw [m_isOn N h (by omega), z_bn_sm, if_neg (fun z => hx (Or.inl z)), if_pos rfl, m_isOn N h (by omega), z_bn_sm, if_neg (fun z => hx (Or.inr z)), if_pos rfl]
  | succ m ih =>
    intro ms f Q ν h1 h2 h3 h4 h
    obtain ⟨f, rfl⟩ : ∃ g, f = g + 1 := ⟨f - 1, by omega⟩
    rcases List.eq_nil_or_concat ms with y | ⟨p, x, y⟩
    · rw [y] at h1; cases h1
    · rw [List.concat_eq_append] at y
      subst y
      have l1 : p.length = m := by rw [snoc_len] at h1; omega
      rw [← List.append_assoc] at h
      have l2 : (V ++ p).length = V.length + m := by rw [List.length_append, l1]
      obtain ⟨ν1, r1, r2, r3⟩ := m_drops N h (by rw [l2]; omega)
      obtain ⟨ν2, s1, s2, s3⟩ := ih p f (Q ++ [x]) ν1 l1 (by omega) (by rw [snoc_len]; omega) (fun c hc => h4 c (by simp [hc])) r3
      refine ⟨ν2, ?_, r2.tr s2, ?_⟩
      · show b_X12_qGoesOn_L162 N c1 _ e ν = _
        unfold b_X12_qGoesOn_L162 f_X12_qGoesOn_B178
        have on : ∀ a, ¬ x = a → f_X12_qIsOn N a ν = some (0, ν) := fun a ha => by rw [m_isOn N h (by rw [l2]; omega) a, if_neg ha]
        have oy : ∀ a, x = a → f_X12_qIsOn N a ν = some (1, ν) := fun a ha => by rw [m_isOn N h (by rw [l2]; omega) a, if_pos ha]
        have n10 : ¬ (1 : Int32) = 0 := by decide
        rcases h4 x (by simp) with y | y
        · rw [oy 3 y, z_bn_sm, if_neg n10, r1, z_bn_sm]
          exact s1
        · rw [on 3 (by rw [y]; decide), z_bn_sm, if_pos rfl, oy 4 y, z_bn_sm, if_neg n10, r1, z_bn_sm]
          exact s1
      · rw [rev_snoc]
        rw [List.append_assoc] at s3
        exact s3
theorem m_L247 {as : Bool} {V : List Int32} {op base : Nat} (N : Nat) (c1 : Int32) (e : z_S → Option (Int32 × z_S)) (hV : topNo V) : ∀ m (ms : List Int32) f Q ν, ms.length = m → m < f → Q.length + V.length + m < 1680 → (∀ p ∈ ms, p = 1 ∨ p = 2 ∨ p = 3 ∨ p = 4) → qM as Q (V ++ ms) op base ν → ∃ ν', f_X12_qGoesOn_L247 N c1 e f ν = e ν' ∧ jFr ν ν' ∧ qM as (Q ++ ms.reverse) V op base ν' := by
  intro m
  induction m with
  | zero =>
    intro ms f Q ν h1 h2 h3 h4 h
    obtain ⟨f, rfl⟩ : ∃ g, f = g + 1 := ⟨f - 1, by omega⟩
    have : ms = [] := List.eq_nil_of_length_eq_zero h1
    subst this
    rw [List.append_nil] at h
    refine ⟨ν, ?_, jFr.rf ν, by rw [List.reverse_nil, List.append_nil]; exact h⟩
    show b_X12_qGoesOn_L247 N c1 _ e ν = _
    unfold b_X12_qGoesOn_L247
    rw [m_isOnN N h (by omega) hV (by decide), z_bn_sm, if_pos rfl, m_isOnN N h (by omega) hV (by decide), z_bn_sm, if_pos rfl, m_isOnN N h (by omega) hV (by decide), z_bn_sm, if_pos rfl, m_isOnN N h (by omega) hV (by decide), z_bn_sm, if_pos rfl]
  | succ m ih =>
    intro ms f Q ν h1 h2 h3 h4 h
    obtain ⟨f, rfl⟩ : ∃ g, f = g + 1 := ⟨f - 1, by omega⟩
    rcases List.eq_nil_or_concat ms with y | ⟨p, x, y⟩
    · rw [y] at h1; cases h1
    · rw [List.concat_eq_append] at y
      subst y
      have l1 : p.length = m := by rw [snoc_len] at h1; omega
      rw [← List.append_assoc] at h
      have l2 : (V ++ p).length = V.length + m := by rw [List.length_append, l1]
      obtain ⟨ν1, r1, r2, r3⟩ := m_drops N h (by rw [l2]; omega)
      obtain ⟨ν2, s1, s2, s3⟩ := ih p f (Q ++ [x]) ν1 l1 (by omega) (by rw [snoc_len]; omega) (fun c hc => h4 c (by simp [hc])) r3
      refine ⟨ν2, ?_, r2.tr s2, ?_⟩
      · show b_X12_qGoesOn_L247 N c1 _ e ν = _
        unfold b_X12_qGoesOn_L247 f_X12_qGoesOn_B279
        have on : ∀ a, ¬ x = a → f_X12_qIsOn N a ν = some (0, ν) := fun a ha => by rw [m_isOn N h (by rw [l2]; omega) a, if_neg ha]
        have oy : ∀ a, x = a → f_X12_qIsOn N a ν = some (1, ν) := fun a ha => by rw [m_isOn N h (by rw [l2]; omega) a, if_pos ha]
        have n10 : ¬ (1 : Int32) = 0 := by decide
        rcases h4 x (by simp) with y | y | y | y
        · rw [on 3 (by rw [y]; decide), z_bn_sm, if_pos rfl, on 4 (by rw [y]; decide), z_bn_sm, if_pos rfl, oy 1 y, z_bn_sm, if_neg n10, r1, z_bn_sm]
          exact s1
        · rw [on 3 (by rw [y]; decide), z_bn_sm, if_pos rfl, on 4 (by rw [y]; decide), z_bn_sm, if_pos rfl, on 1 (by rw [y]; decide), z_bn_sm, if_pos rfl, oy 2 y, z_bn_sm, if_neg n10, r1, z_bn_sm]
          exact s1
        · rw [oy 3 y, z_bn_sm, if_neg n10, r1, z_bn_sm]
          exact s1
        · rw [on 3 (by rw [y]; decide), z_bn_sm, if_pos rfl, oy 4 y, z_bn_sm, if_neg n10, r1, z_bn_sm]
          exact s1
      · rw [rev_snoc]
        rw [List.append_assoc] at s3
        exact s3
theorem op_not {p : Int32} (h : p = 1 ∨ p = 2 ∨ p = 3 ∨ p = 4) : ¬ isBr p := by
  rcases h with rfl | rfl | rfl | rfl <;> exact fun z => z.1 (by decide)
/-- times or by -/
theorem g_mul {t : Nat → Nat} {n q : Nat} {g as : Bool} {Q W pa ms : List Int32} {b : Int32} {op base c : Nat} {N : Nat} (hN : 1700 ≤ N) {c1 : Int32} {E : z_S → Option (Unit × z_S)} {f1 f3 : Nat} {ν : z_S} (hm : mG t n q g ν) (h : qM as Q (W ++ pa ++ ms) op base ν) (hl : Q.length + W.length + pa.length + ms.length < 1680) (hb : brkV W base b) (hpa : ∀ p ∈ pa, p = 1 ∨ p = 2) (hms : ∀ p ∈ ms, p = 3 ∨ p = 4) (hV : top34 (W ++ pa)) (hc : c = 42 ∨ c = 47) (hs : tkS t n q = nI c) : ∃ ν', RG N c1 E (f1 + 1) (f3 + 1) ν = RT N c1 E f1 N ν' ∧ zFr ν ν' ∧ mG t n (nxQ t n q) (nxG t n q g) ν' ∧ qM as (Q ++ ms.reverse) (W ++ pa ++ [if c = 42 then 3 else 4]) op base ν' := by
  have hpd : ∀ p ∈ pa ++ ms, ¬ isBr p := fun p hp => by
    rcases List.mem_append.mp hp with y | y
    · rcases hpa p y with z | z
      · exact op_not (Or.inl z)
      · exact op_not (Or.inr (Or.inl z))
    · rcases hms p y with z | z
      · exact op_not (Or.inr (Or.inr (Or.inl z)))
      · exact op_not (Or.inr (Or.inr (Or.inr z)))
  have h' := h
  rw [List.append_assoc] at h'
  have c256 : c < 256 := by omega
  have n41 : ¬ tkS t n q = nI 41 := fun z => by
    have := (nI_eq (by omega) (by decide)).mp (hs.symm.trans z)
    omega
  obtain ⟨ν1, r1, r2, r3, r4⟩ := g_on (c1 := c1) (E := E) (f1 := f1 + 1) (f3 := f3) hN hm h' (by rw [List.length_append]; omega) hb hpd (fun z => n41 z.1)
  rw [← List.append_assoc] at r4
  have hn := hm.1.1
  have ht := tkS_t hm.1.2.2.2.1 c256 hs
  have hq := (tkS_c (g := g) c256 hs).1
  have fr2 := yFr.set ν1 (j := 2) (nI (q + 1)) (by omega)
  have hm2 := m_step1 c256 r3 hs
  have hq2 := fr2.qM r4
  have key : ∃ ν', f_X12_qGoesOn_B140 N (z_setI ν1 253 2 (nI (q + 1))) = some (1, ν') ∧ jFr (z_setI ν1 253 2 (nI (q + 1))) ν' ∧ qM as (Q ++ ms.reverse) (W ++ pa ++ [if c = 42 then 3 else 4]) op base ν' := by
    unfold f_X12_qGoesOn_B140
    have e2 : (z_setI ν1 253 2 (nI (q + 1))).1 253 2 - (1 : Int32) = nI q := by rw [sI_1, if_pos ⟨rfl, rfl⟩]; exact pk_sub (b := 1) (by omega)
    rw [e2, z_in_nI (show q < 1600 by omega) (by decide), nI_toNat (by omega), hm2.1.2.2.1 q, ht]
    have go : ∀ s : Int32, ∃ ν', f_X12_qGoesOn_B161 N s (z_setI ν1 253 2 (nI (q + 1))) = some (1, ν') ∧ jFr (z_setI ν1 253 2 (nI (q + 1))) ν' ∧ qM as (Q ++ ms.reverse) (W ++ pa ++ [s]) op base ν' := fun s => by
      have l2 : (W ++ pa).length = W.length + pa.length := List.length_append
      obtain ⟨ν3, s1, s2, s3⟩ := m_L162 N s (fun μ185 => z_in (μ185.1 253 97) 1700 <| z_bd (z_setI μ185 331 (μ185.1 253 97).toNatClampNeg s) fun μ_32 => z_bd (z_setI μ_32 253 97 ((μ_32.1 253 97) + (1 : Int32))) fun μ_33 => some ((1 : Int32), μ_33)) hV ms.length ms N Q _ rfl (by omega) (by rw [l2]; omega) hms hq2
      unfold f_X12_qGoesOn_B161
      rw [s1]
      show ∃ ν', z_in (ν3.1 253 97) 1700 (z_bd (z_setI ν3 331 (ν3.1 253 97).toNatClampNeg s) fun μ_32 => z_bd (z_setI μ_32 253 97 ((μ_32.1 253 97) + (1 : Int32))) fun μ_33 => some ((1 : Int32), μ_33)) = _ ∧ _
      rw [s3.2.2.1, z_in_nI (show (W ++ pa).length < 1700 by omega) (by decide), nI_toNat (by omega), z_bd_eq, z_bd_eq, show (z_setI ν3 331 (W ++ pa).length s).1 253 97 + (1 : Int32) = nI ((W ++ pa).length + 1) by rw [sI_1, if_neg (by omega), s3.2.2.1]; exact nI_1 _]
      obtain ⟨w1, w2⟩ := qM_push s3 s rfl
      exact ⟨_, rfl, s2.tr w2, w1⟩
    by_cases c42 : c = 42
    · rw [if_pos (show nI c = (42 : Int32) by rw [c42]; rfl), if_pos c42]
      exact go 3
    · rw [if_neg (show ¬ nI c = (42 : Int32) from fun z => c42 ((nI_eq (b := 42) (by omega) (by decide)).mp z)), if_neg c42]
      exact go 4
  obtain ⟨ν', k1, k2, k3⟩ := key
  have hm3 := k2.mG hm2
  refine ⟨ν', ?_, r2.z.tr (fr2.z.tr k2.z), hm3, k3⟩
  rw [r1, ← aGo_1 hm3.2.1]
  unfold f_X12_qGoesOn_B122
  rcases m_signA N hN sg_42 r3 with ⟨y1, y2⟩ | ⟨y1, y2⟩
  · rw [show f_X12_takesSign N (42 : Int32) ν1 = _ from y2, z_bn_sm, if_neg (show ¬ (1 : Int32) = 0 by decide), k1, z_bn_sm]
  · have c47 : c = 47 := by rcases hc with z | z; exact absurd (z ▸ hs) y1; exact z
    rcases m_signA N hN sg_47 r3 with ⟨z1, z2⟩ | ⟨z1, z2⟩
    · rw [show f_X12_takesSign N (42 : Int32) ν1 = _ from y2, z_bn_sm, if_pos rfl, show f_X12_takesSign N (47 : Int32) ν1 = _ from z2, z_bn_sm, if_neg (show ¬ (1 : Int32) = 0 by decide), k1, z_bn_sm]
    · exact absurd (c47 ▸ hs) z1
/-- plus or minus -/
theorem g_add {t : Nat → Nat} {n q : Nat} {g as : Bool} {Q W pd : List Int32} {b : Int32} {op base c : Nat} {N : Nat} (hN : 1700 ≤ N) {c1 : Int32} {E : z_S → Option (Unit × z_S)} {f1 f3 : Nat} {ν : z_S} (hm : mG t n q g ν) (h : qM as Q (W ++ pd) op base ν) (hl : Q.length + W.length + pd.length < 1680) (hb : brkV W base b) (hpd : ∀ p ∈ pd, p = 1 ∨ p = 2 ∨ p = 3 ∨ p = 4) (hV : topNo W) (hc : c = 43 ∨ c = 45) (hs : tkS t n q = nI c) : ∃ ν', RG N c1 E (f1 + 1) (f3 + 1) ν = RT N c1 E f1 N ν' ∧ zFr ν ν' ∧ mG t n (nxQ t n q) (nxG t n q g) ν' ∧ qM as (Q ++ pd.reverse) (W ++ [if c = 43 then 1 else 2]) op base ν' := by
  have c256 : c < 256 := by omega
  have ne : ∀ k, k < 256 → c ≠ k → ¬ tkS t n q = nI k := fun k hk hne z => hne ((nI_eq (by omega) (by omega)).mp (hs.symm.trans z))
  obtain ⟨ν1, r1, r2, r3, r4⟩ := g_on (c1 := c1) (E := E) (f1 := f1 + 1) (f3 := f3) hN hm h (by omega) hb (fun p hp => op_not (hpd p hp)) (fun z => ne 41 (by decide) (by omega) z.1)
  have hn := hm.1.1
  have ht := tkS_t hm.1.2.2.2.1 c256 hs
  have hq := (tkS_c (g := g) c256 hs).1
  have fr2 := yFr.set ν1 (j := 2) (nI (q + 1)) (by omega)
  have hm2 := m_step1 c256 r3 hs
  have hq2 := fr2.qM r4
  have key : ∃ ν', f_X12_qGoesOn_B225 N (z_setI ν1 253 2 (nI (q + 1))) = some (1, ν') ∧ jFr (z_setI ν1 253 2 (nI (q + 1))) ν' ∧ qM as (Q ++ pd.reverse) (W ++ [if c = 43 then 1 else 2]) op base ν' := by
    unfold f_X12_qGoesOn_B225
    have e2 : (z_setI ν1 253 2 (nI (q + 1))).1 253 2 - (1 : Int32) = nI q := by rw [sI_1, if_pos ⟨rfl, rfl⟩]; exact pk_sub (b := 1) (by omega)
    rw [e2, z_in_nI (show q < 1600 by omega) (by decide), nI_toNat (by omega), hm2.1.2.2.1 q, ht]
    have go : ∀ s : Int32, ∃ ν', f_X12_qGoesOn_B246 N s (z_setI ν1 253 2 (nI (q + 1))) = some (1, ν') ∧ jFr (z_setI ν1 253 2 (nI (q + 1))) ν' ∧ qM as (Q ++ pd.reverse) (W ++ [s]) op base ν' := fun s => by
      obtain ⟨ν3, s1, s2, s3⟩ := m_L247 N s (fun μ286 => z_in (μ286.1 253 97) 1700 <| z_bd (z_setI μ286 331 (μ286.1 253 97).toNatClampNeg s) fun μ_27 => z_bd (z_setI μ_27 253 97 ((μ_27.1 253 97) + (1 : Int32))) fun μ_28 => some ((1 : Int32), μ_28)) hV pd.length pd N Q _ rfl (by omega) (by omega) hpd hq2
      unfold f_X12_qGoesOn_B246
      rw [s1]
      show ∃ ν', z_in (ν3.1 253 97) 1700 (z_bd (z_setI ν3 331 (ν3.1 253 97).toNatClampNeg s) fun μ_32 => z_bd (z_setI μ_32 253 97 ((μ_32.1 253 97) + (1 : Int32))) fun μ_33 => some ((1 : Int32), μ_33)) = _ ∧ _
      rw [s3.2.2.1, z_in_nI (show W.length < 1700 by omega) (by decide), nI_toNat (by omega), z_bd_eq, z_bd_eq, show (z_setI ν3 331 W.length s).1 253 97 + (1 : Int32) = nI (W.length + 1) by rw [sI_1, if_neg (by omega), s3.2.2.1]; exact nI_1 _]
      obtain ⟨w1, w2⟩ := qM_push s3 s rfl
      exact ⟨_, rfl, s2.tr w2, w1⟩
    by_cases c43 : c = 43
    · rw [if_pos (show nI c = (43 : Int32) by rw [c43]; rfl), if_pos c43]
      exact go 1
    · rw [if_neg (show ¬ nI c = (43 : Int32) from fun z => c43 ((nI_eq (b := 43) (by omega) (by decide)).mp z)), if_neg c43]
      exact go 2
  obtain ⟨ν', k1, k2, k3⟩ := key
  have hm3 := k2.mG hm2
  refine ⟨ν', ?_, r2.z.tr (fr2.z.tr k2.z), hm3, k3⟩
  have s42 : f_X12_takesSign N (42 : Int32) ν1 = some (0, ν1) := by rcases m_signA N hN sg_42 r3 with y | y; exact absurd y.1 (ne 42 (by decide) (by omega)); exact y.2
  have s47 : f_X12_takesSign N (47 : Int32) ν1 = some (0, ν1) := by rcases m_signA N hN sg_47 r3 with y | y; exact absurd y.1 (ne 47 (by decide) (by omega)); exact y.2
  rw [r1, ← aGo_1 hm3.2.1]
  unfold f_X12_qGoesOn_B122
  rw [s42, z_bn_sm, if_pos rfl, s47, z_bn_sm, if_pos rfl]
  rcases m_signA N hN sg_43 r3 with ⟨y1, y2⟩ | ⟨y1, y2⟩
  · rw [show f_X12_takesSign N (43 : Int32) ν1 = _ from y2, z_bn_sm, if_neg (show ¬ (1 : Int32) = 0 by decide), k1, z_bn_sm]
  · have c45 : c = 45 := by rcases hc with z | z; exact absurd (z ▸ hs) y1; exact z
    rcases m_signA N hN sg_45 r3 with ⟨z1, z2⟩ | ⟨z1, z2⟩
    · rw [show f_X12_takesSign N (43 : Int32) ν1 = _ from y2, z_bn_sm, if_pos rfl, show f_X12_takesSign N (45 : Int32) ν1 = _ from z2, z_bn_sm, if_neg (show ¬ (1 : Int32) = 0 by decide), k1, z_bn_sm]
    · exact absurd (c45 ▸ hs) z1
