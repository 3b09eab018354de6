/-! class and reference read a product -/
def bdR (E : z_S → Option (Unit × z_S)) (μ ν : z_S) (X : Option (Int32 × z_S)) (Y : Option (Unit × z_S)) : Prop := ∃ f p μ' ν', X = some (0, μ') ∧ Y = E ν' ∧ vFr μ μ' ∧ zFr ν ν' ∧ cB f p μ' ∧ mB f p ν' ∧ 1 ≤ f ∧ f ≤ 5 ∧ (cL μ' ∧ mL ν')
def pRes (t : Nat → Nat) (n N : Nat) (as : Bool) (c1 : Int32) (E : z_S → Option (Unit × z_S)) (base op K q : Nat) (C Q W : List Int32) (μ ν : z_S) (X : Option (Int32 × z_S)) (Y : Option (Unit × z_S)) : Prop := (∃ q' g' Dl μ' ν' f1 f3 f4, X = some (1, μ') ∧ Y = RP N c1 E f1 f3 f4 ν' ∧ vFr μ μ' ∧ zFr ν ν' ∧ cG t n q' g' μ' ∧ cC (C ++ Dl) μ' ∧ mG t n q' g' ν' ∧ qM as (Q ++ Dl.map cmap) W op base ν' ∧ q + Dl.length ≤ q' ∧ q < q' ∧ n + 2 ≤ f1 + q' ∧ op + 2 ≤ f3 ∧ op + 2 ≤ f4 ∧ numC K Dl ∧ ∀ c ∈ Dl, okc as c) ∨ bdR E μ ν X Y
def preS (t : Nat → Nat) (n : Nat) (as : Bool) (base op q : Nat) (g : Bool) (C Q W : List Int32) (μ ν : z_S) (f1 : Nat) : Prop := cG t n q g μ ∧ cC C μ ∧ μ.1 92 2 = (if as = true then 1 else 0) ∧ mG t n q g ν ∧ qM as Q W op base ν ∧ base ≤ W.length ∧ C.length ≤ q ∧ Q.length + W.length ≤ q ∧ n + 2 ≤ f1 + q ∧ op ≤ 6
def PartOK (t : Nat → Nat) (n N : Nat) (as : Bool) (c1 : Int32) (E : z_S → Option (Unit × z_S)) (base D op K : Nat) : Prop := ∀ q g C Q W μ ν f1 f2, preS t n as base op q g C Q W μ ν f1 → 8 ≤ f2 + op → pRes t n N as c1 E base op K q C Q W μ ν (r_X9 N D 5 (nI op) μ) (RT N c1 E f1 f2 ν)
def gRes (t : Nat → Nat) (n N : Nat) (as : Bool) (c1 : Int32) (E : z_S → Option (Unit × z_S)) (base op K q : Nat) (C Q W : List Int32) (S : Int32 → Prop) (F : Nat → Prop) (μ ν : z_S) (X : Option (Int32 × z_S)) (Y : Option (Unit × z_S)) : Prop := (∃ q' g' Dl D0 pd μ' ν' f1 f3, X = some (1, μ') ∧ Y = RG N c1 E f1 f3 ν' ∧ vFr μ μ' ∧ zFr ν ν' ∧ cG t n q' g' μ' ∧ cC (C ++ Dl) μ' ∧ mG t n q' g' ν' ∧ qM as (Q ++ D0) (W ++ pd) op base ν' ∧ Dl.map cmap = D0 ++ pd.reverse ∧ (∀ p ∈ pd, S p) ∧ (∀ c, F c → ¬ tkS t n q' = nI c) ∧ q + Dl.length ≤ q' ∧ q < q' ∧ n + 2 ≤ f1 + q' ∧ op + 2 ≤ f3 ∧ numC K Dl ∧ ∀ c ∈ Dl, okc as c) ∨ bdR E μ ν X Y
theorem flag_v {as : Bool} {μ μ' : z_S} (g : vFr μ μ') (h : μ.1 92 2 = if as = true then 1 else 0) : μ'.1 92 2 = if as = true then 1 else 0 := by rw [g.2 _ _ (by omega) (by omega) (by decide)]; exact h
theorem bdR.pre {E : z_S → Option (Unit × z_S)} {μ ν μ1 ν1 : z_S} {X : Option (Int32 × z_S)} {Y : Option (Unit × z_S)} (g : vFr μ μ1) (k : zFr ν ν1) (h : bdR E μ1 ν1 X Y) : bdR E μ ν X Y := by
  obtain ⟨f, p, μ', ν', h1, h2, h3, h4, h5⟩ := h
  exact ⟨f, p, μ', ν', h1, h2, g.tr h3, k.tr h4, h5⟩
theorem brkV_60 {W : List Int32} {base : Nat} {b : Int32} (h : brkV W base b) : W.length = base ∨ ∃ V x, W = V ++ [x] ∧ x < 60 := by
  rcases h with ⟨y, -⟩ | ⟨V, y, hb, -⟩
  · exact Or.inl y
  · refine Or.inr ⟨V, b, y, ?_⟩
    have := hb.2
    rw [Int32.lt_iff_toInt_lt] at this ⊢
    have e1 : (24 : Int32).toInt = 24 := rfl
    have e2 : (60 : Int32).toInt = 60 := rfl
    rw [e1] at this
    rw [e2]
    omega
theorem brkV_le {W : List Int32} {base : Nat} {b : Int32} (h : brkV W base b) : base ≤ W.length := by
  rcases h with ⟨y, -⟩ | ⟨V, y, -, hv⟩
  · omega
  · rw [y, snoc_len]; omega
theorem RP_G {t : Nat → Nat} {n q : Nat} {g as : Bool} {Q W : List Int32} {op base N : Nat} {c1 : Int32} {E : z_S → Option (Unit × z_S)} {f1 f3 f4 : Nat} {ν : z_S} (hm : mG t n q g ν) (h : qM as Q W op base ν) (hl : W.length < 1690) (ht : W.length = base ∨ ∃ V x, W = V ++ [x] ∧ x < 60) (hb : base ≤ W.length) : RP N c1 E f1 f3 (f4 + 1) ν = RG N c1 E f1 f3 ν := by
  unfold RP
  rw [m_ends0 N f4 h hl hm.2.1 ht hb, z_bn_sm]
theorem prodL_0 {N : Nat} {r0 r1 r2 r3 r4 r5 r6 : Int32 → z_S → Option (Int32 × z_S)} {a : Int32} {f : Nat} {v : Int32} {μ : z_S} : f_X9_product_L8 N r0 r1 r2 r3 r4 r5 r6 a (f + 1) 0 v μ = some (0, μ) := by
  show b_X9_product_L8 N r0 r1 r2 r3 r4 r5 r6 a _ 0 v μ = _
  unfold b_X9_product_L8
  by_cases c : v < 1600
  · rw [if_pos c, if_pos rfl, z_zb_0]
  · rw [if_neg c, z_zb_0]
theorem prod_ok {t : Nat → Nat} {n N : Nat} (hN : 1700 ≤ N) {as : Bool} {c1 : Int32} {E : z_S → Option (Unit × z_S)} {base D op K : Nat} (hp : PartOK t n N as c1 E base D op K) (hK : 1 ≤ K) : ∀ q g C Q W pa b μ ν f1 f2, brkV W base b → topNo W → (pa = [] ∨ pa = [1] ∨ pa = [2]) → preS t n as base op q g C Q (W ++ pa) μ ν f1 → 8 ≤ f2 + op → gRes t n N as c1 E base op (K + 1) q C Q (W ++ pa) (fun p => p = 3 ∨ p = 4) (fun c => c = 42 ∨ c = 47) μ ν (r_X9 N (D + 1) 4 (nI op) μ) (RT N c1 E f1 f2 ν) := by
  intro q g C Q W pa b μ ν f1 f2 hb hT hpa hpre hf2
  have hpa1 : ∀ p ∈ pa, p = 1 ∨ p = 2 := by rcases hpa with rfl | rfl | rfl <;> simp
  have hpl : pa.length ≤ 1 := by rcases hpa with rfl | rfl | rfl <;> decide
  have h34 : top34 (W ++ pa) := by
    rcases hpa with rfl | rfl | rfl
    · rw [List.append_nil]
      rcases hT with y | ⟨V, x, y, hx⟩
      · exact Or.inl y
      · exact Or.inr ⟨V, x, y, fun z => hx (by rcases z with z | z; exact Or.inr (Or.inr (Or.inl z)); exact Or.inr (Or.inr (Or.inr z)))⟩
    · exact Or.inr ⟨W, 1, rfl, by decide⟩
    · exact Or.inr ⟨W, 2, rfl, by decide⟩
  have h60 : (W ++ pa).length = base ∨ ∃ V x, W ++ pa = V ++ [x] ∧ x < 60 := by
    rcases hpa with rfl | rfl | rfl
    · rw [List.append_nil]; exact brkV_60 hb
    · exact Or.inr ⟨W, 1, rfl, by decide⟩
    · exact Or.inr ⟨W, 2, rfl, by decide⟩
  have lWp : (W ++ pa).length = W.length + pa.length := List.length_append
  obtain ⟨pc, pC, pf, pm, pq, pb, pl1, pl2, pf1, po⟩ := hpre
  have hn := pc.1.1
  have key : ∀ f i q1 g1 Dl D0 ms μ1 ν1 f1 f3, n - q1 < f → 2 * i ≤ q1 → vFr μ μ1 → zFr ν ν1 → cG t n q1 g1 μ1 → cC (C ++ Dl) μ1 → mG t n q1 g1 ν1 → qM as (Q ++ D0) (W ++ pa ++ ms) op base ν1 → Dl.map cmap = D0 ++ ms.reverse → (∀ p ∈ ms, p = 3 ∨ p = 4) → q + Dl.length ≤ q1 → q < q1 → n + 2 ≤ f1 + q1 → op + 2 ≤ f3 → numC (K + 1) Dl → (∀ c ∈ Dl, okc as c) → gRes t n N as c1 E base op (K + 1) q C Q (W ++ pa) (fun p => p = 3 ∨ p = 4) (fun c => c = 42 ∨ c = 47) μ ν (f_X9_product_L8 N (r_X9 N D 0) (r_X9 N D 1) (r_X9 N D 2) (r_X9 N D 3) (r_X9 N D 4) (r_X9 N D 5) (r_X9 N D 6) (nI op) f 1 (nI i) μ1) (RG N c1 E f1 f3 ν1) := by
    intro f
    induction f with
    | zero => intro i q1 g1 Dl D0 ms μ1 ν1 f1 f3 h1; omega
    | succ f ih =>
      intro i q1 g1 Dl D0 ms μ1 ν1 f1 f3 h1 h2 fv fz hc hC hm hq hmap hms hl1 hl2 hf1 hf3 hnum hok
      have hq1 := hc.2.2.2
      have lmap : Dl.length = D0.length + ms.length := by
        have := congrArg List.length hmap
        rw [List.length_map, List.length_append, List.length_reverse] at this
        exact this
      have n10 : ¬ (1 : Int32) = 0 := by decide
      have eS : f_X9_product_L8 N (r_X9 N D 0) (r_X9 N D 1) (r_X9 N D 2) (r_X9 N D 3) (r_X9 N D 4) (r_X9 N D 5) (r_X9 N D 6) (nI op) (f + 1) 1 (nI i) μ1 = b_X9_product_L8 N (r_X9 N D 0) (r_X9 N D 1) (r_X9 N D 2) (r_X9 N D 3) (r_X9 N D 4) (r_X9 N D 5) (r_X9 N D 6) (nI op) (f_X9_product_L8 N (r_X9 N D 0) (r_X9 N D 1) (r_X9 N D 2) (r_X9 N D 3) (r_X9 N D 4) (r_X9 N D 5) (r_X9 N D 6) (nI op) f) 1 (nI i) μ1 := rfl
      rw [eS]
      unfold b_X9_product_L8 f_X9_product_B43
      rw [if_pos (show nI i < (1600 : Int32) from nI_lt (b := 1600) (by omega) (by decide)), if_neg n10, hc.2.1.2.2.2.1]
      have step : ∀ (s s' : Int32) (c : Nat), (c = 42 ∧ s = -13 ∧ s' = 3) ∨ (c = 47 ∧ s = -14 ∧ s' = 4) → tkS t n q1 = nI c → gRes t n N as c1 E base op (K + 1) q C Q (W ++ pa) (fun p => p = 3 ∨ p = 4) (fun c => c = 42 ∨ c = 47) μ ν (f_X9_product_B62 N (r_X9 N D 0) (r_X9 N D 1) (r_X9 N D 2) (r_X9 N D 3) (r_X9 N D 4) (r_X9 N D 5) (r_X9 N D 6) (nI op) (f_X9_product_L8 N (r_X9 N D 0) (r_X9 N D 1) (r_X9 N D 2) (r_X9 N D 3) (r_X9 N D 4) (r_X9 N D 5) (r_X9 N D 6) (nI op) f) (nI i) s μ1) (RG N c1 E f1 f3 ν1) := by
        intro s s' c hcs hs
        have hc42 : c = 42 ∨ c = 47 := by rcases hcs with y | y; exact Or.inl y.1; exact Or.inr y.1
        have es' : (if c = 42 then (3 : Int32) else 4) = s' := by
          rcases hcs with ⟨y1, -, y2⟩ | ⟨y1, -, y2⟩
          · rw [if_pos y1, y2]
          · rw [if_neg (by omega), y2]
        have hos : opC s := by rcases hcs with ⟨-, y, -⟩ | ⟨-, y, -⟩; exact Or.inr (Or.inr (Or.inl y)); exact Or.inr (Or.inr (Or.inr (Or.inl y)))
        have ecm : cmap s = s' := by rcases hcs with ⟨-, y1, y2⟩ | ⟨-, y1, y2⟩ <;> rw [y1, y2] <;> decide
        have s34 : s' = 3 ∨ s' = 4 := by rcases hcs with ⟨-, -, y⟩ | ⟨-, -, y⟩; exact Or.inl y; exact Or.inr y
        have hqn := (tkS_c (g := g1) (by omega) hs).1
        have nb := nxQ_b (t := t) hq1
        obtain ⟨μ2, a1, a2, a3⟩ := c_next N hN hc
        obtain ⟨f1, rfl⟩ : ∃ k, f1 = k + 1 := ⟨f1 - 1, by omega⟩
        obtain ⟨f3, rfl⟩ : ∃ k, f3 = k + 1 := ⟨f3 - 1, by omega⟩
        have lQ : (Q ++ D0).length = Q.length + D0.length := List.length_append
        obtain ⟨ν2, b1, b2, b3, b4⟩ := g_mul (c1 := c1) (E := E) (f1 := f1) (f3 := f3) hN hm hq (by rw [lQ]; omega) hb hpa1 hms h34 hc42 hs
        rw [es'] at b4
        have lC : (C ++ Dl).length = C.length + Dl.length := List.length_append
        have lW2 : (W ++ pa ++ [s']).length = W.length + pa.length + 1 := by rw [snoc_len, lWp]
        have lQ2 : (Q ++ D0 ++ ms.reverse).length = Q.length + D0.length + ms.length := by rw [List.length_append, lQ, List.length_reverse]
        have r := hp (nxQ t n q1) (nxG t n q1 g1) (C ++ Dl) (Q ++ D0 ++ ms.reverse) (W ++ pa ++ [s']) μ2 ν2 f1 N ⟨a3, a2.cC hC, flag_v (fv.tr a2.v) pf, b3, b4, by omega, by omega, by omega, by omega, po⟩ (by omega)
        unfold f_X9_product_B62
        rw [a1, z_bn_sm, b1]
        have ei : nI i + 1 = nI (i + 1) := nI_1 i
        rcases r with ⟨q2, g2, D2, μ3, ν3, f1', f3', f4', c1', c2, c3, c4, c5, c6, c7, c8, c9, c10, c11, c12, c13, c14, c15⟩ | ⟨ff, p, μ3, ν3, c1', c2, c3, c4, c5, c6, c7, c8, c9⟩
        · rw [c1', z_bn_sm, c2]
          have hq2 := c5.2.2.2
          have lC2 : (C ++ Dl ++ D2).length = C.length + Dl.length + D2.length := by rw [List.length_append, lC]
          obtain ⟨μ4, d1, d2, d3⟩ := c_addC N c6 (by omega) s
          obtain ⟨f4', rfl⟩ : ∃ k, f4' = k + 1 := ⟨f4' - 1, by omega⟩
          rw [d1, z_bn_sm, z_bd_eq, ei, RP_G c7 c8 (by omega) (Or.inr ⟨W ++ pa, s', rfl, by rcases s34 with y | y <;> rw [y] <;> decide⟩) (by omega)]
          refine ih (i + 1) q2 g2 (Dl ++ (D2 ++ [s])) (D0 ++ ms.reverse ++ D2.map cmap) [s'] μ4 ν3 f1' f3' (by omega) (by omega) (fv.tr (a2.v.tr (c3.tr d2.v))) (fz.tr (b2.tr c4)) (d2.cG c5) ?_ c7 ?_ ?_ (fun p hp => by rw [List.mem_singleton.mp hp]; exact s34) ?_ (by omega) c11 c12 ?_ ?_
          · rw [show C ++ (Dl ++ (D2 ++ [s])) = C ++ Dl ++ D2 ++ [s] by simp only [List.append_assoc]]
            exact d3
          · rw [show Q ++ (D0 ++ ms.reverse ++ D2.map cmap) = Q ++ D0 ++ ms.reverse ++ D2.map cmap by simp only [List.append_assoc]]
            exact c8
          · rw [List.map_append, List.map_append, hmap, List.map_cons, List.map_nil, ecm]
            simp only [List.append_assoc, List.reverse_cons, List.reverse_nil, List.nil_append]
          · rw [List.length_append, snoc_len]; omega
          · exact numC_op hnum c14 hos hK
          · intro x hx
            rcases List.mem_append.mp hx with y | y
            · exact hok x y
            · rcases List.mem_append.mp y with z | z
              · exact c15 x z
              · rw [List.mem_singleton.mp z]; exact okc_op hos
        · obtain ⟨μ4, d1, d2, d3⟩ := c_addL N c9.1 s
          obtain ⟨f, rfl⟩ : ∃ k, f = k + 1 := ⟨f - 1, by omega⟩
          rw [c1', z_bn_sm, d1, z_bn_sm, z_bd_eq, prodL_0]
          exact Or.inr ⟨ff, p, μ4, ν3, rfl, c2, fv.tr (a2.v.tr (c3.tr d2.v)), fz.tr (b2.tr c4), d2.cB c5, c6, c7, c8, ⟨d3, c9.2⟩⟩
      by_cases y42 : tkS t n q1 = nI 42
      · rw [if_pos (show tkS t n q1 = (42 : Int32) from y42), if_pos (show tkS t n q1 = (42 : Int32) from y42)]
        exact step (-13) 3 42 (Or.inl ⟨rfl, rfl, rfl⟩) y42
      · rw [if_neg (show ¬ tkS t n q1 = (42 : Int32) from y42)]
        by_cases y47 : tkS t n q1 = nI 47
        · rw [if_pos (show tkS t n q1 = (47 : Int32) from y47), if_neg (show ¬ tkS t n q1 = (42 : Int32) from y42)]
          exact step (-14) 4 47 (Or.inr ⟨rfl, rfl, rfl⟩) y47
        · rw [if_neg (show ¬ tkS t n q1 = (47 : Int32) from y47), z_zb_1]
          exact Or.inl ⟨q1, g1, Dl, D0, ms, μ1, ν1, f1, f3, rfl, rfl, fv, fz, hc, hC, hm, hq, hmap, hms, fun c hc => by rcases hc with z | z <;> rw [z]; exact y42; exact y47, hl1, hl2, hf1, hf3, hnum, hok⟩
  have eS : r_X9 N (D + 1) 4 (nI op) μ = z_bn (r_X9 N D 5 (nI op) μ) fun x1 μ_1 => f_X9_product_L8 N (r_X9 N D 0) (r_X9 N D 1) (r_X9 N D 2) (r_X9 N D 3) (r_X9 N D 4) (r_X9 N D 5) (r_X9 N D 6) (nI op) N x1 (0 : Int32) μ_1 := rfl
  rw [eS]
  rcases hp q g C Q (W ++ pa) μ ν f1 f2 ⟨pc, pC, pf, pm, pq, pb, pl1, pl2, pf1, po⟩ hf2 with ⟨q2, g2, D2, μ3, ν3, f1', f3', f4', c1', c2, c3, c4, c5, c6, c7, c8, c9, c10, c11, c12, c13, c14, c15⟩ | ⟨ff, p, μ3, ν3, c1', c2, c3, c4, c5, c6, c7, c8, c9⟩
  · obtain ⟨f4', rfl⟩ : ∃ k, f4' = k + 1 := ⟨f4' - 1, by omega⟩
    have hq2 := c5.2.2.2
    have hq0 := pc.2.2.2
    rw [c1', z_bn_sm, c2, RP_G c7 c8 (by omega) h60 pb]
    exact key N 0 q2 g2 D2 (D2.map cmap) [] μ3 ν3 f1' f3' (by omega) (by omega) c3 c4 c5 c6 c7 (by rw [List.append_nil]; exact c8) (by rw [List.reverse_nil, List.append_nil]) (fun p hp => by cases hp) c9 c10 c11 c12 (numC_mono (by omega) c14) c15
  · obtain ⟨N, rfl⟩ : ∃ M, N = M + 1 := ⟨N - 1, by omega⟩
    rw [c1', z_bn_sm, prodL_0]
    exact Or.inr ⟨ff, p, μ3, ν3, rfl, c2, c3, c4, c5, c6, c7, c8, c9⟩
