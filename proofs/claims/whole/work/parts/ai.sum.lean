/-! class and reference read a sum -/
def ProdOK (t : Nat → Nat) (n N : Nat) (as : Bool) (c1 : Int32) (E : z_S → Option (Unit × z_S)) (base D op K : Nat) : Prop := ∀ q g C Q W pa b μ ν f1 f2, brkV W base b → topNo W → (pa = [] ∨ pa = [1] ∨ pa = [2]) → preS t n as base op q g C Q (W ++ pa) μ ν f1 → 8 ≤ f2 + op → gRes t n N as c1 E base op K q C Q (W ++ pa) (fun p => p = 3 ∨ p = 4) (fun c => c = 42 ∨ c = 47) μ ν (r_X9 N D 4 (nI op) μ) (RT N c1 E f1 f2 ν)
def SumOK (t : Nat → Nat) (n N : Nat) (as : Bool) (c1 : Int32) (E : z_S → Option (Unit × z_S)) (base D op K : Nat) : Prop := ∀ q g C Q W b μ ν f1 f2, brkV W base b → topNo W → preS t n as base op q g C Q W μ ν f1 → 8 ≤ f2 + op → gRes t n N as c1 E base op K q C Q W (fun p => p = 1 ∨ p = 2 ∨ p = 3 ∨ p = 4) (fun c => c = 42 ∨ c = 47 ∨ c = 43 ∨ c = 45) μ ν (r_X9 N D 3 (nI op) μ) (RT N c1 E f1 f2 ν)
theorem sumQ_0 {N : Nat} {r0 r1 r2 r3 r4 r5 r6 : Int32 → z_S → Option (Int32 × z_S)} {a : Int32} {f : Nat} {v : Int32} {μ : z_S} : f_X9_sum_L8 N r0 r1 r2 r3 r4 r5 r6 a (f + 1) 0 v μ = some (0, μ) := by
  show b_X9_sum_L8 N r0 r1 r2 r3 r4 r5 r6 a _ 0 v μ = _
  unfold b_X9_sum_L8
  by_cases c : v < 1600
  · rw [if_pos c, if_pos rfl, z_zb_0]
  · rw [if_neg c, z_zb_0]
theorem sum_ok {t : Nat → Nat} {n N : Nat} (hN : 1700 ≤ N) {as : Bool} {c1 : Int32} {E : z_S → Option (Unit × z_S)} {base D op K : Nat} (hp : ProdOK t n N as c1 E base D op K) (hK : 1 ≤ K) : SumOK t n N as c1 E base (D + 1) op (K + 1) := by
  intro q g C Q W b μ ν f1 f2 hb hT hpre hf2
  obtain ⟨pc, pC, pf, pm, pq, pb, pl1, pl2, pf1, po⟩ := hpre
  have hn := pc.1.1
  have key : ∀ f i q1 g1 Dl D0 pd μ1 ν1 f1 f3, n - q1 < f → 2 * i ≤ q1 → vFr μ μ1 → zFr ν ν1 → cG t n q1 g1 μ1 → cC (C ++ Dl) μ1 → mG t n q1 g1 ν1 → qM as (Q ++ D0) (W ++ pd) op base ν1 → Dl.map cmap = D0 ++ pd.reverse → (∀ p ∈ pd, p = 1 ∨ p = 2 ∨ p = 3 ∨ p = 4) → ¬ tkS t n q1 = nI 42 → ¬ tkS t n q1 = nI 47 → q + Dl.length ≤ q1 → q < q1 → n + 2 ≤ f1 + q1 → op + 2 ≤ f3 → numC (K + 1) Dl → (∀ c ∈ Dl, okc as c) → gRes t n N as c1 E base op (K + 1) q C Q W (fun p => p = 1 ∨ p = 2 ∨ p = 3 ∨ p = 4) (fun c => c = 42 ∨ c = 47 ∨ c = 43 ∨ c = 45) μ ν (f_X9_sum_L8 N (r_X9 N D 0) (r_X9 N D 1) (r_X9 N D 2) (r_X9 N D 3) (r_X9 N D 4) (r_X9 N D 5) (r_X9 N D 6) (nI op) f 1 (nI i) μ1) (RG N c1 E f1 f3 ν1) := by
    intro f
    induction f with
    | zero => intro i q1 g1 Dl D0 pd μ1 ν1 f1 f3 h1; omega
    | succ f ih =>
      intro i q1 g1 Dl D0 pd μ1 ν1 f1 f3 h1 h2 fv fz hc hC hm hq hmap hpd h42 h47 hl1 hl2 hf1 hf3 hnum hok
      have hq1 := hc.2.2.2
      have lmap : Dl.length = D0.length + pd.length := by
        have := congrArg List.length hmap
        rw [List.length_map, List.length_append, List.length_reverse] at this
        exact this
      have n10 : ¬ (1 : Int32) = 0 := by decide
      have eS : f_X9_sum_L8 N (r_X9 N D 0) (r_X9 N D 1) (r_X9 N D 2) (r_X9 N D 3) (r_X9 N D 4) (r_X9 N D 5) (r_X9 N D 6) (nI op) (f + 1) 1 (nI i) μ1 = b_X9_sum_L8 N (r_X9 N D 0) (r_X9 N D 1) (r_X9 N D 2) (r_X9 N D 3) (r_X9 N D 4) (r_X9 N D 5) (r_X9 N D 6) (nI op) (f_X9_sum_L8 N (r_X9 N D 0) (r_X9 N D 1) (r_X9 N D 2) (r_X9 N D 3) (r_X9 N D 4) (r_X9 N D 5) (r_X9 N D 6) (nI op) f) 1 (nI i) μ1 := rfl
      rw [eS]
      unfold b_X9_sum_L8 f_X9_sum_B43
      rw [if_pos (show nI i < (1600 : Int32) from nI_lt (b := 1600) (by omega) (by decide)), if_neg n10, hc.2.1.2.2.2.1]
      have step : ∀ (s s' : Int32) (c : Nat), (c = 43 ∧ s = -11 ∧ s' = 1) ∨ (c = 45 ∧ s = -12 ∧ s' = 2) → tkS t n q1 = nI c → gRes t n N as c1 E base op (K + 1) q C Q W (fun p => p = 1 ∨ p = 2 ∨ p = 3 ∨ p = 4) (fun c => c = 42 ∨ c = 47 ∨ c = 43 ∨ c = 45) μ ν (f_X9_sum_B62 N (r_X9 N D 0) (r_X9 N D 1) (r_X9 N D 2) (r_X9 N D 3) (r_X9 N D 4) (r_X9 N D 5) (r_X9 N D 6) (nI op) (f_X9_sum_L8 N (r_X9 N D 0) (r_X9 N D 1) (r_X9 N D 2) (r_X9 N D 3) (r_X9 N D 4) (r_X9 N D 5) (r_X9 N D 6) (nI op) f) (nI i) s μ1) (RG N c1 E f1 f3 ν1) := by
        intro s s' c hcs hs
        have hc43 : c = 43 ∨ c = 45 := by rcases hcs with y | y; exact Or.inl y.1; exact Or.inr y.1
        have es' : (if c = 43 then (1 : Int32) else 2) = s' := by
          rcases hcs with ⟨y1, -, y2⟩ | ⟨y1, -, y2⟩
          · rw [if_pos y1, y2]
          · rw [if_neg (by omega), y2]
        have hos : opC s := by rcases hcs with ⟨-, y, -⟩ | ⟨-, y, -⟩; exact Or.inl y; exact Or.inr (Or.inl y)
        have ecm : cmap s = s' := by rcases hcs with ⟨-, y1, y2⟩ | ⟨-, y1, y2⟩ <;> rw [y1, y2] <;> decide
        have s12 : s' = 1 ∨ s' = 2 := by rcases hcs with ⟨-, -, y⟩ | ⟨-, -, y⟩; exact Or.inl y; exact Or.inr y
        have hqn := (tkS_c (g := g1) (by omega) hs).1
        have nb := nxQ_b (t := t) hq1
        obtain ⟨μ2, a1, a2, a3⟩ := c_next N hN hc
        obtain ⟨f1, rfl⟩ : ∃ k, f1 = k + 1 := ⟨f1 - 1, by omega⟩
        obtain ⟨f3, rfl⟩ : ∃ k, f3 = k + 1 := ⟨f3 - 1, by omega⟩
        have lQ : (Q ++ D0).length = Q.length + D0.length := List.length_append
        obtain ⟨ν2, b1, b2, b3, b4⟩ := g_add (c1 := c1) (E := E) (f1 := f1) (f3 := f3) hN hm hq (by rw [lQ]; omega) hb hpd hT hc43 hs
        rw [es'] at b4
        have lC : (C ++ Dl).length = C.length + Dl.length := List.length_append
        have lW2 : (W ++ [s']).length = W.length + 1 := snoc_len W s'
        have lQ2 : (Q ++ D0 ++ pd.reverse).length = Q.length + D0.length + pd.length := by rw [List.length_append, lQ, List.length_reverse]
        have r := hp (nxQ t n q1) (nxG t n q1 g1) (C ++ Dl) (Q ++ D0 ++ pd.reverse) W [s'] b μ2 ν2 f1 N hb hT (by rcases s12 with y | y <;> rw [y]; exact Or.inr (Or.inl rfl); exact Or.inr (Or.inr rfl)) ⟨a3, a2.cC hC, flag_v (fv.tr a2.v) pf, b3, b4, by omega, by omega, by omega, by omega, po⟩ (by omega)
        unfold f_X9_sum_B62
        rw [a1, z_bn_sm, b1]
        have ei : nI i + 1 = nI (i + 1) := nI_1 i
        rcases r with ⟨q2, g2, D2, D20, pd2, μ3, ν3, f1', f3', c1', c2, c3, c4, c5, c6, c7, c8, c9, c10, c11, c12, c13, c14, c15, c16, c17⟩ | ⟨ff, p, μ3, ν3, c1', c2, c3, c4, c5, c6, c7, c8, c9⟩
        · rw [c1', z_bn_sm, c2]
          have hq2 := c5.2.2.2
          have lC2 : (C ++ Dl ++ D2).length = C.length + Dl.length + D2.length := by rw [List.length_append, lC]
          obtain ⟨μ4, d1, d2, d3⟩ := c_addC N c6 (by omega) s
          rw [d1, z_bn_sm, z_bd_eq, ei]
          refine ih (i + 1) q2 g2 (Dl ++ (D2 ++ [s])) (D0 ++ pd.reverse ++ D20) ([s'] ++ pd2) μ4 ν3 f1' f3' (by omega) (by omega) (fv.tr (a2.v.tr (c3.tr d2.v))) (fz.tr (b2.tr c4)) (d2.cG c5) ?_ c7 ?_ ?_ (fun p hp => ?_) (c11 42 (Or.inl rfl)) (c11 47 (Or.inr rfl)) ?_ (by omega) c14 c15 ?_ ?_
          · rw [show C ++ (Dl ++ (D2 ++ [s])) = C ++ Dl ++ D2 ++ [s] by simp only [List.append_assoc]]
            exact d3
          · rw [show Q ++ (D0 ++ pd.reverse ++ D20) = Q ++ D0 ++ pd.reverse ++ D20 by simp only [List.append_assoc], show W ++ ([s'] ++ pd2) = W ++ [s'] ++ pd2 by simp only [List.append_assoc]]
            exact c8
          · rw [List.map_append, List.map_append, hmap, c9, List.map_cons, List.map_nil, ecm]
            simp only [List.append_assoc, List.reverse_cons, List.reverse_nil, List.nil_append, List.reverse_append]
          · rcases List.mem_append.mp hp with y | y
            · rw [List.mem_singleton.mp y]
              rcases s12 with z | z
              · exact Or.inl z
              · exact Or.inr (Or.inl z)
            · rcases c10 p y with z | z
              · exact Or.inr (Or.inr (Or.inl z))
              · exact Or.inr (Or.inr (Or.inr z))
          · rw [List.length_append, snoc_len]; omega
          · exact numC_op hnum c16 hos hK
          · intro x hx
            rcases List.mem_append.mp hx with y | y
            · exact hok x y
            · rcases List.mem_append.mp y with z | z
              · exact c17 x z
              · rw [List.mem_singleton.mp z]; exact okc_op hos
        · obtain ⟨μ4, d1, d2, d3⟩ := c_addL N c9.1 s
          obtain ⟨f, rfl⟩ : ∃ k, f = k + 1 := ⟨f - 1, by omega⟩
          rw [c1', z_bn_sm, d1, z_bn_sm, z_bd_eq, sumQ_0]
          exact Or.inr ⟨ff, p, μ4, ν3, rfl, c2, fv.tr (a2.v.tr (c3.tr d2.v)), fz.tr (b2.tr c4), d2.cB c5, c6, c7, c8, ⟨d3, c9.2⟩⟩
      by_cases y43 : tkS t n q1 = nI 43
      · rw [if_pos (show tkS t n q1 = (43 : Int32) from y43), if_pos (show tkS t n q1 = (43 : Int32) from y43)]
        exact step (-11) 1 43 (Or.inl ⟨rfl, rfl, rfl⟩) y43
      · rw [if_neg (show ¬ tkS t n q1 = (43 : Int32) from y43)]
        by_cases y45 : tkS t n q1 = nI 45
        · rw [if_pos (show tkS t n q1 = (45 : Int32) from y45), if_neg (show ¬ tkS t n q1 = (43 : Int32) from y43)]
          exact step (-12) 2 45 (Or.inr ⟨rfl, rfl, rfl⟩) y45
        · rw [if_neg (show ¬ tkS t n q1 = (45 : Int32) from y45), z_zb_1]
          exact Or.inl ⟨q1, g1, Dl, D0, pd, μ1, ν1, f1, f3, rfl, rfl, fv, fz, hc, hC, hm, hq, hmap, hpd, fun c hc => by rcases hc with z | z | z | z <;> rw [z]; exact h42; exact h47; exact y43; exact y45, hl1, hl2, hf1, hf3, hnum, hok⟩
  have eS : r_X9 N (D + 1) 3 (nI op) μ = z_bn (r_X9 N D 4 (nI op) μ) fun x1 μ_1 => f_X9_sum_L8 N (r_X9 N D 0) (r_X9 N D 1) (r_X9 N D 2) (r_X9 N D 3) (r_X9 N D 4) (r_X9 N D 5) (r_X9 N D 6) (nI op) N x1 (0 : Int32) μ_1 := rfl
  rw [eS]
  have r := hp q g C Q W [] b μ ν f1 f2 hb hT (Or.inl rfl) (by rw [List.append_nil]; exact ⟨pc, pC, pf, pm, pq, pb, pl1, pl2, pf1, po⟩) hf2
  rw [List.append_nil] at r
  rcases r with ⟨q2, g2, D2, D20, pd2, μ3, ν3, f1', f3', c1', c2, c3, c4, c5, c6, c7, c8, c9, c10, c11, c12, c13, c14, c15, c16, c17⟩ | ⟨ff, p, μ3, ν3, c1', c2, c3, c4, c5, c6, c7, c8, c9⟩
  · have hq2 := c5.2.2.2
    rw [c1', z_bn_sm, c2]
    exact key N 0 q2 g2 D2 D20 pd2 μ3 ν3 f1' f3' (by omega) (by omega) c3 c4 c5 c6 c7 c8 c9 (fun p hp => by rcases c10 p hp with z | z; exact Or.inr (Or.inr (Or.inl z)); exact Or.inr (Or.inr (Or.inr z))) (c11 42 (Or.inl rfl)) (c11 47 (Or.inr rfl)) c12 c13 c14 c15 (numC_mono (by omega) c16) c17
  · obtain ⟨N, rfl⟩ : ∃ M, N = M + 1 := ⟨N - 1, by omega⟩
    rw [c1', z_bn_sm, sumQ_0]
    exact Or.inr ⟨ff, p, μ3, ν3, rfl, c2, c3, c4, c5, c6, c7, c8, c9⟩
