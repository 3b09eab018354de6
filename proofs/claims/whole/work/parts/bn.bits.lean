/-! codes of tests: one bit; alike -/
def crL : List Int32 → List Int32 → Prop
  | [], [] => True
  | c :: r, m :: s => crel c m ∧ crL r s
  | _, _ => False
theorem crL_len : ∀ {a b : List Int32}, crL a b → a.length = b.length
  | [], [], _ => rfl
  | c :: r, m :: s, h => by rw [List.length_cons, List.length_cons, crL_len h.2]
  | [], m :: s, h => absurd h id
  | c :: r, [], h => absurd h id
theorem crL_app : ∀ {a b c d : List Int32}, crL a b → crL c d → crL (a ++ c) (b ++ d)
  | [], [], _, _, _, h => h
  | x :: r, m :: s, _, _, h, g => ⟨h.1, crL_app h.2 g⟩
  | [], m :: s, _, _, h, _ => absurd h id
  | c :: r, [], _, _, h, _ => absurd h id
theorem crL_map : ∀ (a : List Int32), crL a (a.map cmap)
  | [] => True.intro
  | c :: r => ⟨Or.inl rfl, crL_map r⟩
theorem crL_one {c m : Int32} (h : crel c m) : crL [c] [m] := ⟨h, True.intro⟩
def bitC (K : Nat) (cs : List Int32) : Prop := ∀ (V : Nat → Int) (Wf : Int → Int) (st : List Int), st.length + K ≤ 64 → ∃ v, runV V Wf st cs = some (v :: st) ∧ (v = 0 ∨ v = 1)
theorem bitC_mono {K K' : Nat} (h : K ≤ K') {cs : List Int32} (hc : bitC K cs) : bitC K' cs := fun V Wf st hs => hc V Wf st (by omega)
theorem bit_all : bitC 1 [1] := fun V Wf st hs => ⟨1, runV_one (by unfold stepV; rw [if_pos (by decide)]; rfl) (by rw [List.length_cons]; omega), Or.inr rfl⟩
theorem bit_not {K : Nat} {cs : List Int32} (h : bitC K cs) (hK : 1 ≤ K) : bitC K (cs ++ [-22]) := fun V Wf st hs => by
  obtain ⟨v, hv, hb⟩ := h V Wf st hs
  refine ⟨1 - v, ?_, by omega⟩
  rw [runV_app, hv]
  exact runV_one (by unfold stepV; rw [if_neg (by decide), if_neg (by decide), if_neg (by decide)]; show (if (-22 : Int32) = -22 then (if v = 0 ∨ v = 1 then some ((1 - v) :: st) else none) else some (Wf v :: st)) = _; rw [if_pos rfl, if_pos hb]) (by rw [List.length_cons]; omega)
theorem bit_join {K : Nat} {a b : List Int32} {c : Int32} {P R : Int → Prop} (ha : ∀ (V : Nat → Int) (Wf : Int → Int) (st : List Int), st.length + (K + 1) ≤ 64 → ∃ v, runV V Wf st a = some (v :: st) ∧ P v) (hb : ∀ (V : Nat → Int) (Wf : Int → Int) (st : List Int), st.length + K ≤ 64 → ∃ v, runV V Wf st b = some (v :: st) ∧ P v) (hj : ∀ x y, P x → P y → ∃ z, joinV c x y = some z ∧ R z) (n1 : ¬ 0 ≤ c) (n2 : ¬ -10 ≤ c) (n3 : -22 < c) (hK : 1 ≤ K) : ∀ (V : Nat → Int) (Wf : Int → Int) (st : List Int), st.length + (K + 1) ≤ 64 → ∃ v, runV V Wf st (a ++ (b ++ [c])) = some (v :: st) ∧ R v := fun V Wf st hs => by
  obtain ⟨x, hx, px⟩ := ha V Wf st hs
  obtain ⟨y, hy, py⟩ := hb V Wf (x :: st) (by rw [List.length_cons]; omega)
  obtain ⟨v, hv, rv⟩ := hj x y px py
  refine ⟨v, ?_, rv⟩
  rw [runV_app, hx]
  show runV V Wf (x :: st) (b ++ [c]) = _
  rw [runV_app, hy]
  refine runV_one ?_ (by rw [List.length_cons]; omega)
  unfold stepV
  rw [if_neg n1, if_neg n2, if_pos n3]
  show (match joinV c x y with
      | some v => some (v :: st)
      | none => none) = _
  rw [hv]
def cmpC (c : Int32) : Prop := c = -17 ∨ c = -18 ∨ c = -19
theorem bit_cmp {K : Nat} {a b : List Int32} {c : Int32} (ha : numC K a) (hb : numC K b) (hc : cmpC c) (hK : 1 ≤ K) : bitC (K + 1) (a ++ (b ++ [c])) := by
  have n1 : ¬ 0 ≤ c := by rcases hc with rfl | rfl | rfl <;> decide
  have n2 : ¬ -10 ≤ c := by rcases hc with rfl | rfl | rfl <;> decide
  have n3 : -22 < c := by rcases hc with rfl | rfl | rfl <;> decide
  refine bit_join (P := fun _ => True) (fun V Wf st hs => ?_) (fun V Wf st hs => ?_) (fun x y _ _ => ?_) n1 n2 n3 hK
  · obtain ⟨v, hv⟩ := ha V Wf st (by omega)
    exact ⟨v, hv, True.intro⟩
  · obtain ⟨v, hv⟩ := hb V Wf st (by omega)
    exact ⟨v, hv, True.intro⟩
  · unfold joinV
    rcases hc with rfl | rfl | rfl
    · refine ⟨if x < y then 1 else 0, by rw [if_neg (by decide), if_neg (by decide), if_neg (by decide), if_neg (by decide), if_neg (by decide), if_neg (by decide), if_pos rfl], ?_⟩
      split
      · exact Or.inr rfl
      · exact Or.inl rfl
    · refine ⟨if y < x then 1 else 0, by rw [if_neg (by decide), if_neg (by decide), if_neg (by decide), if_neg (by decide), if_neg (by decide), if_neg (by decide), if_neg (by decide), if_pos rfl], ?_⟩
      split
      · exact Or.inr rfl
      · exact Or.inl rfl
    · refine ⟨if x = y then 1 else 0, by rw [if_neg (by decide), if_neg (by decide), if_neg (by decide), if_neg (by decide), if_neg (by decide), if_neg (by decide), if_neg (by decide), if_neg (by decide), if_pos rfl], ?_⟩
      split
      · exact Or.inr rfl
      · exact Or.inl rfl
theorem bit_op {K : Nat} {a b : List Int32} {c : Int32} (ha : bitC (K + 1) a) (hb : bitC K b) (hc : c = -20 ∨ c = -21) (hK : 1 ≤ K) : bitC (K + 1) (a ++ (b ++ [c])) := by
  have n1 : ¬ 0 ≤ c := by rcases hc with rfl | rfl <;> decide
  have n2 : ¬ -10 ≤ c := by rcases hc with rfl | rfl <;> decide
  have n3 : -22 < c := by rcases hc with rfl | rfl <;> decide
  refine bit_join (P := fun v => v = 0 ∨ v = 1) ha hb (fun x y hx hy => ?_) n1 n2 n3 hK
  unfold joinV
  rcases hc with rfl | rfl
  · refine ⟨x * y, by rw [if_neg (by decide), if_neg (by decide), if_neg (by decide), if_neg (by decide), if_neg (by decide), if_neg (by decide), if_neg (by decide), if_neg (by decide), if_neg (by decide), if_pos rfl, if_pos ⟨hx, hy⟩], ?_⟩
    rcases hx with rfl | rfl
    · exact Or.inl (Int.zero_mul y)
    · rw [Int.one_mul]; exact hy
  · refine ⟨if 0 < x + y then 1 else 0, by rw [if_neg (by decide), if_neg (by decide), if_neg (by decide), if_neg (by decide), if_neg (by decide), if_neg (by decide), if_neg (by decide), if_neg (by decide), if_neg (by decide), if_neg (by decide), if_pos rfl, if_pos ⟨hx, hy⟩], ?_⟩
    split
    · exact Or.inr rfl
    · exact Or.inl rfl
/-! both, test -/
def bdT (E : z_S → Option (Unit × z_S)) (μ ν : z_S) (X : Option (Int32 × z_S)) (Y : Option (Unit × z_S)) : Prop := ∃ f p μ' ν', X = some (0, μ') ∧ Y = E ν' ∧ vFr μ μ' ∧ zFr ν ν' ∧ cB f p μ' ∧ mB f p ν' ∧ 1 ≤ f ∧ f ≤ 5 ∧ cL μ'
def fRes (t : Nat → Nat) (n N : Nat) (E : z_S → Option (Unit × z_S)) (op K q : Nat) (C Q W : List Int32) (μ ν : z_S) (X : Option (Int32 × z_S)) (Y : Option (Unit × z_S)) : Prop := (∃ q' g' Dl Dm μ' ν' f1 f3 f4, X = some (1, μ') ∧ Y = tsP N E f1 f3 f4 ν' ∧ vFr μ μ' ∧ zFr ν ν' ∧ cG t n q' g' μ' ∧ cC (C ++ Dl) μ' ∧ mG t n q' g' ν' ∧ qM true (Q ++ Dm) W op 0 ν' ∧ crL Dl Dm ∧ q + Dl.length ≤ q' ∧ q < q' ∧ n + 2 ≤ f1 + q' ∧ op + 2 ≤ f3 ∧ op + 2 ≤ f4 ∧ bitC K Dl ∧ ∀ c ∈ Dl, okc true c) ∨ bdT E μ ν X Y
def preT (t : Nat → Nat) (n op q : Nat) (g : Bool) (C Q W : List Int32) (μ ν : z_S) (f1 : Nat) : Prop := cG t n q g μ ∧ cC C μ ∧ μ.1 92 2 = 1 ∧ mG t n q g ν ∧ qM true Q W op 0 ν ∧ C.length ≤ q ∧ Q.length + W.length ≤ q ∧ n + 2 ≤ f1 + q ∧ op ≤ 6
def FactOK (t : Nat → Nat) (n N : Nat) (E : z_S → Option (Unit × z_S)) (D op K : Nat) : Prop := ∀ q g C Q W μ ν f1, topNo W → preT t n op q g C Q W μ ν f1 → fRes t n N E op K q C Q W μ ν (r_X9 N D 2 (nI op) μ) (tsT N E f1 ν)
def tgRes (t : Nat → Nat) (n N : Nat) (E : z_S → Option (Unit × z_S)) (op K q : Nat) (C Q W : List Int32) (S : Int32 → Prop) (F : Nat → Prop) (μ ν : z_S) (X : Option (Int32 × z_S)) (Y : Option (Unit × z_S)) : Prop := (∃ q' g' Dl D0 pd μ' ν' f1 f3, X = some (1, μ') ∧ Y = tsG N E f1 f3 ν' ∧ vFr μ μ' ∧ zFr ν ν' ∧ cG t n q' g' μ' ∧ cC (C ++ Dl) μ' ∧ mG t n q' g' ν' ∧ qM true (Q ++ D0) (W ++ pd) op 0 ν' ∧ crL Dl (D0 ++ pd.reverse) ∧ (∀ p ∈ pd, S p) ∧ (∀ c, F c → ¬ tkW t n q' g' = nI c) ∧ q + Dl.length ≤ q' ∧ q < q' ∧ n + 2 ≤ f1 + q' ∧ op + 2 ≤ f3 ∧ bitC K Dl ∧ ∀ c ∈ Dl, okc true c) ∨ bdT E μ ν X Y
def BothOK (t : Nat → Nat) (n N : Nat) (E : z_S → Option (Unit × z_S)) (D op K : Nat) : Prop := ∀ q g C Q W pa μ ν f1, topNe 12 W → topNe 10 W → topNo W → (pa = [] ∨ pa = [11]) → preT t n op q g C Q (W ++ pa) μ ν f1 → tgRes t n N E op K q C Q (W ++ pa) (fun p => p = 10) (fun k => k = 23) μ ν (r_X9 N D 1 (nI op) μ) (tsT N E f1 ν)
def TestOK (t : Nat → Nat) (n N : Nat) (E : z_S → Option (Unit × z_S)) (D op K : Nat) : Prop := ∀ q g C Q W μ ν f1, topNe 12 W → topNe 10 W → topNe 11 W → topNo W → preT t n op q g C Q W μ ν f1 → tgRes t n N E op K q C Q W (fun p => p = 10 ∨ p = 11) (fun k => k = 22 ∨ k = 23) μ ν (r_X9 N D 0 (nI op) μ) (tsT N E f1 ν)
theorem bothL_0 {N : Nat} {r0 r1 r2 r3 r4 r5 r6 : Int32 → z_S → Option (Int32 × z_S)} {a : Int32} {f : Nat} {v : Int32} {μ : z_S} : f_X9_both_L8 N r0 r1 r2 r3 r4 r5 r6 a (f + 1) 0 v μ = some (0, μ) := by
  show b_X9_both_L8 N r0 r1 r2 r3 r4 r5 r6 a _ 0 v μ = _
  unfold b_X9_both_L8
  by_cases c : v < 1600
  · rw [if_pos c, if_pos rfl, z_zb_0]
  · rw [if_neg c, z_zb_0]
theorem testL_0 {N : Nat} {r0 r1 r2 r3 r4 r5 r6 : Int32 → z_S → Option (Int32 × z_S)} {a : Int32} {f : Nat} {v : Int32} {μ : z_S} : f_X9_test_L8 N r0 r1 r2 r3 r4 r5 r6 a (f + 1) 0 v μ = some (0, μ) := by
  show b_X9_test_L8 N r0 r1 r2 r3 r4 r5 r6 a _ 0 v μ = _
  unfold b_X9_test_L8
  by_cases c : v < 1600
  · rw [if_pos c, if_pos rfl, z_zb_0]
  · rw [if_neg c, z_zb_0]
theorem okc_b {c : Int32} (h : c = -17 ∨ c = -18 ∨ c = -19 ∨ c = -20 ∨ c = -21 ∨ c = -22) : okc true c := by
  rcases h with rfl | rfl | rfl | rfl | rfl | rfl <;> exact ⟨by decide, by decide, fun z => (by cases z), fun _ => by decide⟩
theorem topNe_snoc {x y : Int32} (V : List Int32) (h : ¬ y = x) : topNe x (V ++ [y]) := Or.inr ⟨V, y, rfl, h⟩
theorem topNo_sn {y : Int32} (V : List Int32) (h : ¬ (y = 1 ∨ y = 2 ∨ y = 3 ∨ y = 4)) : topNo (V ++ [y]) := Or.inr ⟨V, y, rfl, h⟩
theorem flag_1 {μ μ' : z_S} (g : vFr μ μ') (h : μ.1 92 2 = 1) : μ'.1 92 2 = 1 := by rw [g.2 _ _ (by omega) (by omega) (by decide)]; exact h
theorem both_ok {t : Nat → Nat} {n N : Nat} (hN : 1700 ≤ N) {E : z_S → Option (Unit × z_S)} {D op K : Nat} (hp : FactOK t n N E D op K) (hK : 1 ≤ K) : BothOK t n N E (D + 1) op (K + 1) := by
  intro q g C Q W pa μ ν f1 h12 h10 hT hpa hpre
  have hpl : pa.length ≤ 1 := by rcases hpa with rfl | rfl <;> decide
  have p12 : topNe 12 (W ++ pa) := by
    rcases hpa with rfl | rfl
    · rw [List.append_nil]; exact h12
    · exact topNe_snoc W (by decide)
  have p10 : topNe 10 (W ++ pa) := by
    rcases hpa with rfl | rfl
    · rw [List.append_nil]; exact h10
    · exact topNe_snoc W (by decide)
  have pNo : topNo (W ++ pa) := by
    rcases hpa with rfl | rfl
    · rw [List.append_nil]; exact hT
    · exact topNo_sn W (by decide)
  have lWp : (W ++ pa).length = W.length + pa.length := List.length_append
  obtain ⟨pc, pC, pf, pm, pq, pl1, pl2, pf1, po⟩ := hpre
  have hn := pc.1.1
  have key : ∀ f i q1 g1 Dl D0 ms μ1 ν1 f1 f3, n - q1 < f → 2 * i ≤ q1 → vFr μ μ1 → zFr ν ν1 → cG t n q1 g1 μ1 → cC (C ++ Dl) μ1 → mG t n q1 g1 ν1 → qM true (Q ++ D0) (W ++ pa ++ ms) op 0 ν1 → crL Dl (D0 ++ ms.reverse) → (∀ p ∈ ms, p = 10) → q + Dl.length ≤ q1 → q < q1 → n + 2 ≤ f1 + q1 → op + 2 ≤ f3 → bitC (K + 1) Dl → (∀ c ∈ Dl, okc true c) → tgRes t n N E op (K + 1) q C Q (W ++ pa) (fun p => p = 10) (fun k => k = 23) μ ν (f_X9_both_L8 N (r_X9 N D 0) (r_X9 N D 1) (r_X9 N D 2) (r_X9 N D 3) (r_X9 N D 4) (r_X9 N D 5) (r_X9 N D 6) (nI op) f 1 (nI i) μ1) (tsG N E f1 f3 ν1) := by
    intro f
    induction f with
    | zero => intro i q1 g1 Dl D0 ms μ1 ν1 f1 f3 h1; omega
    | succ f ih =>
      intro i q1 g1 Dl D0 ms μ1 ν1 f1 f3 h1 h2 fv fz hc hC hm hq hmap hms hl1 hl2 hf1 hf3 hnum hok
      have hq1 := hc.2.2.2
      have lmap : Dl.length = D0.length + ms.length := by
        have := crL_len hmap
        rw [List.length_append, List.length_reverse] at this
        exact this
      have n10 : ¬ (1 : Int32) = 0 := by decide
      have eS : f_X9_both_L8 N (r_X9 N D 0) (r_X9 N D 1) (r_X9 N D 2) (r_X9 N D 3) (r_X9 N D 4) (r_X9 N D 5) (r_X9 N D 6) (nI op) (f + 1) 1 (nI i) μ1 = b_X9_both_L8 N (r_X9 N D 0) (r_X9 N D 1) (r_X9 N D 2) (r_X9 N D 3) (r_X9 N D 4) (r_X9 N D 5) (r_X9 N D 6) (nI op) (f_X9_both_L8 N (r_X9 N D 0) (r_X9 N D 1) (r_X9 N D 2) (r_X9 N D 3) (r_X9 N D 4) (r_X9 N D 5) (r_X9 N D 6) (nI op) f) 1 (nI i) μ1 := rfl
      rw [eS]
      unfold b_X9_both_L8
      rw [if_pos (show nI i < (1600 : Int32) from nI_lt (b := 1600) (by omega) (by decide)), if_neg n10, hc.2.1.2.2.2.2.1]
      by_cases hw : tkW t n q1 g1 = nI 23
      · rw [if_pos (show tkW t n q1 g1 = (23 : Int32) from hw)]
        have hqn := tkW_lt (by omega) hw
        have nb := nxQ_b (t := t) hq1
        obtain ⟨μ2, a1, a2, a3⟩ := c_next N hN hc
        obtain ⟨f3, rfl⟩ : ∃ k, f3 = k + 1 := ⟨f3 - 1, by omega⟩
        have lQ : (Q ++ D0).length = Q.length + D0.length := List.length_append
        obtain ⟨ν2, b1, b2, b3, b4⟩ := ts_and (E := E) (f1 := f1) (f3 := f3) hN hm hq (by rw [lQ, lWp]; omega) hms p10 hw
        have lC : (C ++ Dl).length = C.length + Dl.length := List.length_append
        have lW2 : (W ++ pa ++ [10]).length = W.length + pa.length + 1 := by rw [snoc_len, lWp]
        have lQ2 : (Q ++ D0 ++ ms.reverse).length = Q.length + D0.length + ms.length := by rw [List.length_append, lQ, List.length_reverse]
        have r := hp (nxQ t n q1) (nxG t n q1 g1) (C ++ Dl) (Q ++ D0 ++ ms.reverse) (W ++ pa ++ [10]) μ2 ν2 f1 (topNo_sn _ (by decide)) ⟨a3, a2.cC hC, flag_1 (fv.tr a2.v) pf, b3, b4, by omega, by omega, by omega, po⟩
        rw [a1, z_bn_sm, b1]
        have ei : nI i + 1 = nI (i + 1) := nI_1 i
        rcases r with ⟨q2, g2, D2, Dm2, μ3, ν3, f1', f3', f4', c1', c2, c3, c4, c5, c6, c7, c8, c8b, c9, c10, c11, c12, c13, c14, c15⟩ | ⟨ff, p, μ3, ν3, c1', c2, c3, c4, c5, c6, c7, c8, c9⟩
        · rw [c1', z_bn_sm, c2]
          have hq2 := c5.2.2.2
          have lC2 : (C ++ Dl ++ D2).length = C.length + Dl.length + D2.length := by rw [List.length_append, lC]
          obtain ⟨μ4, d1, d2, d3⟩ := c_addC N c6 (by omega) (-20)
          obtain ⟨f4', rfl⟩ : ∃ k, f4' = k + 1 := ⟨f4' - 1, by omega⟩
          rw [d1, z_bn_sm, z_bd_eq, ei, tsP_G c7.2.1 c8 (by omega) (topNe_snoc _ (by decide))]
          refine ih (i + 1) q2 g2 (Dl ++ (D2 ++ [-20])) (D0 ++ ms.reverse ++ Dm2) [10] μ4 ν3 f1' f3' (by omega) (by omega) (fv.tr (a2.v.tr (c3.tr d2.v))) (fz.tr (b2.tr c4)) (d2.cG c5) ?_ c7 ?_ ?_ (fun p hp => List.mem_singleton.mp hp) ?_ (by omega) c11 c12 ?_ ?_
          · rw [show C ++ (Dl ++ (D2 ++ [-20])) = C ++ Dl ++ D2 ++ [-20] by simp only [List.append_assoc]]
            exact d3
          · rw [show Q ++ (D0 ++ ms.reverse ++ Dm2) = Q ++ D0 ++ ms.reverse ++ Dm2 by simp only [List.append_assoc]]
            exact c8
          · rw [show D0 ++ ms.reverse ++ Dm2 ++ [10].reverse = (D0 ++ ms.reverse) ++ (Dm2 ++ [10]) by simp only [List.append_assoc, List.reverse_cons, List.reverse_nil, List.nil_append]]
            exact crL_app hmap (crL_app c8b (crL_one (Or.inl (by decide))))
          · rw [List.length_append, snoc_len]; omega
          · exact bit_op hnum c14 (Or.inl rfl) hK
          · intro x hx
            rcases List.mem_append.mp hx with y | y
            · exact hok x y
            · rcases List.mem_append.mp y with z | z
              · exact c15 x z
              · rw [List.mem_singleton.mp z]; exact okc_b (by decide)
        · obtain ⟨μ4, d1, d2, d3⟩ := c_addL N c9 (-20)
          obtain ⟨f, rfl⟩ : ∃ k, f = k + 1 := ⟨f - 1, by omega⟩
          rw [c1', z_bn_sm, d1, z_bn_sm, z_bd_eq, bothL_0]
          exact Or.inr ⟨ff, p, μ4, ν3, rfl, c2, fv.tr (a2.v.tr (c3.tr d2.v)), fz.tr (b2.tr c4), d2.cB c5, c6, c7, c8, d3⟩
      · rw [if_neg (show ¬ tkW t n q1 g1 = (23 : Int32) from hw), z_zb_1]
        exact Or.inl ⟨q1, g1, Dl, D0, ms, μ1, ν1, f1, f3, rfl, rfl, fv, fz, hc, hC, hm, hq, hmap, hms, fun c hc => by rw [hc]; exact hw, hl1, hl2, hf1, hf3, hnum, hok⟩
  have eS : r_X9 N (D + 1) 1 (nI op) μ = z_bn (r_X9 N D 2 (nI op) μ) fun x1 μ_1 => f_X9_both_L8 N (r_X9 N D 0) (r_X9 N D 1) (r_X9 N D 2) (r_X9 N D 3) (r_X9 N D 4) (r_X9 N D 5) (r_X9 N D 6) (nI op) N x1 (0 : Int32) μ_1 := rfl
  rw [eS]
  rcases hp q g C Q (W ++ pa) μ ν f1 pNo ⟨pc, pC, pf, pm, pq, pl1, pl2, pf1, po⟩ with ⟨q2, g2, D2, Dm2, μ3, ν3, f1', f3', f4', c1', c2, c3, c4, c5, c6, c7, c8, c8b, c9, c10, c11, c12, c13, c14, c15⟩ | ⟨ff, p, μ3, ν3, c1', c2, c3, c4, c5, c6, c7, c8, c9⟩
  · obtain ⟨f4', rfl⟩ : ∃ k, f4' = k + 1 := ⟨f4' - 1, by omega⟩
    have hq2 := c5.2.2.2
    have hq0 := pc.2.2.2
    rw [c1', z_bn_sm, c2, tsP_G c7.2.1 c8 (by omega) p12]
    exact key N 0 q2 g2 D2 Dm2 [] μ3 ν3 f1' f3' (by omega) (by omega) c3 c4 c5 c6 c7 (by rw [List.append_nil]; exact c8) (by rw [List.reverse_nil, List.append_nil]; exact c8b) (fun p hp => by cases hp) c9 c10 c11 c12 (bitC_mono (by omega) c14) c15
  · obtain ⟨N, rfl⟩ : ∃ M, N = M + 1 := ⟨N - 1, by omega⟩
    rw [c1', z_bn_sm, bothL_0]
    exact Or.inr ⟨ff, p, μ3, ν3, rfl, c2, c3, c4, c5, c6, c7, c8, c9⟩
theorem test_ok {t : Nat → Nat} {n N : Nat} (hN : 1700 ≤ N) {E : z_S → Option (Unit × z_S)} {D op K : Nat} (hp : BothOK t n N E D op K) (hK : 1 ≤ K) : TestOK t n N E (D + 1) op (K + 1) := by
  intro q g C Q W μ ν f1 h12 h10 h11 hT hpre
  obtain ⟨pc, pC, pf, pm, pq, pl1, pl2, pf1, po⟩ := hpre
  have hn := pc.1.1
  have key : ∀ f i q1 g1 Dl D0 pd μ1 ν1 f1 f3, n - q1 < f → 2 * i ≤ q1 → vFr μ μ1 → zFr ν ν1 → cG t n q1 g1 μ1 → cC (C ++ Dl) μ1 → mG t n q1 g1 ν1 → qM true (Q ++ D0) (W ++ pd) op 0 ν1 → crL Dl (D0 ++ pd.reverse) → (∀ p ∈ pd, p = 10 ∨ p = 11) → ¬ tkW t n q1 g1 = nI 23 → q + Dl.length ≤ q1 → q < q1 → n + 2 ≤ f1 + q1 → op + 2 ≤ f3 → bitC (K + 1) Dl → (∀ c ∈ Dl, okc true c) → tgRes t n N E op (K + 1) q C Q W (fun p => p = 10 ∨ p = 11) (fun k => k = 22 ∨ k = 23) μ ν (f_X9_test_L8 N (r_X9 N D 0) (r_X9 N D 1) (r_X9 N D 2) (r_X9 N D 3) (r_X9 N D 4) (r_X9 N D 5) (r_X9 N D 6) (nI op) f 1 (nI i) μ1) (tsG N E f1 f3 ν1) := by
    intro f
    induction f with
    | zero => intro i q1 g1 Dl D0 pd μ1 ν1 f1 f3 h1; omega
    | succ f ih =>
      intro i q1 g1 Dl D0 pd μ1 ν1 f1 f3 h1 h2 fv fz hc hC hm hq hmap hpd h23 hl1 hl2 hf1 hf3 hnum hok
      have hq1 := hc.2.2.2
      have lmap : Dl.length = D0.length + pd.length := by
        have := crL_len hmap
        rw [List.length_append, List.length_reverse] at this
        exact this
      have n10 : ¬ (1 : Int32) = 0 := by decide
      have eS : f_X9_test_L8 N (r_X9 N D 0) (r_X9 N D 1) (r_X9 N D 2) (r_X9 N D 3) (r_X9 N D 4) (r_X9 N D 5) (r_X9 N D 6) (nI op) (f + 1) 1 (nI i) μ1 = b_X9_test_L8 N (r_X9 N D 0) (r_X9 N D 1) (r_X9 N D 2) (r_X9 N D 3) (r_X9 N D 4) (r_X9 N D 5) (r_X9 N D 6) (nI op) (f_X9_test_L8 N (r_X9 N D 0) (r_X9 N D 1) (r_X9 N D 2) (r_X9 N D 3) (r_X9 N D 4) (r_X9 N D 5) (r_X9 N D 6) (nI op) f) 1 (nI i) μ1 := rfl
      rw [eS]
      unfold b_X9_test_L8
      rw [if_pos (show nI i < (1600 : Int32) from nI_lt (b := 1600) (by omega) (by decide)), if_neg n10, hc.2.1.2.2.2.2.1]
      by_cases hw : tkW t n q1 g1 = nI 22
      · rw [if_pos (show tkW t n q1 g1 = (22 : Int32) from hw)]
        have hqn := tkW_lt (by omega) hw
        have nb := nxQ_b (t := t) hq1
        obtain ⟨μ2, a1, a2, a3⟩ := c_next N hN hc
        obtain ⟨f3, rfl⟩ : ∃ k, f3 = k + 1 := ⟨f3 - 1, by omega⟩
        have lQ : (Q ++ D0).length = Q.length + D0.length := List.length_append
        obtain ⟨ν2, b1, b2, b3, b4⟩ := ts_or (E := E) (f1 := f1) (f3 := f3) hN hm hq (by rw [lQ]; omega) hpd h10 h11 hw
        have lC : (C ++ Dl).length = C.length + Dl.length := List.length_append
        have lW2 : (W ++ [11]).length = W.length + 1 := snoc_len W 11
        have lQ2 : (Q ++ D0 ++ pd.reverse).length = Q.length + D0.length + pd.length := by rw [List.length_append, lQ, List.length_reverse]
        have r := hp (nxQ t n q1) (nxG t n q1 g1) (C ++ Dl) (Q ++ D0 ++ pd.reverse) W [11] μ2 ν2 f1 h12 h10 hT (Or.inr rfl) ⟨a3, a2.cC hC, flag_1 (fv.tr a2.v) pf, b3, b4, by omega, by omega, by omega, po⟩
        rw [a1, z_bn_sm, b1]
        have ei : nI i + 1 = nI (i + 1) := nI_1 i
        rcases r with ⟨q2, g2, D2, D20, pd2, μ3, ν3, f1', f3', c1', c2, c3, c4, c5, c6, c7, c8, c9, c10, c11, c12, c13, c14, c15, c16, c17⟩ | ⟨ff, p, μ3, ν3, c1', c2, c3, c4, c5, c6, c7, c8, c9⟩
        · rw [c1', z_bn_sm, c2]
          have hq2 := c5.2.2.2
          have lC2 : (C ++ Dl ++ D2).length = C.length + Dl.length + D2.length := by rw [List.length_append, lC]
          obtain ⟨μ4, d1, d2, d3⟩ := c_addC N c6 (by omega) (-21)
          rw [d1, z_bn_sm, z_bd_eq, ei]
          refine ih (i + 1) q2 g2 (Dl ++ (D2 ++ [-21])) (D0 ++ pd.reverse ++ D20) ([11] ++ pd2) μ4 ν3 f1' f3' (by omega) (by omega) (fv.tr (a2.v.tr (c3.tr d2.v))) (fz.tr (b2.tr c4)) (d2.cG c5) ?_ c7 ?_ ?_ (fun p hp => ?_) (c11 23 rfl) ?_ (by omega) c14 c15 ?_ ?_
          · rw [show C ++ (Dl ++ (D2 ++ [-21])) = C ++ Dl ++ D2 ++ [-21] by simp only [List.append_assoc]]
            exact d3
          · rw [show Q ++ (D0 ++ pd.reverse ++ D20) = Q ++ D0 ++ pd.reverse ++ D20 by simp only [List.append_assoc], show W ++ ([11] ++ pd2) = W ++ [11] ++ pd2 by simp only [List.append_assoc]]
            exact c8
          · rw [show D0 ++ pd.reverse ++ D20 ++ (([11] : List Int32) ++ pd2).reverse = (D0 ++ pd.reverse) ++ ((D20 ++ pd2.reverse) ++ [11]) by simp only [List.append_assoc, List.reverse_cons, List.reverse_nil, List.nil_append, List.reverse_append]]
            exact crL_app hmap (crL_app c9 (crL_one (Or.inl (by decide))))
          · rcases List.mem_append.mp hp with y | y
            · exact Or.inr (List.mem_singleton.mp y)
            · exact Or.inl (c10 p y)
          · rw [List.length_append, snoc_len]; omega
          · exact bit_op hnum c16 (Or.inr rfl) hK
          · intro x hx
            rcases List.mem_append.mp hx with y | y
            · exact hok x y
            · rcases List.mem_append.mp y with z | z
              · exact c17 x z
              · rw [List.mem_singleton.mp z]; exact okc_b (by decide)
        · obtain ⟨μ4, d1, d2, d3⟩ := c_addL N c9 (-21)
          obtain ⟨f, rfl⟩ : ∃ k, f = k + 1 := ⟨f - 1, by omega⟩
          rw [c1', z_bn_sm, d1, z_bn_sm, z_bd_eq, testL_0]
          exact Or.inr ⟨ff, p, μ4, ν3, rfl, c2, fv.tr (a2.v.tr (c3.tr d2.v)), fz.tr (b2.tr c4), d2.cB c5, c6, c7, c8, d3⟩
      · rw [if_neg (show ¬ tkW t n q1 g1 = (22 : Int32) from hw), z_zb_1]
        exact Or.inl ⟨q1, g1, Dl, D0, pd, μ1, ν1, f1, f3, rfl, rfl, fv, fz, hc, hC, hm, hq, hmap, hpd, fun c hc => by rcases hc with z | z <;> rw [z]; exact hw; exact h23, hl1, hl2, hf1, hf3, hnum, hok⟩
  have eS : r_X9 N (D + 1) 0 (nI op) μ = z_bn (r_X9 N D 1 (nI op) μ) fun x1 μ_1 => f_X9_test_L8 N (r_X9 N D 0) (r_X9 N D 1) (r_X9 N D 2) (r_X9 N D 3) (r_X9 N D 4) (r_X9 N D 5) (r_X9 N D 6) (nI op) N x1 (0 : Int32) μ_1 := rfl
  rw [eS]
  have r := hp q g C Q W [] μ ν f1 h12 h10 hT (Or.inl rfl) (by rw [List.append_nil]; exact ⟨pc, pC, pf, pm, pq, pl1, pl2, pf1, po⟩)
  rw [List.append_nil] at r
  rcases r with ⟨q2, g2, D2, D20, pd2, μ3, ν3, f1', f3', c1', c2, c3, c4, c5, c6, c7, c8, c9, c10, c11, c12, c13, c14, c15, c16, c17⟩ | ⟨ff, p, μ3, ν3, c1', c2, c3, c4, c5, c6, c7, c8, c9⟩
  · have hq2 := c5.2.2.2
    rw [c1', z_bn_sm, c2]
    exact key N 0 q2 g2 D2 D20 pd2 μ3 ν3 f1' f3' (by omega) (by omega) c3 c4 c5 c6 c7 c8 c9 (fun p hp => Or.inl (c10 p hp)) (c11 23 rfl) c12 c13 c14 c15 (bitC_mono (by omega) c16) c17
  · obtain ⟨N, rfl⟩ : ∃ M, N = M + 1 := ⟨N - 1, by omega⟩
    rw [c1', z_bn_sm, testL_0]
    exact Or.inr ⟨ff, p, μ3, ν3, rfl, c2, c3, c4, c5, c6, c7, c8, c9⟩
