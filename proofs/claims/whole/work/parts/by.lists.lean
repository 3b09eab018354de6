/-! memories told as lists -/
def ai : List (Nat × Nat × Int32) → Nat → Nat → Int32
  | [] => fun _ _ => 0
  | q :: L => z_u (ai L) q.1 q.2.1 q.2.2
def aj : List (Nat × Nat × Int64) → Nat → Nat → Int64
  | [] => fun _ _ => 0
  | q :: L => z_u (aj L) q.1 q.2.1 q.2.2
def ar : List (Nat × Nat × Nat) → Nat → Nat → Option Nat
  | [] => fun _ _ => none
  | q :: L => z_u (ar L) q.1 q.2.1 (some q.2.2)
abbrev aM (n : Nat) (I : List (Nat × Nat × Int32)) (J : List (Nat × Nat × Int64)) (R : List (Nat × Nat × Nat)) : z_M := (n, ai I, aj J, ar R)
/-- the first N places of row o hold x -/
def fillL (o : Nat) (x : Int32) : Nat → List (Nat × Nat × Int32) → List (Nat × Nat × Int32)
  | 0, L => L
  | i + 1, L => (o, i, x) :: fillL o x i L
/-- the rows of a table -/
def rowsL (o : Nat) : Nat → List (Nat × Nat × Nat) → List (Nat × Nat × Nat)
  | 0, L => L
  | i + 1, L => (o, i, o + 1 + i) :: rowsL o i L
theorem rows_eq (o : Nat) (R : List (Nat × Nat × Nat)) : ∀ N, z_mR (ar R) o N = ar (rowsL o N R)
  | 0 => by
    funext a j
    exact if_neg (fun q => by omega)
  | N + 1 => by
    have ih := rows_eq o R N
    funext a j
    show (if a = o ∧ j < N + 1 then some (o + 1 + j) else ar R a j) = z_u (ar (rowsL o N R)) o N (some (o + 1 + N)) a j
    rw [← ih]
    unfold z_u z_mR
    by_cases h : a = o ∧ j = N
    · rw [if_pos h, if_pos ⟨h.1, by omega⟩, h.2]
    · rw [if_neg h]
      by_cases h2 : a = o ∧ j < N
      · rw [if_pos h2, if_pos ⟨h2.1, by omega⟩]
      · rw [if_neg h2, if_neg (fun q => by
          rcases Nat.lt_or_ge j N with c | c
          · exact h2 ⟨q.1, c⟩
          · exact h ⟨q.1, by omega⟩)]
section YR
variable {Y : z_Y} {d mc ms : Nat} {rv : Option Value} {M' : z_M} {pc cs sl n : Nat} {lv lv' : List (Nat × Value)} {st : List Value} {I : List (Nat × Nat × Int32)} {J : List (Nat × Nat × Int64)} {R : List (Nat × Nat × Nat)}
/-- a field that holds a reference, written in its constructor -/
def z_FF (own : String) (idx ci k : Nat) : Prop := z_FL own idx ci k ∧ (z_T ci k).2.2.2 = true ∧ (z_T ci k).1 = own ∧ z_code (z_ty ci k) = 2 ∧ (∀ a, narrow (z_ty ci k) (.ref a) = .ref a) ∧ ∀ a, fits (z_ty ci k) (.ref a) = true
def z_FR (own : String) (idx ci k : Nat) : Prop := z_FL own idx ci k ∧ (z_T ci k).2.2.2 = false ∧ z_code (z_ty ci k) = 2 ∧ (∀ a, narrow (z_ty ci k) (.ref a) = .ref a) ∧ ∀ a, fits (z_ty ci k) (.ref a) = true
theorem y_putF {idx ci k o r : Nat} {q : Nat × Nat} (hd : decode Y.2.1 pc = .ok (.putfield idx, 3)) (hF : z_FF Y.1.cls idx ci k) (hk : z_kind o = q) (hq : q.1 = ci) (ho : o < n) (hini : Y.1.name = "<init>") (kk : z_G Y d mc ms rv M' (pc + 3) lv st cs sl (aM n I J ((o, k, r) :: R))) : z_G Y d mc ms rv M' pc lv (.ref r :: .ref o :: st) cs sl (aM n I J R) :=
  z_putRF hd hF.1 (by rw [hk]; exact hq) ho hF.2.1 hini hF.2.2.1 hF.2.2.2.1 hF.2.2.2.2.1 hF.2.2.2.2.2 kk
theorem y_putR {idx ci k o r : Nat} {q : Nat × Nat} (hd : decode Y.2.1 pc = .ok (.putfield idx, 3)) (hF : z_FR Y.1.cls idx ci k) (hk : z_kind o = q) (hq : q.1 = ci) (ho : o < n) (kk : z_G Y d mc ms rv M' (pc + 3) lv st cs sl (aM n I J ((o, k, r) :: R))) : z_G Y d mc ms rv M' pc lv (.ref r :: .ref o :: st) cs sl (aM n I J R) :=
  z_putR hd hF.1 (by rw [hk]; exact hq) ho hF.2.1 hF.2.2.1 hF.2.2.2.1 hF.2.2.2.2 kk
theorem y_putI {idx ci k o : Nat} {x : Int32} {q : Nat × Nat} (hd : decode Y.2.1 pc = .ok (.putfield idx, 3)) (hF : z_FL Y.1.cls idx ci k) (hk : z_kind o = q) (hq : q.1 = ci) (ho : o < n) (hfin : (z_T ci k).2.2.2 = false) (ht : z_ty ci k = .int) (kk : z_G Y d mc ms rv M' (pc + 3) lv st cs sl (aM n ((o, k, x) :: I) J R)) : z_G Y d mc ms rv M' pc lv (.int x :: .ref o :: st) cs sl (aM n I J R) :=
  z_putI hd hF (by rw [hk]; exact hq) ho hfin ht kk
theorem y_putJ {idx ci k o : Nat} {x : Int64} {q : Nat × Nat} (hd : decode Y.2.1 pc = .ok (.putfield idx, 3)) (hF : z_FL Y.1.cls idx ci k) (hk : z_kind o = q) (hq : q.1 = ci) (ho : o < n) (hfin : (z_T ci k).2.2.2 = false) (ht : z_ty ci k = .long) (kk : z_G Y d mc ms rv M' (pc + 3) lv st cs sl (aM n I ((o, k, x) :: J) R)) : z_G Y d mc ms rv M' pc lv (.long x :: .ref o :: st) cs sl (aM n I J R) :=
  z_putJ hd hF (by rw [hk]; exact hq) ho hfin ht kk
theorem y_getR {idx ci k o r : Nat} {q : Nat × Nat} (hd : decode Y.2.1 pc = .ok (.getfield idx, 3)) (hF : z_FL Y.1.cls idx ci k) (hk : z_kind o = q) (hq : q.1 = ci) (ho : o < n) (ht : z_code (z_ty ci k) = 2) (hr : ar R o k = some r) (kk : z_G Y d mc ms rv M' (pc + 3) lv (.ref r :: st) cs sl (aM n I J R)) : z_G Y d mc ms rv M' pc lv (.ref o :: st) cs sl (aM n I J R) :=
  z_getR hd hF (by rw [hk]; exact hq) ho ht hr kk
theorem y_getI {idx ci k o : Nat} {x : Int32} {q : Nat × Nat} (hd : decode Y.2.1 pc = .ok (.getfield idx, 3)) (hF : z_FL Y.1.cls idx ci k) (hk : z_kind o = q) (hq : q.1 = ci) (ho : o < n) (ht : z_code (z_ty ci k) = 0) (hx : ai I o k = x) (kk : z_G Y d mc ms rv M' (pc + 3) lv (.int x :: st) cs sl (aM n I J R)) : z_G Y d mc ms rv M' pc lv (.ref o :: st) cs sl (aM n I J R) := by
  subst hx
  exact z_getI hd hF (by rw [hk]; exact hq) ho ht kk
theorem y_iast {o N k : Nat} {i x : Int32} (hd : decode Y.2.1 pc = .ok (.iastore, 1)) (hk : z_kind o = (20, N)) (ho : o < n) (hin : vp_in i N) (hi : i.toNatClampNeg = k) (kk : z_G Y d mc ms rv M' (pc + 1) lv st cs sl (aM n ((o, k, x) :: I) J R)) : z_G Y d mc ms rv M' pc lv (.int x :: .int i :: .ref o :: st) cs sl (aM n I J R) := by
  subst hi
  exact z_iast hd hk ho hin kk
theorem y_cast {o N k : Nat} {i x : Int32} (hd : decode Y.2.1 pc = .ok (.castore, 1)) (hk : z_kind o = (22, N)) (ho : o < n) (hin : vp_in i N) (hi : i.toNatClampNeg = k) (hx : narrow .char (.int x) = .int x) (kk : z_G Y d mc ms rv M' (pc + 1) lv st cs sl (aM n ((o, k, x) :: I) J R)) : z_G Y d mc ms rv M' pc lv (.int x :: .int i :: .ref o :: st) cs sl (aM n I J R) := by
  subst hi
  exact z_cast hd hk ho hin hx kk
theorem y_aast {o N v k : Nat} {i : Int32} (hd : decode Y.2.1 pc = .ok (.aastore, 1)) (hk : z_kind o = (25, N)) (ho : o < n) (hin : vp_in i N) (hi : i.toNatClampNeg = k) (hkv : z_kind v = (8, 0)) (hv : v < n) (kk : z_G Y d mc ms rv M' (pc + 1) lv st cs sl (aM n I J ((o, k, v) :: R))) : z_G Y d mc ms rv M' pc lv (.ref v :: .int i :: .ref o :: st) cs sl (aM n I J R) := by
  subst hi
  exact z_aast hd hk ho hin hkv hv kk
theorem y_aald {o t N r : Nat} {i : Int32} {k : Nat} (hd : decode Y.2.1 pc = .ok (.aaload, 1)) (hk : z_kind o = (t, N)) (ht1 : 23 ≤ t) (ht2 : t < 26) (ho : o < n) (hin : vp_in i N) (hi : i.toNatClampNeg = k) (hr : ar R o k = some r) (kk : z_G Y d mc ms rv M' (pc + 1) lv (.ref r :: st) cs sl (aM n I J R)) : z_G Y d mc ms rv M' pc lv (.int i :: .ref o :: st) cs sl (aM n I J R) := by
  subst hi
  exact z_aald hd hk ht1 ht2 ho hin hr kk
theorem y_alen {o t N : Nat} {x : Int32} (hd : decode Y.2.1 pc = .ok (.arraylength, 1)) (hk : z_kind o = (t, N)) (h1 : 20 ≤ t) (h2 : t < 26) (ho : o < n) (hx : Int32.ofNat N = x) (kk : z_G Y d mc ms rv M' (pc + 1) lv (.int x :: st) cs sl (aM n I J R)) : z_G Y d mc ms rv M' pc lv (.ref o :: st) cs sl (aM n I J R) := by
  subst hx
  exact z_alen hd hk h1 h2 ho kk
theorem y_new {idx ci sl' cs' n' : Nat} (hd : decode Y.2.1 pc = .ok (.new idx, 3)) (hL : z_LN Y.1.cls idx ci) (hk : z_kind n = (ci, 0)) (en : n + 1 = n') (ecs : cs + 1 = cs') (esl : sl + z_nf ci = sl') (hcs : cs' ≤ mc) (hsl : sl' ≤ ms) (kk : z_G Y d mc ms rv M' (pc + 3) lv (.ref n :: st) cs' sl' (aM n' I J R)) : z_G Y d mc ms rv M' pc lv st cs sl (aM n I J R) := by
  subst en
  exact z_newO hd hL rfl hk ecs esl hcs hsl rfl kk
theorem y_newA {aty : ArrayType} {t N cs' sl' n' : Nat} {x : Int32} (hd : decode Y.2.1 pc = .ok (.newarray aty, 2)) (ht : newarray.typeOf aty = z_tA t) (h1 : 20 ≤ t) (h2 : t < 23) (harr : Cond.arrayClass (z_tA t) ∈ z_tbl) (hk : z_kind n = (t, N)) (hx : ¬ x < 0) (hn : x.toNatClampNeg = N) (hb : N ≤ 60000000) (en : n + 1 = n') (ecs : cs + 1 = cs') (esl : sl + N = sl') (hcs : cs' ≤ mc) (hsl : sl' ≤ ms) (kk : z_G Y d mc ms rv M' (pc + 2) lv (.ref n :: st) cs' sl' (aM n' I J R)) : z_G Y d mc ms rv M' pc lv (.int x :: st) cs sl (aM n I J R) := by
  subst en
  exact z_newA hd ht h1 h2 harr rfl hk hx hn hb ecs esl hcs hsl rfl kk
theorem y_newS {idx N cs' sl' n' : Nat} {x : Int32} (hd : decode Y.2.1 pc = .ok (.anewarray idx, 3)) (hcl : Cond.classLink Y.1.cls idx "DearLetters$State" ∈ z_tbl) (hk : z_kind n = (25, N)) (hx : ¬ x < 0) (hn : x.toNatClampNeg = N) (hb : N ≤ 60000000) (en : n + 1 = n') (ecs : cs + 1 = cs') (esl : sl + N = sl') (hcs : cs' ≤ mc) (hsl : sl' ≤ ms) (kk : z_G Y d mc ms rv M' (pc + 3) lv (.ref n :: st) cs' sl' (aM n' I J R)) : z_G Y d mc ms rv M' pc lv (.int x :: st) cs sl (aM n I J R) := by
  subst en
  exact z_newS hd hcl rfl hk hx hn hb ecs esl hcs hsl rfl kk
theorem y_mul {idx t u N K cs' sl' n' : Nat} {x y : Int32} {ty : FieldType} (hd : decode Y.2.1 pc = .ok (.multianewarray idx 2, 4)) (ht : (t = 23 ∧ u = 20 ∧ ty = .int) ∨ (t = 24 ∧ u = 21 ∧ ty = .long)) (hcl : Cond.classLink Y.1.cls idx ("[" ++ (FieldType.array ty).toString) ∈ z_tbl) (har : Cond.arrayClass ty ∈ z_tbl) (hk : z_kind n = (t, N)) (hki : ∀ j, j < N → z_kind (n + 1 + j) = (u, K)) (hx : ¬ x < 0) (hN : x.toNatClampNeg = N) (hy : ¬ y < 0) (hK : y.toNatClampNeg = K) (hN2 : N ≤ 60000000) (hK2 : K ≤ 60000000) (en : n + 1 + N = n') (ecs : cs + 1 + N = cs') (esl : sl + N + N * K = sl') (hcs : cs' ≤ mc) (hsl : sl' ≤ ms) (kk : z_G Y d mc ms rv M' (pc + 4) lv (.ref n :: st) cs' sl' (aM n' I J (rowsL n N R))) : z_G Y d mc ms rv M' pc lv (.int y :: .int x :: st) cs sl (aM n I J R) := by
  subst en
  exact z_mul hd ht hcl har rfl hk hki hx hN hy hK hN2 hK2 ecs esl hcs hsl (by show (n + 1 + N, ai I, aj J, z_mR (ar R) n N) = _; rw [rows_eq]) kk
theorem y_callI {idx o k d' mc' ms' cs' sl' : Nat} {as : List Value} {Y' : z_Y} {M M1 : z_M} (hd : decode Y.2.1 pc = .ok (.invokespecial idx, 3)) (hL : z_LI Y.1.cls idx Y' k) (hK : z_K Y' d' mc' ms' (.ref o :: as) M none M1) (hdd : d' + 1 ≤ d) (ecs : cs + mc' = cs') (esl : sl + ms' = sl') (hcs : cs' ≤ mc) (hsl : sl' ≤ ms) (hn : as.length = k) (hst : (st.map (fun v => v.category)).sum ≤ 8) {st0 : List Value} (he : as.reverse ++ .ref o :: st = st0)
    (kk : z_G Y d mc ms rv M' (pc + 3) lv st cs' sl' M1) : z_G Y d mc ms rv M' pc lv st0 cs sl M := by
  subst ecs; subst esl
  exact z_callI hd hL hK hdd hcs hsl hn hst he kk
theorem y_callIN {idx o k d' mc' ms' cs' sl' : Nat} {as : List Value} {Y' : z_Y} {M M1 : z_M} (hd : decode Y.2.1 pc = .ok (.invokespecial idx, 3)) (hL : z_LIN Y.1.cls idx Y' k) (hK : z_K Y' d' mc' ms' (.ref o :: as) M none M1) (hdd : d' + 1 ≤ d) (ecs : cs + mc' = cs') (esl : sl + ms' = sl') (hcs : cs' ≤ mc) (hsl : sl' ≤ ms) (hn : as.length = k) (hst : (st.map (fun v => v.category)).sum ≤ 8) {st0 : List Value} (he : as.reverse ++ .ref o :: st = st0)
    (kk : z_G Y d mc ms rv M' (pc + 3) lv st cs' sl' M1) : z_G Y d mc ms rv M' pc lv st0 cs sl M := by
  subst ecs; subst esl
  exact z_callIN hd hL hK hdd hcs hsl hn hst he kk
theorem y_callS {idx k d' : Nat} {as : List Value} {Y' : z_Y} {M M1 : z_M} (hd : decode Y.2.1 pc = .ok (.invokestatic idx, 3)) (hL : z_LS Y.1.cls idx Y' k) (hK : z_K Y' d' 0 0 as M none M1) (hdd : d' + 1 ≤ d) (hcs : cs ≤ mc) (hsl : sl ≤ ms) (hn : as.length = k) (hst : (st.map (fun v => v.category)).sum ≤ 8) {st0 : List Value} (he : as.reverse ++ st = st0)
    (kk : z_G Y d mc ms rv M' (pc + 3) lv st cs sl M1) : z_G Y d mc ms rv M' pc lv st0 cs sl M :=
  z_callS hd hL hK hdd hcs hsl hn hst he kk
theorem y_callV {idx o k ci d' : Nat} {as : List Value} {Y' : z_Y} {M M1 : z_M} {q : Nat × Nat} (hd : decode Y.2.1 pc = .ok (.invokevirtual idx, 3)) (hL : z_LV Y.1.cls idx ci Y' k) (hK : z_K Y' d' 0 0 (.ref o :: as) M none M1) (hk : z_kind o = q) (hq : q.1 = ci) (ho : o < M.1) (hdd : d' + 1 ≤ d) (hcs : cs ≤ mc) (hsl : sl ≤ ms) (hn : as.length = k) (hst : (st.map (fun v => v.category)).sum ≤ 8) {st0 : List Value} (he : as.reverse ++ .ref o :: st = st0)
    (kk : z_G Y d mc ms rv M' (pc + 3) lv st cs sl M1) : z_G Y d mc ms rv M' pc lv st0 cs sl M :=
  z_callV hd hL hK (by rw [hk]; exact hq) ho hdd hcs hsl hn hst he kk
end YR
/-- Arrays.fill of a whole row -/
theorem kF_loop {o N n : Nat} {x : Int32} {I0 : List (Nat × Nat × Int32)} {J : List (Nat × Nat × Int64)} {R : List (Nat × Nat × Nat)} (hk : z_kind o = (20, N)) (ho : o < n) (hN : N < 2000) : ∀ (r i : Nat), i + r = N → z_G mJ7_fill_53178 0 0 0 none (aM n (fillL o x N I0) J R) 5 [(0, .ref o), (1, .int x), (2, .int (nI i)), (3, .int (nI N))] [] 0 0 (aM n (fillL o x i I0) J R)
  | 0, i, h => by
    have hi : i = N := by omega
    subst hi
    refine z_iload_n (pc := 5) 2 dJ7_fill_53178_5 rfl rfl ?_
    refine z_iload_n (pc := 6) 3 dJ7_fill_53178_6 rfl rfl ?_
    refine z_icmp_ge (pc := 7) (tgt := 20) dJ7_fill_53178_7 (by decide) (fun _ => ?_) (fun hc => absurd (Int32.le_refl _) hc)
    exact z_vret (pc := 20) dJ7_fill_53178_20 rfl (Nat.le_refl _) (Nat.le_refl _)
  | r + 1, i, h => by
    refine z_iload_n (pc := 5) 2 dJ7_fill_53178_5 rfl rfl ?_
    refine z_iload_n (pc := 6) 3 dJ7_fill_53178_6 rfl rfl ?_
    refine z_icmp_ge (pc := 7) (tgt := 20) dJ7_fill_53178_7 (by decide) (fun hc => absurd hc (nI_ge (by omega) (by omega))) (fun _ => ?_)
    refine z_aload_n (pc := 10) 0 dJ7_fill_53178_10 rfl rfl ?_
    refine z_iload_n (pc := 11) 2 dJ7_fill_53178_11 rfl rfl ?_
    refine z_iload_n (pc := 12) 1 dJ7_fill_53178_12 rfl rfl ?_
    refine y_iast (pc := 13) (k := i) dJ7_fill_53178_13 hk ho (vp_in_nI (by omega) (by omega)) (nI_clamp (by omega)) ?_
    refine z_iinc (pc := 14) (v := nI (i + 1)) (lv' := [(2, .int (nI (i + 1))), (0, .ref o), (1, .int x), (3, .int (nI N))]) 2 dJ7_fill_53178_14 rfl (by rw [nI_succ]; rfl) (by decide) rfl ?_
    refine z_goto (pc := 17) (tgt := 5) dJ7_fill_53178_17 (by decide) ?_
    refine z_sub (lv' := [(0, .ref o), (1, .int x), (2, .int (nI (i + 1))), (3, .int (nI N))]) [1, 2, 0, 3] rfl ?_
    exact kF_loop hk ho hN r (i + 1) (by omega)
theorem kF {o N n : Nat} (x : Int32) (I : List (Nat × Nat × Int32)) (J : List (Nat × Nat × Int64)) (R : List (Nat × Nat × Nat)) (hk : z_kind o = (20, N)) (ho : o < n) (hN : N < 2000) : z_K mJ7_fill_53178 0 0 0 [.ref o, .int x] (aM n I J R) none (aM n (fillL o x N I) J R) := by
  refine z_K.of (by decide +kernel) (by show _ ≤ _; first | decide | exact Nat.le_of_ble_eq_true rfl) (lv := [(0, .ref o), (1, .int x)]) rfl ?_
  refine z_iconst (pc := 0) (v := (0 : Int32)) dJ7_fill_53178_0 (by decide) ?_
  refine z_istore_n (pc := 1) (lv' := [(2, .int (0 : Int32)), (0, .ref o), (1, .int x)]) dJ7_fill_53178_1 rfl (by decide) rfl ?_
  refine z_aload_n (pc := 2) 1 dJ7_fill_53178_2 rfl rfl ?_
  refine y_alen (pc := 3) (x := nI N) dJ7_fill_53178_3 hk (by decide) (by decide) ho rfl ?_
  refine z_istore_n (pc := 4) (lv' := [(3, .int (nI N)), (2, .int (0 : Int32)), (0, .ref o), (1, .int x)]) dJ7_fill_53178_4 rfl (by decide) rfl ?_
  refine z_sub (lv' := [(0, .ref o), (1, .int x), (2, .int (nI 0)), (3, .int (nI N))]) [2, 3, 1, 0] rfl ?_
  exact kF_loop hk ho hN N 0 (by omega)
