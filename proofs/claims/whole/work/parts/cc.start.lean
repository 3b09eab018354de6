/-! the law from its entry -/
theorem z_ins : ∀ ci, ci < 13 → Cond.instantiable (z_C ci) (z_nf ci) ∈ z_tbl := z_lt13 w_458 w_308 w_449 w_599 w_289 w_622 w_350 w_372 w_404 w_580 w_183 w_175 w_1315
abbrev l_fl : List Cond := flatC (Jvm.Cond.and given_1 narrow_1)
set_option maxRecDepth 100000 in
theorem g_4 : Cond.eq (.static "java/lang/String" "COMPACT_STRINGS" "Z") (.int 1) ∈ l_fl := List.mem_of_getElem? (i := 4) (by decide +kernel)
set_option maxRecDepth 100000 in
theorem g_5 : Cond.isRef (.static "jdk/internal/util/Preconditions" "SIOOBE_FORMATTER" "Ljava/util/function/BiFunction;") ∈ l_fl := List.mem_of_getElem? (i := 5) (by decide +kernel)
set_option maxRecDepth 100000 in
theorem g_10 : Cond.arrayOf (.static "DearLetters" "KIND_MOST" "[I") .int ∈ l_fl := List.mem_of_getElem? (i := 10) (by decide +kernel)
set_option maxRecDepth 100000 in
theorem g_11 : Cond.eq (.length (.static "DearLetters" "KIND_MOST" "[I")) (.int (Int32.ofNat 10)) ∈ l_fl := List.mem_of_getElem? (i := 11) (by decide +kernel)
set_option maxRecDepth 100000 in
theorem g_12 : ∀ j, j < 10 → l_fl[12 + j]? = some (Cond.eq (.elem (.static "DearLetters" "KIND_MOST" "[I") (.int (Int32.ofNat j))) (.int (z_km j))) := by decide +kernel
set_option maxRecDepth 100000 in
theorem g_22 : Cond.exactly (.string "DearLetters$Text" 22) "java/lang/String" ∈ l_fl := List.mem_of_getElem? (i := 22) (by decide +kernel)
set_option maxRecDepth 100000 in
theorem g_23 : Cond.eq (.field (.string "DearLetters$Text" 22) "java/lang/String" "coder" "B") (.int 0) ∈ l_fl := List.mem_of_getElem? (i := 23) (by decide +kernel)
set_option maxRecDepth 100000 in
theorem g_24 : Cond.arrayOf (.field (.string "DearLetters$Text" 22) "java/lang/String" "value" "[B") .byte ∈ l_fl := List.mem_of_getElem? (i := 24) (by decide +kernel)
set_option maxRecDepth 100000 in
theorem g_25 : Cond.eq (.length (.field (.string "DearLetters$Text" 22) "java/lang/String" "value" "[B")) (.int (Int32.ofNat 179)) ∈ l_fl := List.mem_of_getElem? (i := 25) (by decide +kernel)
set_option maxRecDepth 100000 in
theorem g_26 : ∀ j, j < 179 → l_fl[26 + j]? = some (Cond.eq (.elem (.field (.string "DearLetters$Text" 22) "java/lang/String" "value" "[B") (.int (Int32.ofNat j))) (.int (zs_by.getD j 0))) := by decide +kernel
section LS
variable {p : Program} {l : Launch} {e : Env} {s : State} {m : MethodId} {below : List Frame} {meth : Method} {c : Code} {b0 L i : Nat} {xs : Nat → Int32} {D : va_G} {cA : Nat → ClassId} {H : Heap} {locs : List Loc} {ls : Array Slot} {pc : Nat} {st : List Value}
theorem l_Es (C0 : lw_At p s m meth c b0 L xs) : z_E s.heap.size s := by
  obtain ⟨hx, hb, hr, hml, hown, hts, hX, hbl, hlocks, hgv⟩ := C0
  have hfl := flat_of_before _ hgv
  have hA : ∀ a : Nat, a < s.heap.size → ¬ z_A s.heap.size a := fun a h => Nat.not_le.mpr h
  obtain ⟨t, ht, hT⟩ := va_Tof (tm := .static "DearLetters" "KIND_MOST" "[I") (ty := .int) (N := 10) (f := fun j => .int (z_km j)) (A := z_A s.heap.size) (by decide) (hfl _ g_10) (va_eqt (hfl _ g_11)) (fun j hj => va_eqt (hfl _ (List.mem_of_getElem? (g_12 j hj)))) hA
  have one : ∀ i : Nat, i < 1 → i = 0 := fun i h => by omega
  obtain ⟨aK, aV, hvS, hev⟩ := vk_Sof (args := #[Value.ref b0]) (s := s) (N := 1) (tm := fun _ => .string "DearLetters$Text" 22) (len := [179]) (byt := [zs_by]) (A := z_A s.heap.size)
    (fun i hi => by rw [one i hi]; decide) (fun i _ => hfl _ g_22) (fun i _ => hfl _ g_23) (fun i _ => hfl _ g_24) (fun i hi => by rw [one i hi]; exact hfl _ g_25) (fun i hi j hj => by
      rw [one i hi] at hj ⊢
      exact hfl _ (List.mem_of_getElem? (g_26 j hj))) (fun i j hi hj hne => absurd ((one i hi).trans (one j hj).symm) hne) hA
  have hz := va_Zof (hts (.laysStatic "DearLetters" "KIND_MOST" "[I") (List.mem_of_getElem? (i := 455) (by decide +kernel))) (hts (.initialized "DearLetters") (List.mem_filter.mp w_154).1) ht hA
  have hc := va_Zof (hts (.laysStatic "java/lang/String" "COMPACT_STRINGS" "Z") (List.mem_of_getElem? (i := 198) (by decide +kernel))) (hts (.initialized "java/lang/String") (List.mem_filter.mp w_156).1) (va_eqt (hfl _ g_4)) hA
  have hq := va_Zqof (hts (.laysStatic "jdk/internal/util/Preconditions" "SIOOBE_FORMATTER" "Ljava/util/function/BiFunction;") (List.mem_of_getElem? (i := 214) (by decide +kernel))) (hts (.initialized "jdk/internal/util/Preconditions") (List.mem_filter.mp w_158).1) (hfl _ g_5) hA
  refine ⟨va_Nw.of rfl (hts (.methodLinkNest "DearLetters" 18 yX4_init "DearLetters") (List.mem_of_getElem? (i := 290) (by decide +kernel))), va_Nw.of rfl (hts (.methodLinkNest "DearLetters" 34 yX6_init "DearLetters") (List.mem_of_getElem? (i := 351) (by decide +kernel))), va_Nw.of rfl (hts (.methodLinkNest "DearLetters" 41 yX7_init "DearLetters") (List.mem_of_getElem? (i := 373) (by decide +kernel))), va_Nw.of rfl (hts (.methodLinkNest "DearLetters$Heap" 55 yX0_init "DearLetters") (List.mem_of_getElem? (i := 459) (by decide +kernel))), va_Nw.of rfl (hts (.methodLinkNest "DearLetters$Sums" 11 yX0_init "DearLetters") (List.mem_of_getElem? (i := 586) (by decide +kernel))),
    va_Nw.of rfl (hts (.fieldLinkNest "DearLetters$Heap" 9 "DearLetters" "KIND_MOST" "[I" "DearLetters") (List.mem_of_getElem? (i := 454) (by decide +kernel))), va_Nw.of rfl (hts (.fieldLinkNest "DearLetters$HeapReader" 63 "DearLetters" "KIND_MOST" "[I" "DearLetters") (List.mem_of_getElem? (i := 758) (by decide +kernel))), t, hz, hT,
    va_AO.of (hts (.arrayOver (.object "DearLetters$State")) (List.mem_of_getElem? (i := 447) (by decide +kernel))), over_moved (Vm.Alike.refl _) (hts (.arrayOver (.array .int)) (List.mem_of_getElem? (i := 314) (by decide +kernel))), over_moved (Vm.Alike.refl _) (hts (.arrayOver (.array .long)) (List.mem_of_getElem? (i := 316) (by decide +kernel))), hc, hq, aK, aV, vk_R.of (hts (.stringRef "DearLetters$Text" 22 zs_tx) (List.mem_of_getElem? (i := 188) (by decide +kernel))) (hev 0 (by decide)), hvS⟩
theorem l_know (C0 : lw_At p s m meth c b0 L xs) : ∃ (D : va_G) (cA : Nat → ClassId), l_C p s m meth c b0 L xs D cA := by
  have hE := l_Es C0
  obtain ⟨hx, hb, hr, hml, hown, hts, hX, hbl, hlocks, hgv⟩ := id C0
  have htz : ∀ w ∈ z_tbl, w.before #[Value.ref b0] s = true := fun w hw => hts w (List.mem_filter.mp hw).1
  have h0 : ∀ ci : Nat, ∃ q : ClassId × (Nat → Nat), ci < 13 → u_Kn s (z_C ci) (z_T ci) (z_nf ci) q.1 q.2 := by
    intro ci
    by_cases h : ci < 13
    · obtain ⟨cC, iS, hk⟩ := u_known (C := z_C ci) (T := z_T ci) (N := z_nf ci) (n := z_nf ci) htz (z_inX ci h) (htz _ (z_ins ci h))
      exact ⟨(cC, iS), fun _ => hk⟩
    · exact ⟨(m.cls, fun _ => 0), fun h' => absurd h' h⟩
  obtain ⟨c20, k20, d20, f20, g20, h20⟩ := Cond.arrayClass_spec (type := .int) (htz _ w_286)
  obtain ⟨c21, k21, d21, f21, g21, h21⟩ := Cond.arrayClass_spec (type := .long) (htz _ w_348)
  obtain ⟨c22, k22, d22, f22, g22, h22⟩ := Cond.arrayClass_spec (type := .char) (htz _ w_1639)
  obtain ⟨d23, c23, k23, -, -, g23, h23, f23⟩ := arrayOverA_spec (hts (.arrayOver (.array .int)) (List.mem_of_getElem? (i := 314) (by decide +kernel)))
  obtain ⟨d24, c24, k24, -, -, g24, h24, f24⟩ := arrayOverA_spec (hts (.arrayOver (.array .long)) (List.mem_of_getElem? (i := 316) (by decide +kernel)))
  obtain ⟨d25, c25, k25, e25, -, g25, h25, f25⟩ := Cond.arrayOver_spec (hts (.arrayOver (.object "DearLetters$State")) (List.mem_of_getElem? (i := 447) (by decide +kernel)))
  refine ⟨(fun ci => (Classical.choose (h0 ci)).1, fun ci => (Classical.choose (h0 ci)).2), fun t => match t with
    | 20 => c20
    | 21 => c21
    | 22 => c22
    | 23 => c23
    | 24 => c24
    | _ => c25, C0, ⟨fun ci q hq => ?_, fun k q hq => ?_⟩, hE⟩
  · have hlt : ci < 13 := (List.getElem?_eq_some_iff.mp hq).1
    rw [z_cl ci hlt] at hq
    cases hq
    exact Classical.choose_spec (h0 ci) hlt
  · match k, hq with
    | 0, hq => cases hq; exact ⟨fun n z => ⟨fun k h => (by cases h), k20, g20, d20, h20⟩, f20⟩
    | 1, hq => cases hq; exact ⟨fun n z => ⟨fun k h => (by cases h), k21, g21, d21, h21⟩, f21⟩
    | 2, hq => cases hq; exact ⟨fun n z => ⟨fun k h => (by cases h), k22, g22, d22, h22⟩, f22⟩
    | 3, hq => cases hq; exact ⟨fun n z => ⟨fun k h => (by cases h), k23, g23, d23, h23⟩, f23⟩
    | 4, hq => cases hq; exact ⟨fun n z => ⟨fun k h => (by cases h), k24, g24, d24, h24⟩, f24⟩
    | 5, hq => cases hq; exact ⟨fun n z => ⟨fun k h => (by cases h), k25, g25, d25, h25⟩, k25, d25, g25, h25, e25, f25⟩
    | k + 6, hq => cases hq
theorem l_new {M : z_M} {cs sl idx ci : Nat} {Q : State → Prop} (C : l_C p s m meth c b0 L xs D cA) (hW : z_Wd s.heap.size D cA M H) (hS : va_S (z_A s.heap.size) s.heap H locs) (hd : decode code pc = .ok (.new idx, 3)) (hL : z_LN "DearLettersLaw" idx ci) (hk : z_kind M.1 = (ci, 0)) (hcs : cs + 1 ≤ 600000) (hsl : sl + z_nf ci ≤ 7302250)
    (kk : ∀ H1 : Heap, z_Wd s.heap.size D cA (z_up M) H1 → va_S (z_A s.heap.size) s.heap H1 locs → W p l e room_1 s m #[Value.ref b0] below meth c H1 locs (cs + 1) (sl + z_nf ci) Q (F0 m (pc + 3) ls (.ref (s.heap.size + M.1) :: st))) : W p l e room_1 s m #[Value.ref b0] below meth c H locs cs sl Q (F0 m pc ls st) := by
  obtain ⟨h13, hcl, hin, hini⟩ := hL
  have hts := l_tbl C
  obtain ⟨⟨hx, hb, hr, hml, hown, -⟩, hKn, hE⟩ := C
  have hKc := hKn.1 _ _ (z_cl _ h13)
  refine W.newcK hx hb hown (hts _ hcl) (hts _ hin) (hts _ hini) rfl hd hcs hsl hKc.2.1 rfl fun H1 kC hkC e1 z1 o1 => ?_
  have hB := u_born (z_ty ci) hts (z_inX ci h13) hKc hkC e1 (z_tyok ci h13)
  have hsz := hW.1
  rw [hsz] at hB
  have h := kk H1 (hW.push z1 o1 ⟨fun hc => ?_, fun hc => absurd (by rw [hk]; exact h13) hc⟩) (z_Spush hS z1 o1)
  · rw [hsz]
    exact h
  · rw [hk]
    refine hB.to (fun j hj => ?_)
    rw [z_val_new _ (hW.2.2 M.1 (Nat.le_refl _) j), z_dv (z_okT_all ci h13 j hj)]
theorem l_ctor {idx o d' mc' ms' cs sl : Nat} {Y' : z_Y} {M M1 : z_M} {Q : State → Prop} {lv : List (Nat × Value)} (C : l_C p s m meth c b0 L xs D cA) (hW : z_Wd s.heap.size D cA M H) (hS : va_S (z_A s.heap.size) s.heap H locs) (hl : lv_has ls 4 lv) (hd : decode code pc = .ok (.invokespecial idx, 3)) (hL : z_LI "DearLettersLaw" idx Y' 0) (hK : z_K Y' d' mc' ms' [.ref o] M none M1) (hdd : d' ≤ 1200) (hcs : cs + mc' ≤ 600000) (hsl : sl + ms' ≤ 7302250) (hst : (st.map (fun v => v.category)).sum ≤ 8)
    (kk : ∀ (H1 : Heap) (locs1 : List Loc), z_Wd s.heap.size D cA M1 H1 → va_S (z_A s.heap.size) s.heap H1 locs1 → W p l e room_1 s m #[Value.ref b0] below meth c H1 locs1 (cs + mc') (sl + ms') Q (F0 m (pc + 3) ls st)) : W p l e room_1 s m #[Value.ref b0] below meth c H locs cs sl Q (F0 m pc ls (.ref (s.heap.size + o) :: st)) := by
  have hts := l_tbl C
  obtain ⟨⟨hx, hb, hr, hml, hown, hts0, hX, hbl, hlocks, hgv⟩, hKn, hE⟩ := C
  obtain ⟨hB, hnm, hrt, hi⟩ := hL
  have hcb : CallB room_1 s #[Value.ref b0] "DearLettersLaw" idx Y'.1 Y'.2.1 Y'.2.2.1 Y'.2.2.2 (z_w Y') (z_rm d' mc' ms') mc' ms' 0 := callB_of 0 hts (z_w_good Y' hB.2.2.1) rfl rfl rfl (hts _ hB.2.1) (hts _ hB.1) hB.2.2.2.1 ⟨by show d' + 2 + 1 ≤ 2048; omega, by have := hB.2.2.2.2; show 8 + (Y'.2.2.1 + 11) + 64 * (d' + 2) ≤ 84000; omega⟩
  rw [hrt] at hcb
  intro T hT X
  obtain ⟨v, st₀, t, T', Lc, h0, X', hLc, e1, e2, ⟨hv, hW1, hz, hkk⟩, hstp⟩ := va_runI (b := s.heap.size + o) (As := []) (rest := st) (g := F0 m pc ls (.ref (s.heap.size + o) :: st)) ⟨hx, hb, hml, hown, hts⟩ (hK l s.heap.size D cA) ⟨hcb, hnm, hts _ hi⟩ ⟨z_blind _ D cA _ M, fun U hU hw => ⟨rfl, by rw [hU]; exact hW, va_K.moved hw.alike hKn, z_E.moved hw hU hS hE⟩⟩ rfl rfl hl.1 rfl (lv_room hst) hd ⟨hcs, hsl⟩ T hT X
  rw [h0] at hz hkk
  have hv : v = none := by cases hv; rfl
  subst hv
  have hS1 : va_S (z_A s.heap.size) s.heap T'.heap (locs ++ Lc) := ⟨Nat.le_trans hS.1 (by rw [e1]; exact hz), fun q h1 h2 => by rw [e1, hkk q (Nat.lt_of_lt_of_le h1 hS.1) h2]; exact hS.2.1 q h1 h2, fun q hq => by
      rcases List.mem_append.mp hq with h | h
      · exact hS.2.2 q h
      · exact hLc q h⟩
  obtain ⟨t2, a1, b1⟩ := kk T'.heap (locs ++ Lc) (by rw [e1]; exact hW1) hS1 T' rfl X'
  exact ⟨t2, hstp t2 a1, b1⟩
end LS
theorem whole_start {p : Program} {e : Env} {s : State} {m : MethodId} {below : List Frame} {meth : Method} {c : Code} (l : Launch) (hflags : l.flags = flags0) {b L : Nat} {xs : Nat → Int32} (hL : L ≤ 3072) (C0 : lw_At p s m meth c b L xs) : W p l e room_1 s m #[Value.ref b] below meth c s.heap [] 0 0 (lw_Z below #[Value.ref b] s) (entryFrame m ([Value.ref b] : List Value).toArray 4) := by
  obtain ⟨D, cA, C⟩ := l_know C0
  obtain ⟨hx, hb, hr, hml, hown, hts, hX, hbl, hlocks, hgv⟩ := id C0
  have hl := lv_entry ([.ref b]) (n := 4) (Nat.le_of_ble_eq_true rfl)
  rw [lg_entry_eq]
  generalize (lg_sl ([.ref b]) ++ List.replicate (4 - (lg_sl ([.ref b])).length) Slot.unset).toArray = ls at hl ⊢
  have hl : lv_has ls 4 [(0, .ref b)] := hl
  have hW0 : z_Wd s.heap.size D cA (aM 0 [] [] []) s.heap := ⟨rfl, fun k hk => absurd hk (Nat.not_lt_zero _), fun k hk j => ⟨rfl, rfl, rfl⟩⟩
  refine l_new (pc := 0) C hW0 va_S.rf d_law_0 lnl_7 (by decide +kernel) (by decide) (by decide) (fun H1 hW1 hS1 => ?_)
  refine lv_dup (pc := 3) hx hb d_law_3 rfl ?_
  refine l_ctor (pc := 4) (o := 0) (M := aM 1 [] [] []) C hW1 hS1 hl d_law_4 lil_9 k11 (by decide) (by decide) (by decide) (by show _ ≤ _; exact Nat.le_of_ble_eq_true rfl) (fun H2 locs2 hW2 hS2 => ?_)
  refine lv_astore_n (pc := 7) (lv' := [(1, .ref (s.heap.size + 0)), (0, .ref b)]) hx hb d_law_7 rfl hl (by decide) rfl (fun ls hl => ?_)
  refine l_new (pc := 8) (M := aM 253 L11I L11J L11R) C hW2 hS2 d_law_8 lnl_10 (by decide +kernel) (by decide) (by decide) (fun H3 hW3 hS3 => ?_)
  refine lv_dup (pc := 11) hx hb d_law_11 rfl ?_
  refine l_ctor (pc := 12) (o := 253) (M := aM 254 L11I L11J L11R) C hW3 hS3 hl d_law_12 lil_12 k12 (by decide) (by decide) (by decide) (by show _ ≤ _; exact Nat.le_of_ble_eq_true rfl) (fun H4 locs4 hW4 hS4 => ?_)
  refine lv_astore_n (pc := 15) (lv' := [(2, .ref (s.heap.size + 253)), (1, .ref (s.heap.size + 0)), (0, .ref b)]) hx hb d_law_15 rfl hl (by decide) rfl (fun ls hl => ?_)
  refine lv_iconst (pc := 16) (v := nI 0) hx hb d_law_16 (by decide) ?_
  refine lv_istore_n (pc := 17) (lv' := [(3, .int (nI 0)), (2, .ref (s.heap.size + 253)), (1, .ref (s.heap.size + 0)), (0, .ref b)]) hx hb d_law_17 rfl hl (by decide) rfl (fun ls hl => ?_)
  exact law_loop hL C (L + 1) 0 (Nat.zero_le L) (by omega) m0 m0 inv0 H4 locs4 (by rw [← mm0]; exact hW4) hS4 ls (lv_sub hl [3, 2, 1, 0] rfl)
