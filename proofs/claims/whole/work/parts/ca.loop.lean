/-! the law's loop -/
theorem l_more {L i : Nat} (hL : L ≤ 3072) (hi : i ≤ L) (h : ¬ (Int32.ofNat L - 6 < nI i)) : i + 6 ≤ L := by
  rcases Nat.lt_or_ge L 6 with q | q
  · exfalso
    apply h
    have h1 : (Int32.ofNat L - 6).toInt < 0 := by
      rcases (show L = 0 ∨ L = 1 ∨ L = 2 ∨ L = 3 ∨ L = 4 ∨ L = 5 by omega) with rfl | rfl | rfl | rfl | rfl | rfl <;> decide
    exact Int32.lt_iff_toInt_lt.mpr (by rw [nI_toInt (by omega)]; omega)
  · have e : Int32.ofNat L - 6 = nI (L - 6) := by
      have h2 := nI_add (L - 6) 6
      rw [show L - 6 + 6 = L by omega] at h2
      show nI L - nI 6 = nI (L - 6)
      rw [← h2, Int32.add_sub_cancel]
    rw [e] at h
    rcases Nat.lt_or_ge (L - 6) i with c | c
    · exact absurd (nI_lt c (by omega)) h
    · omega
theorem law_loop {p : Program} {l : Launch} {e : Env} {s : State} {m : MethodId} {below : List Frame} {meth : Method} {c : Code} {b0 L : Nat} {xs : Nat → Int32} {D : va_G} {cA : Nat → ClassId} (hL : L ≤ 3072) (C : l_C p s m meth c b0 L xs D cA) :
    ∀ (n i : Nat), i ≤ L → L + 1 ≤ i + n → ∀ (μ ν : z_S), z_INV μ ν → ∀ (H : Heap) (locs : List Loc), z_Wd s.heap.size D cA (z_mm true μ ν) H → va_S (z_A s.heap.size) s.heap H locs → ∀ ls : Array Slot, lv_has ls 4 (l_lv b0 s.heap.size i) → l_W p l e s m below meth c b0 H locs 18 ls [] := by
  obtain ⟨hx, hb, hr, hml, hown, hts, hX, hbl, hlocks, hgv⟩ := id C.1
  have hbA : ¬ z_A s.heap.size b0 := Nat.not_le.mpr hbl
  intro n
  induction n with
  | zero =>
    intro i h1 h2
    exact absurd h2 (by omega)
  | succ n ih =>
    intro i hi hin μ ν hI H locs hW hS ls hl
    refine lv_iload_n (pc := 18) hx hb d_law_18 rfl (lv_at hl 3 rfl) ?_
    refine lv_aload_n (pc := 19) hx hb d_law_19 rfl (lv_at hl 0 rfl) ?_
    refine va_slen (pc := 20) hx hb hX hbl hbA hS d_law_20 ?_
    refine lv_bipush (pc := 21) (v := 6) hx hb d_law_21 (by decide) ?_
    refine lv_isub (pc := 23) hx hb d_law_23 ?_
    refine lv_icmp_gt (pc := 24) (tgt := 1062) hx hb d_law_24 (by decide) (fun hc => ?_) (fun hc => ?_)
    · refine lv_iconst (pc := 1062) (v := 1) hx hb d_law_1062 (by decide) ?_
      refine va_forget (fun q hq => hS.2.2 q hq) ?_
      refine W.widen (k := 600000) (n := 7302250) (by decide) (by decide) ?_
      exact lw_ret hx hb hr hlocks d_law_1063
    · have hi6 : i + 6 ≤ L := l_more hL hi hc
      refine lv_aload_n (pc := 27) hx hb d_law_27 rfl (lv_at hl 0 rfl) ?_
      refine lv_iload_n (pc := 28) hx hb d_law_28 rfl (lv_at hl 3 rfl) ?_
      refine va_sld (pc := 29) hx hb hX hbl hbA hS (vp_in_nI (by omega) (by omega)) d_law_29 ?_
      rw [nI_clamp (by omega)]
      refine lv_bipush (pc := 30) (v := 63) hx hb d_law_30 (by decide) ?_
      refine lv_iand (pc := 32) hx hb d_law_32 ?_
      obtain ⟨k, hk, ek⟩ := pk_andE (xs i) (m := 63) 6 (by decide)
      rw [ek]
      refine l_switch C hi6 hL hl hI hW hS (fun μ' ν' H' locs' hI' hW' hS' => ?_) k hk
      refine lv_iinc (pc := 1056) (v := nI (i + 6)) (lv' := [(3, .int (nI (i + 6))), (0, .ref b0), (1, .ref s.heap.size), (2, .ref (s.heap.size + 253))]) hx hb d_law_1056 hl (k := 3) rfl (by rw [← nI_add]; rfl) (by decide) rfl (fun ls' hl' => ?_)
      refine lv_goto (pc := 1059) (tgt := 18) hx hb d_law_1059 (by decide) ?_
      exact ih (i + 6) hi6 (by omega) μ' ν' hI' H' locs' hW' hS' ls' (lv_sub hl' [1, 2, 3, 0] rfl)
