def aImg (A : aS) (l : List Nat) : aS := (A.1, A.2.1, A.2.2.1, A.2.2.2.1, A.2.2.2.2.1, A.2.2.2.2.2.1, A.2.2.2.2.2.2.1, l, A.2.2.2.2.2.2.2.2)
theorem gt_lt {l : List Nat} {k x : Nat} (h : l[k]? = some x) : k < l.length := by
  obtain ⟨q, -⟩ := List.getElem?_eq_some_iff.mp h
  exact q
theorem imgL_len {A : aS} (ok : okS A) : (imgL (sH A) (sN A)).length = 2 + hCnt (sH A) 2 + hCnt (sH A) 1 + 3 * hCnt (sH A) 0 ∧ (imgL (sH A) (sN A)).length ≤ 33 := by
  have h0 := ok.2.2.1.1
  have h1 := ok.2.2.1.2.1
  have h2 := ok.2.2.1.2.2.1
  have e : (imgL (sH A) (sN A)).length = 2 + hCnt (sH A) 2 + hCnt (sH A) 1 + 3 * hCnt (sH A) 0 := by
    unfold imgL
    simp only [List.length_append, segN_len, List.length_cons, List.length_nil]
  omega
theorem imgL_mem {A : aS} (ok : okS A) : ∀ x ∈ imgL (sH A) (sN A), x < 256 := by
  obtain ⟨q1, q2, q3, q4, q5, q6, q7, q8, q9⟩ := ok.2.2.2.1
  have h1 := ok.2.2.1.2.1
  have h2 := ok.2.2.1.2.2.1
  intro x hx
  unfold imgL at hx
  simp only [List.mem_append, List.mem_cons, List.not_mem_nil, or_false] at hx
  rcases hx with ((hx | hx) | hx) | hx
  · rcases hx with hx | hx
    · subst hx; omega
    · subst hx; omega
  · obtain ⟨k, rfl⟩ := segN_mem _ _ hx
    have := q2 k; omega
  · obtain ⟨k, rfl⟩ := segN_mem _ _ hx
    have := q4 k; omega
  · obtain ⟨k, rfl⟩ := segN_mem _ _ hx
    unfold tri
    have a1 := q6 (k / 3)
    have a2 := q7 (k / 3)
    have a3 := q8 (k / 3)
    split
    · omega
    · split <;> omega
theorem ok_img {A : aS} (ok : okS A) : okS (aImg A (fullL (sH A) (sN A))) := by
  have hl := imgL_len ok
  have hx := imgL_mem ok
  obtain ⟨o1, o2, o3, o4, o5, o6, o7, o8, o9, o10, o11⟩ := ok
  refine ⟨o1, o2, o3, o4, o5, o6, o7, o8, ?_, ?_, o11⟩
  · show (fullL (sH A) (sN A)).length ≤ 34
    unfold fullL
    rw [List.length_append, List.length_singleton]
    omega
  · intro x hx'
    rcases List.mem_append.mp (show x ∈ imgL (sH A) (sN A) ++ [chk (imgL (sH A) (sN A))] from hx') with h | h
    · exact hx x h
    · rw [List.mem_singleton] at h
      have := chk_lt (imgL (sH A) (sN A))
      omega
theorem c_imgS {A : aS} {μ μ2 : z_S} (ok : okS A) (h : cS A μ) (hw : wC (fullL (sH A) (sN A)) μ μ2) : cS (aImg A (fullL (sH A) (sN A))) (z_setI μ2 0 16 (nI (fullL (sH A) (sN A)).length)) := by
  generalize hL : fullL (sH A) (sN A) = L at *
  have R : ∀ o j, ¬ (o = 0 ∧ j = 16) → o ≠ 54 → (z_setI μ2 0 16 (nI L.length)).1 o j = μ.1 o j := fun o j q1 q2 => by rw [sI_1, if_neg q1, hw.2, if_neg (fun q => q2 q.1)]
  have hb : (z_setI μ2 0 16 (nI L.length)).2.2 = μ.2.2 := by rw [sI_22, hw.1]
  have h' := h
  obtain ⟨a1, a2, a3, a4, a5, a6, a7, a8, a9, b1, ⟨old, b2, b3, b4⟩, c1, c2, d1, d2, d3⟩ := h'
  refine cS_of ok h hb rfl (fun q j h1 h2 g1 g2 g3 g4 => by exact R _ _ (by omega) (by omega)) (fun j => by exact R _ _ (by omega) (by omega)) ?_ (fun k => ?_) (fun k hk => ?_) ?_ ?_ ?_ ?_ ?_ ?_ (fun k q hq => ?_) ?_ (fun k x hx => ?_) ?_
  · rw [R _ _ (by omega) (by omega)]; exact a1
  · rw [R _ _ (by omega) (by omega)]; exact a2 k
  · rw [R _ _ (by omega) (by omega)]; exact a4 k hk
  · rw [R _ _ (by omega) (by omega)]; exact a5
  · rw [R _ _ (by omega) (by omega)]; exact a6
  · exact cN_of a9 (fun o j h1 h2 => by exact R _ _ (by omega) (by omega))
  · rw [R _ _ (by omega) (by omega)]; exact b1
  · exact ⟨old, b2, by rw [R _ _ (by omega) (by omega)]; exact b3, fun i a hi => cN_of (b4 i a hi) (fun o j h1 h2 => by exact R _ _ (by omega) (by omega))⟩
  · rw [R _ _ (by omega) (by omega)]; exact c1
  · exact ⟨by rw [R _ _ (by omega) (by omega)]; exact (c2 k q hq).1, by rw [R _ _ (by omega) (by omega)]; exact (c2 k q hq).2⟩
  · rw [sI_1, if_pos ⟨rfl, rfl⟩]; rfl
  · have hk : k < L.length := gt_lt (l := L) hx; rw [sI_1, if_neg (by omega), hw.2, if_pos ⟨rfl, hk⟩, List.getD_eq_getElem?_getD, show L[k]? = some x from hx]; rfl
  · rw [R _ _ (by omega) (by omega)]; exact d3
theorem m_imgS {A : aS} {ν ν2 : z_S} (ok : okS A) (h : mS A ν) (hw : wM (fullL (sH A) (sN A)) ν ν2) : mS (aImg A (fullL (sH A) (sN A))) ν2 := by
  generalize hL : fullL (sH A) (sN A) = L at *
  have R : ∀ o j, ¬ (o = 253 ∧ j = 105) → o ≠ 333 → ν2.1 o j = ν.1 o j := fun o j q1 q2 => by rw [hw.2, if_neg (fun q => q2 q.1), if_neg q1]
  have h' := h
  obtain ⟨a1, a2, a3, a4, a5, a6, a7, a8, b1, ⟨nw, b2, b3, b4⟩, c1, c2, d1, d2, d3⟩ := h'
  refine mS_of h rfl (fun q j h1 h2 => by exact R _ _ (by omega) (by omega)) (fun _ => by rw [hw.1]) (fun q j hq => by exact R _ _ (by omega) (by omega)) ?_ (fun k => ?_) (fun k hk => ?_) ?_ ?_ ?_ ?_ ?_ ?_ (fun k q hq => ?_) ?_ (fun k x hx => ?_) ?_
  · rw [R _ _ (by omega) (by omega)]; exact a1
  · rw [R _ _ (by omega) (by omega)]; exact a2 k
  · rw [R _ _ (by omega) (by omega)]; exact a4 k hk
  · rw [R _ _ (by omega) (by omega)]; exact a5
  · rw [R _ _ (by omega) (by omega)]; exact a6
  · exact mN_of a8 (fun j h1 h2 => by exact R _ _ (by omega) (by omega))
  · rw [R _ _ (by omega) (by omega)]; exact b1
  · exact ⟨nw, b2, by rw [R _ _ (by omega) (by omega)]; exact b3, fun i a hi => mN_of (b4 i a hi) (fun j h1 h2 => by exact R _ _ (by omega) (by omega))⟩
  · rw [R _ _ (by omega) (by omega)]; exact c1
  · exact ⟨by rw [R _ _ (by omega) (by omega)]; exact (c2 k q hq).1, by obtain ⟨-, x, y, q1, q2, q3, q4, q5⟩ := c2 k q hq; exact ⟨x, y, q1, q2, q3, by rw [R _ _ (by omega) (by omega)]; exact q4, by rw [R _ _ (by omega) (by omega)]; exact q5⟩⟩
  · rw [hw.2, if_neg (by omega), if_pos ⟨rfl, rfl⟩]; rfl
  · have hk : k < L.length := gt_lt (l := L) hx; rw [hw.2, if_pos ⟨rfl, hk⟩, List.getD_eq_getElem?_getD, show L[k]? = some x from hx]; rfl
  · rw [hw.1]; exact d3
theorem op_image {A : aS} {μ ν : z_S} (ok : okS A) (hc : cS A μ) (hm : mS A ν) (N : Nat) (hN : 60 ≤ N) : z_Op (f_X11_image N μ) (f_X12_image N ν) := by
  have h0 := ok.2.2.1.1
  have h1 := ok.2.2.1.2.1
  have h2 := ok.2.2.1.2.2.1
  have hd : nDay (sN A) ≤ 999 := ok.2.2.2.1.1
  have hN9 := hc.2.2.2.2.2.2.2.2.1
  obtain ⟨hl1, hl2⟩ := imgL_len ok
  have hmem := imgL_mem ok
  have w0 : wC [] μ μ := ⟨rfl, fun a j => by rw [if_neg (fun q => absurd q.2 (Nat.not_lt_zero _))]⟩
  have w1 := wC_push w0 (nDay (sN A) / 256)
  have w2 := wC_push w1 (nDay (sN A) % 256)
  have ed : nI (nDay (sN A)) >>> ((8 : Int32) &&& 31) = nI (nDay (sN A) / 256) := pk_shrN (by omega) _ 8 (by decide)
  have er : nI (nDay (sN A)) &&& (255 : Int32) = nI (nDay (sN A) % 256) := pk_andN (by omega) 8 (by decide)
  have v1 : μ.1 39 0 = nI (nDay (sN A)) := hN9.1
  have v2 : (z_setI μ 54 0 (nI (nDay (sN A) / 256))).1 39 0 = nI (nDay (sN A)) := by rw [sI_1, if_neg (by omega)]; exact v1
  -- the class
  have hC : ∃ μ', f_X11_image N μ = some (nI (fullL (sH A) (sN A)).length, μ') ∧ cS (aImg A (fullL (sH A) (sN A))) μ' := by
    unfold f_X11_image
    simp only [z_bd_eq]
    rw [v1, ed, v2, er, show ((0 : Int32) + 1) = nI 1 from rfl, z_in_nI (show 1 < 34 by decide) (by decide), nI_toNat (show 1 < 2 ^ 31 by decide), show (nI 1 + 1) = nI 2 from rfl]
    obtain ⟨μ2, a1, a2⟩ := c_img1 ok hc N (fun y80_1 μ80 => f_X11_image_L82 N (fun y119_1 μ119 => f_X11_image_L121 N (fun y198_1 μ198 => z_bn (f_X11_checkByte N 54 y198_1 μ198) fun x11 μ_8 => z_in y198_1 34 <| some (((z_setI (z_setI μ_8 54 y198_1.toNatClampNeg x11) 0 16 (y198_1 + (1 : Int32))).1 0 16), z_setI (z_setI μ_8 54 y198_1.toNatClampNeg x11) 0 16 (y198_1 + (1 : Int32)))) N y119_1 (0 : Int32) μ119) N y80_1 (0 : Int32) μ80) N (hCnt (sH A) 2) 0 _ _ (by omega) (by omega) (by show 2 + hCnt (sH A) 2 ≤ 34; omega) w2
    have a1' : f_X11_image_L43 N _ N (nI 2) (0 : Int32) (z_setI (z_setI μ 54 0 (nI (nDay (sN A) / 256))) 54 1 (nI (nDay (sN A) % 256))) = _ := a1
    rw [a1']
    try dsimp only
    obtain ⟨μ3, b1, b2⟩ := c_img2 ok hc N (fun y119_1 μ119 => f_X11_image_L121 N (fun y198_1 μ198 => z_bn (f_X11_checkByte N 54 y198_1 μ198) fun x11 μ_8 => z_in y198_1 34 <| some (((z_setI (z_setI μ_8 54 y198_1.toNatClampNeg x11) 0 16 (y198_1 + (1 : Int32))).1 0 16), z_setI (z_setI μ_8 54 y198_1.toNatClampNeg x11) 0 16 (y198_1 + (1 : Int32)))) N y119_1 (0 : Int32) μ119) N (hCnt (sH A) 1) 0 _ _ (by omega) (by omega) (by simp only [List.length_append, segN_len, List.length_cons, List.length_nil]; omega) a2
    have b1' : f_X11_image_L82 N _ N _ (0 : Int32) μ2 = _ := b1
    rw [b1']
    try dsimp only
    obtain ⟨μ4, c1, c2⟩ := c_img3 ok hc N (fun y198_1 μ198 => z_bn (f_X11_checkByte N 54 y198_1 μ198) fun x11 μ_8 => z_in y198_1 34 <| some (((z_setI (z_setI μ_8 54 y198_1.toNatClampNeg x11) 0 16 (y198_1 + (1 : Int32))).1 0 16), z_setI (z_setI μ_8 54 y198_1.toNatClampNeg x11) 0 16 (y198_1 + (1 : Int32)))) N (hCnt (sH A) 0) 0 _ _ (by omega) (by omega) (by simp only [List.length_append, segN_len, List.length_cons, List.length_nil]; omega) b2
    have c1' : f_X11_image_L121 N _ N _ (0 : Int32) μ3 = _ := c1
    rw [c1']
    try dsimp only
    have eL : [] ++ [nDay (sN A) / 256] ++ [nDay (sN A) % 256] ++ segN (nLeft (sN A)) 0 (hCnt (sH A) 2) ++ segN (nStock (sN A)) 0 (hCnt (sH A) 1) ++ segN (tri (sN A)) (3 * 0) (3 * hCnt (sH A) 0) = imgL (sH A) (sN A) := rfl
    rw [eL] at c2 ⊢
    rw [c_chk N (by omega) (by omega) (by decide) (by show _ ≤ 34; omega) (by decide) hmem (fun k hk => by rw [c2.2, if_pos ⟨rfl, hk⟩]), z_bn_sm, z_in_nI (show (imgL (sH A) (sN A)).length < 34 by omega) (by decide), nI_toNat (by omega)]
    have w5 := wC_push c2 (chk (imgL (sH A) (sN A)))
    have ef : nI (imgL (sH A) (sN A)).length + (1 : Int32) = nI (fullL (sH A) (sN A)).length := by
      unfold fullL; rw [List.length_append]; exact nI_1 _
    rw [ef, sI_1, if_pos ⟨rfl, rfl⟩]
    exact ⟨_, rfl, c_imgS ok hc w5⟩
  have hM : ∃ ν', f_X12_image N ν = some (nI (fullL (sH A) (sN A)).length, ν') ∧ mS (aImg A (fullL (sH A) (sN A))) ν' := by
    unfold f_X12_image
    have x0 : wM [] ν (z_setI ν 253 105 (0 : Int32)) := ⟨rfl, fun a j => by rw [if_neg (fun q => absurd q.2 (Nat.not_lt_zero _)), sI_1]; rfl⟩
    have dv : ∀ {L : List Nat} {ν' : z_S}, wM L ν ν' → ν'.1 296 0 = nI (nDay (sN A)) := fun {L ν'} w => by
      rw [w.2, if_neg (by omega), if_neg (by omega)]; exact hm.2.2.2.2.2.2.2.1.1
    obtain ⟨ν1, p1, x1⟩ := wM_push x0 (by decide) N (nDay (sN A) / 256)
    obtain ⟨ν2, p2, x2⟩ := wM_push x1 (by show 1 < 34; decide) N (nDay (sN A) % 256)
    have zz : ¬ (256 : Int32) = 0 := by decide
    have ed2 : nI (nDay (sN A)) / (256 : Int32) = nI (nDay (sN A) / 256) := pk_div (d := 256) (by omega) (by decide) (by decide)
    have er2 : nI (nDay (sN A)) - nI (nDay (sN A) / 256) * (256 : Int32) = nI (nDay (sN A) % 256) := by rw [← ed2]; exact pk_rem (d := 256) (by omega) (by decide) (by decide)
    rw [z_bd_eq, z_nz_ok zz, dv x0, ed2, p1, z_bn_sm, z_nz_ok zz, dv x1, ed2, er2, p2, z_bn_sm]
    obtain ⟨ν3, a1, a2⟩ := m_img1 ok hm N (fun μ58 => f_X12_image_L60 N (fun μ86 => f_X12_image_L88 N (fun μ117 => z_bn (f_X12_checked N 333 (μ117.1 253 105) μ117) fun x8 μ_11 => z_bn (f_X12_writes N x8 μ_11) fun _ μ_12 => some ((μ_12.1 253 105), μ_12)) N (0 : Int32) μ86) N (0 : Int32) μ58) N (hCnt (sH A) 2) 0 _ _ (by omega) (by omega) (by show 2 + hCnt (sH A) 2 ≤ 34; omega) x2
    have a1' : f_X12_image_L35 N _ N (0 : Int32) ν2 = _ := a1
    rw [a1']
    try dsimp only
    obtain ⟨ν4, b1, b2⟩ := m_img2 ok hm N (fun μ86 => f_X12_image_L88 N (fun μ117 => z_bn (f_X12_checked N 333 (μ117.1 253 105) μ117) fun x8 μ_11 => z_bn (f_X12_writes N x8 μ_11) fun _ μ_12 => some ((μ_12.1 253 105), μ_12)) N (0 : Int32) μ86) N (hCnt (sH A) 1) 0 _ _ (by omega) (by omega) (by simp only [List.length_append, segN_len, List.length_cons, List.length_nil]; omega) a2
    have b1' : f_X12_image_L60 N _ N (0 : Int32) ν3 = _ := b1
    rw [b1']
    try dsimp only
    obtain ⟨ν5, c1, c2⟩ := m_img3 ok hm N (fun μ117 => z_bn (f_X12_checked N 333 (μ117.1 253 105) μ117) fun x8 μ_11 => z_bn (f_X12_writes N x8 μ_11) fun _ μ_12 => some ((μ_12.1 253 105), μ_12)) N (3 * hCnt (sH A) 0) 0 _ _ (by omega) (by omega) (by simp only [List.length_append, segN_len, List.length_cons, List.length_nil]; omega) b2
    have c1' : f_X12_image_L88 N _ N (0 : Int32) ν4 = _ := c1
    rw [c1']
    try dsimp only
    have eL : [] ++ [nDay (sN A) / 256] ++ [nDay (sN A) % 256] ++ segN (nLeft (sN A)) 0 (hCnt (sH A) 2) ++ segN (nStock (sN A)) 0 (hCnt (sH A) 1) ++ segN (tri (sN A)) 0 (3 * hCnt (sH A) 0) = imgL (sH A) (sN A) := rfl
    rw [eL] at c2
    have en : ν5.1 253 105 = nI (imgL (sH A) (sN A)).length := by rw [c2.2, if_neg (by omega), if_pos ⟨rfl, rfl⟩]
    obtain ⟨ν6, q1, q2⟩ := wM_push c2 (by omega) N (chk (imgL (sH A) (sN A)))
    rw [en, m_chk N (by omega) (by omega) (by decide) (by show _ ≤ 34; omega) (by decide) hmem (fun k hk => by rw [c2.2, if_pos ⟨rfl, hk⟩]), z_bn_sm, q1, z_bn_sm]
    have e6 : ν6.1 253 105 = nI (fullL (sH A) (sN A)).length := by rw [q2.2, if_neg (by omega), if_pos ⟨rfl, rfl⟩]; rfl
    rw [e6]
    exact ⟨_, rfl, m_imgS ok hm q2⟩
  obtain ⟨μ', e1, e2⟩ := hC
  obtain ⟨ν', e3, e4⟩ := hM
  exact ⟨_, μ', ν', e1, e3, _, ok_img ok, e2, e4⟩
