def f_X12_qGoesOn_B246 (N : Nat)  (s0 : Int32) (μ : z_S) : Option (Int32 × z_S) :=
  f_X12_qGoesOn_L247 N s0 (fun μ286 => z_in (μ286.1 253 97) 1700 <| z_bd (z_setI μ286 331 (μ286.1 253 97).toNatClampNeg s0) fun μ_27 => z_bd (z_setI μ_27 253 97 ((μ_27.1 253 97) + (1 : Int32))) fun μ_28 => some ((1 : Int32), μ_28)) N μ
theorem t_X12_qGoesOn_B246 (N : Nat)     (s0 : Int32)  (μ : z_S) : z_sim false rI mX12_qGoesOn 3 (f_X12_qGoesOn_B246 N   s0 μ) 246 [(0, .ref 253)] [.int s0] μ := by
  unfold f_X12_qGoesOn_B246
  refine s_istore_n (pc := 246) (lv' := [(1, .int s0), (0, .ref 253)]) dX12_qGoesOn_246 rfl (by decide) rfl ?_
  refine s_sub (lv' := [(0, .ref 253), (1, .int s0)]) [1, 0] rfl ?_
  refine t_X12_qGoesOn_L247 N s0 _ ?_ N μ
  · intro μ286
    refine s_aload_n (pc := 286) 0 dX12_qGoesOn_286 rfl rfl ?_
    refine s_getR (pc := 287) (ci := 12) (k := 96) (r := 331) dX12_qGoesOn_287 fl_12_251 kd_253 rfl rs_253_96 ?_
    refine s_aload_n (pc := 290) 0 dX12_qGoesOn_290 rfl rfl ?_
    refine s_getI (pc := 291) (ci := 12) (k := 97) dX12_qGoesOn_291 fl_12_355 kd_253 rfl ?_
    refine s_iload_n (pc := 294) 1 dX12_qGoesOn_294 rfl rfl ?_
    refine s_iast (pc := 295) dX12_qGoesOn_295 kd_331 (fun μ_27 => ?_)
    refine s_aload_n (pc := 296) 0 dX12_qGoesOn_296 rfl rfl ?_
    refine s_dup (pc := 297) dX12_qGoesOn_297 rfl ?_
    refine s_getI (pc := 298) (ci := 12) (k := 97) dX12_qGoesOn_298 fl_12_355 kd_253 rfl ?_
    refine s_iconst (pc := 301) (v := (1 : Int32)) dX12_qGoesOn_301 (by decide) ?_
    refine s_iadd (pc := 302) dX12_qGoesOn_302 ?_
    refine s_putI (pc := 303) (ci := 12) (k := 97) dX12_qGoesOn_303 fl_12_355 kd_253 rfl rfl (fun μ_28 => ?_)
    refine s_iconst (pc := 306) (v := (1 : Int32)) dX12_qGoesOn_306 (by decide) ?_
    exact s_zret0 (pc := 307) dX12_qGoesOn_307 rfl rfl
def f_X12_qGoesOn_B225 (N : Nat)   (μ : z_S) : Option (Int32 × z_S) :=
  z_in ((μ.1 253 2) - (1 : Int32)) 1600 <| if (μ.1 254 ((μ.1 253 2) - (1 : Int32)).toNatClampNeg) = (43 : Int32) then (f_X12_qGoesOn_B246 N (1 : Int32) μ) else f_X12_qGoesOn_B246 N (2 : Int32) μ
theorem t_X12_qGoesOn_B225 (N : Nat)       (μ : z_S) : z_sim false rI mX12_qGoesOn 3 (f_X12_qGoesOn_B225 N    μ) 225 [(0, .ref 253)] [] μ := by
  unfold f_X12_qGoesOn_B225
  refine s_aload_n (pc := 225) 0 dX12_qGoesOn_225 rfl rfl ?_
  refine s_getR (pc := 226) (ci := 12) (k := 0) (r := 254) dX12_qGoesOn_226 fl_12_7 kd_253 rfl rs_253_0 ?_
  refine s_aload_n (pc := 229) 0 dX12_qGoesOn_229 rfl rfl ?_
  refine s_getI (pc := 230) (ci := 12) (k := 2) dX12_qGoesOn_230 fl_12_269 kd_253 rfl ?_
  refine s_iconst (pc := 233) (v := (1 : Int32)) dX12_qGoesOn_233 (by decide) ?_
  refine s_isub (pc := 234) dX12_qGoesOn_234 ?_
  refine s_iald (pc := 235) dX12_qGoesOn_235 kd_254 ?_
  refine s_bipush (pc := 236) (v := (43 : Int32)) dX12_qGoesOn_236 (by decide) ?_
  refine s_icmp_ne (pc := 238) (tgt := 245) dX12_qGoesOn_238 (by decide) ?_ ?_
  · refine s_iconst (pc := 241) (v := (1 : Int32)) dX12_qGoesOn_241 (by decide) ?_
    refine s_goto (pc := 242) (tgt := 246) dX12_qGoesOn_242 (by decide) ?_
    exact t_X12_qGoesOn_B246 N (1 : Int32) μ
  · refine s_iconst (pc := 245) (v := (2 : Int32)) dX12_qGoesOn_245 (by decide) ?_
    exact t_X12_qGoesOn_B246 N (2 : Int32) μ
def f_X12_qGoesOn_B178 (N : Nat) (c1 : Int32) (kb : z_S → Option (Int32 × z_S)) (e185 : z_S → Option (Int32 × z_S)) (μ : z_S) : Option (Int32 × z_S) :=
  z_bn (f_X12_qDrops N μ) fun _ μ_31 => kb μ_31
theorem t_X12_qGoesOn_B178 (N : Nat) (c1 : Int32)  (kb : z_S → Option (Int32 × z_S)) (e185 : z_S → Option (Int32 × z_S)) (hkb : ∀  (μ : z_S), z_sim false rI mX12_qGoesOn 3 (kb μ) 162 [(0, .ref 253), (1, .int c1)] [] μ) (he185 : ∀  (μ : z_S), z_sim false rI mX12_qGoesOn 3 (e185 μ) 185 [(0, .ref 253), (1, .int c1)] [] μ)   (μ : z_S) : z_sim false rI mX12_qGoesOn 3 (f_X12_qGoesOn_B178 N c1 kb e185  μ) 178 [(0, .ref 253), (1, .int c1)] [] μ := by
  unfold f_X12_qGoesOn_B178
  refine s_aload_n (pc := 178) 0 dX12_qGoesOn_178 rfl rfl ?_
  refine s_callVV (pc := 179) (as := []) (st := []) dX12_qGoesOn_179 lk_12_600 kd_253 (t_X12_qDrops N μ) (by omega) rfl (by decide) rfl (fun _ μ_31 => ?_)
  refine s_goto (pc := 182) (tgt := 162) dX12_qGoesOn_182 (by decide) ?_
  exact hkb μ_31
def b_X12_qGoesOn_L162 (N : Nat) (c1 : Int32) (kb : z_S → Option (Int32 × z_S)) (e185 : z_S → Option (Int32 × z_S)) (μ : z_S) : Option (Int32 × z_S) :=
  z_bn (f_X12_qIsOn N (3 : Int32) μ) fun x17 μ_29 => if x17 = 0 then (z_bn (f_X12_qIsOn N (4 : Int32) μ_29) fun x18 μ_30 => if x18 = 0 then (e185 μ_30) else f_X12_qGoesOn_B178 N c1 kb e185 μ_30) else f_X12_qGoesOn_B178 N c1 kb e185 μ_29
theorem tb_X12_qGoesOn_L162 (N : Nat) (c1 : Int32) (kb : z_S → Option (Int32 × z_S)) (e185 : z_S → Option (Int32 × z_S)) (hkb : ∀ (μ : z_S), z_sim false rI mX12_qGoesOn 3 (kb μ) 162 [(0, .ref 253), (1, .int c1)] [] μ) (he185 : ∀ (μ : z_S), z_sim false rI mX12_qGoesOn 3 (e185 μ) 185 [(0, .ref 253), (1, .int c1)] [] μ) (μ : z_S) : z_sim false rI mX12_qGoesOn 3 (b_X12_qGoesOn_L162 N c1 kb e185 μ) 162 [(0, .ref 253), (1, .int c1)] [] μ := by
  unfold b_X12_qGoesOn_L162
  refine s_aload_n (pc := 162) 0 dX12_qGoesOn_162 rfl rfl ?_
  refine s_iconst (pc := 163) (v := (3 : Int32)) dX12_qGoesOn_163 (by decide) ?_
  refine s_callVI (pc := 164) (as := [.int (3 : Int32)]) (st := []) dX12_qGoesOn_164 lk_12_627 kd_253 (t_X12_qIsOn N (3 : Int32) μ) (by omega) rfl (by decide) rfl (fun x17 μ_29 => ?_)
  refine s_if_ne (pc := 167) (tgt := 178) dX12_qGoesOn_167 (by decide) ?_ ?_
  · refine s_aload_n (pc := 170) 0 dX12_qGoesOn_170 rfl rfl ?_
    refine s_iconst (pc := 171) (v := (4 : Int32)) dX12_qGoesOn_171 (by decide) ?_
    refine s_callVI (pc := 172) (as := [.int (4 : Int32)]) (st := []) dX12_qGoesOn_172 lk_12_627 kd_253 (t_X12_qIsOn N (4 : Int32) μ_29) (by omega) rfl (by decide) rfl (fun x18 μ_30 => ?_)
    refine s_if_eq (pc := 175) (tgt := 185) dX12_qGoesOn_175 (by decide) ?_ ?_
    · exact he185 μ_30
    · exact t_X12_qGoesOn_B178 N c1 kb e185 hkb he185 μ_30
  · exact t_X12_qGoesOn_B178 N c1 kb e185 hkb he185 μ_29
def f_X12_qGoesOn_L162 (N : Nat) (c1 : Int32) (e185 : z_S → Option (Int32 × z_S)) : Nat → z_S → Option (Int32 × z_S)
  | 0, _ => none
  | n + 1, μ => b_X12_qGoesOn_L162 N c1 (f_X12_qGoesOn_L162 N c1 e185 n) e185 μ
theorem t_X12_qGoesOn_L162 (N : Nat) (c1 : Int32) (e185 : z_S → Option (Int32 × z_S)) (he185 : ∀ (μ : z_S), z_sim false rI mX12_qGoesOn 3 (e185 μ) 185 [(0, .ref 253), (1, .int c1)] [] μ) : ∀ (n : Nat) (μ : z_S), z_sim false rI mX12_qGoesOn 3 (f_X12_qGoesOn_L162 N c1 e185 n μ) 162 [(0, .ref 253), (1, .int c1)] [] μ
  | 0, _ => s_none
  | n + 1, μ => tb_X12_qGoesOn_L162 N c1 (f_X12_qGoesOn_L162 N c1 e185 n) e185 (t_X12_qGoesOn_L162 N c1 e185 he185 n) he185 μ
def f_X12_qGoesOn_B161 (N : Nat)  (s0 : Int32) (μ : z_S) : Option (Int32 × z_S) :=
  f_X12_qGoesOn_L162 N s0 (fun μ185 => z_in (μ185.1 253 97) 1700 <| z_bd (z_setI μ185 331 (μ185.1 253 97).toNatClampNeg s0) fun μ_32 => z_bd (z_setI μ_32 253 97 ((μ_32.1 253 97) + (1 : Int32))) fun μ_33 => some ((1 : Int32), μ_33)) N μ
theorem t_X12_qGoesOn_B161 (N : Nat)     (s0 : Int32)  (μ : z_S) : z_sim false rI mX12_qGoesOn 3 (f_X12_qGoesOn_B161 N   s0 μ) 161 [(0, .ref 253)] [.int s0] μ := by
  unfold f_X12_qGoesOn_B161
  refine s_istore_n (pc := 161) (lv' := [(1, .int s0), (0, .ref 253)]) dX12_qGoesOn_161 rfl (by decide) rfl ?_
  refine s_sub (lv' := [(0, .ref 253), (1, .int s0)]) [1, 0] rfl ?_
  refine t_X12_qGoesOn_L162 N s0 _ ?_ N μ
  · intro μ185
    refine s_aload_n (pc := 185) 0 dX12_qGoesOn_185 rfl rfl ?_
    refine s_getR (pc := 186) (ci := 12) (k := 96) (r := 331) dX12_qGoesOn_186 fl_12_251 kd_253 rfl rs_253_96 ?_
    refine s_aload_n (pc := 189) 0 dX12_qGoesOn_189 rfl rfl ?_
    refine s_getI (pc := 190) (ci := 12) (k := 97) dX12_qGoesOn_190 fl_12_355 kd_253 rfl ?_
    refine s_iload_n (pc := 193) 1 dX12_qGoesOn_193 rfl rfl ?_
    refine s_iast (pc := 194) dX12_qGoesOn_194 kd_331 (fun μ_32 => ?_)
    refine s_aload_n (pc := 195) 0 dX12_qGoesOn_195 rfl rfl ?_
    refine s_dup (pc := 196) dX12_qGoesOn_196 rfl ?_
    refine s_getI (pc := 197) (ci := 12) (k := 97) dX12_qGoesOn_197 fl_12_355 kd_253 rfl ?_
    refine s_iconst (pc := 200) (v := (1 : Int32)) dX12_qGoesOn_200 (by decide) ?_
    refine s_iadd (pc := 201) dX12_qGoesOn_201 ?_
    refine s_putI (pc := 202) (ci := 12) (k := 97) dX12_qGoesOn_202 fl_12_355 kd_253 rfl rfl (fun μ_33 => ?_)
    refine s_iconst (pc := 205) (v := (1 : Int32)) dX12_qGoesOn_205 (by decide) ?_
    exact s_zret0 (pc := 206) dX12_qGoesOn_206 rfl rfl
def f_X12_qGoesOn_B140 (N : Nat)   (μ : z_S) : Option (Int32 × z_S) :=
  z_in ((μ.1 253 2) - (1 : Int32)) 1600 <| if (μ.1 254 ((μ.1 253 2) - (1 : Int32)).toNatClampNeg) = (42 : Int32) then (f_X12_qGoesOn_B161 N (3 : Int32) μ) else f_X12_qGoesOn_B161 N (4 : Int32) μ
theorem t_X12_qGoesOn_B140 (N : Nat)       (μ : z_S) : z_sim false rI mX12_qGoesOn 3 (f_X12_qGoesOn_B140 N    μ) 140 [(0, .ref 253)] [] μ := by
  unfold f_X12_qGoesOn_B140
  refine s_aload_n (pc := 140) 0 dX12_qGoesOn_140 rfl rfl ?_
  refine s_getR (pc := 141) (ci := 12) (k := 0) (r := 254) dX12_qGoesOn_141 fl_12_7 kd_253 rfl rs_253_0 ?_
  refine s_aload_n (pc := 144) 0 dX12_qGoesOn_144 rfl rfl ?_
  refine s_getI (pc := 145) (ci := 12) (k := 2) dX12_qGoesOn_145 fl_12_269 kd_253 rfl ?_
  refine s_iconst (pc := 148) (v := (1 : Int32)) dX12_qGoesOn_148 (by decide) ?_
  refine s_isub (pc := 149) dX12_qGoesOn_149 ?_
  refine s_iald (pc := 150) dX12_qGoesOn_150 kd_254 ?_
  refine s_bipush (pc := 151) (v := (42 : Int32)) dX12_qGoesOn_151 (by decide) ?_
  refine s_icmp_ne (pc := 153) (tgt := 160) dX12_qGoesOn_153 (by decide) ?_ ?_
  · refine s_iconst (pc := 156) (v := (3 : Int32)) dX12_qGoesOn_156 (by decide) ?_
    refine s_goto (pc := 157) (tgt := 161) dX12_qGoesOn_157 (by decide) ?_
    exact t_X12_qGoesOn_B161 N (3 : Int32) μ
  · refine s_iconst (pc := 160) (v := (4 : Int32)) dX12_qGoesOn_160 (by decide) ?_
    exact t_X12_qGoesOn_B161 N (4 : Int32) μ
def f_X12_qGoesOn_B122 (N : Nat)   (μ : z_S) : Option (Int32 × z_S) :=
  z_bn (f_X12_takesSign N (42 : Int32) μ) fun x5 μ_11 => if x5 = 0 then (z_bn (f_X12_takesSign N (47 : Int32) μ_11) fun x6 μ_12 => if x6 = 0 then (z_bn (f_X12_takesSign N (43 : Int32) μ_12) fun x7 μ_13 => if x7 = 0 then (z_bn (f_X12_takesSign N (45 : Int32) μ_13) fun x8 μ_14 => if x8 = 0 then (z_bn (f_X12_qBracket N μ_14) fun x9 μ_15 => if x9 = (21 : Int32) then (f_X12_qGoesOn_B326 N μ_15) else z_bn (f_X12_qBracket N μ_15) fun x11 μ_19 => if x11 = (22 : Int32) then (f_X12_qGoesOn_B326 N μ_19) else z_bn (f_X12_qBracket N μ_19) fun x12 μ_20 => if x12 = (-1 : Int32) then (some ((0 : Int32), μ_20)) else if (μ_20.1 253 5) = 0 then (z_bn (f_X12_fail N (1 : Int32) (μ_20.1 253 2) μ_20) fun _ μ_21 => some ((0 : Int32), μ_21)) else some ((0 : Int32), μ_20)) else f_X12_qGoesOn_B225 N μ_14) else f_X12_qGoesOn_B225 N μ_13) else f_X12_qGoesOn_B140 N μ_12) else f_X12_qGoesOn_B140 N μ_11
theorem t_X12_qGoesOn_B122 (N : Nat)       (μ : z_S) : z_sim false rI mX12_qGoesOn 3 (f_X12_qGoesOn_B122 N    μ) 122 [(0, .ref 253)] [] μ := by
  unfold f_X12_qGoesOn_B122
  refine s_aload_n (pc := 122) 0 dX12_qGoesOn_122 rfl rfl ?_
  refine s_bipush (pc := 123) (v := (42 : Int32)) dX12_qGoesOn_123 (by decide) ?_
  refine s_callVI (pc := 125) (as := [.int (42 : Int32)]) (st := []) dX12_qGoesOn_125 lk_12_297 kd_253 (t_X12_takesSign N (42 : Int32) μ) (by omega) rfl (by decide) rfl (fun x5 μ_11 => ?_)
  refine s_if_ne (pc := 128) (tgt := 140) dX12_qGoesOn_128 (by decide) ?_ ?_
  · refine s_aload_n (pc := 131) 0 dX12_qGoesOn_131 rfl rfl ?_
    refine s_bipush (pc := 132) (v := (47 : Int32)) dX12_qGoesOn_132 (by decide) ?_
    refine s_callVI (pc := 134) (as := [.int (47 : Int32)]) (st := []) dX12_qGoesOn_134 lk_12_297 kd_253 (t_X12_takesSign N (47 : Int32) μ_11) (by omega) rfl (by decide) rfl (fun x6 μ_12 => ?_)
    refine s_if_eq (pc := 137) (tgt := 207) dX12_qGoesOn_137 (by decide) ?_ ?_
    · refine s_aload_n (pc := 207) 0 dX12_qGoesOn_207 rfl rfl ?_
      refine s_bipush (pc := 208) (v := (43 : Int32)) dX12_qGoesOn_208 (by decide) ?_
      refine s_callVI (pc := 210) (as := [.int (43 : Int32)]) (st := []) dX12_qGoesOn_210 lk_12_297 kd_253 (t_X12_takesSign N (43 : Int32) μ_12) (by omega) rfl (by decide) rfl (fun x7 μ_13 => ?_)
      refine s_if_ne (pc := 213) (tgt := 225) dX12_qGoesOn_213 (by decide) ?_ ?_
      · refine s_aload_n (pc := 216) 0 dX12_qGoesOn_216 rfl rfl ?_
        refine s_bipush (pc := 217) (v := (45 : Int32)) dX12_qGoesOn_217 (by decide) ?_
        refine s_callVI (pc := 219) (as := [.int (45 : Int32)]) (st := []) dX12_qGoesOn_219 lk_12_297 kd_253 (t_X12_takesSign N (45 : Int32) μ_13) (by omega) rfl (by decide) rfl (fun x8 μ_14 => ?_)
        refine s_if_eq (pc := 222) (tgt := 308) dX12_qGoesOn_222 (by decide) ?_ ?_
        · refine s_aload_n (pc := 308) 0 dX12_qGoesOn_308 rfl rfl ?_
          refine s_callVI (pc := 309) (as := []) (st := []) dX12_qGoesOn_309 lk_12_621 kd_253 (t_X12_qBracket N μ_14) (by omega) rfl (by decide) rfl (fun x9 μ_15 => ?_)
          refine s_bipush (pc := 312) (v := (21 : Int32)) dX12_qGoesOn_312 (by decide) ?_
          refine s_icmp_eq (pc := 314) (tgt := 326) dX12_qGoesOn_314 (by decide) ?_ ?_
          · exact t_X12_qGoesOn_B326 N μ_15
          · refine s_aload_n (pc := 317) 0 dX12_qGoesOn_317 rfl rfl ?_
            refine s_callVI (pc := 318) (as := []) (st := []) dX12_qGoesOn_318 lk_12_621 kd_253 (t_X12_qBracket N μ_15) (by omega) rfl (by decide) rfl (fun x11 μ_19 => ?_)
            refine s_bipush (pc := 321) (v := (22 : Int32)) dX12_qGoesOn_321 (by decide) ?_
            refine s_icmp_ne (pc := 323) (tgt := 362) dX12_qGoesOn_323 (by decide) ?_ ?_
            · exact t_X12_qGoesOn_B326 N μ_19
            · refine s_aload_n (pc := 362) 0 dX12_qGoesOn_362 rfl rfl ?_
              refine s_callVI (pc := 363) (as := []) (st := []) dX12_qGoesOn_363 lk_12_621 kd_253 (t_X12_qBracket N μ_19) (by omega) rfl (by decide) rfl (fun x12 μ_20 => ?_)
              refine s_iconst (pc := 366) (v := (-1 : Int32)) dX12_qGoesOn_366 (by decide) ?_
              refine s_icmp_eq (pc := 367) (tgt := 386) dX12_qGoesOn_367 (by decide) ?_ ?_
              · refine s_iconst (pc := 386) (v := (0 : Int32)) dX12_qGoesOn_386 (by decide) ?_
                exact s_zret0 (pc := 387) dX12_qGoesOn_387 rfl rfl
              · refine s_aload_n (pc := 370) 0 dX12_qGoesOn_370 rfl rfl ?_
                refine s_getI (pc := 371) (ci := 12) (k := 5) dX12_qGoesOn_371 fl_12_263 kd_253 rfl ?_
                refine s_if_ne (pc := 374) (tgt := 386) dX12_qGoesOn_374 (by decide) ?_ ?_
                · refine s_aload_n (pc := 377) 0 dX12_qGoesOn_377 rfl rfl ?_
                  refine s_iconst (pc := 378) (v := (1 : Int32)) dX12_qGoesOn_378 (by decide) ?_
                  refine s_aload_n (pc := 379) 0 dX12_qGoesOn_379 rfl rfl ?_
                  refine s_getI (pc := 380) (ci := 12) (k := 2) dX12_qGoesOn_380 fl_12_269 kd_253 rfl ?_
                  refine s_callVV (pc := 383) (as := [.int (1 : Int32), .int (μ_20.1 253 2)]) (st := []) dX12_qGoesOn_383 lk_12_293 kd_253 (t_X12_fail N (1 : Int32) (μ_20.1 253 2) μ_20) (by omega) rfl (by decide) rfl (fun _ μ_21 => ?_)
                  refine s_iconst (pc := 386) (v := (0 : Int32)) dX12_qGoesOn_386 (by decide) ?_
                  exact s_zret0 (pc := 387) dX12_qGoesOn_387 rfl rfl
                · refine s_iconst (pc := 386) (v := (0 : Int32)) dX12_qGoesOn_386 (by decide) ?_
                  exact s_zret0 (pc := 387) dX12_qGoesOn_387 rfl rfl
        · exact t_X12_qGoesOn_B225 N μ_14
      · exact t_X12_qGoesOn_B225 N μ_13
    · exact t_X12_qGoesOn_B140 N μ_12
  · exact t_X12_qGoesOn_B140 N μ_11
def f_X12_qGoesOn (N : Nat) (μ : z_S) : Option (Int32 × z_S) :=
  f_X12_qGoesOn_L0 N (fun μ122 => f_X12_qGoesOn_B122 N μ122) N μ
theorem t_X12_qGoesOn (N : Nat) (μ : z_S) : z_met false rI mX12_qGoesOn 3 [.ref 253] μ (f_X12_qGoesOn N μ) := by
  refine z_met.of (by decide +kernel) (by show _ ≤ _; first | decide | exact Nat.le_of_ble_eq_true rfl) (lv := [(0, .ref 253)]) rfl ?_
  unfold f_X12_qGoesOn
  refine t_X12_qGoesOn_L0 N _ ?_ N μ
  · intro μ122
    exact t_X12_qGoesOn_B122 N μ122
def f_X12_qSums_B49 (N : Nat) (c1 : Int32) (kb : Int32 → z_S → Option (Unit × z_S)) (e53 : z_S → Option (Unit × z_S)) (s0 : Int32) (μ : z_S) : Option (Unit × z_S) :=
  kb s0 μ
theorem t_X12_qSums_B49 (N : Nat) (c1 : Int32)  (kb : Int32 → z_S → Option (Unit × z_S)) (e53 : z_S → Option (Unit × z_S)) (hkb : ∀ (a2 : Int32) (μ : z_S), z_sim false rV mX12_qSums 6 (kb a2 μ) 15 [(0, .ref 253), (1, .int c1), (2, .int a2)] [] μ) (he53 : ∀  (μ : z_S), z_sim false rV mX12_qSums 6 (e53 μ) 53 [(0, .ref 253), (1, .int c1)] [] μ) (s0 : Int32)  (μ : z_S) : z_sim false rV mX12_qSums 6 (f_X12_qSums_B49 N c1 kb e53 s0 μ) 49 [(0, .ref 253), (1, .int c1)] [.int s0] μ := by
  unfold f_X12_qSums_B49
  refine s_istore_n (pc := 49) (lv' := [(2, .int s0), (0, .ref 253), (1, .int c1)]) dX12_qSums_49 rfl (by decide) rfl ?_
  refine s_goto (pc := 50) (tgt := 15) dX12_qSums_50 (by decide) ?_
  refine s_sub (lv' := [(0, .ref 253), (1, .int c1), (2, .int s0)]) [1, 2, 0] rfl ?_
  exact hkb s0 μ
def f_X12_qSums_B48 (N : Nat) (c1 : Int32) (kb : Int32 → z_S → Option (Unit × z_S)) (e53 : z_S → Option (Unit × z_S)) (μ : z_S) : Option (Unit × z_S) :=
  f_X12_qSums_B49 N c1 kb e53 (0 : Int32) μ
theorem t_X12_qSums_B48 (N : Nat) (c1 : Int32)  (kb : Int32 → z_S → Option (Unit × z_S)) (e53 : z_S → Option (Unit × z_S)) (hkb : ∀ (a2 : Int32) (μ : z_S), z_sim false rV mX12_qSums 6 (kb a2 μ) 15 [(0, .ref 253), (1, .int c1), (2, .int a2)] [] μ) (he53 : ∀  (μ : z_S), z_sim false rV mX12_qSums 6 (e53 μ) 53 [(0, .ref 253), (1, .int c1)] [] μ)   (μ : z_S) : z_sim false rV mX12_qSums 6 (f_X12_qSums_B48 N c1 kb e53  μ) 48 [(0, .ref 253), (1, .int c1)] [] μ := by
  unfold f_X12_qSums_B48
  refine s_iconst (pc := 48) (v := (0 : Int32)) dX12_qSums_48 (by decide) ?_
  exact t_X12_qSums_B49 N c1 kb e53 hkb he53 (0 : Int32) μ
def b_X12_qSums_L15 (N : Nat) (c1 : Int32) (kb : Int32 → z_S → Option (Unit × z_S)) (e53 : z_S → Option (Unit × z_S)) (v2 : Int32) (μ : z_S) : Option (Unit × z_S) :=
  if v2 = 0 then (e53 μ) else if (μ.1 253 5) = 0 then (z_bn (f_X12_qPartTold N μ) fun _ μ_2 => if (μ_2.1 253 5) = 0 then (z_bn (f_X12_qGoesOn N μ_2) fun x2 μ_3 => if x2 = 0 then (f_X12_qSums_B48 N c1 kb e53 μ_3) else f_X12_qSums_B49 N c1 kb e53 (1 : Int32) μ_3) else f_X12_qSums_B48 N c1 kb e53 μ_2) else e53 μ
theorem tb_X12_qSums_L15 (N : Nat) (c1 : Int32) (kb : Int32 → z_S → Option (Unit × z_S)) (e53 : z_S → Option (Unit × z_S)) (hkb : ∀ (a2 : Int32) (μ : z_S), z_sim false rV mX12_qSums 6 (kb a2 μ) 15 [(0, .ref 253), (1, .int c1), (2, .int a2)] [] μ) (he53 : ∀ (μ : z_S), z_sim false rV mX12_qSums 6 (e53 μ) 53 [(0, .ref 253), (1, .int c1)] [] μ) (v2 : Int32) (μ : z_S) : z_sim false rV mX12_qSums 6 (b_X12_qSums_L15 N c1 kb e53 v2 μ) 15 [(0, .ref 253), (1, .int c1), (2, .int v2)] [] μ := by
  unfold b_X12_qSums_L15
  refine s_iload_n (pc := 15) 2 dX12_qSums_15 rfl rfl ?_
  refine s_if_eq (pc := 16) (tgt := 53) dX12_qSums_16 (by decide) ?_ ?_
  · refine s_sub (lv' := [(0, .ref 253), (1, .int c1)]) [0, 1] rfl ?_
    exact he53 μ
  · refine s_aload_n (pc := 19) 0 dX12_qSums_19 rfl rfl ?_
    refine s_getI (pc := 20) (ci := 12) (k := 5) dX12_qSums_20 fl_12_263 kd_253 rfl ?_
    refine s_if_ne (pc := 23) (tgt := 53) dX12_qSums_23 (by decide) ?_ ?_
    · refine s_aload_n (pc := 26) 0 dX12_qSums_26 rfl rfl ?_
      refine s_callVV (pc := 27) (as := []) (st := []) dX12_qSums_27 lk_12_630 kd_253 (t_X12_qPartTold N μ) (by omega) rfl (by decide) rfl (fun _ μ_2 => ?_)
      refine s_aload_n (pc := 30) 0 dX12_qSums_30 rfl rfl ?_
      refine s_getI (pc := 31) (ci := 12) (k := 5) dX12_qSums_31 fl_12_263 kd_253 rfl ?_
      refine s_if_ne (pc := 34) (tgt := 48) dX12_qSums_34 (by decide) ?_ ?_
      · refine s_aload_n (pc := 37) 0 dX12_qSums_37 rfl rfl ?_
        refine s_callVI (pc := 38) (as := []) (st := []) dX12_qSums_38 lk_12_633 kd_253 (t_X12_qGoesOn N μ_2) (by omega) rfl (by decide) rfl (fun x2 μ_3 => ?_)
        refine s_if_eq (pc := 41) (tgt := 48) dX12_qSums_41 (by decide) ?_ ?_
        · refine s_sub (lv' := [(0, .ref 253), (1, .int c1)]) [0, 1] rfl ?_
          exact t_X12_qSums_B48 N c1 kb e53 hkb he53 μ_3
        · refine s_iconst (pc := 44) (v := (1 : Int32)) dX12_qSums_44 (by decide) ?_
          refine s_goto (pc := 45) (tgt := 49) dX12_qSums_45 (by decide) ?_
          refine s_sub (lv' := [(0, .ref 253), (1, .int c1)]) [0, 1] rfl ?_
          exact t_X12_qSums_B49 N c1 kb e53 hkb he53 (1 : Int32) μ_3
      · refine s_sub (lv' := [(0, .ref 253), (1, .int c1)]) [0, 1] rfl ?_
        exact t_X12_qSums_B48 N c1 kb e53 hkb he53 μ_2
    · refine s_sub (lv' := [(0, .ref 253), (1, .int c1)]) [0, 1] rfl ?_
      exact he53 μ
def f_X12_qSums_L15 (N : Nat) (c1 : Int32) (e53 : z_S → Option (Unit × z_S)) : Nat → Int32 → z_S → Option (Unit × z_S)
  | 0, _, _ => none
  | n + 1, v2, μ => b_X12_qSums_L15 N c1 (f_X12_qSums_L15 N c1 e53 n) e53 v2 μ
theorem t_X12_qSums_L15 (N : Nat) (c1 : Int32) (e53 : z_S → Option (Unit × z_S)) (he53 : ∀ (μ : z_S), z_sim false rV mX12_qSums 6 (e53 μ) 53 [(0, .ref 253), (1, .int c1)] [] μ) : ∀ (n : Nat) (v2 : Int32) (μ : z_S), z_sim false rV mX12_qSums 6 (f_X12_qSums_L15 N c1 e53 n v2 μ) 15 [(0, .ref 253), (1, .int c1), (2, .int v2)] [] μ
  | 0, _, _ => s_none
  | n + 1, v2, μ => tb_X12_qSums_L15 N c1 (f_X12_qSums_L15 N c1 e53 n) e53 (t_X12_qSums_L15 N c1 e53 he53 n) he53 v2 μ
def b_X12_qSums_L53 (N : Nat) (c1 : Int32) (kb : z_S → Option (Unit × z_S)) (e78 : z_S → Option (Unit × z_S)) (μ : z_S) : Option (Unit × z_S) :=
  if (μ.1 253 5) = 0 then (if (μ.1 253 99) < (μ.1 253 97) then (z_bn (f_X12_qDrops N μ) fun _ μ_4 => kb μ_4) else e78 μ) else e78 μ
theorem tb_X12_qSums_L53 (N : Nat) (c1 : Int32) (kb : z_S → Option (Unit × z_S)) (e78 : z_S → Option (Unit × z_S)) (hkb : ∀ (μ : z_S), z_sim false rV mX12_qSums 6 (kb μ) 53 [(0, .ref 253), (1, .int c1)] [] μ) (he78 : ∀ (μ : z_S), z_sim false rV mX12_qSums 6 (e78 μ) 78 [(0, .ref 253), (1, .int c1)] [] μ) (μ : z_S) : z_sim false rV mX12_qSums 6 (b_X12_qSums_L53 N c1 kb e78 μ) 53 [(0, .ref 253), (1, .int c1)] [] μ := by
  unfold b_X12_qSums_L53
  refine s_aload_n (pc := 53) 0 dX12_qSums_53 rfl rfl ?_
  refine s_getI (pc := 54) (ci := 12) (k := 5) dX12_qSums_54 fl_12_263 kd_253 rfl ?_
  refine s_if_ne (pc := 57) (tgt := 78) dX12_qSums_57 (by decide) ?_ ?_
  · refine s_aload_n (pc := 60) 0 dX12_qSums_60 rfl rfl ?_
    refine s_getI (pc := 61) (ci := 12) (k := 97) dX12_qSums_61 fl_12_355 kd_253 rfl ?_
    refine s_aload_n (pc := 64) 0 dX12_qSums_64 rfl rfl ?_
    refine s_getI (pc := 65) (ci := 12) (k := 99) dX12_qSums_65 fl_12_361 kd_253 rfl ?_
    refine s_icmp_le (pc := 68) (tgt := 78) dX12_qSums_68 (by decide) ?_ ?_
    · refine s_aload_n (pc := 71) 0 dX12_qSums_71 rfl rfl ?_
      refine s_callVV (pc := 72) (as := []) (st := []) dX12_qSums_72 lk_12_600 kd_253 (t_X12_qDrops N μ) (by omega) rfl (by decide) rfl (fun _ μ_4 => ?_)
      refine s_goto (pc := 75) (tgt := 53) dX12_qSums_75 (by decide) ?_
      exact hkb μ_4
    · exact he78 μ
  · exact he78 μ
def f_X12_qSums_L53 (N : Nat) (c1 : Int32) (e78 : z_S → Option (Unit × z_S)) : Nat → z_S → Option (Unit × z_S)
  | 0, _ => none
  | n + 1, μ => b_X12_qSums_L53 N c1 (f_X12_qSums_L53 N c1 e78 n) e78 μ
theorem t_X12_qSums_L53 (N : Nat) (c1 : Int32) (e78 : z_S → Option (Unit × z_S)) (he78 : ∀ (μ : z_S), z_sim false rV mX12_qSums 6 (e78 μ) 78 [(0, .ref 253), (1, .int c1)] [] μ) : ∀ (n : Nat) (μ : z_S), z_sim false rV mX12_qSums 6 (f_X12_qSums_L53 N c1 e78 n μ) 53 [(0, .ref 253), (1, .int c1)] [] μ
  | 0, _ => s_none
  | n + 1, μ => tb_X12_qSums_L53 N c1 (f_X12_qSums_L53 N c1 e78 n) e78 (t_X12_qSums_L53 N c1 e78 he78 n) he78 μ
def f_X12_qSums_B78 (N : Nat)  (v1 : Int32) (μ : z_S) : Option (Unit × z_S) :=
  z_bd (z_setI μ 253 99 v1) fun μ_5 => some ((), μ_5)
theorem t_X12_qSums_B78 (N : Nat)     (v1 : Int32)  (μ : z_S) : z_sim false rV mX12_qSums 6 (f_X12_qSums_B78 N   v1 μ) 78 [(0, .ref 253), (1, .int v1)] [] μ := by
  unfold f_X12_qSums_B78
  refine s_aload_n (pc := 78) 0 dX12_qSums_78 rfl rfl ?_
  refine s_iload_n (pc := 79) 1 dX12_qSums_79 rfl rfl ?_
  refine s_putI (pc := 80) (ci := 12) (k := 99) dX12_qSums_80 fl_12_361 kd_253 rfl rfl (fun μ_5 => ?_)
  exact s_vret (pc := 83) dX12_qSums_83 rfl
def f_X12_qSums (N : Nat) (μ : z_S) : Option (Unit × z_S) :=
  z_bd (μ.1 253 99) fun x1 => z_bd (z_setI μ 253 99 (μ.1 253 97)) fun μ_1 => f_X12_qSums_L15 N x1 (fun μ53 => f_X12_qSums_L53 N x1 (fun μ78 => f_X12_qSums_B78 N x1 μ78) N μ53) N (1 : Int32) μ_1
theorem t_X12_qSums (N : Nat) (μ : z_S) : z_met false rV mX12_qSums 6 [.ref 253] μ (f_X12_qSums N μ) := by
  refine z_met.of (by decide +kernel) (by show _ ≤ _; first | decide | exact Nat.le_of_ble_eq_true rfl) (lv := [(0, .ref 253)]) rfl ?_
  unfold f_X12_qSums
  refine s_aload_n (pc := 0) 0 dX12_qSums_0 rfl rfl ?_
  refine s_getI (pc := 1) (ci := 12) (k := 99) dX12_qSums_1 fl_12_361 kd_253 rfl ?_
  refine s_letI (fun x1 => ?_)
  refine s_istore_n (pc := 4) (lv' := [(1, .int x1), (0, .ref 253)]) dX12_qSums_4 rfl (by decide) rfl ?_
  refine s_aload_n (pc := 5) 1 dX12_qSums_5 rfl rfl ?_
  refine s_aload_n (pc := 6) 1 dX12_qSums_6 rfl rfl ?_
  refine s_getI (pc := 7) (ci := 12) (k := 97) dX12_qSums_7 fl_12_355 kd_253 rfl ?_
  refine s_putI (pc := 10) (ci := 12) (k := 99) dX12_qSums_10 fl_12_361 kd_253 rfl rfl (fun μ_1 => ?_)
  refine s_iconst (pc := 13) (v := (1 : Int32)) dX12_qSums_13 (by decide) ?_
  refine s_istore_n (pc := 14) (lv' := [(2, .int (1 : Int32)), (1, .int x1), (0, .ref 253)]) dX12_qSums_14 rfl (by decide) rfl ?_
  refine s_sub (lv' := [(0, .ref 253), (1, .int x1), (2, .int (1 : Int32))]) [2, 1, 0] rfl ?_
  refine t_X12_qSums_L15 N x1 _ ?_ N (1 : Int32) μ_1
  · intro μ53
    refine t_X12_qSums_L53 N x1 _ ?_ N μ53
    · intro μ78
      exact t_X12_qSums_B78 N x1 μ78
def b_X12_codesTold_L80 (N : Nat) (c1 : Int32) (kb : Int32 → z_S → Option (Unit × z_S)) (e119 : z_S → Option (Unit × z_S)) (v3 : Int32) (μ : z_S) : Option (Unit × z_S) :=
  if v3 < (μ.1 253 95) then (z_in v3 1700 <| z_in (μ.1 253 51) 3200 <| z_bd (z_setI μ 295 (μ.1 253 51).toNatClampNeg (μ.1 330 v3.toNatClampNeg)) fun μ_8 => z_bd (z_setI μ_8 253 51 ((μ_8.1 253 51) + (1 : Int32))) fun μ_9 => z_bd (v3 + 1) fun x1 => kb x1 μ_9) else e119 μ
theorem tb_X12_codesTold_L80 (N : Nat) (c1 : Int32) (kb : Int32 → z_S → Option (Unit × z_S)) (e119 : z_S → Option (Unit × z_S)) (hkb : ∀ (a3 : Int32) (μ : z_S), z_sim false rV mX12_codesTold 7 (kb a3 μ) 80 [(0, .ref 253), (1, .int c1), (3, .int a3)] [] μ) (he119 : ∀ (μ : z_S), z_sim false rV mX12_codesTold 7 (e119 μ) 119 [(0, .ref 253), (1, .int c1)] [] μ) (v3 : Int32) (μ : z_S) : z_sim false rV mX12_codesTold 7 (b_X12_codesTold_L80 N c1 kb e119 v3 μ) 80 [(0, .ref 253), (1, .int c1), (3, .int v3)] [] μ := by
  unfold b_X12_codesTold_L80
  refine s_iload_n (pc := 80) 2 dX12_codesTold_80 rfl rfl ?_
  refine s_aload_n (pc := 81) 0 dX12_codesTold_81 rfl rfl ?_
  refine s_getI (pc := 82) (ci := 12) (k := 95) dX12_codesTold_82 fl_12_352 kd_253 rfl ?_
  refine s_icmp_ge (pc := 85) (tgt := 119) dX12_codesTold_85 (by decide) ?_ ?_
  · refine s_aload_n (pc := 88) 0 dX12_codesTold_88 rfl rfl ?_
    refine s_getR (pc := 89) (ci := 12) (k := 50) (r := 295) dX12_codesTold_89 fl_12_139 kd_253 rfl rs_253_50 ?_
    refine s_aload_n (pc := 92) 0 dX12_codesTold_92 rfl rfl ?_
    refine s_getI (pc := 93) (ci := 12) (k := 51) dX12_codesTold_93 fl_12_367 kd_253 rfl ?_
    refine s_aload_n (pc := 96) 0 dX12_codesTold_96 rfl rfl ?_
    refine s_getR (pc := 97) (ci := 12) (k := 94) (r := 330) dX12_codesTold_97 fl_12_248 kd_253 rfl rs_253_94 ?_
    refine s_iload_n (pc := 100) 2 dX12_codesTold_100 rfl rfl ?_
    refine s_iald (pc := 101) dX12_codesTold_101 kd_330 ?_
    refine s_iast (pc := 102) dX12_codesTold_102 kd_295 (fun μ_8 => ?_)
    refine s_aload_n (pc := 103) 0 dX12_codesTold_103 rfl rfl ?_
    refine s_dup (pc := 104) dX12_codesTold_104 rfl ?_
    refine s_getI (pc := 105) (ci := 12) (k := 51) dX12_codesTold_105 fl_12_367 kd_253 rfl ?_
    refine s_iconst (pc := 108) (v := (1 : Int32)) dX12_codesTold_108 (by decide) ?_
    refine s_iadd (pc := 109) dX12_codesTold_109 ?_
    refine s_putI (pc := 110) (ci := 12) (k := 51) dX12_codesTold_110 fl_12_367 kd_253 rfl rfl (fun μ_9 => ?_)
    refine s_iincB (pc := 113) (lv' := fun x1 => [(3, .int x1), (0, .ref 253), (1, .int c1)]) (c := 1) 2 dX12_codesTold_113 rfl (by decide) (by decide) (fun _ => rfl) (fun x1 => ?_)
    refine s_goto (pc := 116) (tgt := 80) dX12_codesTold_116 (by decide) ?_
    refine s_sub (lv' := [(0, .ref 253), (1, .int c1), (3, .int x1)]) [1, 2, 0] rfl ?_
    exact hkb x1 μ_9
  · refine s_sub (lv' := [(0, .ref 253), (1, .int c1)]) [0, 1] rfl ?_
    exact he119 μ
def f_X12_codesTold_L80 (N : Nat) (c1 : Int32) (e119 : z_S → Option (Unit × z_S)) : Nat → Int32 → z_S → Option (Unit × z_S)
  | 0, _, _ => none
  | n + 1, v3, μ => b_X12_codesTold_L80 N c1 (f_X12_codesTold_L80 N c1 e119 n) e119 v3 μ
theorem t_X12_codesTold_L80 (N : Nat) (c1 : Int32) (e119 : z_S → Option (Unit × z_S)) (he119 : ∀ (μ : z_S), z_sim false rV mX12_codesTold 7 (e119 μ) 119 [(0, .ref 253), (1, .int c1)] [] μ) : ∀ (n : Nat) (v3 : Int32) (μ : z_S), z_sim false rV mX12_codesTold 7 (f_X12_codesTold_L80 N c1 e119 n v3 μ) 80 [(0, .ref 253), (1, .int c1), (3, .int v3)] [] μ
  | 0, _, _ => s_none
  | n + 1, v3, μ => tb_X12_codesTold_L80 N c1 (f_X12_codesTold_L80 N c1 e119 n) e119 (t_X12_codesTold_L80 N c1 e119 he119 n) he119 v3 μ
def f_X12_codesTold_B23 (N : Nat)  (v1 : Int32) (μ : z_S) : Option (Unit × z_S) :=
  if (μ.1 253 5) = 0 then (z_bd (z_setI μ 253 53 (1 : Int32)) fun μ_1 => z_bd (z_setI μ_1 253 95 (0 : Int32)) fun μ_2 => z_bd (z_setI μ_2 253 97 (0 : Int32)) fun μ_3 => z_bd (z_setI μ_3 253 98 (0 : Int32)) fun μ_4 => z_bd (z_setI μ_4 253 99 (0 : Int32)) fun μ_5 => z_bn (f_X12_qSums N μ_5) fun _ μ_6 => if (μ_6.1 253 5) = 0 then (z_in v1 4 <| z_bd (z_setI μ_6 293 v1.toNatClampNeg (μ_6.1 253 51)) fun μ_7 => f_X12_codesTold_L80 N v1 (fun μ119 => z_in v1 4 <| z_bd (z_setI μ119 294 v1.toNatClampNeg (μ119.1 253 51)) fun μ_10 => some ((), μ_10)) N (0 : Int32) μ_7) else some ((), μ_6)) else some ((), μ)
theorem t_X12_codesTold_B23 (N : Nat)     (v1 : Int32)  (μ : z_S) : z_sim false rV mX12_codesTold 7 (f_X12_codesTold_B23 N   v1 μ) 23 [(0, .ref 253), (1, .int v1)] [] μ := by
  unfold f_X12_codesTold_B23
  refine s_aload_n (pc := 23) 0 dX12_codesTold_23 rfl rfl ?_
  refine s_getI (pc := 24) (ci := 12) (k := 5) dX12_codesTold_24 fl_12_263 kd_253 rfl ?_
  refine s_if_eq (pc := 27) (tgt := 31) dX12_codesTold_27 (by decide) ?_ ?_
  · refine s_aload_n (pc := 31) 0 dX12_codesTold_31 rfl rfl ?_
    refine s_iconst (pc := 32) (v := (1 : Int32)) dX12_codesTold_32 (by decide) ?_
    refine s_putZ (pc := 33) (ci := 12) (k := 53) dX12_codesTold_33 fl_12_318 kd_253 rfl rfl rfl rfl (fun μ_1 => ?_)
    refine s_aload_n (pc := 36) 0 dX12_codesTold_36 rfl rfl ?_
    refine s_iconst (pc := 37) (v := (0 : Int32)) dX12_codesTold_37 (by decide) ?_
    refine s_putI (pc := 38) (ci := 12) (k := 95) dX12_codesTold_38 fl_12_352 kd_253 rfl rfl (fun μ_2 => ?_)
    refine s_aload_n (pc := 41) 0 dX12_codesTold_41 rfl rfl ?_
    refine s_iconst (pc := 42) (v := (0 : Int32)) dX12_codesTold_42 (by decide) ?_
    refine s_putI (pc := 43) (ci := 12) (k := 97) dX12_codesTold_43 fl_12_355 kd_253 rfl rfl (fun μ_3 => ?_)
    refine s_aload_n (pc := 46) 0 dX12_codesTold_46 rfl rfl ?_
    refine s_iconst (pc := 47) (v := (0 : Int32)) dX12_codesTold_47 (by decide) ?_
    refine s_putI (pc := 48) (ci := 12) (k := 98) dX12_codesTold_48 fl_12_358 kd_253 rfl rfl (fun μ_4 => ?_)
    refine s_aload_n (pc := 51) 0 dX12_codesTold_51 rfl rfl ?_
    refine s_iconst (pc := 52) (v := (0 : Int32)) dX12_codesTold_52 (by decide) ?_
    refine s_putI (pc := 53) (ci := 12) (k := 99) dX12_codesTold_53 fl_12_361 kd_253 rfl rfl (fun μ_5 => ?_)
    refine s_aload_n (pc := 56) 0 dX12_codesTold_56 rfl rfl ?_
    refine s_callVV (pc := 57) (as := []) (st := []) dX12_codesTold_57 lk_12_364 kd_253 (t_X12_qSums N μ_5) (by omega) rfl (by decide) rfl (fun _ μ_6 => ?_)
    refine s_aload_n (pc := 60) 0 dX12_codesTold_60 rfl rfl ?_
    refine s_getI (pc := 61) (ci := 12) (k := 5) dX12_codesTold_61 fl_12_263 kd_253 rfl ?_
    refine s_if_eq (pc := 64) (tgt := 68) dX12_codesTold_64 (by decide) ?_ ?_
    · refine s_aload_n (pc := 68) 0 dX12_codesTold_68 rfl rfl ?_
      refine s_getR (pc := 69) (ci := 12) (k := 48) (r := 293) dX12_codesTold_69 fl_12_133 kd_253 rfl rs_253_48 ?_
      refine s_iload_n (pc := 72) 1 dX12_codesTold_72 rfl rfl ?_
      refine s_aload_n (pc := 73) 0 dX12_codesTold_73 rfl rfl ?_
      refine s_getI (pc := 74) (ci := 12) (k := 51) dX12_codesTold_74 fl_12_367 kd_253 rfl ?_
      refine s_iast (pc := 77) dX12_codesTold_77 kd_293 (fun μ_7 => ?_)
      refine s_iconst (pc := 78) (v := (0 : Int32)) dX12_codesTold_78 (by decide) ?_
      refine s_istore_n (pc := 79) (lv' := [(3, .int (0 : Int32)), (0, .ref 253), (1, .int v1)]) dX12_codesTold_79 rfl (by decide) rfl ?_
      refine s_sub (lv' := [(0, .ref 253), (1, .int v1), (3, .int (0 : Int32))]) [1, 2, 0] rfl ?_
      refine t_X12_codesTold_L80 N v1 _ ?_ N (0 : Int32) μ_7
      · intro μ119
        refine s_aload_n (pc := 119) 0 dX12_codesTold_119 rfl rfl ?_
        refine s_getR (pc := 120) (ci := 12) (k := 49) (r := 294) dX12_codesTold_120 fl_12_136 kd_253 rfl rs_253_49 ?_
        refine s_iload_n (pc := 123) 1 dX12_codesTold_123 rfl rfl ?_
        refine s_aload_n (pc := 124) 0 dX12_codesTold_124 rfl rfl ?_
        refine s_getI (pc := 125) (ci := 12) (k := 51) dX12_codesTold_125 fl_12_367 kd_253 rfl ?_
        refine s_iast (pc := 128) dX12_codesTold_128 kd_294 (fun μ_10 => ?_)
        exact s_vret (pc := 129) dX12_codesTold_129 rfl
    · exact s_vret (pc := 67) dX12_codesTold_67 rfl
  · exact s_vret (pc := 30) dX12_codesTold_30 rfl
def f_X12_codesTold (N : Nat) (a1 : Int32) (a2 : Int32) (μ : z_S) : Option (Unit × z_S) :=
  if (μ.1 253 5) = 0 then (z_in a1 4 <| if (μ.1 293 a1.toNatClampNeg) = (-1 : Int32) then (f_X12_codesTold_B23 N a1 μ) else z_bn (f_X12_fail N (5 : Int32) a2 μ) fun _ μ_11 => f_X12_codesTold_B23 N a1 μ_11) else f_X12_codesTold_B23 N a1 μ
theorem t_X12_codesTold (N : Nat) (a1 : Int32) (a2 : Int32) (μ : z_S) : z_met false rV mX12_codesTold 7 [.ref 253, .int a1, .int a2] μ (f_X12_codesTold N a1 a2 μ) := by
  refine z_met.of (by decide +kernel) (by show _ ≤ _; first | decide | exact Nat.le_of_ble_eq_true rfl) (lv := [(0, .ref 253), (1, .int a1), (2, .int a2)]) rfl ?_
  unfold f_X12_codesTold
  refine s_aload_n (pc := 0) 0 dX12_codesTold_0 rfl rfl ?_
  refine s_getI (pc := 1) (ci := 12) (k := 5) dX12_codesTold_1 fl_12_263 kd_253 rfl ?_
  refine s_if_ne (pc := 4) (tgt := 23) dX12_codesTold_4 (by decide) ?_ ?_
  · refine s_aload_n (pc := 7) 0 dX12_codesTold_7 rfl rfl ?_
    refine s_getR (pc := 8) (ci := 12) (k := 48) (r := 293) dX12_codesTold_8 fl_12_133 kd_253 rfl rs_253_48 ?_
    refine s_iload_n (pc := 11) 1 dX12_codesTold_11 rfl rfl ?_
    refine s_iald (pc := 12) dX12_codesTold_12 kd_293 ?_
    refine s_iconst (pc := 13) (v := (-1 : Int32)) dX12_codesTold_13 (by decide) ?_
    refine s_icmp_eq (pc := 14) (tgt := 23) dX12_codesTold_14 (by decide) ?_ ?_
    · refine s_sub (lv' := [(0, .ref 253), (1, .int a1)]) [0, 1] rfl ?_
      exact t_X12_codesTold_B23 N a1 μ
    · refine s_aload_n (pc := 17) 0 dX12_codesTold_17 rfl rfl ?_
      refine s_iconst (pc := 18) (v := (5 : Int32)) dX12_codesTold_18 (by decide) ?_
      refine s_iload_n (pc := 19) 2 dX12_codesTold_19 rfl rfl ?_
      refine s_callVV (pc := 20) (as := [.int (5 : Int32), .int a2]) (st := []) dX12_codesTold_20 lk_12_293 kd_253 (t_X12_fail N (5 : Int32) a2 μ) (by omega) rfl (by decide) rfl (fun _ μ_11 => ?_)
      refine s_sub (lv' := [(0, .ref 253), (1, .int a1)]) [0, 1] rfl ?_
      exact t_X12_codesTold_B23 N a1 μ_11
  · refine s_sub (lv' := [(0, .ref 253), (1, .int a1)]) [0, 1] rfl ?_
    exact t_X12_codesTold_B23 N a1 μ
def f_X12_statementTold_B222 (N : Nat)   (μ : z_S) : Option (Unit × z_S) :=
  z_bn (f_X12_asksSign N (59 : Int32) μ) fun _ μ_14 => z_bd (z_setI μ_14 253 52 ((μ_14.1 253 52) + (1 : Int32))) fun μ_15 => some ((), μ_15)
theorem t_X12_statementTold_B222 (N : Nat)       (μ : z_S) : z_sim false rV mX12_statementTold 8 (f_X12_statementTold_B222 N    μ) 222 [(0, .ref 253)] [] μ := by
  unfold f_X12_statementTold_B222
  refine s_aload_n (pc := 222) 0 dX12_statementTold_222 rfl rfl ?_
  refine s_bipush (pc := 223) (v := (59 : Int32)) dX12_statementTold_223 (by decide) ?_
  refine s_callVV (pc := 225) (as := [.int (59 : Int32)]) (st := []) dX12_statementTold_225 lk_12_395 kd_253 (t_X12_asksSign N (59 : Int32) μ) (by omega) rfl (by decide) rfl (fun _ μ_14 => ?_)
  refine s_aload_n (pc := 228) 0 dX12_statementTold_228 rfl rfl ?_
  refine s_dup (pc := 229) dX12_statementTold_229 rfl ?_
  refine s_getI (pc := 230) (ci := 12) (k := 52) dX12_statementTold_230 fl_12_370 kd_253 rfl ?_
  refine s_iconst (pc := 233) (v := (1 : Int32)) dX12_statementTold_233 (by decide) ?_
  refine s_iadd (pc := 234) dX12_statementTold_234 ?_
  refine s_putI (pc := 235) (ci := 12) (k := 52) dX12_statementTold_235 fl_12_370 kd_253 rfl rfl (fun μ_15 => ?_)
  exact s_vret (pc := 238) dX12_statementTold_238 rfl
def f_X12_statementTold (N : Nat) (μ : z_S) : Option (Unit × z_S) :=
  z_bd (μ.1 253 2) fun x1 => if (μ.1 253 52) = (80 : Int32) then (z_bn (f_X12_fail N (5 : Int32) x1 μ) fun _ μ_1 => some ((), μ_1)) else z_bn (f_X12_eats N 256 μ) fun x2 μ_2 => if x2 = 0 then (z_bn (f_X12_eats N 260 μ_2) fun x3 μ_3 => if x3 = 0 then (z_bn (f_X12_eats N 262 μ_3) fun x4 μ_4 => if x4 = 0 then (z_bn (f_X12_eats N 263 μ_4) fun x5 μ_5 => if x5 = 0 then (z_bn (f_X12_eats N 264 μ_5) fun x6 μ_6 => if x6 = 0 then (z_bn (f_X12_eats N 265 μ_6) fun x7 μ_7 => if x7 = 0 then (z_bn (f_X12_eats N 269 μ_7) fun x8 μ_8 => if x8 = 0 then (z_bn (f_X12_eats N 270 μ_8) fun x9 μ_9 => if x9 = 0 then (z_bn (f_X12_eats N 271 μ_9) fun x10 μ_10 => if x10 = 0 then (z_bn (f_X12_asks N 272 μ_10) fun _ μ_11 => z_bn (f_X12_number N (0 : Int32) (100 : Int32) μ_11) fun x11 μ_12 => z_bd (z_setI μ_12 292 1 x11) fun μ_13 => f_X12_statementTold_B222 N μ_13) else z_bn (f_X12_number N (0 : Int32) (99 : Int32) μ_10) fun x12 μ_16 => z_bd (z_setI μ_16 292 0 x12) fun μ_17 => f_X12_statementTold_B222 N μ_17) else z_bn (f_X12_codesTold N (1 : Int32) x1 μ_9) fun _ μ_18 => f_X12_statementTold_B222 N μ_18) else z_bn (f_X12_codesTold N (0 : Int32) x1 μ_8) fun _ μ_19 => f_X12_statementTold_B222 N μ_19) else z_bn (f_X12_helperTold N x1 μ_7) fun _ μ_20 => f_X12_statementTold_B222 N μ_20) else z_bn (f_X12_likeTold N x1 μ_6) fun _ μ_21 => f_X12_statementTold_B222 N μ_21) else z_bn (f_X12_nearTold N x1 μ_5) fun _ μ_22 => f_X12_statementTold_B222 N μ_22) else z_bn (f_X12_wishTold N μ_4) fun _ μ_23 => f_X12_statementTold_B222 N μ_23) else z_bn (f_X12_giftTold N x1 μ_3) fun _ μ_24 => f_X12_statementTold_B222 N μ_24) else z_bn (f_X12_letterTold N x1 μ_2) fun _ μ_25 => f_X12_statementTold_B222 N μ_25
theorem t_X12_statementTold (N : Nat) (μ : z_S) : z_met false rV mX12_statementTold 8 [.ref 253] μ (f_X12_statementTold N μ) := by
  refine z_met.of (by decide +kernel) (by show _ ≤ _; first | decide | exact Nat.le_of_ble_eq_true rfl) (lv := [(0, .ref 253)]) rfl ?_
  unfold f_X12_statementTold
  refine s_aload_n (pc := 0) 0 dX12_statementTold_0 rfl rfl ?_
  refine s_getI (pc := 1) (ci := 12) (k := 2) dX12_statementTold_1 fl_12_269 kd_253 rfl ?_
  refine s_letI (fun x1 => ?_)
  refine s_istore_n (pc := 4) (lv' := [(1, .int x1), (0, .ref 253)]) dX12_statementTold_4 rfl (by decide) rfl ?_
  refine s_aload_n (pc := 5) 1 dX12_statementTold_5 rfl rfl ?_
  refine s_getI (pc := 6) (ci := 12) (k := 52) dX12_statementTold_6 fl_12_370 kd_253 rfl ?_
  refine s_bipush (pc := 9) (v := (80 : Int32)) dX12_statementTold_9 (by decide) ?_
  refine s_icmp_ne (pc := 11) (tgt := 21) dX12_statementTold_11 (by decide) ?_ ?_
  · refine s_aload_n (pc := 14) 1 dX12_statementTold_14 rfl rfl ?_
    refine s_iconst (pc := 15) (v := (5 : Int32)) dX12_statementTold_15 (by decide) ?_
    refine s_iload_n (pc := 16) 0 dX12_statementTold_16 rfl rfl ?_
    refine s_callVV (pc := 17) (as := [.int (5 : Int32), .int x1]) (st := []) dX12_statementTold_17 lk_12_293 kd_253 (t_X12_fail N (5 : Int32) x1 μ) (by omega) rfl (by decide) rfl (fun _ μ_1 => ?_)
    exact s_vret (pc := 20) dX12_statementTold_20 rfl
  · refine s_aload_n (pc := 21) 1 dX12_statementTold_21 rfl rfl ?_
    refine s_aload_n (pc := 22) 1 dX12_statementTold_22 rfl rfl ?_
    refine s_getR (pc := 23) (ci := 12) (k := 10) (r := 256) dX12_statementTold_23 fl_12_20 kd_253 rfl rs_253_10 ?_
    refine s_callVI (pc := 26) (as := [.ref 256]) (st := []) dX12_statementTold_26 lk_12_290 kd_253 (t_X12_eats N 256 μ) (by omega) rfl (by decide) rfl (fun x2 μ_2 => ?_)
    refine s_if_eq (pc := 29) (tgt := 40) dX12_statementTold_29 (by decide) ?_ ?_
    · refine s_aload_n (pc := 40) 1 dX12_statementTold_40 rfl rfl ?_
      refine s_aload_n (pc := 41) 1 dX12_statementTold_41 rfl rfl ?_
      refine s_getR (pc := 42) (ci := 12) (k := 14) (r := 260) dX12_statementTold_42 fl_12_33 kd_253 rfl rs_253_14 ?_
      refine s_callVI (pc := 45) (as := [.ref 260]) (st := []) dX12_statementTold_45 lk_12_290 kd_253 (t_X12_eats N 260 μ_2) (by omega) rfl (by decide) rfl (fun x3 μ_3 => ?_)
      refine s_if_eq (pc := 48) (tgt := 59) dX12_statementTold_48 (by decide) ?_ ?_
      · refine s_aload_n (pc := 59) 1 dX12_statementTold_59 rfl rfl ?_
        refine s_aload_n (pc := 60) 1 dX12_statementTold_60 rfl rfl ?_
        refine s_getR (pc := 61) (ci := 12) (k := 16) (r := 262) dX12_statementTold_61 fl_12_39 kd_253 rfl rs_253_16 ?_
        refine s_callVI (pc := 64) (as := [.ref 262]) (st := []) dX12_statementTold_64 lk_12_290 kd_253 (t_X12_eats N 262 μ_3) (by omega) rfl (by decide) rfl (fun x4 μ_4 => ?_)
        refine s_if_eq (pc := 67) (tgt := 77) dX12_statementTold_67 (by decide) ?_ ?_
        · refine s_aload_n (pc := 77) 1 dX12_statementTold_77 rfl rfl ?_
          refine s_aload_n (pc := 78) 1 dX12_statementTold_78 rfl rfl ?_
          refine s_getR (pc := 79) (ci := 12) (k := 17) (r := 263) dX12_statementTold_79 fl_12_42 kd_253 rfl rs_253_17 ?_
          refine s_callVI (pc := 82) (as := [.ref 263]) (st := []) dX12_statementTold_82 lk_12_290 kd_253 (t_X12_eats N 263 μ_4) (by omega) rfl (by decide) rfl (fun x5 μ_5 => ?_)
          refine s_if_eq (pc := 85) (tgt := 96) dX12_statementTold_85 (by decide) ?_ ?_
          · refine s_aload_n (pc := 96) 1 dX12_statementTold_96 rfl rfl ?_
            refine s_aload_n (pc := 97) 1 dX12_statementTold_97 rfl rfl ?_
            refine s_getR (pc := 98) (ci := 12) (k := 18) (r := 264) dX12_statementTold_98 fl_12_45 kd_253 rfl rs_253_18 ?_
            refine s_callVI (pc := 101) (as := [.ref 264]) (st := []) dX12_statementTold_101 lk_12_290 kd_253 (t_X12_eats N 264 μ_5) (by omega) rfl (by decide) rfl (fun x6 μ_6 => ?_)
            refine s_if_eq (pc := 104) (tgt := 115) dX12_statementTold_104 (by decide) ?_ ?_
            · refine s_aload_n (pc := 115) 1 dX12_statementTold_115 rfl rfl ?_
              refine s_aload_n (pc := 116) 1 dX12_statementTold_116 rfl rfl ?_
              refine s_getR (pc := 117) (ci := 12) (k := 19) (r := 265) dX12_statementTold_117 fl_12_48 kd_253 rfl rs_253_19 ?_
              refine s_callVI (pc := 120) (as := [.ref 265]) (st := []) dX12_statementTold_120 lk_12_290 kd_253 (t_X12_eats N 265 μ_6) (by omega) rfl (by decide) rfl (fun x7 μ_7 => ?_)
              refine s_if_eq (pc := 123) (tgt := 134) dX12_statementTold_123 (by decide) ?_ ?_
              · refine s_aload_n (pc := 134) 1 dX12_statementTold_134 rfl rfl ?_
                refine s_aload_n (pc := 135) 1 dX12_statementTold_135 rfl rfl ?_
                refine s_getR (pc := 136) (ci := 12) (k := 23) (r := 269) dX12_statementTold_136 fl_12_60 kd_253 rfl rs_253_23 ?_
                refine s_callVI (pc := 139) (as := [.ref 269]) (st := []) dX12_statementTold_139 lk_12_290 kd_253 (t_X12_eats N 269 μ_7) (by omega) rfl (by decide) rfl (fun x8 μ_8 => ?_)
                refine s_if_eq (pc := 142) (tgt := 154) dX12_statementTold_142 (by decide) ?_ ?_
                · refine s_aload_n (pc := 154) 1 dX12_statementTold_154 rfl rfl ?_
                  refine s_aload_n (pc := 155) 1 dX12_statementTold_155 rfl rfl ?_
                  refine s_getR (pc := 156) (ci := 12) (k := 24) (r := 270) dX12_statementTold_156 fl_12_63 kd_253 rfl rs_253_24 ?_
                  refine s_callVI (pc := 159) (as := [.ref 270]) (st := []) dX12_statementTold_159 lk_12_290 kd_253 (t_X12_eats N 270 μ_8) (by omega) rfl (by decide) rfl (fun x9 μ_9 => ?_)
                  refine s_if_eq (pc := 162) (tgt := 174) dX12_statementTold_162 (by decide) ?_ ?_
                  · refine s_aload_n (pc := 174) 1 dX12_statementTold_174 rfl rfl ?_
                    refine s_aload_n (pc := 175) 1 dX12_statementTold_175 rfl rfl ?_
                    refine s_getR (pc := 176) (ci := 12) (k := 25) (r := 271) dX12_statementTold_176 fl_12_66 kd_253 rfl rs_253_25 ?_
                    refine s_callVI (pc := 179) (as := [.ref 271]) (st := []) dX12_statementTold_179 lk_12_290 kd_253 (t_X12_eats N 271 μ_9) (by omega) rfl (by decide) rfl (fun x10 μ_10 => ?_)
                    refine s_if_eq (pc := 182) (tgt := 201) dX12_statementTold_182 (by decide) ?_ ?_
                    · refine s_aload_n (pc := 201) 1 dX12_statementTold_201 rfl rfl ?_
                      refine s_aload_n (pc := 202) 1 dX12_statementTold_202 rfl rfl ?_
                      refine s_getR (pc := 203) (ci := 12) (k := 26) (r := 272) dX12_statementTold_203 fl_12_69 kd_253 rfl rs_253_26 ?_
                      refine s_callVV (pc := 206) (as := [.ref 272]) (st := []) dX12_statementTold_206 lk_12_337 kd_253 (t_X12_asks N 272 μ_10) (by omega) rfl (by decide) rfl (fun _ μ_11 => ?_)
                      refine s_aload_n (pc := 209) 1 dX12_statementTold_209 rfl rfl ?_
                      refine s_getR (pc := 210) (ci := 12) (k := 47) (r := 292) dX12_statementTold_210 fl_12_130 kd_253 rfl rs_253_47 ?_
                      refine s_iconst (pc := 213) (v := (1 : Int32)) dX12_statementTold_213 (by decide) ?_
                      refine s_aload_n (pc := 214) 1 dX12_statementTold_214 rfl rfl ?_
                      refine s_iconst (pc := 215) (v := (0 : Int32)) dX12_statementTold_215 (by decide) ?_
                      refine s_bipush (pc := 216) (v := (100 : Int32)) dX12_statementTold_216 (by decide) ?_
                      refine s_callVI (pc := 218) (as := [.int (0 : Int32), .int (100 : Int32)]) (st := [.int (1 : Int32), .ref 292]) dX12_statementTold_218 lk_12_341 kd_253 (t_X12_number N (0 : Int32) (100 : Int32) μ_11) (by omega) rfl (Nat.le_of_ble_eq_true rfl) rfl (fun x11 μ_12 => ?_)
                      refine s_iastK (pc := 221) (k := 1) dX12_statementTold_221 kd_292 (by decide) (by decide) (by decide) (fun μ_13 => ?_)
                      refine s_sub (lv' := [(0, .ref 253)]) [1] rfl ?_
                      exact t_X12_statementTold_B222 N μ_13
                    · refine s_aload_n (pc := 185) 1 dX12_statementTold_185 rfl rfl ?_
                      refine s_getR (pc := 186) (ci := 12) (k := 47) (r := 292) dX12_statementTold_186 fl_12_130 kd_253 rfl rs_253_47 ?_
                      refine s_iconst (pc := 189) (v := (0 : Int32)) dX12_statementTold_189 (by decide) ?_
                      refine s_aload_n (pc := 190) 1 dX12_statementTold_190 rfl rfl ?_
                      refine s_iconst (pc := 191) (v := (0 : Int32)) dX12_statementTold_191 (by decide) ?_
                      refine s_bipush (pc := 192) (v := (99 : Int32)) dX12_statementTold_192 (by decide) ?_
                      refine s_callVI (pc := 194) (as := [.int (0 : Int32), .int (99 : Int32)]) (st := [.int (0 : Int32), .ref 292]) dX12_statementTold_194 lk_12_341 kd_253 (t_X12_number N (0 : Int32) (99 : Int32) μ_10) (by omega) rfl (Nat.le_of_ble_eq_true rfl) rfl (fun x12 μ_16 => ?_)
                      refine s_iastK (pc := 197) (k := 0) dX12_statementTold_197 kd_292 (by decide) (by decide) (by decide) (fun μ_17 => ?_)
                      refine s_goto (pc := 198) (tgt := 222) dX12_statementTold_198 (by decide) ?_
                      refine s_sub (lv' := [(0, .ref 253)]) [1] rfl ?_
                      exact t_X12_statementTold_B222 N μ_17
                  · refine s_aload_n (pc := 165) 1 dX12_statementTold_165 rfl rfl ?_
                    refine s_iconst (pc := 166) (v := (1 : Int32)) dX12_statementTold_166 (by decide) ?_
                    refine s_iload_n (pc := 167) 0 dX12_statementTold_167 rfl rfl ?_
                    refine s_callVV (pc := 168) (as := [.int (1 : Int32), .int x1]) (st := []) dX12_statementTold_168 lk_12_392 kd_253 (t_X12_codesTold N (1 : Int32) x1 μ_9) (by omega) rfl (by decide) rfl (fun _ μ_18 => ?_)
                    refine s_goto (pc := 171) (tgt := 222) dX12_statementTold_171 (by decide) ?_
                    refine s_sub (lv' := [(0, .ref 253)]) [1] rfl ?_
                    exact t_X12_statementTold_B222 N μ_18
                · refine s_aload_n (pc := 145) 1 dX12_statementTold_145 rfl rfl ?_
                  refine s_iconst (pc := 146) (v := (0 : Int32)) dX12_statementTold_146 (by decide) ?_
                  refine s_iload_n (pc := 147) 0 dX12_statementTold_147 rfl rfl ?_
                  refine s_callVV (pc := 148) (as := [.int (0 : Int32), .int x1]) (st := []) dX12_statementTold_148 lk_12_392 kd_253 (t_X12_codesTold N (0 : Int32) x1 μ_8) (by omega) rfl (by decide) rfl (fun _ μ_19 => ?_)
                  refine s_goto (pc := 151) (tgt := 222) dX12_statementTold_151 (by decide) ?_
                  refine s_sub (lv' := [(0, .ref 253)]) [1] rfl ?_
                  exact t_X12_statementTold_B222 N μ_19
              · refine s_aload_n (pc := 126) 1 dX12_statementTold_126 rfl rfl ?_
                refine s_iload_n (pc := 127) 0 dX12_statementTold_127 rfl rfl ?_
                refine s_callVV (pc := 128) (as := [.int x1]) (st := []) dX12_statementTold_128 lk_12_389 kd_253 (t_X12_helperTold N x1 μ_7) (by omega) rfl (by decide) rfl (fun _ μ_20 => ?_)
                refine s_goto (pc := 131) (tgt := 222) dX12_statementTold_131 (by decide) ?_
                refine s_sub (lv' := [(0, .ref 253)]) [1] rfl ?_
                exact t_X12_statementTold_B222 N μ_20
            · refine s_aload_n (pc := 107) 1 dX12_statementTold_107 rfl rfl ?_
              refine s_iload_n (pc := 108) 0 dX12_statementTold_108 rfl rfl ?_
              refine s_callVV (pc := 109) (as := [.int x1]) (st := []) dX12_statementTold_109 lk_12_386 kd_253 (t_X12_likeTold N x1 μ_6) (by omega) rfl (by decide) rfl (fun _ μ_21 => ?_)
              refine s_goto (pc := 112) (tgt := 222) dX12_statementTold_112 (by decide) ?_
              refine s_sub (lv' := [(0, .ref 253)]) [1] rfl ?_
              exact t_X12_statementTold_B222 N μ_21
          · refine s_aload_n (pc := 88) 1 dX12_statementTold_88 rfl rfl ?_
            refine s_iload_n (pc := 89) 0 dX12_statementTold_89 rfl rfl ?_
            refine s_callVV (pc := 90) (as := [.int x1]) (st := []) dX12_statementTold_90 lk_12_383 kd_253 (t_X12_nearTold N x1 μ_5) (by omega) rfl (by decide) rfl (fun _ μ_22 => ?_)
            refine s_goto (pc := 93) (tgt := 222) dX12_statementTold_93 (by decide) ?_
            refine s_sub (lv' := [(0, .ref 253)]) [1] rfl ?_
            exact t_X12_statementTold_B222 N μ_22
        · refine s_aload_n (pc := 70) 1 dX12_statementTold_70 rfl rfl ?_
          refine s_callVV (pc := 71) (as := []) (st := []) dX12_statementTold_71 lk_12_380 kd_253 (t_X12_wishTold N μ_4) (by omega) rfl (by decide) rfl (fun _ μ_23 => ?_)
          refine s_goto (pc := 74) (tgt := 222) dX12_statementTold_74 (by decide) ?_
          refine s_sub (lv' := [(0, .ref 253)]) [1] rfl ?_
          exact t_X12_statementTold_B222 N μ_23
      · refine s_aload_n (pc := 51) 1 dX12_statementTold_51 rfl rfl ?_
        refine s_iload_n (pc := 52) 0 dX12_statementTold_52 rfl rfl ?_
        refine s_callVV (pc := 53) (as := [.int x1]) (st := []) dX12_statementTold_53 lk_12_377 kd_253 (t_X12_giftTold N x1 μ_3) (by omega) rfl (by decide) rfl (fun _ μ_24 => ?_)
        refine s_goto (pc := 56) (tgt := 222) dX12_statementTold_56 (by decide) ?_
        refine s_sub (lv' := [(0, .ref 253)]) [1] rfl ?_
        exact t_X12_statementTold_B222 N μ_24
    · refine s_aload_n (pc := 32) 1 dX12_statementTold_32 rfl rfl ?_
      refine s_iload_n (pc := 33) 0 dX12_statementTold_33 rfl rfl ?_
      refine s_callVV (pc := 34) (as := [.int x1]) (st := []) dX12_statementTold_34 lk_12_373 kd_253 (t_X12_letterTold N x1 μ_2) (by omega) rfl (by decide) rfl (fun _ μ_25 => ?_)
      refine s_goto (pc := 37) (tgt := 222) dX12_statementTold_37 (by decide) ?_
      refine s_sub (lv' := [(0, .ref 253)]) [1] rfl ?_
      exact t_X12_statementTold_B222 N μ_25
def f_X12_helperMany (N : Nat) (μ : z_S) : Option (Int32 × z_S) :=
  some ((μ.1 284 7), μ)
theorem t_X12_helperMany (N : Nat) (μ : z_S) : z_met false rI mX12_helperMany 0 [.ref 253] μ (f_X12_helperMany N μ) := by
  refine z_met.of (by decide +kernel) (by show _ ≤ _; first | decide | exact Nat.le_of_ble_eq_true rfl) (lv := [(0, .ref 253)]) rfl ?_
  unfold f_X12_helperMany
  refine s_aload_n (pc := 0) 0 dX12_helperMany_0 rfl rfl ?_
  refine s_getR (pc := 1) (ci := 12) (k := 39) (r := 284) dX12_helperMany_1 fl_12_105 kd_253 rfl rs_253_39 ?_
  refine s_bipush (pc := 4) (v := (7 : Int32)) dX12_helperMany_4 (by decide) ?_
  refine s_ialdK (pc := 6) (k := 7) dX12_helperMany_6 kd_284 (by decide) (by decide) (by decide) ?_
  exact s_iret (pc := 7) rfl dX12_helperMany_7 rfl
def b_X12_leftAnew_L2 (N : Nat) (kb : Int32 → z_S → Option (Unit × z_S)) (v1 : Int32) (μ : z_S) : Option (Unit × z_S) :=
  z_bn (f_X12_helperMany N μ) fun x1 μ_1 => if v1 < x1 then (z_in ((9 : Int32) + ((3 : Int32) * v1)) 18 <| z_in ((1 : Int32) + v1) 32 <| z_bd (z_setI μ_1 296 ((1 : Int32) + v1).toNatClampNeg (μ_1.1 291 ((9 : Int32) + ((3 : Int32) * v1)).toNatClampNeg)) fun μ_2 => z_bd (v1 + 1) fun x2 => kb x2 μ_2) else some ((), μ_1)
theorem tb_X12_leftAnew_L2 (N : Nat) (kb : Int32 → z_S → Option (Unit × z_S)) (hkb : ∀ (a1 : Int32) (μ : z_S), z_sim false rV mX12_leftAnew 1 (kb a1 μ) 2 [(0, .ref 253), (1, .int a1)] [] μ) (v1 : Int32) (μ : z_S) : z_sim false rV mX12_leftAnew 1 (b_X12_leftAnew_L2 N kb v1 μ) 2 [(0, .ref 253), (1, .int v1)] [] μ := by
  unfold b_X12_leftAnew_L2
  refine s_iload_n (pc := 2) 1 dX12_leftAnew_2 rfl rfl ?_
  refine s_aload_n (pc := 3) 0 dX12_leftAnew_3 rfl rfl ?_
  refine s_callVI (pc := 4) (as := []) (st := [.int v1]) dX12_leftAnew_4 lk_12_422 kd_253 (t_X12_helperMany N μ) (by omega) rfl (Nat.le_of_ble_eq_true rfl) rfl (fun x1 μ_1 => ?_)
  refine s_icmp_ge (pc := 7) (tgt := 35) dX12_leftAnew_7 (by decide) ?_ ?_
  · refine s_aload_n (pc := 10) 0 dX12_leftAnew_10 rfl rfl ?_
    refine s_getR (pc := 11) (ci := 12) (k := 54) (r := 296) dX12_leftAnew_11 fl_12_142 kd_253 rfl rs_253_54 ?_
    refine s_iconst (pc := 14) (v := (1 : Int32)) dX12_leftAnew_14 (by decide) ?_
    refine s_iload_n (pc := 15) 1 dX12_leftAnew_15 rfl rfl ?_
    refine s_iadd (pc := 16) dX12_leftAnew_16 ?_
    refine s_aload_n (pc := 17) 0 dX12_leftAnew_17 rfl rfl ?_
    refine s_getR (pc := 18) (ci := 12) (k := 46) (r := 291) dX12_leftAnew_18 fl_12_127 kd_253 rfl rs_253_46 ?_
    refine s_bipush (pc := 21) (v := (9 : Int32)) dX12_leftAnew_21 (by decide) ?_
    refine s_iconst (pc := 23) (v := (3 : Int32)) dX12_leftAnew_23 (by decide) ?_
    refine s_iload_n (pc := 24) 1 dX12_leftAnew_24 rfl rfl ?_
    refine s_imul (pc := 25) dX12_leftAnew_25 ?_
    refine s_iadd (pc := 26) dX12_leftAnew_26 ?_
    refine s_iald (pc := 27) dX12_leftAnew_27 kd_291 ?_
    refine s_iast (pc := 28) dX12_leftAnew_28 kd_296 (fun μ_2 => ?_)
    refine s_iincB (pc := 29) (lv' := fun x2 => [(1, .int x2), (0, .ref 253)]) (c := 1) 1 dX12_leftAnew_29 rfl (by decide) (by decide) (fun _ => rfl) (fun x2 => ?_)
    refine s_goto (pc := 32) (tgt := 2) dX12_leftAnew_32 (by decide) ?_
    refine s_sub (lv' := [(0, .ref 253), (1, .int x2)]) [1, 0] rfl ?_
    exact hkb x2 μ_2
  · exact s_vret (pc := 35) dX12_leftAnew_35 rfl
def f_X12_leftAnew_L2 (N : Nat) : Nat → Int32 → z_S → Option (Unit × z_S)
  | 0, _, _ => none
  | n + 1, v1, μ => b_X12_leftAnew_L2 N (f_X12_leftAnew_L2 N n) v1 μ
theorem t_X12_leftAnew_L2 (N : Nat) : ∀ (n : Nat) (v1 : Int32) (μ : z_S), z_sim false rV mX12_leftAnew 1 (f_X12_leftAnew_L2 N n v1 μ) 2 [(0, .ref 253), (1, .int v1)] [] μ
  | 0, _, _ => s_none
  | n + 1, v1, μ => tb_X12_leftAnew_L2 N (f_X12_leftAnew_L2 N n) (t_X12_leftAnew_L2 N n) v1 μ
def f_X12_leftAnew (N : Nat) (μ : z_S) : Option (Unit × z_S) :=
  f_X12_leftAnew_L2 N N (0 : Int32) μ
theorem t_X12_leftAnew (N : Nat) (μ : z_S) : z_met false rV mX12_leftAnew 1 [.ref 253] μ (f_X12_leftAnew N μ) := by
  refine z_met.of (by decide +kernel) (by show _ ≤ _; first | decide | exact Nat.le_of_ble_eq_true rfl) (lv := [(0, .ref 253)]) rfl ?_
  unfold f_X12_leftAnew
  refine s_iconst (pc := 0) (v := (0 : Int32)) dX12_leftAnew_0 (by decide) ?_
  refine s_istore_n (pc := 1) (lv' := [(1, .int (0 : Int32)), (0, .ref 253)]) dX12_leftAnew_1 rfl (by decide) rfl ?_
  refine s_sub (lv' := [(0, .ref 253), (1, .int (0 : Int32))]) [1, 0] rfl ?_
  refine t_X12_leftAnew_L2 N N (0 : Int32) μ
def f_X12_giftMany (N : Nat) (μ : z_S) : Option (Int32 × z_S) :=
  some ((μ.1 284 6), μ)
theorem t_X12_giftMany (N : Nat) (μ : z_S) : z_met false rI mX12_giftMany 0 [.ref 253] μ (f_X12_giftMany N μ) := by
  refine z_met.of (by decide +kernel) (by show _ ≤ _; first | decide | exact Nat.le_of_ble_eq_true rfl) (lv := [(0, .ref 253)]) rfl ?_
  unfold f_X12_giftMany
  refine s_aload_n (pc := 0) 0 dX12_giftMany_0 rfl rfl ?_
  refine s_getR (pc := 1) (ci := 12) (k := 39) (r := 284) dX12_giftMany_1 fl_12_105 kd_253 rfl rs_253_39 ?_
  refine s_bipush (pc := 4) (v := (6 : Int32)) dX12_giftMany_4 (by decide) ?_
  refine s_ialdK (pc := 6) (k := 6) dX12_giftMany_6 kd_284 (by decide) (by decide) (by decide) ?_
  exact s_iret (pc := 7) rfl dX12_giftMany_7 rfl
def b_X12_stands_L2 (N : Nat) (kb : Int32 → z_S → Option (Unit × z_S)) (e27 : z_S → Option (Unit × z_S)) (v1 : Int32) (μ : z_S) : Option (Unit × z_S) :=
  if v1 < (5 : Int32) then (z_in v1 10 <| z_in ((5 : Int32) + v1) 10 <| z_bd (z_setI μ 284 ((5 : Int32) + v1).toNatClampNeg (μ.1 284 v1.toNatClampNeg)) fun μ_1 => z_bd (v1 + 1) fun x1 => kb x1 μ_1) else e27 μ
theorem tb_X12_stands_L2 (N : Nat) (kb : Int32 → z_S → Option (Unit × z_S)) (e27 : z_S → Option (Unit × z_S)) (hkb : ∀ (a1 : Int32) (μ : z_S), z_sim false rV mX12_stands 2 (kb a1 μ) 2 [(0, .ref 253), (1, .int a1)] [] μ) (he27 : ∀ (μ : z_S), z_sim false rV mX12_stands 2 (e27 μ) 27 [(0, .ref 253)] [] μ) (v1 : Int32) (μ : z_S) : z_sim false rV mX12_stands 2 (b_X12_stands_L2 N kb e27 v1 μ) 2 [(0, .ref 253), (1, .int v1)] [] μ := by
  unfold b_X12_stands_L2
  refine s_iload_n (pc := 2) 1 dX12_stands_2 rfl rfl ?_
  refine s_iconst (pc := 3) (v := (5 : Int32)) dX12_stands_3 (by decide) ?_
  refine s_icmp_ge (pc := 4) (tgt := 27) dX12_stands_4 (by decide) ?_ ?_
  · refine s_aload_n (pc := 7) 0 dX12_stands_7 rfl rfl ?_
    refine s_getR (pc := 8) (ci := 12) (k := 39) (r := 284) dX12_stands_8 fl_12_105 kd_253 rfl rs_253_39 ?_
    refine s_iconst (pc := 11) (v := (5 : Int32)) dX12_stands_11 (by decide) ?_
    refine s_iload_n (pc := 12) 1 dX12_stands_12 rfl rfl ?_
    refine s_iadd (pc := 13) dX12_stands_13 ?_
    refine s_aload_n (pc := 14) 0 dX12_stands_14 rfl rfl ?_
    refine s_getR (pc := 15) (ci := 12) (k := 39) (r := 284) dX12_stands_15 fl_12_105 kd_253 rfl rs_253_39 ?_
    refine s_iload_n (pc := 18) 1 dX12_stands_18 rfl rfl ?_
    refine s_iald (pc := 19) dX12_stands_19 kd_284 ?_
    refine s_iast (pc := 20) dX12_stands_20 kd_284 (fun μ_1 => ?_)
    refine s_iincB (pc := 21) (lv' := fun x1 => [(1, .int x1), (0, .ref 253)]) (c := 1) 1 dX12_stands_21 rfl (by decide) (by decide) (fun _ => rfl) (fun x1 => ?_)
    refine s_goto (pc := 24) (tgt := 2) dX12_stands_24 (by decide) ?_
    refine s_sub (lv' := [(0, .ref 253), (1, .int x1)]) [1, 0] rfl ?_
    exact hkb x1 μ_1
  · refine s_sub (lv' := [(0, .ref 253)]) [0] rfl ?_
    exact he27 μ
def f_X12_stands_L2 (N : Nat) (e27 : z_S → Option (Unit × z_S)) : Nat → Int32 → z_S → Option (Unit × z_S)
  | 0, _, _ => none
  | n + 1, v1, μ => b_X12_stands_L2 N (f_X12_stands_L2 N e27 n) e27 v1 μ
theorem t_X12_stands_L2 (N : Nat) (e27 : z_S → Option (Unit × z_S)) (he27 : ∀ (μ : z_S), z_sim false rV mX12_stands 2 (e27 μ) 27 [(0, .ref 253)] [] μ) : ∀ (n : Nat) (v1 : Int32) (μ : z_S), z_sim false rV mX12_stands 2 (f_X12_stands_L2 N e27 n v1 μ) 2 [(0, .ref 253), (1, .int v1)] [] μ
  | 0, _, _ => s_none
  | n + 1, v1, μ => tb_X12_stands_L2 N (f_X12_stands_L2 N e27 n) e27 (t_X12_stands_L2 N e27 he27 n) he27 v1 μ
def b_X12_stands_L29 (N : Nat) (kb : Int32 → z_S → Option (Unit × z_S)) (e71 : z_S → Option (Unit × z_S)) (v1 : Int32) (μ : z_S) : Option (Unit × z_S) :=
  if v1 < (24 : Int32) then (z_in v1 48 <| z_in ((24 : Int32) + v1) 48 <| z_bd (z_setJ μ 285 ((24 : Int32) + v1).toNatClampNeg (μ.2.1 285 v1.toNatClampNeg)) fun μ_2 => z_in v1 48 <| z_in ((24 : Int32) + v1) 48 <| z_bd (z_setI μ_2 286 ((24 : Int32) + v1).toNatClampNeg (μ_2.1 286 v1.toNatClampNeg)) fun μ_3 => z_bd (v1 + 1) fun x2 => kb x2 μ_3) else e71 μ
theorem tb_X12_stands_L29 (N : Nat) (kb : Int32 → z_S → Option (Unit × z_S)) (e71 : z_S → Option (Unit × z_S)) (hkb : ∀ (a1 : Int32) (μ : z_S), z_sim false rV mX12_stands 2 (kb a1 μ) 29 [(0, .ref 253), (1, .int a1)] [] μ) (he71 : ∀ (μ : z_S), z_sim false rV mX12_stands 2 (e71 μ) 71 [(0, .ref 253)] [] μ) (v1 : Int32) (μ : z_S) : z_sim false rV mX12_stands 2 (b_X12_stands_L29 N kb e71 v1 μ) 29 [(0, .ref 253), (1, .int v1)] [] μ := by
  unfold b_X12_stands_L29
  refine s_iload_n (pc := 29) 1 dX12_stands_29 rfl rfl ?_
  refine s_bipush (pc := 30) (v := (24 : Int32)) dX12_stands_30 (by decide) ?_
  refine s_icmp_ge (pc := 32) (tgt := 71) dX12_stands_32 (by decide) ?_ ?_
  · refine s_aload_n (pc := 35) 0 dX12_stands_35 rfl rfl ?_
    refine s_getR (pc := 36) (ci := 12) (k := 40) (r := 285) dX12_stands_36 fl_12_108 kd_253 rfl rs_253_40 ?_
    refine s_bipush (pc := 39) (v := (24 : Int32)) dX12_stands_39 (by decide) ?_
    refine s_iload_n (pc := 41) 1 dX12_stands_41 rfl rfl ?_
    refine s_iadd (pc := 42) dX12_stands_42 ?_
    refine s_aload_n (pc := 43) 0 dX12_stands_43 rfl rfl ?_
    refine s_getR (pc := 44) (ci := 12) (k := 40) (r := 285) dX12_stands_44 fl_12_108 kd_253 rfl rs_253_40 ?_
    refine s_iload_n (pc := 47) 1 dX12_stands_47 rfl rfl ?_
    refine s_lald (pc := 48) dX12_stands_48 kd_285 ?_
    refine s_last (pc := 49) dX12_stands_49 kd_285 (fun μ_2 => ?_)
    refine s_aload_n (pc := 50) 0 dX12_stands_50 rfl rfl ?_
    refine s_getR (pc := 51) (ci := 12) (k := 41) (r := 286) dX12_stands_51 fl_12_112 kd_253 rfl rs_253_41 ?_
    refine s_bipush (pc := 54) (v := (24 : Int32)) dX12_stands_54 (by decide) ?_
    refine s_iload_n (pc := 56) 1 dX12_stands_56 rfl rfl ?_
    refine s_iadd (pc := 57) dX12_stands_57 ?_
    refine s_aload_n (pc := 58) 0 dX12_stands_58 rfl rfl ?_
    refine s_getR (pc := 59) (ci := 12) (k := 41) (r := 286) dX12_stands_59 fl_12_112 kd_253 rfl rs_253_41 ?_
    refine s_iload_n (pc := 62) 1 dX12_stands_62 rfl rfl ?_
    refine s_iald (pc := 63) dX12_stands_63 kd_286 ?_
    refine s_iast (pc := 64) dX12_stands_64 kd_286 (fun μ_3 => ?_)
    refine s_iincB (pc := 65) (lv' := fun x2 => [(1, .int x2), (0, .ref 253)]) (c := 1) 1 dX12_stands_65 rfl (by decide) (by decide) (fun _ => rfl) (fun x2 => ?_)
    refine s_goto (pc := 68) (tgt := 29) dX12_stands_68 (by decide) ?_
    refine s_sub (lv' := [(0, .ref 253), (1, .int x2)]) [1, 0] rfl ?_
    exact hkb x2 μ_3
  · refine s_sub (lv' := [(0, .ref 253)]) [0] rfl ?_
    exact he71 μ
def f_X12_stands_L29 (N : Nat) (e71 : z_S → Option (Unit × z_S)) : Nat → Int32 → z_S → Option (Unit × z_S)
  | 0, _, _ => none
  | n + 1, v1, μ => b_X12_stands_L29 N (f_X12_stands_L29 N e71 n) e71 v1 μ
theorem t_X12_stands_L29 (N : Nat) (e71 : z_S → Option (Unit × z_S)) (he71 : ∀ (μ : z_S), z_sim false rV mX12_stands 2 (e71 μ) 71 [(0, .ref 253)] [] μ) : ∀ (n : Nat) (v1 : Int32) (μ : z_S), z_sim false rV mX12_stands 2 (f_X12_stands_L29 N e71 n v1 μ) 29 [(0, .ref 253), (1, .int v1)] [] μ
  | 0, _, _ => s_none
  | n + 1, v1, μ => tb_X12_stands_L29 N (f_X12_stands_L29 N e71 n) e71 (t_X12_stands_L29 N e71 he71 n) he71 v1 μ
def b_X12_stands_L73 (N : Nat) (kb : Int32 → z_S → Option (Unit × z_S)) (e98 : z_S → Option (Unit × z_S)) (v1 : Int32) (μ : z_S) : Option (Unit × z_S) :=
  if v1 < (4 : Int32) then (z_in v1 8 <| z_in ((4 : Int32) + v1) 8 <| z_bd (z_setI μ 287 ((4 : Int32) + v1).toNatClampNeg (μ.1 287 v1.toNatClampNeg)) fun μ_4 => z_bd (v1 + 1) fun x3 => kb x3 μ_4) else e98 μ
theorem tb_X12_stands_L73 (N : Nat) (kb : Int32 → z_S → Option (Unit × z_S)) (e98 : z_S → Option (Unit × z_S)) (hkb : ∀ (a1 : Int32) (μ : z_S), z_sim false rV mX12_stands 2 (kb a1 μ) 73 [(0, .ref 253), (1, .int a1)] [] μ) (he98 : ∀ (μ : z_S), z_sim false rV mX12_stands 2 (e98 μ) 98 [(0, .ref 253)] [] μ) (v1 : Int32) (μ : z_S) : z_sim false rV mX12_stands 2 (b_X12_stands_L73 N kb e98 v1 μ) 73 [(0, .ref 253), (1, .int v1)] [] μ := by
  unfold b_X12_stands_L73
  refine s_iload_n (pc := 73) 1 dX12_stands_73 rfl rfl ?_
  refine s_iconst (pc := 74) (v := (4 : Int32)) dX12_stands_74 (by decide) ?_
  refine s_icmp_ge (pc := 75) (tgt := 98) dX12_stands_75 (by decide) ?_ ?_
  · refine s_aload_n (pc := 78) 0 dX12_stands_78 rfl rfl ?_
    refine s_getR (pc := 79) (ci := 12) (k := 42) (r := 287) dX12_stands_79 fl_12_115 kd_253 rfl rs_253_42 ?_
    refine s_iconst (pc := 82) (v := (4 : Int32)) dX12_stands_82 (by decide) ?_
    refine s_iload_n (pc := 83) 1 dX12_stands_83 rfl rfl ?_
    refine s_iadd (pc := 84) dX12_stands_84 ?_
    refine s_aload_n (pc := 85) 0 dX12_stands_85 rfl rfl ?_
    refine s_getR (pc := 86) (ci := 12) (k := 42) (r := 287) dX12_stands_86 fl_12_115 kd_253 rfl rs_253_42 ?_
    refine s_iload_n (pc := 89) 1 dX12_stands_89 rfl rfl ?_
    refine s_iald (pc := 90) dX12_stands_90 kd_287 ?_
    refine s_iast (pc := 91) dX12_stands_91 kd_287 (fun μ_4 => ?_)
    refine s_iincB (pc := 92) (lv' := fun x3 => [(1, .int x3), (0, .ref 253)]) (c := 1) 1 dX12_stands_92 rfl (by decide) (by decide) (fun _ => rfl) (fun x3 => ?_)
    refine s_goto (pc := 95) (tgt := 73) dX12_stands_95 (by decide) ?_
    refine s_sub (lv' := [(0, .ref 253), (1, .int x3)]) [1, 0] rfl ?_
    exact hkb x3 μ_4
  · refine s_sub (lv' := [(0, .ref 253)]) [0] rfl ?_
    exact he98 μ
def f_X12_stands_L73 (N : Nat) (e98 : z_S → Option (Unit × z_S)) : Nat → Int32 → z_S → Option (Unit × z_S)
  | 0, _, _ => none
  | n + 1, v1, μ => b_X12_stands_L73 N (f_X12_stands_L73 N e98 n) e98 v1 μ
theorem t_X12_stands_L73 (N : Nat) (e98 : z_S → Option (Unit × z_S)) (he98 : ∀ (μ : z_S), z_sim false rV mX12_stands 2 (e98 μ) 98 [(0, .ref 253)] [] μ) : ∀ (n : Nat) (v1 : Int32) (μ : z_S), z_sim false rV mX12_stands 2 (f_X12_stands_L73 N e98 n v1 μ) 73 [(0, .ref 253), (1, .int v1)] [] μ
  | 0, _, _ => s_none
  | n + 1, v1, μ => tb_X12_stands_L73 N (f_X12_stands_L73 N e98 n) e98 (t_X12_stands_L73 N e98 he98 n) he98 v1 μ
def b_X12_stands_L100 (N : Nat) (kb : Int32 → z_S → Option (Unit × z_S)) (e127 : z_S → Option (Unit × z_S)) (v1 : Int32) (μ : z_S) : Option (Unit × z_S) :=
  if v1 < (32 : Int32) then (z_in v1 64 <| z_in ((32 : Int32) + v1) 64 <| z_bd (z_setI μ 288 ((32 : Int32) + v1).toNatClampNeg (μ.1 288 v1.toNatClampNeg)) fun μ_5 => z_bd (v1 + 1) fun x4 => kb x4 μ_5) else e127 μ
theorem tb_X12_stands_L100 (N : Nat) (kb : Int32 → z_S → Option (Unit × z_S)) (e127 : z_S → Option (Unit × z_S)) (hkb : ∀ (a1 : Int32) (μ : z_S), z_sim false rV mX12_stands 2 (kb a1 μ) 100 [(0, .ref 253), (1, .int a1)] [] μ) (he127 : ∀ (μ : z_S), z_sim false rV mX12_stands 2 (e127 μ) 127 [(0, .ref 253)] [] μ) (v1 : Int32) (μ : z_S) : z_sim false rV mX12_stands 2 (b_X12_stands_L100 N kb e127 v1 μ) 100 [(0, .ref 253), (1, .int v1)] [] μ := by
  unfold b_X12_stands_L100
  refine s_iload_n (pc := 100) 1 dX12_stands_100 rfl rfl ?_
  refine s_bipush (pc := 101) (v := (32 : Int32)) dX12_stands_101 (by decide) ?_
  refine s_icmp_ge (pc := 103) (tgt := 127) dX12_stands_103 (by decide) ?_ ?_
  · refine s_aload_n (pc := 106) 0 dX12_stands_106 rfl rfl ?_
    refine s_getR (pc := 107) (ci := 12) (k := 43) (r := 288) dX12_stands_107 fl_12_118 kd_253 rfl rs_253_43 ?_
    refine s_bipush (pc := 110) (v := (32 : Int32)) dX12_stands_110 (by decide) ?_
    refine s_iload_n (pc := 112) 1 dX12_stands_112 rfl rfl ?_
    refine s_iadd (pc := 113) dX12_stands_113 ?_
    refine s_aload_n (pc := 114) 0 dX12_stands_114 rfl rfl ?_
    refine s_getR (pc := 115) (ci := 12) (k := 43) (r := 288) dX12_stands_115 fl_12_118 kd_253 rfl rs_253_43 ?_
    refine s_iload_n (pc := 118) 1 dX12_stands_118 rfl rfl ?_
    refine s_iald (pc := 119) dX12_stands_119 kd_288 ?_
    refine s_iast (pc := 120) dX12_stands_120 kd_288 (fun μ_5 => ?_)
    refine s_iincB (pc := 121) (lv' := fun x4 => [(1, .int x4), (0, .ref 253)]) (c := 1) 1 dX12_stands_121 rfl (by decide) (by decide) (fun _ => rfl) (fun x4 => ?_)
    refine s_goto (pc := 124) (tgt := 100) dX12_stands_124 (by decide) ?_
    refine s_sub (lv' := [(0, .ref 253), (1, .int x4)]) [1, 0] rfl ?_
    exact hkb x4 μ_5
  · refine s_sub (lv' := [(0, .ref 253)]) [0] rfl ?_
    exact he127 μ
def f_X12_stands_L100 (N : Nat) (e127 : z_S → Option (Unit × z_S)) : Nat → Int32 → z_S → Option (Unit × z_S)
  | 0, _, _ => none
  | n + 1, v1, μ => b_X12_stands_L100 N (f_X12_stands_L100 N e127 n) e127 v1 μ
theorem t_X12_stands_L100 (N : Nat) (e127 : z_S → Option (Unit × z_S)) (he127 : ∀ (μ : z_S), z_sim false rV mX12_stands 2 (e127 μ) 127 [(0, .ref 253)] [] μ) : ∀ (n : Nat) (v1 : Int32) (μ : z_S), z_sim false rV mX12_stands 2 (f_X12_stands_L100 N e127 n v1 μ) 100 [(0, .ref 253), (1, .int v1)] [] μ
  | 0, _, _ => s_none
  | n + 1, v1, μ => tb_X12_stands_L100 N (f_X12_stands_L100 N e127 n) e127 (t_X12_stands_L100 N e127 he127 n) he127 v1 μ
def b_X12_stands_L129 (N : Nat) (kb : Int32 → z_S → Option (Unit × z_S)) (e156 : z_S → Option (Unit × z_S)) (v1 : Int32) (μ : z_S) : Option (Unit × z_S) :=
  if v1 < (8 : Int32) then (z_in v1 16 <| z_in ((8 : Int32) + v1) 16 <| z_bd (z_setI μ 289 ((8 : Int32) + v1).toNatClampNeg (μ.1 289 v1.toNatClampNeg)) fun μ_6 => z_bd (v1 + 1) fun x5 => kb x5 μ_6) else e156 μ
theorem tb_X12_stands_L129 (N : Nat) (kb : Int32 → z_S → Option (Unit × z_S)) (e156 : z_S → Option (Unit × z_S)) (hkb : ∀ (a1 : Int32) (μ : z_S), z_sim false rV mX12_stands 2 (kb a1 μ) 129 [(0, .ref 253), (1, .int a1)] [] μ) (he156 : ∀ (μ : z_S), z_sim false rV mX12_stands 2 (e156 μ) 156 [(0, .ref 253)] [] μ) (v1 : Int32) (μ : z_S) : z_sim false rV mX12_stands 2 (b_X12_stands_L129 N kb e156 v1 μ) 129 [(0, .ref 253), (1, .int v1)] [] μ := by
  unfold b_X12_stands_L129
  refine s_iload_n (pc := 129) 1 dX12_stands_129 rfl rfl ?_
  refine s_bipush (pc := 130) (v := (8 : Int32)) dX12_stands_130 (by decide) ?_
  refine s_icmp_ge (pc := 132) (tgt := 156) dX12_stands_132 (by decide) ?_ ?_
  · refine s_aload_n (pc := 135) 0 dX12_stands_135 rfl rfl ?_
    refine s_getR (pc := 136) (ci := 12) (k := 44) (r := 289) dX12_stands_136 fl_12_121 kd_253 rfl rs_253_44 ?_
    refine s_bipush (pc := 139) (v := (8 : Int32)) dX12_stands_139 (by decide) ?_
    refine s_iload_n (pc := 141) 1 dX12_stands_141 rfl rfl ?_
    refine s_iadd (pc := 142) dX12_stands_142 ?_
    refine s_aload_n (pc := 143) 0 dX12_stands_143 rfl rfl ?_
    refine s_getR (pc := 144) (ci := 12) (k := 44) (r := 289) dX12_stands_144 fl_12_121 kd_253 rfl rs_253_44 ?_
    refine s_iload_n (pc := 147) 1 dX12_stands_147 rfl rfl ?_
    refine s_iald (pc := 148) dX12_stands_148 kd_289 ?_
    refine s_iast (pc := 149) dX12_stands_149 kd_289 (fun μ_6 => ?_)
    refine s_iincB (pc := 150) (lv' := fun x5 => [(1, .int x5), (0, .ref 253)]) (c := 1) 1 dX12_stands_150 rfl (by decide) (by decide) (fun _ => rfl) (fun x5 => ?_)
    refine s_goto (pc := 153) (tgt := 129) dX12_stands_153 (by decide) ?_
    refine s_sub (lv' := [(0, .ref 253), (1, .int x5)]) [1, 0] rfl ?_
    exact hkb x5 μ_6
  · refine s_sub (lv' := [(0, .ref 253)]) [0] rfl ?_
    exact he156 μ
def f_X12_stands_L129 (N : Nat) (e156 : z_S → Option (Unit × z_S)) : Nat → Int32 → z_S → Option (Unit × z_S)
  | 0, _, _ => none
  | n + 1, v1, μ => b_X12_stands_L129 N (f_X12_stands_L129 N e156 n) e156 v1 μ
theorem t_X12_stands_L129 (N : Nat) (e156 : z_S → Option (Unit × z_S)) (he156 : ∀ (μ : z_S), z_sim false rV mX12_stands 2 (e156 μ) 156 [(0, .ref 253)] [] μ) : ∀ (n : Nat) (v1 : Int32) (μ : z_S), z_sim false rV mX12_stands 2 (f_X12_stands_L129 N e156 n v1 μ) 129 [(0, .ref 253), (1, .int v1)] [] μ
  | 0, _, _ => s_none
  | n + 1, v1, μ => tb_X12_stands_L129 N (f_X12_stands_L129 N e156 n) e156 (t_X12_stands_L129 N e156 he156 n) he156 v1 μ
def b_X12_stands_L158 (N : Nat) (kb : Int32 → z_S → Option (Unit × z_S)) (e185 : z_S → Option (Unit × z_S)) (v1 : Int32) (μ : z_S) : Option (Unit × z_S) :=
  if v1 < (64 : Int32) then (z_in v1 128 <| z_in ((64 : Int32) + v1) 128 <| z_bd (z_setI μ 290 ((64 : Int32) + v1).toNatClampNeg (μ.1 290 v1.toNatClampNeg)) fun μ_7 => z_bd (v1 + 1) fun x6 => kb x6 μ_7) else e185 μ
theorem tb_X12_stands_L158 (N : Nat) (kb : Int32 → z_S → Option (Unit × z_S)) (e185 : z_S → Option (Unit × z_S)) (hkb : ∀ (a1 : Int32) (μ : z_S), z_sim false rV mX12_stands 2 (kb a1 μ) 158 [(0, .ref 253), (1, .int a1)] [] μ) (he185 : ∀ (μ : z_S), z_sim false rV mX12_stands 2 (e185 μ) 185 [(0, .ref 253)] [] μ) (v1 : Int32) (μ : z_S) : z_sim false rV mX12_stands 2 (b_X12_stands_L158 N kb e185 v1 μ) 158 [(0, .ref 253), (1, .int v1)] [] μ := by
  unfold b_X12_stands_L158
  refine s_iload_n (pc := 158) 1 dX12_stands_158 rfl rfl ?_
  refine s_bipush (pc := 159) (v := (64 : Int32)) dX12_stands_159 (by decide) ?_
  refine s_icmp_ge (pc := 161) (tgt := 185) dX12_stands_161 (by decide) ?_ ?_
  · refine s_aload_n (pc := 164) 0 dX12_stands_164 rfl rfl ?_
    refine s_getR (pc := 165) (ci := 12) (k := 45) (r := 290) dX12_stands_165 fl_12_124 kd_253 rfl rs_253_45 ?_
    refine s_bipush (pc := 168) (v := (64 : Int32)) dX12_stands_168 (by decide) ?_
    refine s_iload_n (pc := 170) 1 dX12_stands_170 rfl rfl ?_
    refine s_iadd (pc := 171) dX12_stands_171 ?_
    refine s_aload_n (pc := 172) 0 dX12_stands_172 rfl rfl ?_
    refine s_getR (pc := 173) (ci := 12) (k := 45) (r := 290) dX12_stands_173 fl_12_124 kd_253 rfl rs_253_45 ?_
    refine s_iload_n (pc := 176) 1 dX12_stands_176 rfl rfl ?_
    refine s_iald (pc := 177) dX12_stands_177 kd_290 ?_
    refine s_iast (pc := 178) dX12_stands_178 kd_290 (fun μ_7 => ?_)
    refine s_iincB (pc := 179) (lv' := fun x6 => [(1, .int x6), (0, .ref 253)]) (c := 1) 1 dX12_stands_179 rfl (by decide) (by decide) (fun _ => rfl) (fun x6 => ?_)
    refine s_goto (pc := 182) (tgt := 158) dX12_stands_182 (by decide) ?_
    refine s_sub (lv' := [(0, .ref 253), (1, .int x6)]) [1, 0] rfl ?_
    exact hkb x6 μ_7
  · refine s_sub (lv' := [(0, .ref 253)]) [0] rfl ?_
    exact he185 μ
def f_X12_stands_L158 (N : Nat) (e185 : z_S → Option (Unit × z_S)) : Nat → Int32 → z_S → Option (Unit × z_S)
  | 0, _, _ => none
  | n + 1, v1, μ => b_X12_stands_L158 N (f_X12_stands_L158 N e185 n) e185 v1 μ
theorem t_X12_stands_L158 (N : Nat) (e185 : z_S → Option (Unit × z_S)) (he185 : ∀ (μ : z_S), z_sim false rV mX12_stands 2 (e185 μ) 185 [(0, .ref 253)] [] μ) : ∀ (n : Nat) (v1 : Int32) (μ : z_S), z_sim false rV mX12_stands 2 (f_X12_stands_L158 N e185 n v1 μ) 158 [(0, .ref 253), (1, .int v1)] [] μ
  | 0, _, _ => s_none
  | n + 1, v1, μ => tb_X12_stands_L158 N (f_X12_stands_L158 N e185 n) e185 (t_X12_stands_L158 N e185 he185 n) he185 v1 μ
def b_X12_stands_L187 (N : Nat) (kb : Int32 → z_S → Option (Unit × z_S)) (e214 : z_S → Option (Unit × z_S)) (v1 : Int32) (μ : z_S) : Option (Unit × z_S) :=
  if v1 < (9 : Int32) then (z_in v1 18 <| z_in ((9 : Int32) + v1) 18 <| z_bd (z_setI μ 291 ((9 : Int32) + v1).toNatClampNeg (μ.1 291 v1.toNatClampNeg)) fun μ_8 => z_bd (v1 + 1) fun x7 => kb x7 μ_8) else e214 μ
theorem tb_X12_stands_L187 (N : Nat) (kb : Int32 → z_S → Option (Unit × z_S)) (e214 : z_S → Option (Unit × z_S)) (hkb : ∀ (a1 : Int32) (μ : z_S), z_sim false rV mX12_stands 2 (kb a1 μ) 187 [(0, .ref 253), (1, .int a1)] [] μ) (he214 : ∀ (μ : z_S), z_sim false rV mX12_stands 2 (e214 μ) 214 [(0, .ref 253)] [] μ) (v1 : Int32) (μ : z_S) : z_sim false rV mX12_stands 2 (b_X12_stands_L187 N kb e214 v1 μ) 187 [(0, .ref 253), (1, .int v1)] [] μ := by
  unfold b_X12_stands_L187
  refine s_iload_n (pc := 187) 1 dX12_stands_187 rfl rfl ?_
  refine s_bipush (pc := 188) (v := (9 : Int32)) dX12_stands_188 (by decide) ?_
  refine s_icmp_ge (pc := 190) (tgt := 214) dX12_stands_190 (by decide) ?_ ?_
  · refine s_aload_n (pc := 193) 0 dX12_stands_193 rfl rfl ?_
    refine s_getR (pc := 194) (ci := 12) (k := 46) (r := 291) dX12_stands_194 fl_12_127 kd_253 rfl rs_253_46 ?_
    refine s_bipush (pc := 197) (v := (9 : Int32)) dX12_stands_197 (by decide) ?_
    refine s_iload_n (pc := 199) 1 dX12_stands_199 rfl rfl ?_
    refine s_iadd (pc := 200) dX12_stands_200 ?_
    refine s_aload_n (pc := 201) 0 dX12_stands_201 rfl rfl ?_
    refine s_getR (pc := 202) (ci := 12) (k := 46) (r := 291) dX12_stands_202 fl_12_127 kd_253 rfl rs_253_46 ?_
    refine s_iload_n (pc := 205) 1 dX12_stands_205 rfl rfl ?_
    refine s_iald (pc := 206) dX12_stands_206 kd_291 ?_
    refine s_iast (pc := 207) dX12_stands_207 kd_291 (fun μ_8 => ?_)
    refine s_iincB (pc := 208) (lv' := fun x7 => [(1, .int x7), (0, .ref 253)]) (c := 1) 1 dX12_stands_208 rfl (by decide) (by decide) (fun _ => rfl) (fun x7 => ?_)
    refine s_goto (pc := 211) (tgt := 187) dX12_stands_211 (by decide) ?_
    refine s_sub (lv' := [(0, .ref 253), (1, .int x7)]) [1, 0] rfl ?_
    exact hkb x7 μ_8
  · refine s_sub (lv' := [(0, .ref 253)]) [0] rfl ?_
    exact he214 μ
def f_X12_stands_L187 (N : Nat) (e214 : z_S → Option (Unit × z_S)) : Nat → Int32 → z_S → Option (Unit × z_S)
  | 0, _, _ => none
  | n + 1, v1, μ => b_X12_stands_L187 N (f_X12_stands_L187 N e214 n) e214 v1 μ
theorem t_X12_stands_L187 (N : Nat) (e214 : z_S → Option (Unit × z_S)) (he214 : ∀ (μ : z_S), z_sim false rV mX12_stands 2 (e214 μ) 214 [(0, .ref 253)] [] μ) : ∀ (n : Nat) (v1 : Int32) (μ : z_S), z_sim false rV mX12_stands 2 (f_X12_stands_L187 N e214 n v1 μ) 187 [(0, .ref 253), (1, .int v1)] [] μ
  | 0, _, _ => s_none
  | n + 1, v1, μ => tb_X12_stands_L187 N (f_X12_stands_L187 N e214 n) e214 (t_X12_stands_L187 N e214 he214 n) he214 v1 μ
def b_X12_stands_L216 (N : Nat) (kb : Int32 → z_S → Option (Unit × z_S)) (e269 : z_S → Option (Unit × z_S)) (v1 : Int32) (μ : z_S) : Option (Unit × z_S) :=
  if v1 < (2 : Int32) then (z_in v1 4 <| z_in ((2 : Int32) + v1) 4 <| z_bd (z_setI μ 292 ((2 : Int32) + v1).toNatClampNeg (μ.1 292 v1.toNatClampNeg)) fun μ_9 => z_in v1 4 <| z_in ((2 : Int32) + v1) 4 <| z_bd (z_setI μ_9 293 ((2 : Int32) + v1).toNatClampNeg (μ_9.1 293 v1.toNatClampNeg)) fun μ_10 => z_in v1 4 <| z_in ((2 : Int32) + v1) 4 <| z_bd (z_setI μ_10 294 ((2 : Int32) + v1).toNatClampNeg (μ_10.1 294 v1.toNatClampNeg)) fun μ_11 => z_bd (v1 + 1) fun x8 => kb x8 μ_11) else e269 μ
theorem tb_X12_stands_L216 (N : Nat) (kb : Int32 → z_S → Option (Unit × z_S)) (e269 : z_S → Option (Unit × z_S)) (hkb : ∀ (a1 : Int32) (μ : z_S), z_sim false rV mX12_stands 2 (kb a1 μ) 216 [(0, .ref 253), (1, .int a1)] [] μ) (he269 : ∀ (μ : z_S), z_sim false rV mX12_stands 2 (e269 μ) 269 [(0, .ref 253)] [] μ) (v1 : Int32) (μ : z_S) : z_sim false rV mX12_stands 2 (b_X12_stands_L216 N kb e269 v1 μ) 216 [(0, .ref 253), (1, .int v1)] [] μ := by
  unfold b_X12_stands_L216
  refine s_iload_n (pc := 216) 1 dX12_stands_216 rfl rfl ?_
  refine s_iconst (pc := 217) (v := (2 : Int32)) dX12_stands_217 (by decide) ?_
  refine s_icmp_ge (pc := 218) (tgt := 269) dX12_stands_218 (by decide) ?_ ?_
  · refine s_aload_n (pc := 221) 0 dX12_stands_221 rfl rfl ?_
    refine s_getR (pc := 222) (ci := 12) (k := 47) (r := 292) dX12_stands_222 fl_12_130 kd_253 rfl rs_253_47 ?_
    refine s_iconst (pc := 225) (v := (2 : Int32)) dX12_stands_225 (by decide) ?_
    refine s_iload_n (pc := 226) 1 dX12_stands_226 rfl rfl ?_
    refine s_iadd (pc := 227) dX12_stands_227 ?_
    refine s_aload_n (pc := 228) 0 dX12_stands_228 rfl rfl ?_
    refine s_getR (pc := 229) (ci := 12) (k := 47) (r := 292) dX12_stands_229 fl_12_130 kd_253 rfl rs_253_47 ?_
    refine s_iload_n (pc := 232) 1 dX12_stands_232 rfl rfl ?_
    refine s_iald (pc := 233) dX12_stands_233 kd_292 ?_
    refine s_iast (pc := 234) dX12_stands_234 kd_292 (fun μ_9 => ?_)
    refine s_aload_n (pc := 235) 0 dX12_stands_235 rfl rfl ?_
    refine s_getR (pc := 236) (ci := 12) (k := 48) (r := 293) dX12_stands_236 fl_12_133 kd_253 rfl rs_253_48 ?_
    refine s_iconst (pc := 239) (v := (2 : Int32)) dX12_stands_239 (by decide) ?_
    refine s_iload_n (pc := 240) 1 dX12_stands_240 rfl rfl ?_
    refine s_iadd (pc := 241) dX12_stands_241 ?_
    refine s_aload_n (pc := 242) 0 dX12_stands_242 rfl rfl ?_
    refine s_getR (pc := 243) (ci := 12) (k := 48) (r := 293) dX12_stands_243 fl_12_133 kd_253 rfl rs_253_48 ?_
    refine s_iload_n (pc := 246) 1 dX12_stands_246 rfl rfl ?_
    refine s_iald (pc := 247) dX12_stands_247 kd_293 ?_
    refine s_iast (pc := 248) dX12_stands_248 kd_293 (fun μ_10 => ?_)
    refine s_aload_n (pc := 249) 0 dX12_stands_249 rfl rfl ?_
    refine s_getR (pc := 250) (ci := 12) (k := 49) (r := 294) dX12_stands_250 fl_12_136 kd_253 rfl rs_253_49 ?_
    refine s_iconst (pc := 253) (v := (2 : Int32)) dX12_stands_253 (by decide) ?_
    refine s_iload_n (pc := 254) 1 dX12_stands_254 rfl rfl ?_
    refine s_iadd (pc := 255) dX12_stands_255 ?_
    refine s_aload_n (pc := 256) 0 dX12_stands_256 rfl rfl ?_
    refine s_getR (pc := 257) (ci := 12) (k := 49) (r := 294) dX12_stands_257 fl_12_136 kd_253 rfl rs_253_49 ?_
    refine s_iload_n (pc := 260) 1 dX12_stands_260 rfl rfl ?_
    refine s_iald (pc := 261) dX12_stands_261 kd_294 ?_
    refine s_iast (pc := 262) dX12_stands_262 kd_294 (fun μ_11 => ?_)
    refine s_iincB (pc := 263) (lv' := fun x8 => [(1, .int x8), (0, .ref 253)]) (c := 1) 1 dX12_stands_263 rfl (by decide) (by decide) (fun _ => rfl) (fun x8 => ?_)
    refine s_goto (pc := 266) (tgt := 216) dX12_stands_266 (by decide) ?_
    refine s_sub (lv' := [(0, .ref 253), (1, .int x8)]) [1, 0] rfl ?_
    exact hkb x8 μ_11
  · refine s_sub (lv' := [(0, .ref 253)]) [0] rfl ?_
    exact he269 μ
def f_X12_stands_L216 (N : Nat) (e269 : z_S → Option (Unit × z_S)) : Nat → Int32 → z_S → Option (Unit × z_S)
  | 0, _, _ => none
  | n + 1, v1, μ => b_X12_stands_L216 N (f_X12_stands_L216 N e269 n) e269 v1 μ
theorem t_X12_stands_L216 (N : Nat) (e269 : z_S → Option (Unit × z_S)) (he269 : ∀ (μ : z_S), z_sim false rV mX12_stands 2 (e269 μ) 269 [(0, .ref 253)] [] μ) : ∀ (n : Nat) (v1 : Int32) (μ : z_S), z_sim false rV mX12_stands 2 (f_X12_stands_L216 N e269 n v1 μ) 216 [(0, .ref 253), (1, .int v1)] [] μ
  | 0, _, _ => s_none
  | n + 1, v1, μ => tb_X12_stands_L216 N (f_X12_stands_L216 N e269 n) e269 (t_X12_stands_L216 N e269 he269 n) he269 v1 μ
def b_X12_stands_L271 (N : Nat) (kb : Int32 → z_S → Option (Unit × z_S)) (e301 : z_S → Option (Unit × z_S)) (v1 : Int32) (μ : z_S) : Option (Unit × z_S) :=
  if v1 < (μ.1 253 51) then (z_in v1 3200 <| z_in ((1600 : Int32) + v1) 3200 <| z_bd (z_setI μ 295 ((1600 : Int32) + v1).toNatClampNeg (μ.1 295 v1.toNatClampNeg)) fun μ_12 => z_bd (v1 + 1) fun x9 => kb x9 μ_12) else e301 μ
theorem tb_X12_stands_L271 (N : Nat) (kb : Int32 → z_S → Option (Unit × z_S)) (e301 : z_S → Option (Unit × z_S)) (hkb : ∀ (a1 : Int32) (μ : z_S), z_sim false rV mX12_stands 2 (kb a1 μ) 271 [(0, .ref 253), (1, .int a1)] [] μ) (he301 : ∀ (μ : z_S), z_sim false rV mX12_stands 2 (e301 μ) 301 [(0, .ref 253)] [] μ) (v1 : Int32) (μ : z_S) : z_sim false rV mX12_stands 2 (b_X12_stands_L271 N kb e301 v1 μ) 271 [(0, .ref 253), (1, .int v1)] [] μ := by
  unfold b_X12_stands_L271
  refine s_iload_n (pc := 271) 1 dX12_stands_271 rfl rfl ?_
  refine s_aload_n (pc := 272) 0 dX12_stands_272 rfl rfl ?_
  refine s_getI (pc := 273) (ci := 12) (k := 51) dX12_stands_273 fl_12_367 kd_253 rfl ?_
  refine s_icmp_ge (pc := 276) (tgt := 301) dX12_stands_276 (by decide) ?_ ?_
  · refine s_aload_n (pc := 279) 0 dX12_stands_279 rfl rfl ?_
    refine s_getR (pc := 280) (ci := 12) (k := 50) (r := 295) dX12_stands_280 fl_12_139 kd_253 rfl rs_253_50 ?_
    refine s_sipush (pc := 283) (v := (1600 : Int32)) dX12_stands_283 (by decide) ?_
    refine s_iload_n (pc := 286) 1 dX12_stands_286 rfl rfl ?_
    refine s_iadd (pc := 287) dX12_stands_287 ?_
    refine s_aload_n (pc := 288) 0 dX12_stands_288 rfl rfl ?_
    refine s_getR (pc := 289) (ci := 12) (k := 50) (r := 295) dX12_stands_289 fl_12_139 kd_253 rfl rs_253_50 ?_
    refine s_iload_n (pc := 292) 1 dX12_stands_292 rfl rfl ?_
    refine s_iald (pc := 293) dX12_stands_293 kd_295 ?_
    refine s_iast (pc := 294) dX12_stands_294 kd_295 (fun μ_12 => ?_)
    refine s_iincB (pc := 295) (lv' := fun x9 => [(1, .int x9), (0, .ref 253)]) (c := 1) 1 dX12_stands_295 rfl (by decide) (by decide) (fun _ => rfl) (fun x9 => ?_)
    refine s_goto (pc := 298) (tgt := 271) dX12_stands_298 (by decide) ?_
    refine s_sub (lv' := [(0, .ref 253), (1, .int x9)]) [1, 0] rfl ?_
    exact hkb x9 μ_12
  · refine s_sub (lv' := [(0, .ref 253)]) [0] rfl ?_
    exact he301 μ
def f_X12_stands_L271 (N : Nat) (e301 : z_S → Option (Unit × z_S)) : Nat → Int32 → z_S → Option (Unit × z_S)
  | 0, _, _ => none
  | n + 1, v1, μ => b_X12_stands_L271 N (f_X12_stands_L271 N e301 n) e301 v1 μ
theorem t_X12_stands_L271 (N : Nat) (e301 : z_S → Option (Unit × z_S)) (he301 : ∀ (μ : z_S), z_sim false rV mX12_stands 2 (e301 μ) 301 [(0, .ref 253)] [] μ) : ∀ (n : Nat) (v1 : Int32) (μ : z_S), z_sim false rV mX12_stands 2 (f_X12_stands_L271 N e301 n v1 μ) 271 [(0, .ref 253), (1, .int v1)] [] μ
  | 0, _, _ => s_none
  | n + 1, v1, μ => tb_X12_stands_L271 N (f_X12_stands_L271 N e301 n) e301 (t_X12_stands_L271 N e301 he301 n) he301 v1 μ
def b_X12_stands_L303 (N : Nat) (kb : Int32 → z_S → Option (Unit × z_S)) (e322 : z_S → Option (Unit × z_S)) (v1 : Int32) (μ : z_S) : Option (Unit × z_S) :=
  if v1 < (32 : Int32) then (z_in v1 32 <| z_bd (z_setI μ 296 v1.toNatClampNeg (0 : Int32)) fun μ_13 => z_bd (v1 + 1) fun x10 => kb x10 μ_13) else e322 μ
theorem tb_X12_stands_L303 (N : Nat) (kb : Int32 → z_S → Option (Unit × z_S)) (e322 : z_S → Option (Unit × z_S)) (hkb : ∀ (a1 : Int32) (μ : z_S), z_sim false rV mX12_stands 2 (kb a1 μ) 303 [(0, .ref 253), (1, .int a1)] [] μ) (he322 : ∀ (μ : z_S), z_sim false rV mX12_stands 2 (e322 μ) 322 [(0, .ref 253)] [] μ) (v1 : Int32) (μ : z_S) : z_sim false rV mX12_stands 2 (b_X12_stands_L303 N kb e322 v1 μ) 303 [(0, .ref 253), (1, .int v1)] [] μ := by
  unfold b_X12_stands_L303
  refine s_iload_n (pc := 303) 1 dX12_stands_303 rfl rfl ?_
  refine s_bipush (pc := 304) (v := (32 : Int32)) dX12_stands_304 (by decide) ?_
  refine s_icmp_ge (pc := 306) (tgt := 322) dX12_stands_306 (by decide) ?_ ?_
  · refine s_aload_n (pc := 309) 0 dX12_stands_309 rfl rfl ?_
    refine s_getR (pc := 310) (ci := 12) (k := 54) (r := 296) dX12_stands_310 fl_12_142 kd_253 rfl rs_253_54 ?_
    refine s_iload_n (pc := 313) 1 dX12_stands_313 rfl rfl ?_
    refine s_iconst (pc := 314) (v := (0 : Int32)) dX12_stands_314 (by decide) ?_
    refine s_iast (pc := 315) dX12_stands_315 kd_296 (fun μ_13 => ?_)
    refine s_iincB (pc := 316) (lv' := fun x10 => [(1, .int x10), (0, .ref 253)]) (c := 1) 1 dX12_stands_316 rfl (by decide) (by decide) (fun _ => rfl) (fun x10 => ?_)
    refine s_goto (pc := 319) (tgt := 303) dX12_stands_319 (by decide) ?_
    refine s_sub (lv' := [(0, .ref 253), (1, .int x10)]) [1, 0] rfl ?_
    exact hkb x10 μ_13
  · refine s_sub (lv' := [(0, .ref 253)]) [0] rfl ?_
    exact he322 μ
def f_X12_stands_L303 (N : Nat) (e322 : z_S → Option (Unit × z_S)) : Nat → Int32 → z_S → Option (Unit × z_S)
  | 0, _, _ => none
  | n + 1, v1, μ => b_X12_stands_L303 N (f_X12_stands_L303 N e322 n) e322 v1 μ
theorem t_X12_stands_L303 (N : Nat) (e322 : z_S → Option (Unit × z_S)) (he322 : ∀ (μ : z_S), z_sim false rV mX12_stands 2 (e322 μ) 322 [(0, .ref 253)] [] μ) : ∀ (n : Nat) (v1 : Int32) (μ : z_S), z_sim false rV mX12_stands 2 (f_X12_stands_L303 N e322 n v1 μ) 303 [(0, .ref 253), (1, .int v1)] [] μ
  | 0, _, _ => s_none
  | n + 1, v1, μ => tb_X12_stands_L303 N (f_X12_stands_L303 N e322 n) e322 (t_X12_stands_L303 N e322 he322 n) he322 v1 μ
def b_X12_stands_L328 (N : Nat) (kb : Int32 → z_S → Option (Unit × z_S)) (e358 : z_S → Option (Unit × z_S)) (v1 : Int32) (μ : z_S) : Option (Unit × z_S) :=
  z_bn (f_X12_giftMany N μ) fun x11 μ_15 => if v1 < x11 then (z_in ((4 : Int32) + v1) 8 <| z_in ((4 : Int32) + v1) 32 <| z_bd (z_setI μ_15 296 ((4 : Int32) + v1).toNatClampNeg (μ_15.1 287 ((4 : Int32) + v1).toNatClampNeg)) fun μ_16 => z_bd (v1 + 1) fun x12 => kb x12 μ_16) else e358 μ_15
theorem tb_X12_stands_L328 (N : Nat) (kb : Int32 → z_S → Option (Unit × z_S)) (e358 : z_S → Option (Unit × z_S)) (hkb : ∀ (a1 : Int32) (μ : z_S), z_sim false rV mX12_stands 2 (kb a1 μ) 328 [(0, .ref 253), (1, .int a1)] [] μ) (he358 : ∀ (μ : z_S), z_sim false rV mX12_stands 2 (e358 μ) 358 [(0, .ref 253)] [] μ) (v1 : Int32) (μ : z_S) : z_sim false rV mX12_stands 2 (b_X12_stands_L328 N kb e358 v1 μ) 328 [(0, .ref 253), (1, .int v1)] [] μ := by
  unfold b_X12_stands_L328
  refine s_iload_n (pc := 328) 1 dX12_stands_328 rfl rfl ?_
  refine s_aload_n (pc := 329) 0 dX12_stands_329 rfl rfl ?_
  refine s_callVI (pc := 330) (as := []) (st := [.int v1]) dX12_stands_330 lk_12_410 kd_253 (t_X12_giftMany N μ) (by omega) rfl (Nat.le_of_ble_eq_true rfl) rfl (fun x11 μ_15 => ?_)
  refine s_icmp_ge (pc := 333) (tgt := 358) dX12_stands_333 (by decide) ?_ ?_
  · refine s_aload_n (pc := 336) 0 dX12_stands_336 rfl rfl ?_
    refine s_getR (pc := 337) (ci := 12) (k := 54) (r := 296) dX12_stands_337 fl_12_142 kd_253 rfl rs_253_54 ?_
    refine s_iconst (pc := 340) (v := (4 : Int32)) dX12_stands_340 (by decide) ?_
    refine s_iload_n (pc := 341) 1 dX12_stands_341 rfl rfl ?_
    refine s_iadd (pc := 342) dX12_stands_342 ?_
    refine s_aload_n (pc := 343) 0 dX12_stands_343 rfl rfl ?_
    refine s_getR (pc := 344) (ci := 12) (k := 42) (r := 287) dX12_stands_344 fl_12_115 kd_253 rfl rs_253_42 ?_
    refine s_iconst (pc := 347) (v := (4 : Int32)) dX12_stands_347 (by decide) ?_
    refine s_iload_n (pc := 348) 1 dX12_stands_348 rfl rfl ?_
    refine s_iadd (pc := 349) dX12_stands_349 ?_
    refine s_iald (pc := 350) dX12_stands_350 kd_287 ?_
    refine s_iast (pc := 351) dX12_stands_351 kd_296 (fun μ_16 => ?_)
    refine s_iincB (pc := 352) (lv' := fun x12 => [(1, .int x12), (0, .ref 253)]) (c := 1) 1 dX12_stands_352 rfl (by decide) (by decide) (fun _ => rfl) (fun x12 => ?_)
    refine s_goto (pc := 355) (tgt := 328) dX12_stands_355 (by decide) ?_
    refine s_sub (lv' := [(0, .ref 253), (1, .int x12)]) [1, 0] rfl ?_
    exact hkb x12 μ_16
  · refine s_sub (lv' := [(0, .ref 253)]) [0] rfl ?_
    exact he358 μ_15
def f_X12_stands_L328 (N : Nat) (e358 : z_S → Option (Unit × z_S)) : Nat → Int32 → z_S → Option (Unit × z_S)
  | 0, _, _ => none
  | n + 1, v1, μ => b_X12_stands_L328 N (f_X12_stands_L328 N e358 n) e358 v1 μ
theorem t_X12_stands_L328 (N : Nat) (e358 : z_S → Option (Unit × z_S)) (he358 : ∀ (μ : z_S), z_sim false rV mX12_stands 2 (e358 μ) 358 [(0, .ref 253)] [] μ) : ∀ (n : Nat) (v1 : Int32) (μ : z_S), z_sim false rV mX12_stands 2 (f_X12_stands_L328 N e358 n v1 μ) 328 [(0, .ref 253), (1, .int v1)] [] μ
  | 0, _, _ => s_none
  | n + 1, v1, μ => tb_X12_stands_L328 N (f_X12_stands_L328 N e358 n) e358 (t_X12_stands_L328 N e358 he358 n) he358 v1 μ
def f_X12_stands (N : Nat) (μ : z_S) : Option (Unit × z_S) :=
  f_X12_stands_L2 N (fun μ27 => f_X12_stands_L29 N (fun μ71 => f_X12_stands_L73 N (fun μ98 => f_X12_stands_L100 N (fun μ127 => f_X12_stands_L129 N (fun μ156 => f_X12_stands_L158 N (fun μ185 => f_X12_stands_L187 N (fun μ214 => f_X12_stands_L216 N (fun μ269 => f_X12_stands_L271 N (fun μ301 => f_X12_stands_L303 N (fun μ322 => z_bn (f_X12_leftAnew N μ322) fun _ μ_14 => f_X12_stands_L328 N (fun μ358 => z_bd (z_setI μ358 253 68 (0 : Int32)) fun μ_17 => z_bd (z_setI μ_17 253 65 (0 : Int32)) fun μ_18 => some ((), μ_18)) N (0 : Int32) μ_14) N (0 : Int32) μ301) N (0 : Int32) μ269) N (0 : Int32) μ214) N (0 : Int32) μ185) N (0 : Int32) μ156) N (0 : Int32) μ127) N (0 : Int32) μ98) N (0 : Int32) μ71) N (0 : Int32) μ27) N (0 : Int32) μ
theorem t_X12_stands (N : Nat) (μ : z_S) : z_met false rV mX12_stands 2 [.ref 253] μ (f_X12_stands N μ) := by
  refine z_met.of (by decide +kernel) (by show _ ≤ _; first | decide | exact Nat.le_of_ble_eq_true rfl) (lv := [(0, .ref 253)]) rfl ?_
  unfold f_X12_stands
  refine s_iconst (pc := 0) (v := (0 : Int32)) dX12_stands_0 (by decide) ?_
  refine s_istore_n (pc := 1) (lv' := [(1, .int (0 : Int32)), (0, .ref 253)]) dX12_stands_1 rfl (by decide) rfl ?_
  refine s_sub (lv' := [(0, .ref 253), (1, .int (0 : Int32))]) [1, 0] rfl ?_
  refine t_X12_stands_L2 N _ ?_ N (0 : Int32) μ
  · intro μ27
    refine s_iconst (pc := 27) (v := (0 : Int32)) dX12_stands_27 (by decide) ?_
    refine s_istore_n (pc := 28) (lv' := [(1, .int (0 : Int32)), (0, .ref 253)]) dX12_stands_28 rfl (by decide) rfl ?_
    refine s_sub (lv' := [(0, .ref 253), (1, .int (0 : Int32))]) [1, 0] rfl ?_
    refine t_X12_stands_L29 N _ ?_ N (0 : Int32) μ27
    · intro μ71
      refine s_iconst (pc := 71) (v := (0 : Int32)) dX12_stands_71 (by decide) ?_
      refine s_istore_n (pc := 72) (lv' := [(1, .int (0 : Int32)), (0, .ref 253)]) dX12_stands_72 rfl (by decide) rfl ?_
      refine s_sub (lv' := [(0, .ref 253), (1, .int (0 : Int32))]) [1, 0] rfl ?_
      refine t_X12_stands_L73 N _ ?_ N (0 : Int32) μ71
      · intro μ98
        refine s_iconst (pc := 98) (v := (0 : Int32)) dX12_stands_98 (by decide) ?_
        refine s_istore_n (pc := 99) (lv' := [(1, .int (0 : Int32)), (0, .ref 253)]) dX12_stands_99 rfl (by decide) rfl ?_
        refine s_sub (lv' := [(0, .ref 253), (1, .int (0 : Int32))]) [1, 0] rfl ?_
        refine t_X12_stands_L100 N _ ?_ N (0 : Int32) μ98
        · intro μ127
          refine s_iconst (pc := 127) (v := (0 : Int32)) dX12_stands_127 (by decide) ?_
          refine s_istore_n (pc := 128) (lv' := [(1, .int (0 : Int32)), (0, .ref 253)]) dX12_stands_128 rfl (by decide) rfl ?_
          refine s_sub (lv' := [(0, .ref 253), (1, .int (0 : Int32))]) [1, 0] rfl ?_
          refine t_X12_stands_L129 N _ ?_ N (0 : Int32) μ127
          · intro μ156
            refine s_iconst (pc := 156) (v := (0 : Int32)) dX12_stands_156 (by decide) ?_
            refine s_istore_n (pc := 157) (lv' := [(1, .int (0 : Int32)), (0, .ref 253)]) dX12_stands_157 rfl (by decide) rfl ?_
            refine s_sub (lv' := [(0, .ref 253), (1, .int (0 : Int32))]) [1, 0] rfl ?_
            refine t_X12_stands_L158 N _ ?_ N (0 : Int32) μ156
            · intro μ185
              refine s_iconst (pc := 185) (v := (0 : Int32)) dX12_stands_185 (by decide) ?_
              refine s_istore_n (pc := 186) (lv' := [(1, .int (0 : Int32)), (0, .ref 253)]) dX12_stands_186 rfl (by decide) rfl ?_
              refine s_sub (lv' := [(0, .ref 253), (1, .int (0 : Int32))]) [1, 0] rfl ?_
              refine t_X12_stands_L187 N _ ?_ N (0 : Int32) μ185
              · intro μ214
                refine s_iconst (pc := 214) (v := (0 : Int32)) dX12_stands_214 (by decide) ?_
                refine s_istore_n (pc := 215) (lv' := [(1, .int (0 : Int32)), (0, .ref 253)]) dX12_stands_215 rfl (by decide) rfl ?_
                refine s_sub (lv' := [(0, .ref 253), (1, .int (0 : Int32))]) [1, 0] rfl ?_
                refine t_X12_stands_L216 N _ ?_ N (0 : Int32) μ214
                · intro μ269
                  refine s_iconst (pc := 269) (v := (0 : Int32)) dX12_stands_269 (by decide) ?_
                  refine s_istore_n (pc := 270) (lv' := [(1, .int (0 : Int32)), (0, .ref 253)]) dX12_stands_270 rfl (by decide) rfl ?_
                  refine s_sub (lv' := [(0, .ref 253), (1, .int (0 : Int32))]) [1, 0] rfl ?_
                  refine t_X12_stands_L271 N _ ?_ N (0 : Int32) μ269
                  · intro μ301
                    refine s_iconst (pc := 301) (v := (0 : Int32)) dX12_stands_301 (by decide) ?_
                    refine s_istore_n (pc := 302) (lv' := [(1, .int (0 : Int32)), (0, .ref 253)]) dX12_stands_302 rfl (by decide) rfl ?_
                    refine s_sub (lv' := [(0, .ref 253), (1, .int (0 : Int32))]) [1, 0] rfl ?_
                    refine t_X12_stands_L303 N _ ?_ N (0 : Int32) μ301
                    · intro μ322
                      refine s_aload_n (pc := 322) 0 dX12_stands_322 rfl rfl ?_
                      refine s_callVV (pc := 323) (as := []) (st := []) dX12_stands_323 lk_12_407 kd_253 (t_X12_leftAnew N μ322) (by omega) rfl (by decide) rfl (fun _ μ_14 => ?_)
                      refine s_iconst (pc := 326) (v := (0 : Int32)) dX12_stands_326 (by decide) ?_
                      refine s_istore_n (pc := 327) (lv' := [(1, .int (0 : Int32)), (0, .ref 253)]) dX12_stands_327 rfl (by decide) rfl ?_
                      refine s_sub (lv' := [(0, .ref 253), (1, .int (0 : Int32))]) [1, 0] rfl ?_
                      refine t_X12_stands_L328 N _ ?_ N (0 : Int32) μ_14
                      · intro μ358
                        refine s_aload_n (pc := 358) 0 dX12_stands_358 rfl rfl ?_
                        refine s_iconst (pc := 359) (v := (0 : Int32)) dX12_stands_359 (by decide) ?_
                        refine s_putI (pc := 360) (ci := 12) (k := 68) dX12_stands_360 fl_12_413 kd_253 rfl rfl (fun μ_17 => ?_)
                        refine s_aload_n (pc := 363) 0 dX12_stands_363 rfl rfl ?_
                        refine s_iconst (pc := 364) (v := (0 : Int32)) dX12_stands_364 (by decide) ?_
                        refine s_putI (pc := 365) (ci := 12) (k := 65) dX12_stands_365 fl_12_416 kd_253 rfl rfl (fun μ_18 => ?_)
                        exact s_vret (pc := 368) dX12_stands_368 rfl
def b_X12_heap_L45 (N : Nat) (kb : Int32 → z_S → Option (Int32 × z_S)) (e63 : z_S → Option (Int32 × z_S)) (v1 : Int32) (μ : z_S) : Option (Int32 × z_S) :=
  if v1 < (5 : Int32) then (z_in v1 10 <| z_bd (z_setI μ 284 v1.toNatClampNeg (0 : Int32)) fun μ_9 => z_bd (v1 + 1) fun x1 => kb x1 μ_9) else e63 μ
theorem tb_X12_heap_L45 (N : Nat) (kb : Int32 → z_S → Option (Int32 × z_S)) (e63 : z_S → Option (Int32 × z_S)) (hkb : ∀ (a1 : Int32) (μ : z_S), z_sim false rI mX12_heap 9 (kb a1 μ) 45 [(0, .ref 253), (1, .int a1)] [] μ) (he63 : ∀ (μ : z_S), z_sim false rI mX12_heap 9 (e63 μ) 63 [(0, .ref 253)] [] μ) (v1 : Int32) (μ : z_S) : z_sim false rI mX12_heap 9 (b_X12_heap_L45 N kb e63 v1 μ) 45 [(0, .ref 253), (1, .int v1)] [] μ := by
  unfold b_X12_heap_L45
  refine s_iload_n (pc := 45) 1 dX12_heap_45 rfl rfl ?_
  refine s_iconst (pc := 46) (v := (5 : Int32)) dX12_heap_46 (by decide) ?_
  refine s_icmp_ge (pc := 47) (tgt := 63) dX12_heap_47 (by decide) ?_ ?_
  · refine s_aload_n (pc := 50) 0 dX12_heap_50 rfl rfl ?_
    refine s_getR (pc := 51) (ci := 12) (k := 39) (r := 284) dX12_heap_51 fl_12_105 kd_253 rfl rs_253_39 ?_
    refine s_iload_n (pc := 54) 1 dX12_heap_54 rfl rfl ?_
    refine s_iconst (pc := 55) (v := (0 : Int32)) dX12_heap_55 (by decide) ?_
    refine s_iast (pc := 56) dX12_heap_56 kd_284 (fun μ_9 => ?_)
    refine s_iincB (pc := 57) (lv' := fun x1 => [(1, .int x1), (0, .ref 253)]) (c := 1) 1 dX12_heap_57 rfl (by decide) (by decide) (fun _ => rfl) (fun x1 => ?_)
    refine s_goto (pc := 60) (tgt := 45) dX12_heap_60 (by decide) ?_
    refine s_sub (lv' := [(0, .ref 253), (1, .int x1)]) [1, 0] rfl ?_
    exact hkb x1 μ_9
  · refine s_sub (lv' := [(0, .ref 253)]) [0] rfl ?_
    exact he63 μ
def f_X12_heap_L45 (N : Nat) (e63 : z_S → Option (Int32 × z_S)) : Nat → Int32 → z_S → Option (Int32 × z_S)
  | 0, _, _ => none
  | n + 1, v1, μ => b_X12_heap_L45 N (f_X12_heap_L45 N e63 n) e63 v1 μ
theorem t_X12_heap_L45 (N : Nat) (e63 : z_S → Option (Int32 × z_S)) (he63 : ∀ (μ : z_S), z_sim false rI mX12_heap 9 (e63 μ) 63 [(0, .ref 253)] [] μ) : ∀ (n : Nat) (v1 : Int32) (μ : z_S), z_sim false rI mX12_heap 9 (f_X12_heap_L45 N e63 n v1 μ) 45 [(0, .ref 253), (1, .int v1)] [] μ
  | 0, _, _ => s_none
  | n + 1, v1, μ => tb_X12_heap_L45 N (f_X12_heap_L45 N e63 n) e63 (t_X12_heap_L45 N e63 he63 n) he63 v1 μ
def b_X12_heap_L65 (N : Nat) (kb : Int32 → z_S → Option (Int32 × z_S)) (e84 : z_S → Option (Int32 × z_S)) (v1 : Int32) (μ : z_S) : Option (Int32 × z_S) :=
  if v1 < (32 : Int32) then (z_in v1 64 <| z_bd (z_setI μ 288 v1.toNatClampNeg (0 : Int32)) fun μ_10 => z_bd (v1 + 1) fun x2 => kb x2 μ_10) else e84 μ
theorem tb_X12_heap_L65 (N : Nat) (kb : Int32 → z_S → Option (Int32 × z_S)) (e84 : z_S → Option (Int32 × z_S)) (hkb : ∀ (a1 : Int32) (μ : z_S), z_sim false rI mX12_heap 9 (kb a1 μ) 65 [(0, .ref 253), (1, .int a1)] [] μ) (he84 : ∀ (μ : z_S), z_sim false rI mX12_heap 9 (e84 μ) 84 [(0, .ref 253)] [] μ) (v1 : Int32) (μ : z_S) : z_sim false rI mX12_heap 9 (b_X12_heap_L65 N kb e84 v1 μ) 65 [(0, .ref 253), (1, .int v1)] [] μ := by
  unfold b_X12_heap_L65
  refine s_iload_n (pc := 65) 1 dX12_heap_65 rfl rfl ?_
  refine s_bipush (pc := 66) (v := (32 : Int32)) dX12_heap_66 (by decide) ?_
  refine s_icmp_ge (pc := 68) (tgt := 84) dX12_heap_68 (by decide) ?_ ?_
  · refine s_aload_n (pc := 71) 0 dX12_heap_71 rfl rfl ?_
    refine s_getR (pc := 72) (ci := 12) (k := 43) (r := 288) dX12_heap_72 fl_12_118 kd_253 rfl rs_253_43 ?_
    refine s_iload_n (pc := 75) 1 dX12_heap_75 rfl rfl ?_
    refine s_iconst (pc := 76) (v := (0 : Int32)) dX12_heap_76 (by decide) ?_
    refine s_iast (pc := 77) dX12_heap_77 kd_288 (fun μ_10 => ?_)
    refine s_iincB (pc := 78) (lv' := fun x2 => [(1, .int x2), (0, .ref 253)]) (c := 1) 1 dX12_heap_78 rfl (by decide) (by decide) (fun _ => rfl) (fun x2 => ?_)
    refine s_goto (pc := 81) (tgt := 65) dX12_heap_81 (by decide) ?_
    refine s_sub (lv' := [(0, .ref 253), (1, .int x2)]) [1, 0] rfl ?_
    exact hkb x2 μ_10
  · refine s_sub (lv' := [(0, .ref 253)]) [0] rfl ?_
    exact he84 μ
def f_X12_heap_L65 (N : Nat) (e84 : z_S → Option (Int32 × z_S)) : Nat → Int32 → z_S → Option (Int32 × z_S)
  | 0, _, _ => none
  | n + 1, v1, μ => b_X12_heap_L65 N (f_X12_heap_L65 N e84 n) e84 v1 μ
theorem t_X12_heap_L65 (N : Nat) (e84 : z_S → Option (Int32 × z_S)) (he84 : ∀ (μ : z_S), z_sim false rI mX12_heap 9 (e84 μ) 84 [(0, .ref 253)] [] μ) : ∀ (n : Nat) (v1 : Int32) (μ : z_S), z_sim false rI mX12_heap 9 (f_X12_heap_L65 N e84 n v1 μ) 65 [(0, .ref 253), (1, .int v1)] [] μ
  | 0, _, _ => s_none
  | n + 1, v1, μ => tb_X12_heap_L65 N (f_X12_heap_L65 N e84 n) e84 (t_X12_heap_L65 N e84 he84 n) he84 v1 μ
def b_X12_heap_L86 (N : Nat) (kb : Int32 → z_S → Option (Int32 × z_S)) (e105 : z_S → Option (Int32 × z_S)) (v1 : Int32) (μ : z_S) : Option (Int32 × z_S) :=
  if v1 < (8 : Int32) then (z_in v1 16 <| z_bd (z_setI μ 289 v1.toNatClampNeg (0 : Int32)) fun μ_11 => z_bd (v1 + 1) fun x3 => kb x3 μ_11) else e105 μ
theorem tb_X12_heap_L86 (N : Nat) (kb : Int32 → z_S → Option (Int32 × z_S)) (e105 : z_S → Option (Int32 × z_S)) (hkb : ∀ (a1 : Int32) (μ : z_S), z_sim false rI mX12_heap 9 (kb a1 μ) 86 [(0, .ref 253), (1, .int a1)] [] μ) (he105 : ∀ (μ : z_S), z_sim false rI mX12_heap 9 (e105 μ) 105 [(0, .ref 253)] [] μ) (v1 : Int32) (μ : z_S) : z_sim false rI mX12_heap 9 (b_X12_heap_L86 N kb e105 v1 μ) 86 [(0, .ref 253), (1, .int v1)] [] μ := by
  unfold b_X12_heap_L86
  refine s_iload_n (pc := 86) 1 dX12_heap_86 rfl rfl ?_
  refine s_bipush (pc := 87) (v := (8 : Int32)) dX12_heap_87 (by decide) ?_
  refine s_icmp_ge (pc := 89) (tgt := 105) dX12_heap_89 (by decide) ?_ ?_
  · refine s_aload_n (pc := 92) 0 dX12_heap_92 rfl rfl ?_
    refine s_getR (pc := 93) (ci := 12) (k := 44) (r := 289) dX12_heap_93 fl_12_121 kd_253 rfl rs_253_44 ?_
    refine s_iload_n (pc := 96) 1 dX12_heap_96 rfl rfl ?_
    refine s_iconst (pc := 97) (v := (0 : Int32)) dX12_heap_97 (by decide) ?_
    refine s_iast (pc := 98) dX12_heap_98 kd_289 (fun μ_11 => ?_)
    refine s_iincB (pc := 99) (lv' := fun x3 => [(1, .int x3), (0, .ref 253)]) (c := 1) 1 dX12_heap_99 rfl (by decide) (by decide) (fun _ => rfl) (fun x3 => ?_)
    refine s_goto (pc := 102) (tgt := 86) dX12_heap_102 (by decide) ?_
    refine s_sub (lv' := [(0, .ref 253), (1, .int x3)]) [1, 0] rfl ?_
    exact hkb x3 μ_11
  · refine s_sub (lv' := [(0, .ref 253)]) [0] rfl ?_
    exact he105 μ
def f_X12_heap_L86 (N : Nat) (e105 : z_S → Option (Int32 × z_S)) : Nat → Int32 → z_S → Option (Int32 × z_S)
  | 0, _, _ => none
  | n + 1, v1, μ => b_X12_heap_L86 N (f_X12_heap_L86 N e105 n) e105 v1 μ
theorem t_X12_heap_L86 (N : Nat) (e105 : z_S → Option (Int32 × z_S)) (he105 : ∀ (μ : z_S), z_sim false rI mX12_heap 9 (e105 μ) 105 [(0, .ref 253)] [] μ) : ∀ (n : Nat) (v1 : Int32) (μ : z_S), z_sim false rI mX12_heap 9 (f_X12_heap_L86 N e105 n v1 μ) 86 [(0, .ref 253), (1, .int v1)] [] μ
  | 0, _, _ => s_none
  | n + 1, v1, μ => tb_X12_heap_L86 N (f_X12_heap_L86 N e105 n) e105 (t_X12_heap_L86 N e105 he105 n) he105 v1 μ
def b_X12_heap_L107 (N : Nat) (kb : Int32 → z_S → Option (Int32 × z_S)) (e126 : z_S → Option (Int32 × z_S)) (v1 : Int32) (μ : z_S) : Option (Int32 × z_S) :=
  if v1 < (64 : Int32) then (z_in v1 128 <| z_bd (z_setI μ 290 v1.toNatClampNeg (0 : Int32)) fun μ_12 => z_bd (v1 + 1) fun x4 => kb x4 μ_12) else e126 μ
theorem tb_X12_heap_L107 (N : Nat) (kb : Int32 → z_S → Option (Int32 × z_S)) (e126 : z_S → Option (Int32 × z_S)) (hkb : ∀ (a1 : Int32) (μ : z_S), z_sim false rI mX12_heap 9 (kb a1 μ) 107 [(0, .ref 253), (1, .int a1)] [] μ) (he126 : ∀ (μ : z_S), z_sim false rI mX12_heap 9 (e126 μ) 126 [(0, .ref 253)] [] μ) (v1 : Int32) (μ : z_S) : z_sim false rI mX12_heap 9 (b_X12_heap_L107 N kb e126 v1 μ) 107 [(0, .ref 253), (1, .int v1)] [] μ := by
  unfold b_X12_heap_L107
  refine s_iload_n (pc := 107) 1 dX12_heap_107 rfl rfl ?_
  refine s_bipush (pc := 108) (v := (64 : Int32)) dX12_heap_108 (by decide) ?_
  refine s_icmp_ge (pc := 110) (tgt := 126) dX12_heap_110 (by decide) ?_ ?_
  · refine s_aload_n (pc := 113) 0 dX12_heap_113 rfl rfl ?_
    refine s_getR (pc := 114) (ci := 12) (k := 45) (r := 290) dX12_heap_114 fl_12_124 kd_253 rfl rs_253_45 ?_
    refine s_iload_n (pc := 117) 1 dX12_heap_117 rfl rfl ?_
    refine s_iconst (pc := 118) (v := (0 : Int32)) dX12_heap_118 (by decide) ?_
    refine s_iast (pc := 119) dX12_heap_119 kd_290 (fun μ_12 => ?_)
    refine s_iincB (pc := 120) (lv' := fun x4 => [(1, .int x4), (0, .ref 253)]) (c := 1) 1 dX12_heap_120 rfl (by decide) (by decide) (fun _ => rfl) (fun x4 => ?_)
    refine s_goto (pc := 123) (tgt := 107) dX12_heap_123 (by decide) ?_
    refine s_sub (lv' := [(0, .ref 253), (1, .int x4)]) [1, 0] rfl ?_
    exact hkb x4 μ_12
  · refine s_sub (lv' := [(0, .ref 253)]) [0] rfl ?_
    exact he126 μ
def f_X12_heap_L107 (N : Nat) (e126 : z_S → Option (Int32 × z_S)) : Nat → Int32 → z_S → Option (Int32 × z_S)
  | 0, _, _ => none
  | n + 1, v1, μ => b_X12_heap_L107 N (f_X12_heap_L107 N e126 n) e126 v1 μ
theorem t_X12_heap_L107 (N : Nat) (e126 : z_S → Option (Int32 × z_S)) (he126 : ∀ (μ : z_S), z_sim false rI mX12_heap 9 (e126 μ) 126 [(0, .ref 253)] [] μ) : ∀ (n : Nat) (v1 : Int32) (μ : z_S), z_sim false rI mX12_heap 9 (f_X12_heap_L107 N e126 n v1 μ) 107 [(0, .ref 253), (1, .int v1)] [] μ
  | 0, _, _ => s_none
  | n + 1, v1, μ => tb_X12_heap_L107 N (f_X12_heap_L107 N e126 n) e126 (t_X12_heap_L107 N e126 he126 n) he126 v1 μ
def b_X12_heap_L154 (N : Nat) (kb : z_S → Option (Int32 × z_S)) (e176 : z_S → Option (Int32 × z_S)) (μ : z_S) : Option (Int32 × z_S) :=
  if (μ.1 253 5) = 0 then (z_bn (f_X12_look N μ) fun x5 μ_17 => if x5 = (-1 : Int32) then (e176 μ_17) else z_bn (f_X12_statementTold N μ_17) fun _ μ_18 => kb μ_18) else e176 μ
theorem tb_X12_heap_L154 (N : Nat) (kb : z_S → Option (Int32 × z_S)) (e176 : z_S → Option (Int32 × z_S)) (hkb : ∀ (μ : z_S), z_sim false rI mX12_heap 9 (kb μ) 154 [(0, .ref 253)] [] μ) (he176 : ∀ (μ : z_S), z_sim false rI mX12_heap 9 (e176 μ) 176 [(0, .ref 253)] [] μ) (μ : z_S) : z_sim false rI mX12_heap 9 (b_X12_heap_L154 N kb e176 μ) 154 [(0, .ref 253)] [] μ := by
  unfold b_X12_heap_L154
  refine s_aload_n (pc := 154) 0 dX12_heap_154 rfl rfl ?_
  refine s_getI (pc := 155) (ci := 12) (k := 5) dX12_heap_155 fl_12_263 kd_253 rfl ?_
  refine s_if_ne (pc := 158) (tgt := 176) dX12_heap_158 (by decide) ?_ ?_
  · refine s_aload_n (pc := 161) 0 dX12_heap_161 rfl rfl ?_
    refine s_callVI (pc := 162) (as := []) (st := []) dX12_heap_162 lk_12_275 kd_253 (t_X12_look N μ) (by omega) rfl (by decide) rfl (fun x5 μ_17 => ?_)
    refine s_iconst (pc := 165) (v := (-1 : Int32)) dX12_heap_165 (by decide) ?_
    refine s_icmp_eq (pc := 166) (tgt := 176) dX12_heap_166 (by decide) ?_ ?_
    · exact he176 μ_17
    · refine s_aload_n (pc := 169) 0 dX12_heap_169 rfl rfl ?_
      refine s_callVV (pc := 170) (as := []) (st := []) dX12_heap_170 lk_12_398 kd_253 (t_X12_statementTold N μ_17) (by omega) rfl (by decide) rfl (fun _ μ_18 => ?_)
      refine s_goto (pc := 173) (tgt := 154) dX12_heap_173 (by decide) ?_
      exact hkb μ_18
  · exact he176 μ
def f_X12_heap_L154 (N : Nat) (e176 : z_S → Option (Int32 × z_S)) : Nat → z_S → Option (Int32 × z_S)
  | 0, _ => none
  | n + 1, μ => b_X12_heap_L154 N (f_X12_heap_L154 N e176 n) e176 μ
theorem t_X12_heap_L154 (N : Nat) (e176 : z_S → Option (Int32 × z_S)) (he176 : ∀ (μ : z_S), z_sim false rI mX12_heap 9 (e176 μ) 176 [(0, .ref 253)] [] μ) : ∀ (n : Nat) (μ : z_S), z_sim false rI mX12_heap 9 (f_X12_heap_L154 N e176 n μ) 154 [(0, .ref 253)] [] μ
  | 0, _ => s_none
  | n + 1, μ => tb_X12_heap_L154 N (f_X12_heap_L154 N e176 n) e176 (t_X12_heap_L154 N e176 he176 n) he176 μ
def f_X12_heap_B176 (N : Nat)   (μ : z_S) : Option (Int32 × z_S) :=
  z_bd (z_setI μ 253 7 (μ.1 253 5)) fun μ_19 => z_bd (z_setI μ_19 253 8 (μ_19.1 253 6)) fun μ_20 => if (μ_20.1 253 5) = 0 then (z_bn (f_X12_stands N μ_20) fun _ μ_21 => some ((μ_21.1 253 52), μ_21)) else z_bd (z_setI μ_20 255 1 ((μ_20.1 255 1) + (1 : Int32))) fun μ_22 => some ((-1 : Int32), μ_22)
theorem t_X12_heap_B176 (N : Nat)       (μ : z_S) : z_sim false rI mX12_heap 9 (f_X12_heap_B176 N    μ) 176 [(0, .ref 253)] [] μ := by
  unfold f_X12_heap_B176
  refine s_aload_n (pc := 176) 0 dX12_heap_176 rfl rfl ?_
  refine s_aload_n (pc := 177) 0 dX12_heap_177 rfl rfl ?_
  refine s_getI (pc := 178) (ci := 12) (k := 5) dX12_heap_178 fl_12_263 kd_253 rfl ?_
  refine s_putI (pc := 181) (ci := 12) (k := 7) dX12_heap_181 fl_12_401 kd_253 rfl rfl (fun μ_19 => ?_)
  refine s_aload_n (pc := 184) 0 dX12_heap_184 rfl rfl ?_
  refine s_aload_n (pc := 185) 0 dX12_heap_185 rfl rfl ?_
  refine s_getI (pc := 186) (ci := 12) (k := 6) dX12_heap_186 fl_12_266 kd_253 rfl ?_
  refine s_putI (pc := 189) (ci := 12) (k := 8) dX12_heap_189 fl_12_13 kd_253 rfl rfl (fun μ_20 => ?_)
  refine s_aload_n (pc := 192) 0 dX12_heap_192 rfl rfl ?_
  refine s_getI (pc := 193) (ci := 12) (k := 5) dX12_heap_193 fl_12_263 kd_253 rfl ?_
  refine s_if_eq (pc := 196) (tgt := 211) dX12_heap_196 (by decide) ?_ ?_
  · refine s_aload_n (pc := 211) 0 dX12_heap_211 rfl rfl ?_
    refine s_callVV (pc := 212) (as := []) (st := []) dX12_heap_212 lk_12_404 kd_253 (t_X12_stands N μ_20) (by omega) rfl (by decide) rfl (fun _ μ_21 => ?_)
    refine s_aload_n (pc := 215) 0 dX12_heap_215 rfl rfl ?_
    refine s_getI (pc := 216) (ci := 12) (k := 52) dX12_heap_216 fl_12_370 kd_253 rfl ?_
    exact s_iret (pc := 219) rfl dX12_heap_219 rfl
  · refine s_aload_n (pc := 199) 0 dX12_heap_199 rfl rfl ?_
    refine s_getR (pc := 200) (ci := 12) (k := 9) (r := 255) dX12_heap_200 fl_12_17 kd_253 rfl rs_253_9 ?_
    refine s_iconst (pc := 203) (v := (1 : Int32)) dX12_heap_203 (by decide) ?_
    refine s_dup2 (pc := 204) dX12_heap_204 rfl rfl ?_
    refine s_ialdK (pc := 205) (k := 1) dX12_heap_205 kd_255 (by decide) (by decide) (by decide) ?_
    refine s_iconst (pc := 206) (v := (1 : Int32)) dX12_heap_206 (by decide) ?_
    refine s_iadd (pc := 207) dX12_heap_207 ?_
    refine s_iastK (pc := 208) (k := 1) dX12_heap_208 kd_255 (by decide) (by decide) (by decide) (fun μ_22 => ?_)
    refine s_iconst (pc := 209) (v := (-1 : Int32)) dX12_heap_209 (by decide) ?_
    exact s_iret (pc := 210) rfl dX12_heap_210 rfl
def f_X12_heap (N : Nat) (μ : z_S) : Option (Int32 × z_S) :=
  z_bd (z_setI μ 253 3 (μ.1 253 1)) fun μ_1 => z_bd (z_setI μ_1 253 1 (0 : Int32)) fun μ_2 => z_bd (z_setI μ_2 253 2 (0 : Int32)) fun μ_3 => z_bd (z_setI μ_3 253 4 (-1 : Int32)) fun μ_4 => z_bd (z_setI μ_4 253 5 (0 : Int32)) fun μ_5 => z_bd (z_setI μ_5 253 6 (-1 : Int32)) fun μ_6 => z_bd (z_setI μ_6 253 52 (0 : Int32)) fun μ_7 => z_bd (z_setI μ_7 253 51 (0 : Int32)) fun μ_8 => f_X12_heap_L45 N (fun μ63 => f_X12_heap_L65 N (fun μ84 => f_X12_heap_L86 N (fun μ105 => f_X12_heap_L107 N (fun μ126 => z_bd (z_setI μ126 293 0 (-1 : Int32)) fun μ_13 => z_bd (z_setI μ_13 293 1 (-1 : Int32)) fun μ_14 => z_bd (z_setI μ_14 292 0 (3 : Int32)) fun μ_15 => z_bd (z_setI μ_15 292 1 (0 : Int32)) fun μ_16 => f_X12_heap_L154 N (fun μ176 => f_X12_heap_B176 N μ176) N μ_16) N (0 : Int32) μ105) N (0 : Int32) μ84) N (0 : Int32) μ63) N (0 : Int32) μ_8
theorem t_X12_heap (N : Nat) (μ : z_S) : z_met false rI mX12_heap 9 [.ref 253] μ (f_X12_heap N μ) := by
  refine z_met.of (by decide +kernel) (by show _ ≤ _; first | decide | exact Nat.le_of_ble_eq_true rfl) (lv := [(0, .ref 253)]) rfl ?_
  unfold f_X12_heap
  refine s_aload_n (pc := 0) 0 dX12_heap_0 rfl rfl ?_
  refine s_aload_n (pc := 1) 0 dX12_heap_1 rfl rfl ?_
  refine s_getI (pc := 2) (ci := 12) (k := 1) dX12_heap_2 fl_12_260 kd_253 rfl ?_
  refine s_putI (pc := 5) (ci := 12) (k := 3) dX12_heap_5 fl_12_272 kd_253 rfl rfl (fun μ_1 => ?_)
  refine s_aload_n (pc := 8) 0 dX12_heap_8 rfl rfl ?_
  refine s_iconst (pc := 9) (v := (0 : Int32)) dX12_heap_9 (by decide) ?_
  refine s_putI (pc := 10) (ci := 12) (k := 1) dX12_heap_10 fl_12_260 kd_253 rfl rfl (fun μ_2 => ?_)
  refine s_aload_n (pc := 13) 0 dX12_heap_13 rfl rfl ?_
  refine s_iconst (pc := 14) (v := (0 : Int32)) dX12_heap_14 (by decide) ?_
  refine s_putI (pc := 15) (ci := 12) (k := 2) dX12_heap_15 fl_12_269 kd_253 rfl rfl (fun μ_3 => ?_)
  refine s_aload_n (pc := 18) 0 dX12_heap_18 rfl rfl ?_
  refine s_iconst (pc := 19) (v := (-1 : Int32)) dX12_heap_19 (by decide) ?_
  refine s_putI (pc := 20) (ci := 12) (k := 4) dX12_heap_20 fl_12_283 kd_253 rfl rfl (fun μ_4 => ?_)
  refine s_aload_n (pc := 23) 0 dX12_heap_23 rfl rfl ?_
  refine s_iconst (pc := 24) (v := (0 : Int32)) dX12_heap_24 (by decide) ?_
  refine s_putI (pc := 25) (ci := 12) (k := 5) dX12_heap_25 fl_12_263 kd_253 rfl rfl (fun μ_5 => ?_)
  refine s_aload_n (pc := 28) 0 dX12_heap_28 rfl rfl ?_
  refine s_iconst (pc := 29) (v := (-1 : Int32)) dX12_heap_29 (by decide) ?_
  refine s_putI (pc := 30) (ci := 12) (k := 6) dX12_heap_30 fl_12_266 kd_253 rfl rfl (fun μ_6 => ?_)
  refine s_aload_n (pc := 33) 0 dX12_heap_33 rfl rfl ?_
  refine s_iconst (pc := 34) (v := (0 : Int32)) dX12_heap_34 (by decide) ?_
  refine s_putI (pc := 35) (ci := 12) (k := 52) dX12_heap_35 fl_12_370 kd_253 rfl rfl (fun μ_7 => ?_)
  refine s_aload_n (pc := 38) 0 dX12_heap_38 rfl rfl ?_
  refine s_iconst (pc := 39) (v := (0 : Int32)) dX12_heap_39 (by decide) ?_
  refine s_putI (pc := 40) (ci := 12) (k := 51) dX12_heap_40 fl_12_367 kd_253 rfl rfl (fun μ_8 => ?_)
  refine s_iconst (pc := 43) (v := (0 : Int32)) dX12_heap_43 (by decide) ?_
  refine s_istore_n (pc := 44) (lv' := [(1, .int (0 : Int32)), (0, .ref 253)]) dX12_heap_44 rfl (by decide) rfl ?_
  refine s_sub (lv' := [(0, .ref 253), (1, .int (0 : Int32))]) [1, 0] rfl ?_
  refine t_X12_heap_L45 N _ ?_ N (0 : Int32) μ_8
  · intro μ63
    refine s_iconst (pc := 63) (v := (0 : Int32)) dX12_heap_63 (by decide) ?_
    refine s_istore_n (pc := 64) (lv' := [(1, .int (0 : Int32)), (0, .ref 253)]) dX12_heap_64 rfl (by decide) rfl ?_
    refine s_sub (lv' := [(0, .ref 253), (1, .int (0 : Int32))]) [1, 0] rfl ?_
    refine t_X12_heap_L65 N _ ?_ N (0 : Int32) μ63
    · intro μ84
      refine s_iconst (pc := 84) (v := (0 : Int32)) dX12_heap_84 (by decide) ?_
      refine s_istore_n (pc := 85) (lv' := [(1, .int (0 : Int32)), (0, .ref 253)]) dX12_heap_85 rfl (by decide) rfl ?_
      refine s_sub (lv' := [(0, .ref 253), (1, .int (0 : Int32))]) [1, 0] rfl ?_
      refine t_X12_heap_L86 N _ ?_ N (0 : Int32) μ84
      · intro μ105
        refine s_iconst (pc := 105) (v := (0 : Int32)) dX12_heap_105 (by decide) ?_
        refine s_istore_n (pc := 106) (lv' := [(1, .int (0 : Int32)), (0, .ref 253)]) dX12_heap_106 rfl (by decide) rfl ?_
        refine s_sub (lv' := [(0, .ref 253), (1, .int (0 : Int32))]) [1, 0] rfl ?_
        refine t_X12_heap_L107 N _ ?_ N (0 : Int32) μ105
        · intro μ126
          refine s_aload_n (pc := 126) 0 dX12_heap_126 rfl rfl ?_
          refine s_getR (pc := 127) (ci := 12) (k := 48) (r := 293) dX12_heap_127 fl_12_133 kd_253 rfl rs_253_48 ?_
          refine s_iconst (pc := 130) (v := (0 : Int32)) dX12_heap_130 (by decide) ?_
          refine s_iconst (pc := 131) (v := (-1 : Int32)) dX12_heap_131 (by decide) ?_
          refine s_iastK (pc := 132) (k := 0) dX12_heap_132 kd_293 (by decide) (by decide) (by decide) (fun μ_13 => ?_)
          refine s_aload_n (pc := 133) 0 dX12_heap_133 rfl rfl ?_
          refine s_getR (pc := 134) (ci := 12) (k := 48) (r := 293) dX12_heap_134 fl_12_133 kd_253 rfl rs_253_48 ?_
          refine s_iconst (pc := 137) (v := (1 : Int32)) dX12_heap_137 (by decide) ?_
          refine s_iconst (pc := 138) (v := (-1 : Int32)) dX12_heap_138 (by decide) ?_
          refine s_iastK (pc := 139) (k := 1) dX12_heap_139 kd_293 (by decide) (by decide) (by decide) (fun μ_14 => ?_)
          refine s_aload_n (pc := 140) 0 dX12_heap_140 rfl rfl ?_
          refine s_getR (pc := 141) (ci := 12) (k := 47) (r := 292) dX12_heap_141 fl_12_130 kd_253 rfl rs_253_47 ?_
          refine s_iconst (pc := 144) (v := (0 : Int32)) dX12_heap_144 (by decide) ?_
          refine s_iconst (pc := 145) (v := (3 : Int32)) dX12_heap_145 (by decide) ?_
          refine s_iastK (pc := 146) (k := 0) dX12_heap_146 kd_292 (by decide) (by decide) (by decide) (fun μ_15 => ?_)
          refine s_aload_n (pc := 147) 0 dX12_heap_147 rfl rfl ?_
          refine s_getR (pc := 148) (ci := 12) (k := 47) (r := 292) dX12_heap_148 fl_12_130 kd_253 rfl rs_253_47 ?_
          refine s_iconst (pc := 151) (v := (1 : Int32)) dX12_heap_151 (by decide) ?_
          refine s_iconst (pc := 152) (v := (0 : Int32)) dX12_heap_152 (by decide) ?_
          refine s_iastK (pc := 153) (k := 1) dX12_heap_153 kd_292 (by decide) (by decide) (by decide) (fun μ_16 => ?_)
          refine t_X12_heap_L154 N _ ?_ N μ_16
          · intro μ176
            exact t_X12_heap_B176 N μ176
def f_X12_fault (N : Nat) (a1 : Int32) (μ : z_S) : Option (Int32 × z_S) :=
  if a1 = 0 then (some ((μ.1 253 7), μ)) else if a1 = (1 : Int32) then (some ((μ.1 253 8), μ)) else some ((-1 : Int32), μ)
theorem t_X12_fault (N : Nat) (a1 : Int32) (μ : z_S) : z_met false rI mX12_fault 0 [.ref 253, .int a1] μ (f_X12_fault N a1 μ) := by
  refine z_met.of (by decide +kernel) (by show _ ≤ _; first | decide | exact Nat.le_of_ble_eq_true rfl) (lv := [(0, .ref 253), (1, .int a1)]) rfl ?_
  unfold f_X12_fault
  refine s_iload_n (pc := 0) 1 dX12_fault_0 rfl rfl ?_
  refine s_if_ne (pc := 1) (tgt := 11) dX12_fault_1 (by decide) ?_ ?_
  · refine s_aload_n (pc := 4) 0 dX12_fault_4 rfl rfl ?_
    refine s_getI (pc := 5) (ci := 12) (k := 7) dX12_fault_5 fl_12_401 kd_253 rfl ?_
    refine s_goto (pc := 8) (tgt := 24) dX12_fault_8 (by decide) ?_
    exact s_iret (pc := 24) rfl dX12_fault_24 rfl
  · refine s_iload_n (pc := 11) 1 dX12_fault_11 rfl rfl ?_
    refine s_iconst (pc := 12) (v := (1 : Int32)) dX12_fault_12 (by decide) ?_
    refine s_icmp_ne (pc := 13) (tgt := 23) dX12_fault_13 (by decide) ?_ ?_
    · refine s_aload_n (pc := 16) 0 dX12_fault_16 rfl rfl ?_
      refine s_getI (pc := 17) (ci := 12) (k := 8) dX12_fault_17 fl_12_13 kd_253 rfl ?_
      refine s_goto (pc := 20) (tgt := 24) dX12_fault_20 (by decide) ?_
      exact s_iret (pc := 24) rfl dX12_fault_24 rfl
    · refine s_iconst (pc := 23) (v := (-1 : Int32)) dX12_fault_23 (by decide) ?_
      exact s_iret (pc := 24) rfl dX12_fault_24 rfl
def f_X12_letterMany (N : Nat) (μ : z_S) : Option (Int32 × z_S) :=
  some ((μ.1 284 5), μ)
theorem t_X12_letterMany (N : Nat) (μ : z_S) : z_met false rI mX12_letterMany 0 [.ref 253] μ (f_X12_letterMany N μ) := by
  refine z_met.of (by decide +kernel) (by show _ ≤ _; first | decide | exact Nat.le_of_ble_eq_true rfl) (lv := [(0, .ref 253)]) rfl ?_
  unfold f_X12_letterMany
  refine s_aload_n (pc := 0) 0 dX12_letterMany_0 rfl rfl ?_
  refine s_getR (pc := 1) (ci := 12) (k := 39) (r := 284) dX12_letterMany_1 fl_12_105 kd_253 rfl rs_253_39 ?_
  refine s_iconst (pc := 4) (v := (5 : Int32)) dX12_letterMany_4 (by decide) ?_
  refine s_ialdK (pc := 5) (k := 5) dX12_letterMany_5 kd_284 (by decide) (by decide) (by decide) ?_
  exact s_iret (pc := 6) rfl dX12_letterMany_6 rfl
def f_X12_isMail (N : Nat) (a1 : Int32) (μ : z_S) : Option (Int32 × z_S) :=
  z_bn (f_X12_letterMany N μ) fun x1 μ_1 => z_bn (f_X12_isIn N a1.toInt64 (0 : Int64) ((x1 - (1 : Int32)).toInt64) μ_1) fun x2 μ_2 => z_zb x2 (some (x2, μ_2))
theorem t_X12_isMail (N : Nat) (a1 : Int32) (μ : z_S) : z_met false rI mX12_isMail 1 [.ref 253, .int a1] μ (f_X12_isMail N a1 μ) := by
  refine z_met.of (by decide +kernel) (by show _ ≤ _; first | decide | exact Nat.le_of_ble_eq_true rfl) (lv := [(0, .ref 253), (1, .int a1)]) rfl ?_
  unfold f_X12_isMail
  refine s_iload_n (pc := 0) 1 dX12_isMail_0 rfl rfl ?_
  refine s_i2l (pc := 1) dX12_isMail_1 ?_
  refine s_lconst (pc := 2) (v := (0 : Int64)) dX12_isMail_2 (by decide) ?_
  refine s_aload_n (pc := 3) 0 dX12_isMail_3 rfl rfl ?_
  refine s_callVI (pc := 4) (as := []) (st := [.long (0 : Int64), .long a1.toInt64]) dX12_isMail_4 lk_12_419 kd_253 (t_X12_letterMany N μ) (by omega) rfl (Nat.le_of_ble_eq_true rfl) rfl (fun x1 μ_1 => ?_)
  refine s_iconst (pc := 7) (v := (1 : Int32)) dX12_isMail_7 (by decide) ?_
  refine s_isub (pc := 8) dX12_isMail_8 ?_
  refine s_i2l (pc := 9) dX12_isMail_9 ?_
  refine s_callSI (pc := 10) (as := [.long a1.toInt64, .long (0 : Int64), .long (x1 - (1 : Int32)).toInt64]) (st := []) dX12_isMail_10 lk_12_303 (t_X12_isIn N a1.toInt64 (0 : Int64) ((x1 - (1 : Int32)).toInt64) μ_1) (by omega) rfl (by decide) rfl (fun x2 μ_2 => ?_)
  exact s_zret (pc := 13) dX12_isMail_13 rfl
def f_X12_isGift (N : Nat) (a1 : Int32) (μ : z_S) : Option (Int32 × z_S) :=
  z_bn (f_X12_giftMany N μ) fun x1 μ_1 => z_bn (f_X12_isIn N a1.toInt64 (0 : Int64) ((x1 - (1 : Int32)).toInt64) μ_1) fun x2 μ_2 => z_zb x2 (some (x2, μ_2))
theorem t_X12_isGift (N : Nat) (a1 : Int32) (μ : z_S) : z_met false rI mX12_isGift 1 [.ref 253, .int a1] μ (f_X12_isGift N a1 μ) := by
  refine z_met.of (by decide +kernel) (by show _ ≤ _; first | decide | exact Nat.le_of_ble_eq_true rfl) (lv := [(0, .ref 253), (1, .int a1)]) rfl ?_
  unfold f_X12_isGift
  refine s_iload_n (pc := 0) 1 dX12_isGift_0 rfl rfl ?_
  refine s_i2l (pc := 1) dX12_isGift_1 ?_
  refine s_lconst (pc := 2) (v := (0 : Int64)) dX12_isGift_2 (by decide) ?_
  refine s_aload_n (pc := 3) 0 dX12_isGift_3 rfl rfl ?_
  refine s_callVI (pc := 4) (as := []) (st := [.long (0 : Int64), .long a1.toInt64]) dX12_isGift_4 lk_12_410 kd_253 (t_X12_giftMany N μ) (by omega) rfl (Nat.le_of_ble_eq_true rfl) rfl (fun x1 μ_1 => ?_)
  refine s_iconst (pc := 7) (v := (1 : Int32)) dX12_isGift_7 (by decide) ?_
  refine s_isub (pc := 8) dX12_isGift_8 ?_
  refine s_i2l (pc := 9) dX12_isGift_9 ?_
  refine s_callSI (pc := 10) (as := [.long a1.toInt64, .long (0 : Int64), .long (x1 - (1 : Int32)).toInt64]) (st := []) dX12_isGift_10 lk_12_303 (t_X12_isIn N a1.toInt64 (0 : Int64) ((x1 - (1 : Int32)).toInt64) μ_1) (by omega) rfl (by decide) rfl (fun x2 μ_2 => ?_)
  exact s_zret (pc := 13) dX12_isGift_13 rfl
def f_X12_isHelper (N : Nat) (a1 : Int32) (μ : z_S) : Option (Int32 × z_S) :=
  z_bn (f_X12_helperMany N μ) fun x1 μ_1 => z_bn (f_X12_isIn N a1.toInt64 (0 : Int64) ((x1 - (1 : Int32)).toInt64) μ_1) fun x2 μ_2 => z_zb x2 (some (x2, μ_2))
theorem t_X12_isHelper (N : Nat) (a1 : Int32) (μ : z_S) : z_met false rI mX12_isHelper 1 [.ref 253, .int a1] μ (f_X12_isHelper N a1 μ) := by
  refine z_met.of (by decide +kernel) (by show _ ≤ _; first | decide | exact Nat.le_of_ble_eq_true rfl) (lv := [(0, .ref 253), (1, .int a1)]) rfl ?_
  unfold f_X12_isHelper
  refine s_iload_n (pc := 0) 1 dX12_isHelper_0 rfl rfl ?_
  refine s_i2l (pc := 1) dX12_isHelper_1 ?_
  refine s_lconst (pc := 2) (v := (0 : Int64)) dX12_isHelper_2 (by decide) ?_
  refine s_aload_n (pc := 3) 0 dX12_isHelper_3 rfl rfl ?_
  refine s_callVI (pc := 4) (as := []) (st := [.long (0 : Int64), .long a1.toInt64]) dX12_isHelper_4 lk_12_422 kd_253 (t_X12_helperMany N μ) (by omega) rfl (Nat.le_of_ble_eq_true rfl) rfl (fun x1 μ_1 => ?_)
  refine s_iconst (pc := 7) (v := (1 : Int32)) dX12_isHelper_7 (by decide) ?_
  refine s_isub (pc := 8) dX12_isHelper_8 ?_
  refine s_i2l (pc := 9) dX12_isHelper_9 ?_
  refine s_callSI (pc := 10) (as := [.long a1.toInt64, .long (0 : Int64), .long (x1 - (1 : Int32)).toInt64]) (st := []) dX12_isHelper_10 lk_12_303 (t_X12_isIn N a1.toInt64 (0 : Int64) ((x1 - (1 : Int32)).toInt64) μ_1) (by omega) rfl (by decide) rfl (fun x2 μ_2 => ?_)
  exact s_zret (pc := 13) dX12_isHelper_13 rfl
def f_X12_doneOf (N : Nat) (a1 : Int32) (μ : z_S) : Option (Int32 × z_S) :=
  z_in ((8 : Int32) + ((3 : Int32) * a1)) 32 <| some ((μ.1 296 ((8 : Int32) + ((3 : Int32) * a1)).toNatClampNeg), μ)
theorem t_X12_doneOf (N : Nat) (a1 : Int32) (μ : z_S) : z_met false rI mX12_doneOf 0 [.ref 253, .int a1] μ (f_X12_doneOf N a1 μ) := by
  refine z_met.of (by decide +kernel) (by show _ ≤ _; first | decide | exact Nat.le_of_ble_eq_true rfl) (lv := [(0, .ref 253), (1, .int a1)]) rfl ?_
  unfold f_X12_doneOf
  refine s_aload_n (pc := 0) 0 dX12_doneOf_0 rfl rfl ?_
  refine s_getR (pc := 1) (ci := 12) (k := 54) (r := 296) dX12_doneOf_1 fl_12_142 kd_253 rfl rs_253_54 ?_
  refine s_bipush (pc := 4) (v := (8 : Int32)) dX12_doneOf_4 (by decide) ?_
  refine s_iconst (pc := 6) (v := (3 : Int32)) dX12_doneOf_6 (by decide) ?_
  refine s_iload_n (pc := 7) 1 dX12_doneOf_7 rfl rfl ?_
  refine s_imul (pc := 8) dX12_doneOf_8 ?_
  refine s_iadd (pc := 9) dX12_doneOf_9 ?_
  refine s_iald (pc := 10) dX12_doneOf_10 kd_296 ?_
  exact s_iret (pc := 11) rfl dX12_doneOf_11 rfl
def f_X12_sheetOf (N : Nat) (a1 : Int32) (μ : z_S) : Option (Int32 × z_S) :=
  z_in (((8 : Int32) + ((3 : Int32) * a1)) + (1 : Int32)) 32 <| some ((μ.1 296 (((8 : Int32) + ((3 : Int32) * a1)) + (1 : Int32)).toNatClampNeg), μ)
theorem t_X12_sheetOf (N : Nat) (a1 : Int32) (μ : z_S) : z_met false rI mX12_sheetOf 0 [.ref 253, .int a1] μ (f_X12_sheetOf N a1 μ) := by
  refine z_met.of (by decide +kernel) (by show _ ≤ _; first | decide | exact Nat.le_of_ble_eq_true rfl) (lv := [(0, .ref 253), (1, .int a1)]) rfl ?_
  unfold f_X12_sheetOf
  refine s_aload_n (pc := 0) 0 dX12_sheetOf_0 rfl rfl ?_
  refine s_getR (pc := 1) (ci := 12) (k := 54) (r := 296) dX12_sheetOf_1 fl_12_142 kd_253 rfl rs_253_54 ?_
  refine s_bipush (pc := 4) (v := (8 : Int32)) dX12_sheetOf_4 (by decide) ?_
  refine s_iconst (pc := 6) (v := (3 : Int32)) dX12_sheetOf_6 (by decide) ?_
  refine s_iload_n (pc := 7) 1 dX12_sheetOf_7 rfl rfl ?_
  refine s_imul (pc := 8) dX12_sheetOf_8 ?_
  refine s_iadd (pc := 9) dX12_sheetOf_9 ?_
  refine s_iconst (pc := 10) (v := (1 : Int32)) dX12_sheetOf_10 (by decide) ?_
  refine s_iadd (pc := 11) dX12_sheetOf_11 ?_
  refine s_iald (pc := 12) dX12_sheetOf_12 kd_296 ?_
  exact s_iret (pc := 13) rfl dX12_sheetOf_13 rfl
def f_X12_giftOf (N : Nat) (a1 : Int32) (μ : z_S) : Option (Int32 × z_S) :=
  z_in (((8 : Int32) + ((3 : Int32) * a1)) + (2 : Int32)) 32 <| some ((μ.1 296 (((8 : Int32) + ((3 : Int32) * a1)) + (2 : Int32)).toNatClampNeg), μ)
theorem t_X12_giftOf (N : Nat) (a1 : Int32) (μ : z_S) : z_met false rI mX12_giftOf 0 [.ref 253, .int a1] μ (f_X12_giftOf N a1 μ) := by
  refine z_met.of (by decide +kernel) (by show _ ≤ _; first | decide | exact Nat.le_of_ble_eq_true rfl) (lv := [(0, .ref 253), (1, .int a1)]) rfl ?_
  unfold f_X12_giftOf
  refine s_aload_n (pc := 0) 0 dX12_giftOf_0 rfl rfl ?_
  refine s_getR (pc := 1) (ci := 12) (k := 54) (r := 296) dX12_giftOf_1 fl_12_142 kd_253 rfl rs_253_54 ?_
  refine s_bipush (pc := 4) (v := (8 : Int32)) dX12_giftOf_4 (by decide) ?_
  refine s_iconst (pc := 6) (v := (3 : Int32)) dX12_giftOf_6 (by decide) ?_
  refine s_iload_n (pc := 7) 1 dX12_giftOf_7 rfl rfl ?_
  refine s_imul (pc := 8) dX12_giftOf_8 ?_
  refine s_iadd (pc := 9) dX12_giftOf_9 ?_
  refine s_iconst (pc := 10) (v := (2 : Int32)) dX12_giftOf_10 (by decide) ?_
  refine s_iadd (pc := 11) dX12_giftOf_11 ?_
  refine s_iald (pc := 12) dX12_giftOf_12 kd_296 ?_
  exact s_iret (pc := 13) rfl dX12_giftOf_13 rfl
def f_X12_leftOf (N : Nat) (a1 : Int32) (μ : z_S) : Option (Int32 × z_S) :=
  z_in ((1 : Int32) + a1) 32 <| some ((μ.1 296 ((1 : Int32) + a1).toNatClampNeg), μ)
theorem t_X12_leftOf (N : Nat) (a1 : Int32) (μ : z_S) : z_met false rI mX12_leftOf 0 [.ref 253, .int a1] μ (f_X12_leftOf N a1 μ) := by
  refine z_met.of (by decide +kernel) (by show _ ≤ _; first | decide | exact Nat.le_of_ble_eq_true rfl) (lv := [(0, .ref 253), (1, .int a1)]) rfl ?_
  unfold f_X12_leftOf
  refine s_aload_n (pc := 0) 0 dX12_leftOf_0 rfl rfl ?_
  refine s_getR (pc := 1) (ci := 12) (k := 54) (r := 296) dX12_leftOf_1 fl_12_142 kd_253 rfl rs_253_54 ?_
  refine s_iconst (pc := 4) (v := (1 : Int32)) dX12_leftOf_4 (by decide) ?_
  refine s_iload_n (pc := 5) 1 dX12_leftOf_5 rfl rfl ?_
  refine s_iadd (pc := 6) dX12_leftOf_6 ?_
  refine s_iald (pc := 7) dX12_leftOf_7 kd_296 ?_
  exact s_iret (pc := 8) rfl dX12_leftOf_8 rfl
def f_X12_wishOf (N : Nat) (a1 : Int32) (a2 : Int32) (μ : z_S) : Option (Int32 × z_S) :=
  z_in (((32 : Int32) + ((4 : Int32) * a1)) + a2) 64 <| some ((μ.1 288 (((32 : Int32) + ((4 : Int32) * a1)) + a2).toNatClampNeg), μ)
theorem t_X12_wishOf (N : Nat) (a1 : Int32) (a2 : Int32) (μ : z_S) : z_met false rI mX12_wishOf 0 [.ref 253, .int a1, .int a2] μ (f_X12_wishOf N a1 a2 μ) := by
  refine z_met.of (by decide +kernel) (by show _ ≤ _; first | decide | exact Nat.le_of_ble_eq_true rfl) (lv := [(0, .ref 253), (1, .int a1), (2, .int a2)]) rfl ?_
  unfold f_X12_wishOf
  refine s_aload_n (pc := 0) 0 dX12_wishOf_0 rfl rfl ?_
  refine s_getR (pc := 1) (ci := 12) (k := 43) (r := 288) dX12_wishOf_1 fl_12_118 kd_253 rfl rs_253_43 ?_
  refine s_bipush (pc := 4) (v := (32 : Int32)) dX12_wishOf_4 (by decide) ?_
  refine s_iconst (pc := 6) (v := (4 : Int32)) dX12_wishOf_6 (by decide) ?_
  refine s_iload_n (pc := 7) 1 dX12_wishOf_7 rfl rfl ?_
  refine s_imul (pc := 8) dX12_wishOf_8 ?_
  refine s_iadd (pc := 9) dX12_wishOf_9 ?_
  refine s_iload_n (pc := 10) 2 dX12_wishOf_10 rfl rfl ?_
  refine s_iadd (pc := 11) dX12_wishOf_11 ?_
  refine s_iald (pc := 12) dX12_wishOf_12 kd_288 ?_
  exact s_iret (pc := 13) rfl dX12_wishOf_13 rfl
def b_X12_wishesOf_L4 (N : Nat) (c1 : Int32) (kb : Int32 → Int32 → z_S → Option (Int32 × z_S)) (v2 : Int32) (v3 : Int32) (μ : z_S) : Option (Int32 × z_S) :=
  z_bn (f_X12_giftMany N μ) fun x1 μ_1 => if v3 < x1 then (z_bn (f_X12_wishOf N c1 v3 μ_1) fun x2 μ_2 => z_bd (v2 + x2) fun x3 => z_bd (v3 + 1) fun x4 => kb x3 x4 μ_2) else some (v2, μ_1)
theorem tb_X12_wishesOf_L4 (N : Nat) (c1 : Int32) (kb : Int32 → Int32 → z_S → Option (Int32 × z_S)) (hkb : ∀ (a2 : Int32) (a3 : Int32) (μ : z_S), z_sim false rI mX12_wishesOf 1 (kb a2 a3 μ) 4 [(0, .ref 253), (1, .int c1), (2, .int a2), (3, .int a3)] [] μ) (v2 : Int32) (v3 : Int32) (μ : z_S) : z_sim false rI mX12_wishesOf 1 (b_X12_wishesOf_L4 N c1 kb v2 v3 μ) 4 [(0, .ref 253), (1, .int c1), (2, .int v2), (3, .int v3)] [] μ := by
  unfold b_X12_wishesOf_L4
  refine s_iload_n (pc := 4) 3 dX12_wishesOf_4 rfl rfl ?_
  refine s_aload_n (pc := 5) 0 dX12_wishesOf_5 rfl rfl ?_
  refine s_callVI (pc := 6) (as := []) (st := [.int v3]) dX12_wishesOf_6 lk_12_410 kd_253 (t_X12_giftMany N μ) (by omega) rfl (Nat.le_of_ble_eq_true rfl) rfl (fun x1 μ_1 => ?_)
  refine s_icmp_ge (pc := 9) (tgt := 27) dX12_wishesOf_9 (by decide) ?_ ?_
  · refine s_iload_n (pc := 12) 2 dX12_wishesOf_12 rfl rfl ?_
    refine s_aload_n (pc := 13) 0 dX12_wishesOf_13 rfl rfl ?_
    refine s_iload_n (pc := 14) 1 dX12_wishesOf_14 rfl rfl ?_
    refine s_iload_n (pc := 15) 3 dX12_wishesOf_15 rfl rfl ?_
    refine s_callVI (pc := 16) (as := [.int c1, .int v3]) (st := [.int v2]) dX12_wishesOf_16 lk_12_425 kd_253 (t_X12_wishOf N c1 v3 μ_1) (by omega) rfl (Nat.le_of_ble_eq_true rfl) rfl (fun x2 μ_2 => ?_)
    refine s_iadd (pc := 19) dX12_wishesOf_19 ?_
    refine s_letI (fun x3 => ?_)
    refine s_istore_n (pc := 20) (lv' := [(2, .int x3), (0, .ref 253), (1, .int c1), (3, .int v3)]) dX12_wishesOf_20 rfl (by decide) rfl ?_
    refine s_iincB (pc := 21) (lv' := fun x4 => [(3, .int x4), (2, .int x3), (0, .ref 253), (1, .int c1)]) (c := 1) 3 dX12_wishesOf_21 rfl (by decide) (by decide) (fun _ => rfl) (fun x4 => ?_)
    refine s_goto (pc := 24) (tgt := 4) dX12_wishesOf_24 (by decide) ?_
    refine s_sub (lv' := [(0, .ref 253), (1, .int c1), (2, .int x3), (3, .int x4)]) [2, 3, 1, 0] rfl ?_
    exact hkb x3 x4 μ_2
  · refine s_iload_n (pc := 27) 2 dX12_wishesOf_27 rfl rfl ?_
    exact s_iret (pc := 28) rfl dX12_wishesOf_28 rfl
def f_X12_wishesOf_L4 (N : Nat) (c1 : Int32) : Nat → Int32 → Int32 → z_S → Option (Int32 × z_S)
  | 0, _, _, _ => none
  | n + 1, v2, v3, μ => b_X12_wishesOf_L4 N c1 (f_X12_wishesOf_L4 N c1 n) v2 v3 μ
theorem t_X12_wishesOf_L4 (N : Nat) (c1 : Int32) : ∀ (n : Nat) (v2 : Int32) (v3 : Int32) (μ : z_S), z_sim false rI mX12_wishesOf 1 (f_X12_wishesOf_L4 N c1 n v2 v3 μ) 4 [(0, .ref 253), (1, .int c1), (2, .int v2), (3, .int v3)] [] μ
  | 0, _, _, _ => s_none
  | n + 1, v2, v3, μ => tb_X12_wishesOf_L4 N c1 (f_X12_wishesOf_L4 N c1 n) (t_X12_wishesOf_L4 N c1 n) v2 v3 μ
def f_X12_wishesOf (N : Nat) (a1 : Int32) (μ : z_S) : Option (Int32 × z_S) :=
  f_X12_wishesOf_L4 N a1 N (0 : Int32) (0 : Int32) μ
theorem t_X12_wishesOf (N : Nat) (a1 : Int32) (μ : z_S) : z_met false rI mX12_wishesOf 1 [.ref 253, .int a1] μ (f_X12_wishesOf N a1 μ) := by
  refine z_met.of (by decide +kernel) (by show _ ≤ _; first | decide | exact Nat.le_of_ble_eq_true rfl) (lv := [(0, .ref 253), (1, .int a1)]) rfl ?_
  unfold f_X12_wishesOf
  refine s_iconst (pc := 0) (v := (0 : Int32)) dX12_wishesOf_0 (by decide) ?_
  refine s_istore_n (pc := 1) (lv' := [(2, .int (0 : Int32)), (0, .ref 253), (1, .int a1)]) dX12_wishesOf_1 rfl (by decide) rfl ?_
  refine s_iconst (pc := 2) (v := (0 : Int32)) dX12_wishesOf_2 (by decide) ?_
  refine s_istore_n (pc := 3) (lv' := [(3, .int (0 : Int32)), (2, .int (0 : Int32)), (0, .ref 253), (1, .int a1)]) dX12_wishesOf_3 rfl (by decide) rfl ?_
  refine s_sub (lv' := [(0, .ref 253), (1, .int a1), (2, .int (0 : Int32)), (3, .int (0 : Int32))]) [2, 3, 1, 0] rfl ?_
  refine t_X12_wishesOf_L4 N a1 N (0 : Int32) (0 : Int32) μ
def f_X12_qPuts (N : Nat) (a1 : Int64) (μ : z_S) : Option (Unit × z_S) :=
  z_in (μ.1 253 101) 1700 <| z_bd (z_setJ μ 332 (μ.1 253 101).toNatClampNeg a1) fun μ_1 => z_bd (z_setI μ_1 253 101 ((μ_1.1 253 101) + (1 : Int32))) fun μ_2 => some ((), μ_2)
theorem t_X12_qPuts (N : Nat) (a1 : Int64) (μ : z_S) : z_met false rV mX12_qPuts 0 [.ref 253, .long a1] μ (f_X12_qPuts N a1 μ) := by
  refine z_met.of (by decide +kernel) (by show _ ≤ _; first | decide | exact Nat.le_of_ble_eq_true rfl) (lv := [(0, .ref 253), (1, .long a1)]) rfl ?_
  unfold f_X12_qPuts
  refine s_aload_n (pc := 0) 0 dX12_qPuts_0 rfl rfl ?_
  refine s_getR (pc := 1) (ci := 12) (k := 100) (r := 332) dX12_qPuts_1 fl_12_254 kd_253 rfl rs_253_100 ?_
  refine s_aload_n (pc := 4) 0 dX12_qPuts_4 rfl rfl ?_
  refine s_getI (pc := 5) (ci := 12) (k := 101) dX12_qPuts_5 fl_12_431 kd_253 rfl ?_
  refine s_lload_n (pc := 8) 1 dX12_qPuts_8 rfl rfl ?_
  refine s_last (pc := 9) dX12_qPuts_9 kd_332 (fun μ_1 => ?_)
  refine s_aload_n (pc := 10) 0 dX12_qPuts_10 rfl rfl ?_
  refine s_dup (pc := 11) dX12_qPuts_11 rfl ?_
  refine s_getI (pc := 12) (ci := 12) (k := 101) dX12_qPuts_12 fl_12_431 kd_253 rfl ?_
  refine s_iconst (pc := 15) (v := (1 : Int32)) dX12_qPuts_15 (by decide) ?_
  refine s_iadd (pc := 16) dX12_qPuts_16 ?_
  refine s_putI (pc := 17) (ci := 12) (k := 101) dX12_qPuts_17 fl_12_431 kd_253 rfl rfl (fun μ_2 => ?_)
  exact s_vret (pc := 20) dX12_qPuts_20 rfl
def f_X12_qPartOf (N : Nat) (a1 : Int32) (a2 : Int32) (μ : z_S) : Option (Int64 × z_S) :=
  z_bd a1 fun x1 => if x1 = 0 then (z_in ((24 : Int32) + ((3 : Int32) * a2)) 48 <| some ((μ.1 286 ((24 : Int32) + ((3 : Int32) * a2)).toNatClampNeg).toInt64, μ)) else if x1 = 1 then (z_in ((25 : Int32) + ((3 : Int32) * a2)) 48 <| some ((μ.1 286 ((25 : Int32) + ((3 : Int32) * a2)).toNatClampNeg).toInt64, μ)) else if x1 = 2 then (z_in ((26 : Int32) + ((3 : Int32) * a2)) 48 <| some ((μ.1 286 ((26 : Int32) + ((3 : Int32) * a2)).toNatClampNeg).toInt64, μ)) else if x1 = 3 then (some ((μ.1 253 56).toInt64, μ)) else if x1 = 4 then (z_bn (f_X12_wishesOf N a2 μ) fun x2 μ_1 => some (x2.toInt64, μ_1)) else if x1 = 5 then (some ((μ.1 296 0).toInt64, μ)) else if x1 = 6 then (some (a2.toInt64, μ)) else if x1 = 7 then (z_bn (f_X12_sheetOf N a2 μ) fun x3 μ_2 => some (x3.toInt64, μ_2)) else if x1 = 8 then (z_bn (f_X12_doneOf N a2 μ) fun x4 μ_3 => some (x4.toInt64, μ_3)) else z_bn (f_X12_giftOf N a2 μ) fun x5 μ_4 => some (x5.toInt64, μ_4)
theorem t_X12_qPartOf (N : Nat) (a1 : Int32) (a2 : Int32) (μ : z_S) : z_met false rJ mX12_qPartOf 2 [.ref 253, .int a1, .int a2] μ (f_X12_qPartOf N a1 a2 μ) := by
  refine z_met.of (by decide +kernel) (by show _ ≤ _; first | decide | exact Nat.le_of_ble_eq_true rfl) (lv := [(0, .ref 253), (1, .int a1), (2, .int a2)]) rfl ?_
  unfold f_X12_qPartOf
  refine s_iload_n (pc := 0) 1 dX12_qPartOf_0 rfl rfl ?_
  refine s_letI (fun x1 => ?_)
  refine s_ite (fun hs1 => ?_) (fun hs1 => ?_)
  · subst hs1
    refine s_tswIn (pc := 1) (tgt := 52) dX12_qPartOf_1 (by decide) (by decide) rfl (by decide) ?_
    refine s_aload_n (pc := 52) 0 dX12_qPartOf_52 rfl rfl ?_
    refine s_getR (pc := 53) (ci := 12) (k := 41) (r := 286) dX12_qPartOf_53 fl_12_112 kd_253 rfl rs_253_41 ?_
    refine s_bipush (pc := 56) (v := (24 : Int32)) dX12_qPartOf_56 (by decide) ?_
    refine s_iconst (pc := 58) (v := (3 : Int32)) dX12_qPartOf_58 (by decide) ?_
    refine s_iload_n (pc := 59) 2 dX12_qPartOf_59 rfl rfl ?_
    refine s_imul (pc := 60) dX12_qPartOf_60 ?_
    refine s_iadd (pc := 61) dX12_qPartOf_61 ?_
    refine s_iald (pc := 62) dX12_qPartOf_62 kd_286 ?_
    refine s_i2l (pc := 63) dX12_qPartOf_63 ?_
    exact s_lret (pc := 64) dX12_qPartOf_64 rfl
  refine s_ite (fun hs2 => ?_) (fun hs2 => ?_)
  · subst hs2
    refine s_tswIn (pc := 1) (tgt := 65) dX12_qPartOf_1 (by decide) (by decide) rfl (by decide) ?_
    refine s_aload_n (pc := 65) 0 dX12_qPartOf_65 rfl rfl ?_
    refine s_getR (pc := 66) (ci := 12) (k := 41) (r := 286) dX12_qPartOf_66 fl_12_112 kd_253 rfl rs_253_41 ?_
    refine s_bipush (pc := 69) (v := (25 : Int32)) dX12_qPartOf_69 (by decide) ?_
    refine s_iconst (pc := 71) (v := (3 : Int32)) dX12_qPartOf_71 (by decide) ?_
    refine s_iload_n (pc := 72) 2 dX12_qPartOf_72 rfl rfl ?_
    refine s_imul (pc := 73) dX12_qPartOf_73 ?_
    refine s_iadd (pc := 74) dX12_qPartOf_74 ?_
    refine s_iald (pc := 75) dX12_qPartOf_75 kd_286 ?_
    refine s_i2l (pc := 76) dX12_qPartOf_76 ?_
    exact s_lret (pc := 77) dX12_qPartOf_77 rfl
  refine s_ite (fun hs3 => ?_) (fun hs3 => ?_)
  · subst hs3
    refine s_tswIn (pc := 1) (tgt := 78) dX12_qPartOf_1 (by decide) (by decide) rfl (by decide) ?_
    refine s_aload_n (pc := 78) 0 dX12_qPartOf_78 rfl rfl ?_
    refine s_getR (pc := 79) (ci := 12) (k := 41) (r := 286) dX12_qPartOf_79 fl_12_112 kd_253 rfl rs_253_41 ?_
    refine s_bipush (pc := 82) (v := (26 : Int32)) dX12_qPartOf_82 (by decide) ?_
    refine s_iconst (pc := 84) (v := (3 : Int32)) dX12_qPartOf_84 (by decide) ?_
    refine s_iload_n (pc := 85) 2 dX12_qPartOf_85 rfl rfl ?_
    refine s_imul (pc := 86) dX12_qPartOf_86 ?_
    refine s_iadd (pc := 87) dX12_qPartOf_87 ?_
    refine s_iald (pc := 88) dX12_qPartOf_88 kd_286 ?_
    refine s_i2l (pc := 89) dX12_qPartOf_89 ?_
    exact s_lret (pc := 90) dX12_qPartOf_90 rfl
  refine s_ite (fun hs4 => ?_) (fun hs4 => ?_)
  · subst hs4
    refine s_tswIn (pc := 1) (tgt := 91) dX12_qPartOf_1 (by decide) (by decide) rfl (by decide) ?_
    refine s_aload_n (pc := 91) 0 dX12_qPartOf_91 rfl rfl ?_
    refine s_getI (pc := 92) (ci := 12) (k := 56) dX12_qPartOf_92 fl_12_428 kd_253 rfl ?_
    refine s_i2l (pc := 95) dX12_qPartOf_95 ?_
    exact s_lret (pc := 96) dX12_qPartOf_96 rfl
  refine s_ite (fun hs5 => ?_) (fun hs5 => ?_)
  · subst hs5
    refine s_tswIn (pc := 1) (tgt := 97) dX12_qPartOf_1 (by decide) (by decide) rfl (by decide) ?_
    refine s_aload_n (pc := 97) 0 dX12_qPartOf_97 rfl rfl ?_
    refine s_iload_n (pc := 98) 2 dX12_qPartOf_98 rfl rfl ?_
    refine s_callVI (pc := 99) (as := [.int a2]) (st := []) dX12_qPartOf_99 lk_12_510 kd_253 (t_X12_wishesOf N a2 μ) (by omega) rfl (by decide) rfl (fun x2 μ_1 => ?_)
    refine s_i2l (pc := 102) dX12_qPartOf_102 ?_
    exact s_lret (pc := 103) dX12_qPartOf_103 rfl
  refine s_ite (fun hs6 => ?_) (fun hs6 => ?_)
  · subst hs6
    refine s_tswIn (pc := 1) (tgt := 104) dX12_qPartOf_1 (by decide) (by decide) rfl (by decide) ?_
    refine s_aload_n (pc := 104) 0 dX12_qPartOf_104 rfl rfl ?_
    refine s_getR (pc := 105) (ci := 12) (k := 54) (r := 296) dX12_qPartOf_105 fl_12_142 kd_253 rfl rs_253_54 ?_
    refine s_iconst (pc := 108) (v := (0 : Int32)) dX12_qPartOf_108 (by decide) ?_
    refine s_ialdK (pc := 109) (k := 0) dX12_qPartOf_109 kd_296 (by decide) (by decide) (by decide) ?_
    refine s_i2l (pc := 110) dX12_qPartOf_110 ?_
    exact s_lret (pc := 111) dX12_qPartOf_111 rfl
  refine s_ite (fun hs7 => ?_) (fun hs7 => ?_)
  · subst hs7
    refine s_tswIn (pc := 1) (tgt := 112) dX12_qPartOf_1 (by decide) (by decide) rfl (by decide) ?_
    refine s_iload_n (pc := 112) 2 dX12_qPartOf_112 rfl rfl ?_
    refine s_i2l (pc := 113) dX12_qPartOf_113 ?_
    exact s_lret (pc := 114) dX12_qPartOf_114 rfl
  refine s_ite (fun hs8 => ?_) (fun hs8 => ?_)
  · subst hs8
    refine s_tswIn (pc := 1) (tgt := 115) dX12_qPartOf_1 (by decide) (by decide) rfl (by decide) ?_
    refine s_aload_n (pc := 115) 0 dX12_qPartOf_115 rfl rfl ?_
    refine s_iload_n (pc := 116) 2 dX12_qPartOf_116 rfl rfl ?_
    refine s_callVI (pc := 117) (as := [.int a2]) (st := []) dX12_qPartOf_117 lk_12_504 kd_253 (t_X12_sheetOf N a2 μ) (by omega) rfl (by decide) rfl (fun x3 μ_2 => ?_)
    refine s_i2l (pc := 120) dX12_qPartOf_120 ?_
    exact s_lret (pc := 121) dX12_qPartOf_121 rfl
  refine s_ite (fun hs9 => ?_) (fun hs9 => ?_)
  · subst hs9
    refine s_tswIn (pc := 1) (tgt := 122) dX12_qPartOf_1 (by decide) (by decide) rfl (by decide) ?_
    refine s_aload_n (pc := 122) 0 dX12_qPartOf_122 rfl rfl ?_
    refine s_iload_n (pc := 123) 2 dX12_qPartOf_123 rfl rfl ?_
    refine s_callVI (pc := 124) (as := [.int a2]) (st := []) dX12_qPartOf_124 lk_12_451 kd_253 (t_X12_doneOf N a2 μ) (by omega) rfl (by decide) rfl (fun x4 μ_3 => ?_)
    refine s_i2l (pc := 127) dX12_qPartOf_127 ?_
    exact s_lret (pc := 128) dX12_qPartOf_128 rfl
  · have q_hs1 := lv_neT (a := 0) hs1 (by decide)
    have q_hs2 := lv_neT (a := 1) hs2 (by decide)
    have q_hs3 := lv_neT (a := 2) hs3 (by decide)
    have q_hs4 := lv_neT (a := 3) hs4 (by decide)
    have q_hs5 := lv_neT (a := 4) hs5 (by decide)
    have q_hs6 := lv_neT (a := 5) hs6 (by decide)
    have q_hs7 := lv_neT (a := 6) hs7 (by decide)
    have q_hs8 := lv_neT (a := 7) hs8 (by decide)
    have q_hs9 := lv_neT (a := 8) hs9 (by decide)
    refine s_tswOut (pc := 1) (tgt := 129) dX12_qPartOf_1 (by omega) (by decide) ?_
    refine s_aload_n (pc := 129) 0 dX12_qPartOf_129 rfl rfl ?_
    refine s_iload_n (pc := 130) 2 dX12_qPartOf_130 rfl rfl ?_
    refine s_callVI (pc := 131) (as := [.int a2]) (st := []) dX12_qPartOf_131 lk_12_507 kd_253 (t_X12_giftOf N a2 μ) (by omega) rfl (by decide) rfl (fun x5 μ_4 => ?_)
    refine s_i2l (pc := 134) dX12_qPartOf_134 ?_
    exact s_lret (pc := 135) dX12_qPartOf_135 rfl
def f_X12_qClip (N : Nat) (a0 : Int64) (μ : z_S) : Option (Int64 × z_S) :=
  if (1000000 : Int64) < a0 then (some ((1000000 : Int64), μ)) else if a0 < (-1000000 : Int64) then (some ((-1000000 : Int64), μ)) else some (a0, μ)
theorem t_X12_qClip (N : Nat) (a0 : Int64) (μ : z_S) : z_met false rJ mX12_qClip 0 [.long a0] μ (f_X12_qClip N a0 μ) := by
  refine z_met.of (by decide +kernel) (by show _ ≤ _; first | decide | exact Nat.le_of_ble_eq_true rfl) (lv := [(0, .long a0)]) rfl ?_
  unfold f_X12_qClip
  refine s_lload_n (pc := 0) 0 dX12_qClip_0 rfl rfl ?_
  refine s_ldc2 (pc := 1) (v := (1000000 : Int64)) dX12_qClip_1 w_1931 ?_
  refine s_lcmp_le (pc := 4) (tgt := 14) dX12_qClip_4 dX12_qClip_5 (by decide) ?_ ?_
  · refine s_ldc2 (pc := 8) (v := (1000000 : Int64)) dX12_qClip_8 w_1931 ?_
    refine s_goto (pc := 11) (tgt := 29) dX12_qClip_11 (by decide) ?_
    exact s_lret (pc := 29) dX12_qClip_29 rfl
  · refine s_lload_n (pc := 14) 0 dX12_qClip_14 rfl rfl ?_
    refine s_ldc2 (pc := 15) (v := (-1000000 : Int64)) dX12_qClip_15 w_1932 ?_
    refine s_lcmp_ge (pc := 18) (tgt := 28) dX12_qClip_18 dX12_qClip_19 (by decide) ?_ ?_
    · refine s_ldc2 (pc := 22) (v := (-1000000 : Int64)) dX12_qClip_22 w_1932 ?_
      refine s_goto (pc := 25) (tgt := 29) dX12_qClip_25 (by decide) ?_
      exact s_lret (pc := 29) dX12_qClip_29 rfl
    · refine s_lload_n (pc := 28) 0 dX12_qClip_28 rfl rfl ?_
      exact s_lret (pc := 29) dX12_qClip_29 rfl
def f_X12_qFloor_B43 (N : Nat)  (v4 : Int64) (s0 : Int32) (s1 : Int32) (μ : z_S) : Option (Int64 × z_S) :=
  if s1 = s0 then (some (v4, μ)) else some ((v4 - (1 : Int64)), μ)
theorem t_X12_qFloor_B43 (N : Nat)     (v4 : Int64) (s0 : Int32) (s1 : Int32)  (μ : z_S) : z_sim false rJ mX12_qFloor 0 (f_X12_qFloor_B43 N   v4 s0 s1 μ) 43 [(4, .long v4)] [.int s0, .int s1] μ := by
  unfold f_X12_qFloor_B43
  refine s_icmp_eq (pc := 43) (tgt := 53) dX12_qFloor_43 (by decide) ?_ ?_
  · refine s_lload (pc := 53) 0 dX12_qFloor_53 rfl ?_
    exact s_lret (pc := 55) dX12_qFloor_55 rfl
  · refine s_lload (pc := 46) 0 dX12_qFloor_46 rfl ?_
    refine s_lconst (pc := 48) (v := (1 : Int64)) dX12_qFloor_48 (by decide) ?_
    refine s_lsub (pc := 49) dX12_qFloor_49 ?_
    refine s_goto (pc := 50) (tgt := 55) dX12_qFloor_50 (by decide) ?_
    exact s_lret (pc := 55) dX12_qFloor_55 rfl
def f_X12_qFloor_B32 (N : Nat)  (v2 : Int64) (v4 : Int64) (s0 : Int32) (μ : z_S) : Option (Int64 × z_S) :=
  if v2 < (0 : Int64) then (f_X12_qFloor_B43 N v4 (1 : Int32) s0 μ) else f_X12_qFloor_B43 N v4 (0 : Int32) s0 μ
theorem t_X12_qFloor_B32 (N : Nat)     (v2 : Int64) (v4 : Int64) (s0 : Int32)  (μ : z_S) : z_sim false rJ mX12_qFloor 0 (f_X12_qFloor_B32 N   v2 v4 s0 μ) 32 [(2, .long v2), (4, .long v4)] [.int s0] μ := by
  unfold f_X12_qFloor_B32
  refine s_lload_n (pc := 32) 0 dX12_qFloor_32 rfl rfl ?_
  refine s_lconst (pc := 33) (v := (0 : Int64)) dX12_qFloor_33 (by decide) ?_
  refine s_lcmp_ge (pc := 34) (tgt := 42) dX12_qFloor_34 dX12_qFloor_35 (by decide) ?_ ?_
  · refine s_iconst (pc := 38) (v := (1 : Int32)) dX12_qFloor_38 (by decide) ?_
    refine s_goto (pc := 39) (tgt := 43) dX12_qFloor_39 (by decide) ?_
    refine s_sub (lv' := [(4, .long v4)]) [1] rfl ?_
    exact t_X12_qFloor_B43 N v4 (1 : Int32) s0 μ
  · refine s_iconst (pc := 42) (v := (0 : Int32)) dX12_qFloor_42 (by decide) ?_
    refine s_sub (lv' := [(4, .long v4)]) [1] rfl ?_
    exact t_X12_qFloor_B43 N v4 (0 : Int32) s0 μ
def f_X12_qFloor (N : Nat) (a0 : Int64) (a2 : Int64) (μ : z_S) : Option (Int64 × z_S) :=
  if a2 = (0 : Int64) then (some ((0 : Int64), μ)) else z_nzJ a2 <| z_bd (a0 / a2) fun x1 => z_nzJ a2 <| if (a0 - a0 / a2 * a2) = (0 : Int64) then (some (x1, μ)) else if a0 < (0 : Int64) then (f_X12_qFloor_B32 N a2 x1 (1 : Int32) μ) else f_X12_qFloor_B32 N a2 x1 (0 : Int32) μ
theorem t_X12_qFloor (N : Nat) (a0 : Int64) (a2 : Int64) (μ : z_S) : z_met false rJ mX12_qFloor 0 [.long a0, .long a2] μ (f_X12_qFloor N a0 a2 μ) := by
  refine z_met.of (by decide +kernel) (by show _ ≤ _; first | decide | exact Nat.le_of_ble_eq_true rfl) (lv := [(0, .long a0), (2, .long a2)]) rfl ?_
  unfold f_X12_qFloor
  refine s_lload_n (pc := 0) 1 dX12_qFloor_0 rfl rfl ?_
  refine s_lconst (pc := 1) (v := (0 : Int64)) dX12_qFloor_1 (by decide) ?_
  refine s_lcmp_ne (pc := 2) (tgt := 8) dX12_qFloor_2 dX12_qFloor_3 (by decide) ?_ ?_
  · refine s_lconst (pc := 6) (v := (0 : Int64)) dX12_qFloor_6 (by decide) ?_
    exact s_lret (pc := 7) dX12_qFloor_7 rfl
  · refine s_lload_n (pc := 8) 0 dX12_qFloor_8 rfl rfl ?_
    refine s_lload_n (pc := 9) 1 dX12_qFloor_9 rfl rfl ?_
    refine s_ldiv (pc := 10) dX12_qFloor_10 ?_
    refine s_letJ (fun x1 => ?_)
    refine s_lstore (pc := 11) (lv' := [(4, .long x1), (0, .long a0), (2, .long a2)]) dX12_qFloor_11 (by decide) rfl ?_
    refine s_lload_n (pc := 13) 1 dX12_qFloor_13 rfl rfl ?_
    refine s_lload_n (pc := 14) 2 dX12_qFloor_14 rfl rfl ?_
    refine s_lrem (pc := 15) dX12_qFloor_15 ?_
    refine s_lconst (pc := 16) (v := (0 : Int64)) dX12_qFloor_16 (by decide) ?_
    refine s_lcmp_eq (pc := 17) (tgt := 53) dX12_qFloor_17 dX12_qFloor_18 (by decide) ?_ ?_
    · refine s_lload (pc := 53) 0 dX12_qFloor_53 rfl ?_
      exact s_lret (pc := 55) dX12_qFloor_55 rfl
    · refine s_lload_n (pc := 21) 1 dX12_qFloor_21 rfl rfl ?_
      refine s_lconst (pc := 22) (v := (0 : Int64)) dX12_qFloor_22 (by decide) ?_
      refine s_lcmp_ge (pc := 23) (tgt := 31) dX12_qFloor_23 dX12_qFloor_24 (by decide) ?_ ?_
      · refine s_iconst (pc := 27) (v := (1 : Int32)) dX12_qFloor_27 (by decide) ?_
        refine s_goto (pc := 28) (tgt := 32) dX12_qFloor_28 (by decide) ?_
        refine s_sub (lv' := [(2, .long a2), (4, .long x1)]) [2, 0] rfl ?_
        exact t_X12_qFloor_B32 N a2 x1 (1 : Int32) μ
      · refine s_iconst (pc := 31) (v := (0 : Int32)) dX12_qFloor_31 (by decide) ?_
        refine s_sub (lv' := [(2, .long a2), (4, .long x1)]) [2, 0] rfl ?_
        exact t_X12_qFloor_B32 N a2 x1 (0 : Int32) μ
def f_X12_qJoins_B161 (N : Nat)  (s0 : Int64) (μ : z_S) : Option (Unit × z_S) :=
  z_bn (f_X12_qPuts N s0 μ) fun _ μ_10 => some ((), μ_10)
theorem t_X12_qJoins_B161 (N : Nat)     (s0 : Int64)  (μ : z_S) : z_sim false rV mX12_qJoins 1 (f_X12_qJoins_B161 N   s0 μ) 161 [] [.long s0, .ref 253] μ := by
  unfold f_X12_qJoins_B161
  refine s_callVV (pc := 161) (as := [.long s0]) (st := []) dX12_qJoins_161 lk_12_434 kd_253 (t_X12_qPuts N s0 μ) (by omega) rfl (by decide) rfl (fun _ μ_10 => ?_)
  refine s_goto (pc := 164) (tgt := 273) dX12_qJoins_164 (by decide) ?_
  exact s_vret (pc := 273) dX12_qJoins_273 rfl
def f_X12_qJoins_B181 (N : Nat)  (s0 : Int64) (μ : z_S) : Option (Unit × z_S) :=
  z_bn (f_X12_qPuts N s0 μ) fun _ μ_11 => some ((), μ_11)
theorem t_X12_qJoins_B181 (N : Nat)     (s0 : Int64)  (μ : z_S) : z_sim false rV mX12_qJoins 1 (f_X12_qJoins_B181 N   s0 μ) 181 [] [.long s0, .ref 253] μ := by
  unfold f_X12_qJoins_B181
  refine s_callVV (pc := 181) (as := [.long s0]) (st := []) dX12_qJoins_181 lk_12_434 kd_253 (t_X12_qPuts N s0 μ) (by omega) rfl (by decide) rfl (fun _ μ_11 => ?_)
  refine s_goto (pc := 184) (tgt := 273) dX12_qJoins_184 (by decide) ?_
  exact s_vret (pc := 273) dX12_qJoins_273 rfl
def f_X12_qJoins_B200 (N : Nat)  (s0 : Int64) (μ : z_S) : Option (Unit × z_S) :=
  z_bn (f_X12_qPuts N s0 μ) fun _ μ_12 => some ((), μ_12)
theorem t_X12_qJoins_B200 (N : Nat)     (s0 : Int64)  (μ : z_S) : z_sim false rV mX12_qJoins 1 (f_X12_qJoins_B200 N   s0 μ) 200 [] [.long s0, .ref 253] μ := by
  unfold f_X12_qJoins_B200
  refine s_callVV (pc := 200) (as := [.long s0]) (st := []) dX12_qJoins_200 lk_12_434 kd_253 (t_X12_qPuts N s0 μ) (by omega) rfl (by decide) rfl (fun _ μ_12 => ?_)
  refine s_goto (pc := 203) (tgt := 273) dX12_qJoins_203 (by decide) ?_
  exact s_vret (pc := 273) dX12_qJoins_273 rfl
def f_X12_qJoins_B219 (N : Nat)  (s0 : Int64) (μ : z_S) : Option (Unit × z_S) :=
  z_bn (f_X12_qPuts N s0 μ) fun _ μ_13 => some ((), μ_13)
theorem t_X12_qJoins_B219 (N : Nat)     (s0 : Int64)  (μ : z_S) : z_sim false rV mX12_qJoins 1 (f_X12_qJoins_B219 N   s0 μ) 219 [] [.long s0, .ref 253] μ := by
  unfold f_X12_qJoins_B219
  refine s_callVV (pc := 219) (as := [.long s0]) (st := []) dX12_qJoins_219 lk_12_434 kd_253 (t_X12_qPuts N s0 μ) (by omega) rfl (by decide) rfl (fun _ μ_13 => ?_)
  refine s_goto (pc := 222) (tgt := 273) dX12_qJoins_222 (by decide) ?_
  exact s_vret (pc := 273) dX12_qJoins_273 rfl
def f_X12_qJoins_B238 (N : Nat)  (s0 : Int64) (μ : z_S) : Option (Unit × z_S) :=
  z_bn (f_X12_qPuts N s0 μ) fun _ μ_14 => some ((), μ_14)
theorem t_X12_qJoins_B238 (N : Nat)     (s0 : Int64)  (μ : z_S) : z_sim false rV mX12_qJoins 1 (f_X12_qJoins_B238 N   s0 μ) 238 [] [.long s0, .ref 253] μ := by
  unfold f_X12_qJoins_B238
  refine s_callVV (pc := 238) (as := [.long s0]) (st := []) dX12_qJoins_238 lk_12_434 kd_253 (t_X12_qPuts N s0 μ) (by omega) rfl (by decide) rfl (fun _ μ_14 => ?_)
  refine s_goto (pc := 241) (tgt := 273) dX12_qJoins_241 (by decide) ?_
  exact s_vret (pc := 273) dX12_qJoins_273 rfl
def f_X12_qJoins_B270 (N : Nat)  (s0 : Int64) (μ : z_S) : Option (Unit × z_S) :=
  z_bn (f_X12_qPuts N s0 μ) fun _ μ_16 => some ((), μ_16)
theorem t_X12_qJoins_B270 (N : Nat)     (s0 : Int64)  (μ : z_S) : z_sim false rV mX12_qJoins 1 (f_X12_qJoins_B270 N   s0 μ) 270 [] [.long s0, .ref 253] μ := by
  unfold f_X12_qJoins_B270
  refine s_callVV (pc := 270) (as := [.long s0]) (st := []) dX12_qJoins_270 lk_12_434 kd_253 (t_X12_qPuts N s0 μ) (by omega) rfl (by decide) rfl (fun _ μ_16 => ?_)
  exact s_vret (pc := 273) dX12_qJoins_273 rfl
def f_X12_qJoins (N : Nat) (a1 : Int32) (μ : z_S) : Option (Unit × z_S) :=
  z_in ((μ.1 253 101) - (1 : Int32)) 1700 <| z_bd (μ.2.1 332 ((μ.1 253 101) - (1 : Int32)).toNatClampNeg) fun x1 => z_in ((μ.1 253 101) - (2 : Int32)) 1700 <| z_bd (μ.2.1 332 ((μ.1 253 101) - (2 : Int32)).toNatClampNeg) fun x2 => z_bd (z_setI μ 253 101 ((μ.1 253 101) - (2 : Int32))) fun μ_1 => z_bd a1 fun x3 => if x3 = 1 then (z_bn (f_X12_qClip N (x2 + x1) μ_1) fun x4 μ_2 => z_bn (f_X12_qPuts N x4 μ_2) fun _ μ_3 => some ((), μ_3)) else if x3 = 2 then (z_bn (f_X12_qClip N (x2 - x1) μ_1) fun x5 μ_4 => z_bn (f_X12_qPuts N x5 μ_4) fun _ μ_5 => some ((), μ_5)) else if x3 = 3 then (z_bn (f_X12_qClip N (x2 * x1) μ_1) fun x6 μ_6 => z_bn (f_X12_qPuts N x6 μ_6) fun _ μ_7 => some ((), μ_7)) else if x3 = 4 then (z_bn (f_X12_qFloor N x2 x1 μ_1) fun x7 μ_8 => z_bn (f_X12_qPuts N x7 μ_8) fun _ μ_9 => some ((), μ_9)) else if x3 = 5 then (if x2 < x1 then (f_X12_qJoins_B161 N x2 μ_1) else f_X12_qJoins_B161 N x1 μ_1) else if x3 = 6 then (if x1 < x2 then (f_X12_qJoins_B181 N x2 μ_1) else f_X12_qJoins_B181 N x1 μ_1) else if x3 = 7 then (if x2 < x1 then (f_X12_qJoins_B200 N (1 : Int64) μ_1) else f_X12_qJoins_B200 N (0 : Int64) μ_1) else if x3 = 8 then (if x1 < x2 then (f_X12_qJoins_B219 N (1 : Int64) μ_1) else f_X12_qJoins_B219 N (0 : Int64) μ_1) else if x3 = 9 then (if x2 = x1 then (f_X12_qJoins_B238 N (1 : Int64) μ_1) else f_X12_qJoins_B238 N (0 : Int64) μ_1) else if x3 = 10 then (z_bn (f_X12_qPuts N (x2 * x1) μ_1) fun _ μ_15 => some ((), μ_15)) else if (0 : Int64) < (x2 + x1) then (f_X12_qJoins_B270 N (1 : Int64) μ_1) else f_X12_qJoins_B270 N (0 : Int64) μ_1
theorem t_X12_qJoins (N : Nat) (a1 : Int32) (μ : z_S) : z_met false rV mX12_qJoins 1 [.ref 253, .int a1] μ (f_X12_qJoins N a1 μ) := by
  refine z_met.of (by decide +kernel) (by show _ ≤ _; first | decide | exact Nat.le_of_ble_eq_true rfl) (lv := [(0, .ref 253), (1, .int a1)]) rfl ?_
  unfold f_X12_qJoins
  refine s_aload_n (pc := 0) 0 dX12_qJoins_0 rfl rfl ?_
  refine s_getR (pc := 1) (ci := 12) (k := 100) (r := 332) dX12_qJoins_1 fl_12_254 kd_253 rfl rs_253_100 ?_
  refine s_aload_n (pc := 4) 0 dX12_qJoins_4 rfl rfl ?_
  refine s_getI (pc := 5) (ci := 12) (k := 101) dX12_qJoins_5 fl_12_431 kd_253 rfl ?_
  refine s_iconst (pc := 8) (v := (1 : Int32)) dX12_qJoins_8 (by decide) ?_
  refine s_isub (pc := 9) dX12_qJoins_9 ?_
  refine s_lald (pc := 10) dX12_qJoins_10 kd_332 ?_
  refine s_letJ (fun x1 => ?_)
  refine s_lstore_n (pc := 11) (lv' := [(2, .long x1), (0, .ref 253), (1, .int a1)]) dX12_qJoins_11 rfl (by decide) rfl ?_
  refine s_aload_n (pc := 12) 1 dX12_qJoins_12 rfl rfl ?_
  refine s_getR (pc := 13) (ci := 12) (k := 100) (r := 332) dX12_qJoins_13 fl_12_254 kd_253 rfl rs_253_100 ?_
  refine s_aload_n (pc := 16) 1 dX12_qJoins_16 rfl rfl ?_
  refine s_getI (pc := 17) (ci := 12) (k := 101) dX12_qJoins_17 fl_12_431 kd_253 rfl ?_
  refine s_iconst (pc := 20) (v := (2 : Int32)) dX12_qJoins_20 (by decide) ?_
  refine s_isub (pc := 21) dX12_qJoins_21 ?_
  refine s_lald (pc := 22) dX12_qJoins_22 kd_332 ?_
  refine s_letJ (fun x2 => ?_)
  refine s_lstore (pc := 23) (lv' := [(4, .long x2), (2, .long x1), (0, .ref 253), (1, .int a1)]) dX12_qJoins_23 (by decide) rfl ?_
  refine s_aload_n (pc := 25) 2 dX12_qJoins_25 rfl rfl ?_
  refine s_dup (pc := 26) dX12_qJoins_26 rfl ?_
  refine s_getI (pc := 27) (ci := 12) (k := 101) dX12_qJoins_27 fl_12_431 kd_253 rfl ?_
  refine s_iconst (pc := 30) (v := (2 : Int32)) dX12_qJoins_30 (by decide) ?_
  refine s_isub (pc := 31) dX12_qJoins_31 ?_
  refine s_putI (pc := 32) (ci := 12) (k := 101) dX12_qJoins_32 fl_12_431 kd_253 rfl rfl (fun μ_1 => ?_)
  refine s_iload_n (pc := 35) 3 dX12_qJoins_35 rfl rfl ?_
  refine s_letI (fun x3 => ?_)
  refine s_ite (fun hs1 => ?_) (fun hs1 => ?_)
  · subst hs1
    refine s_tswIn (pc := 36) (tgt := 92) dX12_qJoins_36 (by decide) (by decide) rfl (by decide) ?_
    refine s_aload_n (pc := 92) 2 dX12_qJoins_92 rfl rfl ?_
    refine s_lload (pc := 93) 0 dX12_qJoins_93 rfl ?_
    refine s_lload_n (pc := 95) 1 dX12_qJoins_95 rfl rfl ?_
    refine s_ladd (pc := 96) dX12_qJoins_96 ?_
    refine s_callSJ (pc := 97) (as := [.long (x2 + x1)]) (st := [.ref 253]) dX12_qJoins_97 lk_12_652 (t_X12_qClip N (x2 + x1) μ_1) (by omega) rfl (Nat.le_of_ble_eq_true rfl) rfl (fun x4 μ_2 => ?_)
    refine s_callVV (pc := 100) (as := [.long x4]) (st := []) dX12_qJoins_100 lk_12_434 kd_253 (t_X12_qPuts N x4 μ_2) (by omega) rfl (by decide) rfl (fun _ μ_3 => ?_)
    refine s_goto (pc := 103) (tgt := 273) dX12_qJoins_103 (by decide) ?_
    exact s_vret (pc := 273) dX12_qJoins_273 rfl
  refine s_ite (fun hs2 => ?_) (fun hs2 => ?_)
  · subst hs2
    refine s_tswIn (pc := 36) (tgt := 106) dX12_qJoins_36 (by decide) (by decide) rfl (by decide) ?_
    refine s_aload_n (pc := 106) 2 dX12_qJoins_106 rfl rfl ?_
    refine s_lload (pc := 107) 0 dX12_qJoins_107 rfl ?_
    refine s_lload_n (pc := 109) 1 dX12_qJoins_109 rfl rfl ?_
    refine s_lsub (pc := 110) dX12_qJoins_110 ?_
    refine s_callSJ (pc := 111) (as := [.long (x2 - x1)]) (st := [.ref 253]) dX12_qJoins_111 lk_12_652 (t_X12_qClip N (x2 - x1) μ_1) (by omega) rfl (Nat.le_of_ble_eq_true rfl) rfl (fun x5 μ_4 => ?_)
    refine s_callVV (pc := 114) (as := [.long x5]) (st := []) dX12_qJoins_114 lk_12_434 kd_253 (t_X12_qPuts N x5 μ_4) (by omega) rfl (by decide) rfl (fun _ μ_5 => ?_)
    refine s_goto (pc := 117) (tgt := 273) dX12_qJoins_117 (by decide) ?_
    exact s_vret (pc := 273) dX12_qJoins_273 rfl
  refine s_ite (fun hs3 => ?_) (fun hs3 => ?_)
  · subst hs3
    refine s_tswIn (pc := 36) (tgt := 120) dX12_qJoins_36 (by decide) (by decide) rfl (by decide) ?_
    refine s_aload_n (pc := 120) 2 dX12_qJoins_120 rfl rfl ?_
    refine s_lload (pc := 121) 0 dX12_qJoins_121 rfl ?_
    refine s_lload_n (pc := 123) 1 dX12_qJoins_123 rfl rfl ?_
    refine s_lmul (pc := 124) dX12_qJoins_124 ?_
    refine s_callSJ (pc := 125) (as := [.long (x2 * x1)]) (st := [.ref 253]) dX12_qJoins_125 lk_12_652 (t_X12_qClip N (x2 * x1) μ_1) (by omega) rfl (Nat.le_of_ble_eq_true rfl) rfl (fun x6 μ_6 => ?_)
    refine s_callVV (pc := 128) (as := [.long x6]) (st := []) dX12_qJoins_128 lk_12_434 kd_253 (t_X12_qPuts N x6 μ_6) (by omega) rfl (by decide) rfl (fun _ μ_7 => ?_)
    refine s_goto (pc := 131) (tgt := 273) dX12_qJoins_131 (by decide) ?_
    exact s_vret (pc := 273) dX12_qJoins_273 rfl
  refine s_ite (fun hs4 => ?_) (fun hs4 => ?_)
  · subst hs4
    refine s_tswIn (pc := 36) (tgt := 134) dX12_qJoins_36 (by decide) (by decide) rfl (by decide) ?_
    refine s_aload_n (pc := 134) 2 dX12_qJoins_134 rfl rfl ?_
    refine s_lload (pc := 135) 0 dX12_qJoins_135 rfl ?_
    refine s_lload_n (pc := 137) 1 dX12_qJoins_137 rfl rfl ?_
    refine s_callSJ (pc := 138) (as := [.long x2, .long x1]) (st := [.ref 253]) dX12_qJoins_138 lk_12_656 (t_X12_qFloor N x2 x1 μ_1) (by omega) rfl (Nat.le_of_ble_eq_true rfl) rfl (fun x7 μ_8 => ?_)
    refine s_callVV (pc := 141) (as := [.long x7]) (st := []) dX12_qJoins_141 lk_12_434 kd_253 (t_X12_qPuts N x7 μ_8) (by omega) rfl (by decide) rfl (fun _ μ_9 => ?_)
    refine s_goto (pc := 144) (tgt := 273) dX12_qJoins_144 (by decide) ?_
    exact s_vret (pc := 273) dX12_qJoins_273 rfl
  refine s_ite (fun hs5 => ?_) (fun hs5 => ?_)
  · subst hs5
    refine s_tswIn (pc := 36) (tgt := 147) dX12_qJoins_36 (by decide) (by decide) rfl (by decide) ?_
    refine s_aload_n (pc := 147) 2 dX12_qJoins_147 rfl rfl ?_
    refine s_lload (pc := 148) 0 dX12_qJoins_148 rfl ?_
    refine s_lload_n (pc := 150) 1 dX12_qJoins_150 rfl rfl ?_
    refine s_lcmp_ge (pc := 151) (tgt := 160) dX12_qJoins_151 dX12_qJoins_152 (by decide) ?_ ?_
    · refine s_lload (pc := 155) 0 dX12_qJoins_155 rfl ?_
      refine s_goto (pc := 157) (tgt := 161) dX12_qJoins_157 (by decide) ?_
      refine s_sub (lv' := []) [] rfl ?_
      exact t_X12_qJoins_B161 N x2 μ_1
    · refine s_lload_n (pc := 160) 1 dX12_qJoins_160 rfl rfl ?_
      refine s_sub (lv' := []) [] rfl ?_
      exact t_X12_qJoins_B161 N x1 μ_1
  refine s_ite (fun hs6 => ?_) (fun hs6 => ?_)
  · subst hs6
    refine s_tswIn (pc := 36) (tgt := 167) dX12_qJoins_36 (by decide) (by decide) rfl (by decide) ?_
    refine s_aload_n (pc := 167) 2 dX12_qJoins_167 rfl rfl ?_
    refine s_lload (pc := 168) 0 dX12_qJoins_168 rfl ?_
    refine s_lload_n (pc := 170) 1 dX12_qJoins_170 rfl rfl ?_
    refine s_lcmp_le (pc := 171) (tgt := 180) dX12_qJoins_171 dX12_qJoins_172 (by decide) ?_ ?_
    · refine s_lload (pc := 175) 0 dX12_qJoins_175 rfl ?_
      refine s_goto (pc := 177) (tgt := 181) dX12_qJoins_177 (by decide) ?_
      refine s_sub (lv' := []) [] rfl ?_
      exact t_X12_qJoins_B181 N x2 μ_1
    · refine s_lload_n (pc := 180) 1 dX12_qJoins_180 rfl rfl ?_
      refine s_sub (lv' := []) [] rfl ?_
      exact t_X12_qJoins_B181 N x1 μ_1
  refine s_ite (fun hs7 => ?_) (fun hs7 => ?_)
  · subst hs7
    refine s_tswIn (pc := 36) (tgt := 187) dX12_qJoins_36 (by decide) (by decide) rfl (by decide) ?_
    refine s_aload_n (pc := 187) 2 dX12_qJoins_187 rfl rfl ?_
    refine s_lload (pc := 188) 0 dX12_qJoins_188 rfl ?_
    refine s_lload_n (pc := 190) 1 dX12_qJoins_190 rfl rfl ?_
    refine s_lcmp_ge (pc := 191) (tgt := 199) dX12_qJoins_191 dX12_qJoins_192 (by decide) ?_ ?_
    · refine s_lconst (pc := 195) (v := (1 : Int64)) dX12_qJoins_195 (by decide) ?_
      refine s_goto (pc := 196) (tgt := 200) dX12_qJoins_196 (by decide) ?_
      refine s_sub (lv' := []) [] rfl ?_
      exact t_X12_qJoins_B200 N (1 : Int64) μ_1
    · refine s_lconst (pc := 199) (v := (0 : Int64)) dX12_qJoins_199 (by decide) ?_
      refine s_sub (lv' := []) [] rfl ?_
      exact t_X12_qJoins_B200 N (0 : Int64) μ_1
  refine s_ite (fun hs8 => ?_) (fun hs8 => ?_)
  · subst hs8
    refine s_tswIn (pc := 36) (tgt := 206) dX12_qJoins_36 (by decide) (by decide) rfl (by decide) ?_
    refine s_aload_n (pc := 206) 2 dX12_qJoins_206 rfl rfl ?_
    refine s_lload (pc := 207) 0 dX12_qJoins_207 rfl ?_
    refine s_lload_n (pc := 209) 1 dX12_qJoins_209 rfl rfl ?_
    refine s_lcmp_le (pc := 210) (tgt := 218) dX12_qJoins_210 dX12_qJoins_211 (by decide) ?_ ?_
    · refine s_lconst (pc := 214) (v := (1 : Int64)) dX12_qJoins_214 (by decide) ?_
      refine s_goto (pc := 215) (tgt := 219) dX12_qJoins_215 (by decide) ?_
      refine s_sub (lv' := []) [] rfl ?_
      exact t_X12_qJoins_B219 N (1 : Int64) μ_1
    · refine s_lconst (pc := 218) (v := (0 : Int64)) dX12_qJoins_218 (by decide) ?_
      refine s_sub (lv' := []) [] rfl ?_
      exact t_X12_qJoins_B219 N (0 : Int64) μ_1
  refine s_ite (fun hs9 => ?_) (fun hs9 => ?_)
  · subst hs9
    refine s_tswIn (pc := 36) (tgt := 225) dX12_qJoins_36 (by decide) (by decide) rfl (by decide) ?_
    refine s_aload_n (pc := 225) 2 dX12_qJoins_225 rfl rfl ?_
    refine s_lload (pc := 226) 0 dX12_qJoins_226 rfl ?_
    refine s_lload_n (pc := 228) 1 dX12_qJoins_228 rfl rfl ?_
    refine s_lcmp_ne (pc := 229) (tgt := 237) dX12_qJoins_229 dX12_qJoins_230 (by decide) ?_ ?_
    · refine s_lconst (pc := 233) (v := (1 : Int64)) dX12_qJoins_233 (by decide) ?_
      refine s_goto (pc := 234) (tgt := 238) dX12_qJoins_234 (by decide) ?_
      refine s_sub (lv' := []) [] rfl ?_
      exact t_X12_qJoins_B238 N (1 : Int64) μ_1
    · refine s_lconst (pc := 237) (v := (0 : Int64)) dX12_qJoins_237 (by decide) ?_
      refine s_sub (lv' := []) [] rfl ?_
      exact t_X12_qJoins_B238 N (0 : Int64) μ_1
  refine s_ite (fun hs10 => ?_) (fun hs10 => ?_)
  · subst hs10
    refine s_tswIn (pc := 36) (tgt := 244) dX12_qJoins_36 (by decide) (by decide) rfl (by decide) ?_
    refine s_aload_n (pc := 244) 2 dX12_qJoins_244 rfl rfl ?_
    refine s_lload (pc := 245) 0 dX12_qJoins_245 rfl ?_
    refine s_lload_n (pc := 247) 1 dX12_qJoins_247 rfl rfl ?_
    refine s_lmul (pc := 248) dX12_qJoins_248 ?_
    refine s_callVV (pc := 249) (as := [.long (x2 * x1)]) (st := []) dX12_qJoins_249 lk_12_434 kd_253 (t_X12_qPuts N (x2 * x1) μ_1) (by omega) rfl (by decide) rfl (fun _ μ_15 => ?_)
    refine s_goto (pc := 252) (tgt := 273) dX12_qJoins_252 (by decide) ?_
    exact s_vret (pc := 273) dX12_qJoins_273 rfl
  · have q_hs1 := lv_neT (a := 1) hs1 (by decide)
    have q_hs2 := lv_neT (a := 2) hs2 (by decide)
    have q_hs3 := lv_neT (a := 3) hs3 (by decide)
    have q_hs4 := lv_neT (a := 4) hs4 (by decide)
    have q_hs5 := lv_neT (a := 5) hs5 (by decide)
    have q_hs6 := lv_neT (a := 6) hs6 (by decide)
    have q_hs7 := lv_neT (a := 7) hs7 (by decide)
    have q_hs8 := lv_neT (a := 8) hs8 (by decide)
    have q_hs9 := lv_neT (a := 9) hs9 (by decide)
    have q_hs10 := lv_neT (a := 10) hs10 (by decide)
    refine s_tswOut (pc := 36) (tgt := 255) dX12_qJoins_36 (by omega) (by decide) ?_
    refine s_aload_n (pc := 255) 2 dX12_qJoins_255 rfl rfl ?_
    refine s_lload (pc := 256) 0 dX12_qJoins_256 rfl ?_
    refine s_lload_n (pc := 258) 1 dX12_qJoins_258 rfl rfl ?_
    refine s_ladd (pc := 259) dX12_qJoins_259 ?_
    refine s_lconst (pc := 260) (v := (0 : Int64)) dX12_qJoins_260 (by decide) ?_
    refine s_lcmp_le (pc := 261) (tgt := 269) dX12_qJoins_261 dX12_qJoins_262 (by decide) ?_ ?_
    · refine s_lconst (pc := 265) (v := (1 : Int64)) dX12_qJoins_265 (by decide) ?_
      refine s_goto (pc := 266) (tgt := 270) dX12_qJoins_266 (by decide) ?_
      refine s_sub (lv' := []) [] rfl ?_
      exact t_X12_qJoins_B270 N (1 : Int64) μ_1
    · refine s_lconst (pc := 269) (v := (0 : Int64)) dX12_qJoins_269 (by decide) ?_
      refine s_sub (lv' := []) [] rfl ?_
      exact t_X12_qJoins_B270 N (0 : Int64) μ_1
def f_X12_codesTell_B113 (N : Nat) (c1 : Int32) (c2 : Int32) (kb : Int32 → z_S → Option (Int64 × z_S)) (e119 : z_S → Option (Int64 × z_S)) (v4 : Int32) (μ : z_S) : Option (Int64 × z_S) :=
  z_bd (v4 + 1) fun x3 => kb x3 μ
theorem t_X12_codesTell_B113 (N : Nat) (c1 : Int32) (c2 : Int32)  (kb : Int32 → z_S → Option (Int64 × z_S)) (e119 : z_S → Option (Int64 × z_S)) (hkb : ∀ (a4 : Int32) (μ : z_S), z_sim false rJ mX12_codesTell 3 (kb a4 μ) 35 [(0, .ref 253), (1, .int c1), (2, .int c2), (4, .int a4)] [] μ) (he119 : ∀  (μ : z_S), z_sim false rJ mX12_codesTell 3 (e119 μ) 119 [(0, .ref 253)] [] μ) (v4 : Int32)  (μ : z_S) : z_sim false rJ mX12_codesTell 3 (f_X12_codesTell_B113 N c1 c2 kb e119 v4 μ) 113 [(0, .ref 253), (1, .int c1), (2, .int c2), (4, .int v4)] [] μ := by
  unfold f_X12_codesTell_B113
  refine s_iincB (pc := 113) (lv' := fun x3 => [(4, .int x3), (0, .ref 253), (1, .int c1), (2, .int c2)]) (c := 1) 3 dX12_codesTell_113 rfl (by decide) (by decide) (fun _ => rfl) (fun x3 => ?_)
  refine s_goto (pc := 116) (tgt := 35) dX12_codesTell_116 (by decide) ?_
  refine s_sub (lv' := [(0, .ref 253), (1, .int c1), (2, .int c2), (4, .int x3)]) [1, 2, 3, 0] rfl ?_
  exact hkb x3 μ
def b_X12_codesTell_L35 (N : Nat) (c1 : Int32) (c2 : Int32) (kb : Int32 → z_S → Option (Int64 × z_S)) (e119 : z_S → Option (Int64 × z_S)) (v4 : Int32) (μ : z_S) : Option (Int64 × z_S) :=
  z_in ((2 : Int32) + c1) 4 <| if v4 < (μ.1 294 ((2 : Int32) + c1).toNatClampNeg) then (z_in ((1600 : Int32) + v4) 3200 <| z_bd (μ.1 295 ((1600 : Int32) + v4).toNatClampNeg) fun x2 => if x2 < (1000 : Int32) then (if x2 < (40 : Int32) then (z_bn (f_X12_qJoins N x2 μ) fun _ μ_4 => f_X12_codesTell_B113 N c1 c2 kb e119 v4 μ_4) else z_bn (f_X12_qPartOf N (x2 - (40 : Int32)) c2 μ) fun x4 μ_5 => z_bn (f_X12_qPuts N x4 μ_5) fun _ μ_6 => f_X12_codesTell_B113 N c1 c2 kb e119 v4 μ_6) else z_bn (f_X12_qPuts N ((x2 - (1000 : Int32)).toInt64) μ) fun _ μ_7 => f_X12_codesTell_B113 N c1 c2 kb e119 v4 μ_7) else e119 μ
theorem tb_X12_codesTell_L35 (N : Nat) (c1 : Int32) (c2 : Int32) (kb : Int32 → z_S → Option (Int64 × z_S)) (e119 : z_S → Option (Int64 × z_S)) (hkb : ∀ (a4 : Int32) (μ : z_S), z_sim false rJ mX12_codesTell 3 (kb a4 μ) 35 [(0, .ref 253), (1, .int c1), (2, .int c2), (4, .int a4)] [] μ) (he119 : ∀ (μ : z_S), z_sim false rJ mX12_codesTell 3 (e119 μ) 119 [(0, .ref 253)] [] μ) (v4 : Int32) (μ : z_S) : z_sim false rJ mX12_codesTell 3 (b_X12_codesTell_L35 N c1 c2 kb e119 v4 μ) 35 [(0, .ref 253), (1, .int c1), (2, .int c2), (4, .int v4)] [] μ := by
  unfold b_X12_codesTell_L35
  refine s_iload (pc := 35) 3 dX12_codesTell_35 rfl ?_
  refine s_aload_n (pc := 37) 0 dX12_codesTell_37 rfl rfl ?_
  refine s_getR (pc := 38) (ci := 12) (k := 49) (r := 294) dX12_codesTell_38 fl_12_136 kd_253 rfl rs_253_49 ?_
  refine s_iconst (pc := 41) (v := (2 : Int32)) dX12_codesTell_41 (by decide) ?_
  refine s_iload_n (pc := 42) 1 dX12_codesTell_42 rfl rfl ?_
  refine s_iadd (pc := 43) dX12_codesTell_43 ?_
  refine s_iald (pc := 44) dX12_codesTell_44 kd_294 ?_
  refine s_icmp_ge (pc := 45) (tgt := 119) dX12_codesTell_45 (by decide) ?_ ?_
  · refine s_aload_n (pc := 48) 0 dX12_codesTell_48 rfl rfl ?_
    refine s_getR (pc := 49) (ci := 12) (k := 50) (r := 295) dX12_codesTell_49 fl_12_139 kd_253 rfl rs_253_50 ?_
    refine s_sipush (pc := 52) (v := (1600 : Int32)) dX12_codesTell_52 (by decide) ?_
    refine s_iload (pc := 55) 3 dX12_codesTell_55 rfl ?_
    refine s_iadd (pc := 57) dX12_codesTell_57 ?_
    refine s_iald (pc := 58) dX12_codesTell_58 kd_295 ?_
    refine s_letI (fun x2 => ?_)
    refine s_istore (pc := 59) (lv' := [(5, .int x2), (0, .ref 253), (1, .int c1), (2, .int c2), (4, .int v4)]) dX12_codesTell_59 (by decide) rfl ?_
    refine s_iload (pc := 61) 0 dX12_codesTell_61 rfl ?_
    refine s_sipush (pc := 63) (v := (1000 : Int32)) dX12_codesTell_63 (by decide) ?_
    refine s_icmp_lt (pc := 66) (tgt := 83) dX12_codesTell_66 (by decide) ?_ ?_
    · refine s_iload (pc := 83) 0 dX12_codesTell_83 rfl ?_
      refine s_bipush (pc := 85) (v := (40 : Int32)) dX12_codesTell_85 (by decide) ?_
      refine s_icmp_lt (pc := 87) (tgt := 107) dX12_codesTell_87 (by decide) ?_ ?_
      · refine s_aload_n (pc := 107) 1 dX12_codesTell_107 rfl rfl ?_
        refine s_iload (pc := 108) 0 dX12_codesTell_108 rfl ?_
        refine s_callVV (pc := 110) (as := [.int x2]) (st := []) dX12_codesTell_110 lk_12_442 kd_253 (t_X12_qJoins N x2 μ) (by omega) rfl (by decide) rfl (fun _ μ_4 => ?_)
        refine s_sub (lv' := [(0, .ref 253), (1, .int c1), (2, .int c2), (4, .int v4)]) [1, 2, 3, 4] rfl ?_
        exact t_X12_codesTell_B113 N c1 c2 kb e119 hkb he119 v4 μ_4
      · refine s_aload_n (pc := 90) 1 dX12_codesTell_90 rfl rfl ?_
        refine s_aload_n (pc := 91) 1 dX12_codesTell_91 rfl rfl ?_
        refine s_iload (pc := 92) 0 dX12_codesTell_92 rfl ?_
        refine s_bipush (pc := 94) (v := (40 : Int32)) dX12_codesTell_94 (by decide) ?_
        refine s_isub (pc := 96) dX12_codesTell_96 ?_
        refine s_iload_n (pc := 97) 3 dX12_codesTell_97 rfl rfl ?_
        refine s_callVJ (pc := 98) (as := [.int (x2 - (40 : Int32)), .int c2]) (st := [.ref 253]) dX12_codesTell_98 lk_12_438 kd_253 (t_X12_qPartOf N (x2 - (40 : Int32)) c2 μ) (by omega) rfl (Nat.le_of_ble_eq_true rfl) rfl (fun x4 μ_5 => ?_)
        refine s_callVV (pc := 101) (as := [.long x4]) (st := []) dX12_codesTell_101 lk_12_434 kd_253 (t_X12_qPuts N x4 μ_5) (by omega) rfl (by decide) rfl (fun _ μ_6 => ?_)
        refine s_goto (pc := 104) (tgt := 113) dX12_codesTell_104 (by decide) ?_
        refine s_sub (lv' := [(0, .ref 253), (1, .int c1), (2, .int c2), (4, .int v4)]) [1, 2, 3, 4] rfl ?_
        exact t_X12_codesTell_B113 N c1 c2 kb e119 hkb he119 v4 μ_6
    · refine s_aload_n (pc := 69) 1 dX12_codesTell_69 rfl rfl ?_
      refine s_iload (pc := 70) 0 dX12_codesTell_70 rfl ?_
      refine s_sipush (pc := 72) (v := (1000 : Int32)) dX12_codesTell_72 (by decide) ?_
      refine s_isub (pc := 75) dX12_codesTell_75 ?_
      refine s_i2l (pc := 76) dX12_codesTell_76 ?_
      refine s_callVV (pc := 77) (as := [.long (x2 - (1000 : Int32)).toInt64]) (st := []) dX12_codesTell_77 lk_12_434 kd_253 (t_X12_qPuts N ((x2 - (1000 : Int32)).toInt64) μ) (by omega) rfl (by decide) rfl (fun _ μ_7 => ?_)
      refine s_goto (pc := 80) (tgt := 113) dX12_codesTell_80 (by decide) ?_
      refine s_sub (lv' := [(0, .ref 253), (1, .int c1), (2, .int c2), (4, .int v4)]) [1, 2, 3, 4] rfl ?_
      exact t_X12_codesTell_B113 N c1 c2 kb e119 hkb he119 v4 μ_7
  · refine s_sub (lv' := [(0, .ref 253)]) [0] rfl ?_
    exact he119 μ
def f_X12_codesTell_L35 (N : Nat) (c1 : Int32) (c2 : Int32) (e119 : z_S → Option (Int64 × z_S)) : Nat → Int32 → z_S → Option (Int64 × z_S)
  | 0, _, _ => none
  | n + 1, v4, μ => b_X12_codesTell_L35 N c1 c2 (f_X12_codesTell_L35 N c1 c2 e119 n) e119 v4 μ
theorem t_X12_codesTell_L35 (N : Nat) (c1 : Int32) (c2 : Int32) (e119 : z_S → Option (Int64 × z_S)) (he119 : ∀ (μ : z_S), z_sim false rJ mX12_codesTell 3 (e119 μ) 119 [(0, .ref 253)] [] μ) : ∀ (n : Nat) (v4 : Int32) (μ : z_S), z_sim false rJ mX12_codesTell 3 (f_X12_codesTell_L35 N c1 c2 e119 n v4 μ) 35 [(0, .ref 253), (1, .int c1), (2, .int c2), (4, .int v4)] [] μ
  | 0, _, _ => s_none
  | n + 1, v4, μ => tb_X12_codesTell_L35 N c1 c2 (f_X12_codesTell_L35 N c1 c2 e119 n) e119 (t_X12_codesTell_L35 N c1 c2 e119 he119 n) he119 v4 μ
def f_X12_codesTell (N : Nat) (a1 : Int32) (a2 : Int32) (a3 : Int32) (μ : z_S) : Option (Int64 × z_S) :=
  z_in ((10 : Int32) + ((3 : Int32) * a3)) 18 <| z_bd (z_setI μ 253 56 (μ.1 291 ((10 : Int32) + ((3 : Int32) * a3)).toNatClampNeg)) fun μ_1 => z_bd (z_setI μ_1 253 53 (1 : Int32)) fun μ_2 => z_bd (z_setI μ_2 253 101 (0 : Int32)) fun μ_3 => z_in ((2 : Int32) + a1) 4 <| z_bd (μ_3.1 293 ((2 : Int32) + a1).toNatClampNeg) fun x1 => f_X12_codesTell_L35 N a1 a2 (fun μ119 => some ((μ119.2.1 332 0), μ119)) N x1 μ_3
theorem t_X12_codesTell (N : Nat) (a1 : Int32) (a2 : Int32) (a3 : Int32) (μ : z_S) : z_met false rJ mX12_codesTell 3 [.ref 253, .int a1, .int a2, .int a3] μ (f_X12_codesTell N a1 a2 a3 μ) := by
  refine z_met.of (by decide +kernel) (by show _ ≤ _; first | decide | exact Nat.le_of_ble_eq_true rfl) (lv := [(0, .ref 253), (1, .int a1), (2, .int a2), (3, .int a3)]) rfl ?_
  unfold f_X12_codesTell
  refine s_aload_n (pc := 0) 0 dX12_codesTell_0 rfl rfl ?_
  refine s_aload_n (pc := 1) 0 dX12_codesTell_1 rfl rfl ?_
  refine s_getR (pc := 2) (ci := 12) (k := 46) (r := 291) dX12_codesTell_2 fl_12_127 kd_253 rfl rs_253_46 ?_
  refine s_bipush (pc := 5) (v := (10 : Int32)) dX12_codesTell_5 (by decide) ?_
  refine s_iconst (pc := 7) (v := (3 : Int32)) dX12_codesTell_7 (by decide) ?_
  refine s_iload_n (pc := 8) 3 dX12_codesTell_8 rfl rfl ?_
  refine s_imul (pc := 9) dX12_codesTell_9 ?_
  refine s_iadd (pc := 10) dX12_codesTell_10 ?_
  refine s_iald (pc := 11) dX12_codesTell_11 kd_291 ?_
  refine s_putI (pc := 12) (ci := 12) (k := 56) dX12_codesTell_12 fl_12_428 kd_253 rfl rfl (fun μ_1 => ?_)
  refine s_aload_n (pc := 15) 0 dX12_codesTell_15 rfl rfl ?_
  refine s_iconst (pc := 16) (v := (1 : Int32)) dX12_codesTell_16 (by decide) ?_
  refine s_putZ (pc := 17) (ci := 12) (k := 53) dX12_codesTell_17 fl_12_318 kd_253 rfl rfl rfl rfl (fun μ_2 => ?_)
  refine s_aload_n (pc := 20) 0 dX12_codesTell_20 rfl rfl ?_
  refine s_iconst (pc := 21) (v := (0 : Int32)) dX12_codesTell_21 (by decide) ?_
  refine s_putI (pc := 22) (ci := 12) (k := 101) dX12_codesTell_22 fl_12_431 kd_253 rfl rfl (fun μ_3 => ?_)
  refine s_aload_n (pc := 25) 0 dX12_codesTell_25 rfl rfl ?_
  refine s_getR (pc := 26) (ci := 12) (k := 48) (r := 293) dX12_codesTell_26 fl_12_133 kd_253 rfl rs_253_48 ?_
  refine s_iconst (pc := 29) (v := (2 : Int32)) dX12_codesTell_29 (by decide) ?_
  refine s_iload_n (pc := 30) 1 dX12_codesTell_30 rfl rfl ?_
  refine s_iadd (pc := 31) dX12_codesTell_31 ?_
  refine s_iald (pc := 32) dX12_codesTell_32 kd_293 ?_
  refine s_letI (fun x1 => ?_)
  refine s_istore (pc := 33) (lv' := [(4, .int x1), (0, .ref 253), (1, .int a1), (2, .int a2), (3, .int a3)]) dX12_codesTell_33 (by decide) rfl ?_
  refine s_sub (lv' := [(0, .ref 253), (1, .int a1), (2, .int a2), (4, .int x1)]) [1, 2, 3, 0] rfl ?_
  refine t_X12_codesTell_L35 N a1 a2 _ ?_ N x1 μ_3
  · intro μ119
    refine s_aload_n (pc := 119) 0 dX12_codesTell_119 rfl rfl ?_
    refine s_getR (pc := 120) (ci := 12) (k := 100) (r := 332) dX12_codesTell_120 fl_12_254 kd_253 rfl rs_253_100 ?_
    refine s_iconst (pc := 123) (v := (0 : Int32)) dX12_codesTell_123 (by decide) ?_
    refine s_laldK (pc := 124) (k := 0) dX12_codesTell_124 kd_332 (by decide) (by decide) (by decide) ?_
    exact s_lret (pc := 125) dX12_codesTell_125 rfl
def f_X12_timeOf (N : Nat) (a1 : Int32) (a2 : Int32) (μ : z_S) : Option (Int32 × z_S) :=
  if (μ.1 293 2) = (-1 : Int32) then (some ((20 : Int32), μ)) else z_bn (f_X12_codesTell N (0 : Int32) a1 a2 μ) fun x1 μ_1 => if x1 < (1 : Int64) then (some ((1 : Int32), μ_1)) else if (999 : Int64) < x1 then (some ((999 : Int32), μ_1)) else some (x1.toInt32, μ_1)
theorem t_X12_timeOf (N : Nat) (a1 : Int32) (a2 : Int32) (μ : z_S) : z_met false rI mX12_timeOf 4 [.ref 253, .int a1, .int a2] μ (f_X12_timeOf N a1 a2 μ) := by
  refine z_met.of (by decide +kernel) (by show _ ≤ _; first | decide | exact Nat.le_of_ble_eq_true rfl) (lv := [(0, .ref 253), (1, .int a1), (2, .int a2)]) rfl ?_
  unfold f_X12_timeOf
  refine s_aload_n (pc := 0) 0 dX12_timeOf_0 rfl rfl ?_
  refine s_getR (pc := 1) (ci := 12) (k := 48) (r := 293) dX12_timeOf_1 fl_12_133 kd_253 rfl rs_253_48 ?_
  refine s_iconst (pc := 4) (v := (2 : Int32)) dX12_timeOf_4 (by decide) ?_
  refine s_ialdK (pc := 5) (k := 2) dX12_timeOf_5 kd_293 (by decide) (by decide) (by decide) ?_
  refine s_iconst (pc := 6) (v := (-1 : Int32)) dX12_timeOf_6 (by decide) ?_
  refine s_icmp_ne (pc := 7) (tgt := 13) dX12_timeOf_7 (by decide) ?_ ?_
  · refine s_bipush (pc := 10) (v := (20 : Int32)) dX12_timeOf_10 (by decide) ?_
    exact s_iret (pc := 12) rfl dX12_timeOf_12 rfl
  · refine s_aload_n (pc := 13) 0 dX12_timeOf_13 rfl rfl ?_
    refine s_iconst (pc := 14) (v := (0 : Int32)) dX12_timeOf_14 (by decide) ?_
    refine s_iload_n (pc := 15) 1 dX12_timeOf_15 rfl rfl ?_
    refine s_iload_n (pc := 16) 2 dX12_timeOf_16 rfl rfl ?_
    refine s_callVJ (pc := 17) (as := [.int (0 : Int32), .int a1, .int a2]) (st := []) dX12_timeOf_17 lk_12_445 kd_253 (t_X12_codesTell N (0 : Int32) a1 a2 μ) (by omega) rfl (by decide) rfl (fun x1 μ_1 => ?_)
    refine s_lstore_n (pc := 20) (lv' := [(3, .long x1), (0, .ref 253), (1, .int a1), (2, .int a2)]) dX12_timeOf_20 rfl (by decide) rfl ?_
    refine s_lload_n (pc := 21) 0 dX12_timeOf_21 rfl rfl ?_
    refine s_lconst (pc := 22) (v := (1 : Int64)) dX12_timeOf_22 (by decide) ?_
    refine s_lcmp_ge (pc := 23) (tgt := 31) dX12_timeOf_23 dX12_timeOf_24 (by decide) ?_ ?_
    · refine s_iconst (pc := 27) (v := (1 : Int32)) dX12_timeOf_27 (by decide) ?_
      refine s_goto (pc := 28) (tgt := 47) dX12_timeOf_28 (by decide) ?_
      exact s_iret (pc := 47) rfl dX12_timeOf_47 rfl
    · refine s_lload_n (pc := 31) 0 dX12_timeOf_31 rfl rfl ?_
      refine s_ldc2 (pc := 32) (v := (999 : Int64)) dX12_timeOf_32 w_1936 ?_
      refine s_lcmp_le (pc := 35) (tgt := 45) dX12_timeOf_35 dX12_timeOf_36 (by decide) ?_ ?_
      · refine s_sipush (pc := 39) (v := (999 : Int32)) dX12_timeOf_39 (by decide) ?_
        refine s_goto (pc := 42) (tgt := 47) dX12_timeOf_42 (by decide) ?_
        exact s_iret (pc := 47) rfl dX12_timeOf_47 rfl
      · refine s_lload_n (pc := 45) 0 dX12_timeOf_45 rfl rfl ?_
        refine s_l2i (pc := 46) dX12_timeOf_46 ?_
        exact s_iret (pc := 47) rfl dX12_timeOf_47 rfl
def f_X12_warmOf (N : Nat) (a1 : Int32) (a2 : Int32) (μ : z_S) : Option (Int64 × z_S) :=
  if (μ.1 293 3) = (-1 : Int32) then (z_in ((10 : Int32) + ((3 : Int32) * a2)) 18 <| some ((μ.1 291 ((10 : Int32) + ((3 : Int32) * a2)).toNatClampNeg).toInt64, μ)) else z_bn (f_X12_codesTell N (1 : Int32) a1 a2 μ) fun x1 μ_1 => some (x1, μ_1)
theorem t_X12_warmOf (N : Nat) (a1 : Int32) (a2 : Int32) (μ : z_S) : z_met false rJ mX12_warmOf 4 [.ref 253, .int a1, .int a2] μ (f_X12_warmOf N a1 a2 μ) := by
  refine z_met.of (by decide +kernel) (by show _ ≤ _; first | decide | exact Nat.le_of_ble_eq_true rfl) (lv := [(0, .ref 253), (1, .int a1), (2, .int a2)]) rfl ?_
  unfold f_X12_warmOf
  refine s_aload_n (pc := 0) 0 dX12_warmOf_0 rfl rfl ?_
  refine s_getR (pc := 1) (ci := 12) (k := 48) (r := 293) dX12_warmOf_1 fl_12_133 kd_253 rfl rs_253_48 ?_
  refine s_iconst (pc := 4) (v := (3 : Int32)) dX12_warmOf_4 (by decide) ?_
  refine s_ialdK (pc := 5) (k := 3) dX12_warmOf_5 kd_293 (by decide) (by decide) (by decide) ?_
  refine s_iconst (pc := 6) (v := (-1 : Int32)) dX12_warmOf_6 (by decide) ?_
  refine s_icmp_ne (pc := 7) (tgt := 25) dX12_warmOf_7 (by decide) ?_ ?_
  · refine s_aload_n (pc := 10) 0 dX12_warmOf_10 rfl rfl ?_
    refine s_getR (pc := 11) (ci := 12) (k := 46) (r := 291) dX12_warmOf_11 fl_12_127 kd_253 rfl rs_253_46 ?_
    refine s_bipush (pc := 14) (v := (10 : Int32)) dX12_warmOf_14 (by decide) ?_
    refine s_iconst (pc := 16) (v := (3 : Int32)) dX12_warmOf_16 (by decide) ?_
    refine s_iload_n (pc := 17) 2 dX12_warmOf_17 rfl rfl ?_
    refine s_imul (pc := 18) dX12_warmOf_18 ?_
    refine s_iadd (pc := 19) dX12_warmOf_19 ?_
    refine s_iald (pc := 20) dX12_warmOf_20 kd_291 ?_
    refine s_i2l (pc := 21) dX12_warmOf_21 ?_
    refine s_goto (pc := 22) (tgt := 32) dX12_warmOf_22 (by decide) ?_
    exact s_lret (pc := 32) dX12_warmOf_32 rfl
  · refine s_aload_n (pc := 25) 0 dX12_warmOf_25 rfl rfl ?_
    refine s_iconst (pc := 26) (v := (1 : Int32)) dX12_warmOf_26 (by decide) ?_
    refine s_iload_n (pc := 27) 1 dX12_warmOf_27 rfl rfl ?_
    refine s_iload_n (pc := 28) 2 dX12_warmOf_28 rfl rfl ?_
    refine s_callVJ (pc := 29) (as := [.int (1 : Int32), .int a1, .int a2]) (st := []) dX12_warmOf_29 lk_12_445 kd_253 (t_X12_codesTell N (1 : Int32) a1 a2 μ) (by omega) rfl (by decide) rfl (fun x1 μ_1 => ?_)
    exact s_lret (pc := 32) dX12_warmOf_32 rfl
def f_X12_doesBear (N : Nat) (a1 : Int32) (a2 : Int32) (μ : z_S) : Option (Int32 × z_S) :=
  z_in ((11 : Int32) + ((3 : Int32) * a2)) 18 <| z_in ((26 : Int32) + ((3 : Int32) * a1)) 48 <| if (μ.1 291 ((11 : Int32) + ((3 : Int32) * a2)).toNatClampNeg) < (μ.1 286 ((26 : Int32) + ((3 : Int32) * a1)).toNatClampNeg) then (some ((0 : Int32), μ)) else some ((1 : Int32), μ)
theorem t_X12_doesBear (N : Nat) (a1 : Int32) (a2 : Int32) (μ : z_S) : z_met false rI mX12_doesBear 0 [.ref 253, .int a1, .int a2] μ (f_X12_doesBear N a1 a2 μ) := by
  refine z_met.of (by decide +kernel) (by show _ ≤ _; first | decide | exact Nat.le_of_ble_eq_true rfl) (lv := [(0, .ref 253), (1, .int a1), (2, .int a2)]) rfl ?_
  unfold f_X12_doesBear
  refine s_aload_n (pc := 0) 0 dX12_doesBear_0 rfl rfl ?_
  refine s_getR (pc := 1) (ci := 12) (k := 46) (r := 291) dX12_doesBear_1 fl_12_127 kd_253 rfl rs_253_46 ?_
  refine s_bipush (pc := 4) (v := (11 : Int32)) dX12_doesBear_4 (by decide) ?_
  refine s_iconst (pc := 6) (v := (3 : Int32)) dX12_doesBear_6 (by decide) ?_
  refine s_iload_n (pc := 7) 2 dX12_doesBear_7 rfl rfl ?_
  refine s_imul (pc := 8) dX12_doesBear_8 ?_
  refine s_iadd (pc := 9) dX12_doesBear_9 ?_
  refine s_iald (pc := 10) dX12_doesBear_10 kd_291 ?_
  refine s_aload_n (pc := 11) 0 dX12_doesBear_11 rfl rfl ?_
  refine s_getR (pc := 12) (ci := 12) (k := 41) (r := 286) dX12_doesBear_12 fl_12_112 kd_253 rfl rs_253_41 ?_
  refine s_bipush (pc := 15) (v := (26 : Int32)) dX12_doesBear_15 (by decide) ?_
  refine s_iconst (pc := 17) (v := (3 : Int32)) dX12_doesBear_17 (by decide) ?_
  refine s_iload_n (pc := 18) 1 dX12_doesBear_18 rfl rfl ?_
  refine s_imul (pc := 19) dX12_doesBear_19 ?_
  refine s_iadd (pc := 20) dX12_doesBear_20 ?_
  refine s_iald (pc := 21) dX12_doesBear_21 kd_286 ?_
  refine s_icmp_lt (pc := 22) (tgt := 29) dX12_doesBear_22 (by decide) ?_ ?_
  · refine s_iconst (pc := 29) (v := (0 : Int32)) dX12_doesBear_29 (by decide) ?_
    exact s_zret0 (pc := 30) dX12_doesBear_30 rfl rfl
  · refine s_iconst (pc := 25) (v := (1 : Int32)) dX12_doesBear_25 (by decide) ?_
    refine s_goto (pc := 26) (tgt := 30) dX12_doesBear_26 (by decide) ?_
    exact s_zret0 (pc := 30) dX12_doesBear_30 rfl rfl
def f_X12_canAnswer (N : Nat) (a1 : Int32) (a2 : Int32) (μ : z_S) : Option (Int32 × z_S) :=
  z_bn (f_X12_doneOf N a1 μ) fun x1 μ_1 => if x1 = 0 then (z_bn (f_X12_doesBear N a1 a2 μ_1) fun x2 μ_2 => if x2 = 0 then (some ((0 : Int32), μ_2)) else z_bn (f_X12_leftOf N a2 μ_2) fun x3 μ_3 => z_bn (f_X12_timeOf N a1 a2 μ_3) fun x4 μ_4 => if x3 < x4 then (some ((0 : Int32), μ_4)) else some ((1 : Int32), μ_4)) else some ((0 : Int32), μ_1)
theorem t_X12_canAnswer (N : Nat) (a1 : Int32) (a2 : Int32) (μ : z_S) : z_met false rI mX12_canAnswer 5 [.ref 253, .int a1, .int a2] μ (f_X12_canAnswer N a1 a2 μ) := by
  refine z_met.of (by decide +kernel) (by show _ ≤ _; first | decide | exact Nat.le_of_ble_eq_true rfl) (lv := [(0, .ref 253), (1, .int a1), (2, .int a2)]) rfl ?_
  unfold f_X12_canAnswer
  refine s_aload_n (pc := 0) 0 dX12_canAnswer_0 rfl rfl ?_
  refine s_iload_n (pc := 1) 1 dX12_canAnswer_1 rfl rfl ?_
  refine s_callVI (pc := 2) (as := [.int a1]) (st := []) dX12_canAnswer_2 lk_12_451 kd_253 (t_X12_doneOf N a1 μ) (by omega) rfl (by decide) rfl (fun x1 μ_1 => ?_)
  refine s_if_ne (pc := 5) (tgt := 35) dX12_canAnswer_5 (by decide) ?_ ?_
  · refine s_aload_n (pc := 8) 0 dX12_canAnswer_8 rfl rfl ?_
    refine s_iload_n (pc := 9) 1 dX12_canAnswer_9 rfl rfl ?_
    refine s_iload_n (pc := 10) 2 dX12_canAnswer_10 rfl rfl ?_
    refine s_callVI (pc := 11) (as := [.int a1, .int a2]) (st := []) dX12_canAnswer_11 lk_12_454 kd_253 (t_X12_doesBear N a1 a2 μ_1) (by omega) rfl (by decide) rfl (fun x2 μ_2 => ?_)
    refine s_if_eq (pc := 14) (tgt := 35) dX12_canAnswer_14 (by decide) ?_ ?_
    · refine s_iconst (pc := 35) (v := (0 : Int32)) dX12_canAnswer_35 (by decide) ?_
      exact s_zret0 (pc := 36) dX12_canAnswer_36 rfl rfl
    · refine s_aload_n (pc := 17) 0 dX12_canAnswer_17 rfl rfl ?_
      refine s_iload_n (pc := 18) 2 dX12_canAnswer_18 rfl rfl ?_
      refine s_callVI (pc := 19) (as := [.int a2]) (st := []) dX12_canAnswer_19 lk_12_458 kd_253 (t_X12_leftOf N a2 μ_2) (by omega) rfl (by decide) rfl (fun x3 μ_3 => ?_)
      refine s_aload_n (pc := 22) 0 dX12_canAnswer_22 rfl rfl ?_
      refine s_iload_n (pc := 23) 1 dX12_canAnswer_23 rfl rfl ?_
      refine s_iload_n (pc := 24) 2 dX12_canAnswer_24 rfl rfl ?_
      refine s_callVI (pc := 25) (as := [.int a1, .int a2]) (st := [.int x3]) dX12_canAnswer_25 lk_12_461 kd_253 (t_X12_timeOf N a1 a2 μ_3) (by omega) rfl (Nat.le_of_ble_eq_true rfl) rfl (fun x4 μ_4 => ?_)
      refine s_icmp_lt (pc := 28) (tgt := 35) dX12_canAnswer_28 (by decide) ?_ ?_
      · refine s_iconst (pc := 35) (v := (0 : Int32)) dX12_canAnswer_35 (by decide) ?_
        exact s_zret0 (pc := 36) dX12_canAnswer_36 rfl rfl
      · refine s_iconst (pc := 31) (v := (1 : Int32)) dX12_canAnswer_31 (by decide) ?_
        refine s_goto (pc := 32) (tgt := 36) dX12_canAnswer_32 (by decide) ?_
        exact s_zret0 (pc := 36) dX12_canAnswer_36 rfl rfl
  · refine s_iconst (pc := 35) (v := (0 : Int32)) dX12_canAnswer_35 (by decide) ?_
    exact s_zret0 (pc := 36) dX12_canAnswer_36 rfl rfl
def f_X12_isAnswered (N : Nat) (a1 : Int32) (a2 : Int32) (μ : z_S) : Option (Unit × z_S) :=
  z_bd ((1 : Int32) + a2) fun x1 => z_in x1 32 <| z_bn (f_X12_timeOf N a1 a2 μ) fun x2 μ_1 => z_in x1 32 <| z_bd (z_setI μ_1 296 x1.toNatClampNeg ((μ.1 296 x1.toNatClampNeg) - x2)) fun μ_2 => z_in ((8 : Int32) + ((3 : Int32) * a1)) 32 <| z_bd (z_setI μ_2 296 ((8 : Int32) + ((3 : Int32) * a1)).toNatClampNeg (a2 + (1 : Int32))) fun μ_3 => some ((), μ_3)
theorem t_X12_isAnswered (N : Nat) (a1 : Int32) (a2 : Int32) (μ : z_S) : z_met false rV mX12_isAnswered 5 [.ref 253, .int a1, .int a2] μ (f_X12_isAnswered N a1 a2 μ) := by
  refine z_met.of (by decide +kernel) (by show _ ≤ _; first | decide | exact Nat.le_of_ble_eq_true rfl) (lv := [(0, .ref 253), (1, .int a1), (2, .int a2)]) rfl ?_
  unfold f_X12_isAnswered
  refine s_aload_n (pc := 0) 0 dX12_isAnswered_0 rfl rfl ?_
  refine s_getR (pc := 1) (ci := 12) (k := 54) (r := 296) dX12_isAnswered_1 fl_12_142 kd_253 rfl rs_253_54 ?_
  refine s_iconst (pc := 4) (v := (1 : Int32)) dX12_isAnswered_4 (by decide) ?_
  refine s_iload_n (pc := 5) 2 dX12_isAnswered_5 rfl rfl ?_
  refine s_iadd (pc := 6) dX12_isAnswered_6 ?_
  refine s_letI (fun x1 => ?_)
  refine s_dup2 (pc := 7) dX12_isAnswered_7 rfl rfl ?_
  refine s_iald (pc := 8) dX12_isAnswered_8 kd_296 ?_
  refine s_aload_n (pc := 9) 0 dX12_isAnswered_9 rfl rfl ?_
  refine s_iload_n (pc := 10) 1 dX12_isAnswered_10 rfl rfl ?_
  refine s_iload_n (pc := 11) 2 dX12_isAnswered_11 rfl rfl ?_
  refine s_callVI (pc := 12) (as := [.int a1, .int a2]) (st := [.int (μ.1 296 x1.toNatClampNeg), .int x1, .ref 296]) dX12_isAnswered_12 lk_12_461 kd_253 (t_X12_timeOf N a1 a2 μ) (by omega) rfl (Nat.le_of_ble_eq_true rfl) rfl (fun x2 μ_1 => ?_)
  refine s_isub (pc := 15) dX12_isAnswered_15 ?_
  refine s_iast (pc := 16) dX12_isAnswered_16 kd_296 (fun μ_2 => ?_)
  refine s_aload_n (pc := 17) 0 dX12_isAnswered_17 rfl rfl ?_
  refine s_getR (pc := 18) (ci := 12) (k := 54) (r := 296) dX12_isAnswered_18 fl_12_142 kd_253 rfl rs_253_54 ?_
  refine s_bipush (pc := 21) (v := (8 : Int32)) dX12_isAnswered_21 (by decide) ?_
  refine s_iconst (pc := 23) (v := (3 : Int32)) dX12_isAnswered_23 (by decide) ?_
  refine s_iload_n (pc := 24) 1 dX12_isAnswered_24 rfl rfl ?_
  refine s_imul (pc := 25) dX12_isAnswered_25 ?_
  refine s_iadd (pc := 26) dX12_isAnswered_26 ?_
  refine s_iload_n (pc := 27) 2 dX12_isAnswered_27 rfl rfl ?_
  refine s_iconst (pc := 28) (v := (1 : Int32)) dX12_isAnswered_28 (by decide) ?_
  refine s_iadd (pc := 29) dX12_isAnswered_29 ?_
  refine s_iast (pc := 30) dX12_isAnswered_30 kd_296 (fun μ_3 => ?_)
  exact s_vret (pc := 31) dX12_isAnswered_31 rfl
def b_X12_isNextRow_L7 (N : Nat) (kb : Int32 → z_S → Option (Int32 × z_S)) (e39 : Int32 → z_S → Option (Int32 × z_S)) (v1 : Int32) (μ : z_S) : Option (Int32 × z_S) :=
  if v1 < 0 then (e39 v1 μ) else z_in v1 8 <| z_in v1 8 <| if (μ.1 298 v1.toNatClampNeg) = (μ.1 299 v1.toNatClampNeg) then (z_in v1 8 <| z_bd (z_setI μ 298 v1.toNatClampNeg (0 : Int32)) fun μ_2 => z_bd (v1 + (-1)) fun x3 => kb x3 μ_2) else e39 v1 μ
theorem tb_X12_isNextRow_L7 (N : Nat) (kb : Int32 → z_S → Option (Int32 × z_S)) (e39 : Int32 → z_S → Option (Int32 × z_S)) (hkb : ∀ (a1 : Int32) (μ : z_S), z_sim false rI mX12_isNextRow 1 (kb a1 μ) 7 [(0, .ref 253), (1, .int a1)] [] μ) (he39 : ∀ (a1 : Int32) (μ : z_S), z_sim false rI mX12_isNextRow 1 (e39 a1 μ) 39 [(0, .ref 253), (1, .int a1)] [] μ) (v1 : Int32) (μ : z_S) : z_sim false rI mX12_isNextRow 1 (b_X12_isNextRow_L7 N kb e39 v1 μ) 7 [(0, .ref 253), (1, .int v1)] [] μ := by
  unfold b_X12_isNextRow_L7
  refine s_iload_n (pc := 7) 1 dX12_isNextRow_7 rfl rfl ?_
  refine s_if_lt (pc := 8) (tgt := 39) dX12_isNextRow_8 (by decide) ?_ ?_
  · exact he39 v1 μ
  · refine s_aload_n (pc := 11) 0 dX12_isNextRow_11 rfl rfl ?_
    refine s_getR (pc := 12) (ci := 12) (k := 57) (r := 298) dX12_isNextRow_12 fl_12_148 kd_253 rfl rs_253_57 ?_
    refine s_iload_n (pc := 15) 1 dX12_isNextRow_15 rfl rfl ?_
    refine s_iald (pc := 16) dX12_isNextRow_16 kd_298 ?_
    refine s_aload_n (pc := 17) 0 dX12_isNextRow_17 rfl rfl ?_
    refine s_getR (pc := 18) (ci := 12) (k := 58) (r := 299) dX12_isNextRow_18 fl_12_151 kd_253 rfl rs_253_58 ?_
    refine s_iload_n (pc := 21) 1 dX12_isNextRow_21 rfl rfl ?_
    refine s_iald (pc := 22) dX12_isNextRow_22 kd_299 ?_
    refine s_icmp_ne (pc := 23) (tgt := 39) dX12_isNextRow_23 (by decide) ?_ ?_
    · refine s_aload_n (pc := 26) 0 dX12_isNextRow_26 rfl rfl ?_
      refine s_getR (pc := 27) (ci := 12) (k := 57) (r := 298) dX12_isNextRow_27 fl_12_148 kd_253 rfl rs_253_57 ?_
      refine s_iload_n (pc := 30) 1 dX12_isNextRow_30 rfl rfl ?_
      refine s_iconst (pc := 31) (v := (0 : Int32)) dX12_isNextRow_31 (by decide) ?_
      refine s_iast (pc := 32) dX12_isNextRow_32 kd_298 (fun μ_2 => ?_)
      refine s_iincB (pc := 33) (lv' := fun x3 => [(1, .int x3), (0, .ref 253)]) (c := -1) 1 dX12_isNextRow_33 rfl (by decide) (by decide) (fun _ => rfl) (fun x3 => ?_)
      refine s_goto (pc := 36) (tgt := 7) dX12_isNextRow_36 (by decide) ?_
      refine s_sub (lv' := [(0, .ref 253), (1, .int x3)]) [1, 0] rfl ?_
      exact hkb x3 μ_2
    · exact he39 v1 μ
def f_X12_isNextRow_L7 (N : Nat) (e39 : Int32 → z_S → Option (Int32 × z_S)) : Nat → Int32 → z_S → Option (Int32 × z_S)
  | 0, _, _ => none
  | n + 1, v1, μ => b_X12_isNextRow_L7 N (f_X12_isNextRow_L7 N e39 n) e39 v1 μ
theorem t_X12_isNextRow_L7 (N : Nat) (e39 : Int32 → z_S → Option (Int32 × z_S)) (he39 : ∀ (a1 : Int32) (μ : z_S), z_sim false rI mX12_isNextRow 1 (e39 a1 μ) 39 [(0, .ref 253), (1, .int a1)] [] μ) : ∀ (n : Nat) (v1 : Int32) (μ : z_S), z_sim false rI mX12_isNextRow 1 (f_X12_isNextRow_L7 N e39 n v1 μ) 7 [(0, .ref 253), (1, .int v1)] [] μ
  | 0, _, _ => s_none
  | n + 1, v1, μ => tb_X12_isNextRow_L7 N (f_X12_isNextRow_L7 N e39 n) e39 (t_X12_isNextRow_L7 N e39 he39 n) he39 v1 μ
def f_X12_isNextRow_B39 (N : Nat)  (v1 : Int32) (μ : z_S) : Option (Int32 × z_S) :=
  if v1 < 0 then (some ((0 : Int32), μ)) else z_in v1 8 <| z_in v1 8 <| z_bd (z_setI μ 298 v1.toNatClampNeg ((μ.1 298 v1.toNatClampNeg) + (1 : Int32))) fun μ_3 => some ((1 : Int32), μ_3)
theorem t_X12_isNextRow_B39 (N : Nat)     (v1 : Int32)  (μ : z_S) : z_sim false rI mX12_isNextRow 1 (f_X12_isNextRow_B39 N   v1 μ) 39 [(0, .ref 253), (1, .int v1)] [] μ := by
  unfold f_X12_isNextRow_B39
  refine s_iload_n (pc := 39) 1 dX12_isNextRow_39 rfl rfl ?_
  refine s_if_ge (pc := 40) (tgt := 45) dX12_isNextRow_40 (by decide) ?_ ?_
  · refine s_iconst (pc := 43) (v := (0 : Int32)) dX12_isNextRow_43 (by decide) ?_
    exact s_zret0 (pc := 44) dX12_isNextRow_44 rfl rfl
  · refine s_aload_n (pc := 45) 0 dX12_isNextRow_45 rfl rfl ?_
    refine s_getR (pc := 46) (ci := 12) (k := 57) (r := 298) dX12_isNextRow_46 fl_12_148 kd_253 rfl rs_253_57 ?_
    refine s_iload_n (pc := 49) 1 dX12_isNextRow_49 rfl rfl ?_
    refine s_dup2 (pc := 50) dX12_isNextRow_50 rfl rfl ?_
    refine s_iald (pc := 51) dX12_isNextRow_51 kd_298 ?_
    refine s_iconst (pc := 52) (v := (1 : Int32)) dX12_isNextRow_52 (by decide) ?_
    refine s_iadd (pc := 53) dX12_isNextRow_53 ?_
    refine s_iast (pc := 54) dX12_isNextRow_54 kd_298 (fun μ_3 => ?_)
    refine s_iconst (pc := 55) (v := (1 : Int32)) dX12_isNextRow_55 (by decide) ?_
    exact s_zret0 (pc := 56) dX12_isNextRow_56 rfl rfl
def f_X12_isNextRow (N : Nat) (μ : z_S) : Option (Int32 × z_S) :=
  z_bn (f_X12_letterMany N μ) fun x1 μ_1 => z_bd (x1 - (1 : Int32)) fun x2 => f_X12_isNextRow_L7 N (fun y39_1 μ39 => f_X12_isNextRow_B39 N y39_1 μ39) N x2 μ_1
theorem t_X12_isNextRow (N : Nat) (μ : z_S) : z_met false rI mX12_isNextRow 1 [.ref 253] μ (f_X12_isNextRow N μ) := by
  refine z_met.of (by decide +kernel) (by show _ ≤ _; first | decide | exact Nat.le_of_ble_eq_true rfl) (lv := [(0, .ref 253)]) rfl ?_
  unfold f_X12_isNextRow
  refine s_aload_n (pc := 0) 0 dX12_isNextRow_0 rfl rfl ?_
  refine s_callVI (pc := 1) (as := []) (st := []) dX12_isNextRow_1 lk_12_419 kd_253 (t_X12_letterMany N μ) (by omega) rfl (by decide) rfl (fun x1 μ_1 => ?_)
  refine s_iconst (pc := 4) (v := (1 : Int32)) dX12_isNextRow_4 (by decide) ?_
  refine s_isub (pc := 5) dX12_isNextRow_5 ?_
  refine s_letI (fun x2 => ?_)
  refine s_istore_n (pc := 6) (lv' := [(1, .int x2), (0, .ref 253)]) dX12_isNextRow_6 rfl (by decide) rfl ?_
  refine s_sub (lv' := [(0, .ref 253), (1, .int x2)]) [1, 0] rfl ?_
  refine t_X12_isNextRow_L7 N _ ?_ N x2 μ_1
  · intro y39_1 μ39
    exact t_X12_isNextRow_B39 N y39_1 μ39
def f_X12_answeredIn_B24 (N : Nat) (kb : Int32 → Int32 → z_S → Option (Int32 × z_S)) (v1 : Int32) (v2 : Int32) (μ : z_S) : Option (Int32 × z_S) :=
  z_bd (v2 + 1) fun x3 => kb v1 x3 μ
theorem t_X12_answeredIn_B24 (N : Nat)   (kb : Int32 → Int32 → z_S → Option (Int32 × z_S)) (hkb : ∀ (a1 : Int32) (a2 : Int32) (μ : z_S), z_sim false rI mX12_answeredIn 1 (kb a1 a2 μ) 4 [(0, .ref 253), (1, .int a1), (2, .int a2)] [] μ) (v1 : Int32) (v2 : Int32)  (μ : z_S) : z_sim false rI mX12_answeredIn 1 (f_X12_answeredIn_B24 N  kb v1 v2 μ) 24 [(0, .ref 253), (1, .int v1), (2, .int v2)] [] μ := by
  unfold f_X12_answeredIn_B24
  refine s_iincB (pc := 24) (lv' := fun x3 => [(2, .int x3), (0, .ref 253), (1, .int v1)]) (c := 1) 2 dX12_answeredIn_24 rfl (by decide) (by decide) (fun _ => rfl) (fun x3 => ?_)
  refine s_goto (pc := 27) (tgt := 4) dX12_answeredIn_27 (by decide) ?_
  refine s_sub (lv' := [(0, .ref 253), (1, .int v1), (2, .int x3)]) [1, 2, 0] rfl ?_
  exact hkb v1 x3 μ
def b_X12_answeredIn_L4 (N : Nat) (kb : Int32 → Int32 → z_S → Option (Int32 × z_S)) (v1 : Int32) (v2 : Int32) (μ : z_S) : Option (Int32 × z_S) :=
  z_bn (f_X12_letterMany N μ) fun x1 μ_1 => if v2 < x1 then (z_in v2 8 <| if 0 < (μ_1.1 298 v2.toNatClampNeg) then (z_bd (v1 + 1) fun x2 => f_X12_answeredIn_B24 N kb x2 v2 μ_1) else f_X12_answeredIn_B24 N kb v1 v2 μ_1) else some (v1, μ_1)
theorem tb_X12_answeredIn_L4 (N : Nat) (kb : Int32 → Int32 → z_S → Option (Int32 × z_S)) (hkb : ∀ (a1 : Int32) (a2 : Int32) (μ : z_S), z_sim false rI mX12_answeredIn 1 (kb a1 a2 μ) 4 [(0, .ref 253), (1, .int a1), (2, .int a2)] [] μ) (v1 : Int32) (v2 : Int32) (μ : z_S) : z_sim false rI mX12_answeredIn 1 (b_X12_answeredIn_L4 N kb v1 v2 μ) 4 [(0, .ref 253), (1, .int v1), (2, .int v2)] [] μ := by
  unfold b_X12_answeredIn_L4
  refine s_iload_n (pc := 4) 2 dX12_answeredIn_4 rfl rfl ?_
  refine s_aload_n (pc := 5) 0 dX12_answeredIn_5 rfl rfl ?_
  refine s_callVI (pc := 6) (as := []) (st := [.int v2]) dX12_answeredIn_6 lk_12_419 kd_253 (t_X12_letterMany N μ) (by omega) rfl (Nat.le_of_ble_eq_true rfl) rfl (fun x1 μ_1 => ?_)
  refine s_icmp_ge (pc := 9) (tgt := 30) dX12_answeredIn_9 (by decide) ?_ ?_
  · refine s_aload_n (pc := 12) 0 dX12_answeredIn_12 rfl rfl ?_
    refine s_getR (pc := 13) (ci := 12) (k := 57) (r := 298) dX12_answeredIn_13 fl_12_148 kd_253 rfl rs_253_57 ?_
    refine s_iload_n (pc := 16) 2 dX12_answeredIn_16 rfl rfl ?_
    refine s_iald (pc := 17) dX12_answeredIn_17 kd_298 ?_
    refine s_if_le (pc := 18) (tgt := 24) dX12_answeredIn_18 (by decide) ?_ ?_
    · refine s_iincB (pc := 21) (lv' := fun x2 => [(1, .int x2), (0, .ref 253), (2, .int v2)]) (c := 1) 1 dX12_answeredIn_21 rfl (by decide) (by decide) (fun _ => rfl) (fun x2 => ?_)
      refine s_sub (lv' := [(0, .ref 253), (1, .int x2), (2, .int v2)]) [1, 0, 2] rfl ?_
      exact t_X12_answeredIn_B24 N kb hkb x2 v2 μ_1
    · exact t_X12_answeredIn_B24 N kb hkb v1 v2 μ_1
  · refine s_iload_n (pc := 30) 1 dX12_answeredIn_30 rfl rfl ?_
    exact s_iret (pc := 31) rfl dX12_answeredIn_31 rfl
def f_X12_answeredIn_L4 (N : Nat) : Nat → Int32 → Int32 → z_S → Option (Int32 × z_S)
  | 0, _, _, _ => none
  | n + 1, v1, v2, μ => b_X12_answeredIn_L4 N (f_X12_answeredIn_L4 N n) v1 v2 μ
theorem t_X12_answeredIn_L4 (N : Nat) : ∀ (n : Nat) (v1 : Int32) (v2 : Int32) (μ : z_S), z_sim false rI mX12_answeredIn 1 (f_X12_answeredIn_L4 N n v1 v2 μ) 4 [(0, .ref 253), (1, .int v1), (2, .int v2)] [] μ
  | 0, _, _, _ => s_none
  | n + 1, v1, v2, μ => tb_X12_answeredIn_L4 N (f_X12_answeredIn_L4 N n) (t_X12_answeredIn_L4 N n) v1 v2 μ
def f_X12_answeredIn (N : Nat) (μ : z_S) : Option (Int32 × z_S) :=
  f_X12_answeredIn_L4 N N (0 : Int32) (0 : Int32) μ
theorem t_X12_answeredIn (N : Nat) (μ : z_S) : z_met false rI mX12_answeredIn 1 [.ref 253] μ (f_X12_answeredIn N μ) := by
  refine z_met.of (by decide +kernel) (by show _ ≤ _; first | decide | exact Nat.le_of_ble_eq_true rfl) (lv := [(0, .ref 253)]) rfl ?_
  unfold f_X12_answeredIn
  refine s_iconst (pc := 0) (v := (0 : Int32)) dX12_answeredIn_0 (by decide) ?_
  refine s_istore_n (pc := 1) (lv' := [(1, .int (0 : Int32)), (0, .ref 253)]) dX12_answeredIn_1 rfl (by decide) rfl ?_
  refine s_iconst (pc := 2) (v := (0 : Int32)) dX12_answeredIn_2 (by decide) ?_
  refine s_istore_n (pc := 3) (lv' := [(2, .int (0 : Int32)), (1, .int (0 : Int32)), (0, .ref 253)]) dX12_answeredIn_3 rfl (by decide) rfl ?_
  refine s_sub (lv' := [(0, .ref 253), (1, .int (0 : Int32)), (2, .int (0 : Int32))]) [2, 1, 0] rfl ?_
  refine t_X12_answeredIn_L4 N N (0 : Int32) (0 : Int32) μ
def b_X12_canRow_L2 (N : Nat) (kb : Int32 → z_S → Option (Int32 × z_S)) (e27 : z_S → Option (Int32 × z_S)) (v1 : Int32) (μ : z_S) : Option (Int32 × z_S) :=
  z_bn (f_X12_helperMany N μ) fun x1 μ_1 => if v1 < x1 then (z_bn (f_X12_leftOf N v1 μ_1) fun x2 μ_2 => z_in v1 3 <| z_bd (z_setI μ_2 303 v1.toNatClampNeg x2) fun μ_3 => z_bd (v1 + 1) fun x3 => kb x3 μ_3) else e27 μ_1
theorem tb_X12_canRow_L2 (N : Nat) (kb : Int32 → z_S → Option (Int32 × z_S)) (e27 : z_S → Option (Int32 × z_S)) (hkb : ∀ (a1 : Int32) (μ : z_S), z_sim false rI mX12_canRow 1 (kb a1 μ) 2 [(0, .ref 253), (1, .int a1)] [] μ) (he27 : ∀ (μ : z_S), z_sim false rI mX12_canRow 1 (e27 μ) 27 [(0, .ref 253)] [] μ) (v1 : Int32) (μ : z_S) : z_sim false rI mX12_canRow 1 (b_X12_canRow_L2 N kb e27 v1 μ) 2 [(0, .ref 253), (1, .int v1)] [] μ := by
  unfold b_X12_canRow_L2
  refine s_iload_n (pc := 2) 1 dX12_canRow_2 rfl rfl ?_
  refine s_aload_n (pc := 3) 0 dX12_canRow_3 rfl rfl ?_
  refine s_callVI (pc := 4) (as := []) (st := [.int v1]) dX12_canRow_4 lk_12_422 kd_253 (t_X12_helperMany N μ) (by omega) rfl (Nat.le_of_ble_eq_true rfl) rfl (fun x1 μ_1 => ?_)
  refine s_icmp_ge (pc := 7) (tgt := 27) dX12_canRow_7 (by decide) ?_ ?_
  · refine s_aload_n (pc := 10) 0 dX12_canRow_10 rfl rfl ?_
    refine s_getR (pc := 11) (ci := 12) (k := 62) (r := 303) dX12_canRow_11 fl_12_163 kd_253 rfl rs_253_62 ?_
    refine s_iload_n (pc := 14) 1 dX12_canRow_14 rfl rfl ?_
    refine s_aload_n (pc := 15) 0 dX12_canRow_15 rfl rfl ?_
    refine s_iload_n (pc := 16) 1 dX12_canRow_16 rfl rfl ?_
    refine s_callVI (pc := 17) (as := [.int v1]) (st := [.int v1, .ref 303]) dX12_canRow_17 lk_12_458 kd_253 (t_X12_leftOf N v1 μ_1) (by omega) rfl (Nat.le_of_ble_eq_true rfl) rfl (fun x2 μ_2 => ?_)
    refine s_iast (pc := 20) dX12_canRow_20 kd_303 (fun μ_3 => ?_)
    refine s_iincB (pc := 21) (lv' := fun x3 => [(1, .int x3), (0, .ref 253)]) (c := 1) 1 dX12_canRow_21 rfl (by decide) (by decide) (fun _ => rfl) (fun x3 => ?_)
    refine s_goto (pc := 24) (tgt := 2) dX12_canRow_24 (by decide) ?_
    refine s_sub (lv' := [(0, .ref 253), (1, .int x3)]) [1, 0] rfl ?_
    exact hkb x3 μ_3
  · refine s_sub (lv' := [(0, .ref 253)]) [0] rfl ?_
    exact he27 μ_1
def f_X12_canRow_L2 (N : Nat) (e27 : z_S → Option (Int32 × z_S)) : Nat → Int32 → z_S → Option (Int32 × z_S)
  | 0, _, _ => none
  | n + 1, v1, μ => b_X12_canRow_L2 N (f_X12_canRow_L2 N e27 n) e27 v1 μ
theorem t_X12_canRow_L2 (N : Nat) (e27 : z_S → Option (Int32 × z_S)) (he27 : ∀ (μ : z_S), z_sim false rI mX12_canRow 1 (e27 μ) 27 [(0, .ref 253)] [] μ) : ∀ (n : Nat) (v1 : Int32) (μ : z_S), z_sim false rI mX12_canRow 1 (f_X12_canRow_L2 N e27 n v1 μ) 2 [(0, .ref 253), (1, .int v1)] [] μ
  | 0, _, _ => s_none
  | n + 1, v1, μ => tb_X12_canRow_L2 N (f_X12_canRow_L2 N e27 n) e27 (t_X12_canRow_L2 N e27 he27 n) he27 v1 μ
def f_X12_canRow_B97 (N : Nat) (kb : Int32 → z_S → Option (Int32 × z_S)) (v1 : Int32) (μ : z_S) : Option (Int32 × z_S) :=
  z_bd (v1 + 1) fun x5 => kb x5 μ
theorem t_X12_canRow_B97 (N : Nat)   (kb : Int32 → z_S → Option (Int32 × z_S)) (hkb : ∀ (a1 : Int32) (μ : z_S), z_sim false rI mX12_canRow 1 (kb a1 μ) 29 [(0, .ref 253), (1, .int a1)] [] μ) (v1 : Int32)  (μ : z_S) : z_sim false rI mX12_canRow 1 (f_X12_canRow_B97 N  kb v1 μ) 97 [(0, .ref 253), (1, .int v1)] [] μ := by
  unfold f_X12_canRow_B97
  refine s_iincB (pc := 97) (lv' := fun x5 => [(1, .int x5), (0, .ref 253)]) (c := 1) 1 dX12_canRow_97 rfl (by decide) (by decide) (fun _ => rfl) (fun x5 => ?_)
  refine s_goto (pc := 100) (tgt := 29) dX12_canRow_100 (by decide) ?_
  refine s_sub (lv' := [(0, .ref 253), (1, .int x5)]) [1, 0] rfl ?_
  exact hkb x5 μ
def b_X12_canRow_L29 (N : Nat) (kb : Int32 → z_S → Option (Int32 × z_S)) (v1 : Int32) (μ : z_S) : Option (Int32 × z_S) :=
  z_bn (f_X12_letterMany N μ) fun x4 μ_4 => if v1 < x4 then (z_in v1 8 <| if (μ_4.1 298 v1.toNatClampNeg) = 0 then (f_X12_canRow_B97 N kb v1 μ_4) else z_in v1 8 <| z_bd ((μ_4.1 298 v1.toNatClampNeg) - (1 : Int32)) fun x6 => z_in x6 3 <| z_in (((3 : Int32) * v1) + x6) 24 <| z_in x6 3 <| z_bd (z_setI μ_4 303 x6.toNatClampNeg ((μ_4.1 303 x6.toNatClampNeg) - (μ_4.1 301 (((3 : Int32) * v1) + x6).toNatClampNeg))) fun μ_5 => z_in x6 3 <| if (μ_5.1 303 x6.toNatClampNeg) < 0 then (some ((0 : Int32), μ_5)) else z_bn (f_X12_doesBear N v1 x6 μ_5) fun x7 μ_6 => if x7 = 0 then (some ((0 : Int32), μ_6)) else f_X12_canRow_B97 N kb v1 μ_6) else some ((1 : Int32), μ_4)
theorem tb_X12_canRow_L29 (N : Nat) (kb : Int32 → z_S → Option (Int32 × z_S)) (hkb : ∀ (a1 : Int32) (μ : z_S), z_sim false rI mX12_canRow 1 (kb a1 μ) 29 [(0, .ref 253), (1, .int a1)] [] μ) (v1 : Int32) (μ : z_S) : z_sim false rI mX12_canRow 1 (b_X12_canRow_L29 N kb v1 μ) 29 [(0, .ref 253), (1, .int v1)] [] μ := by
  unfold b_X12_canRow_L29
  refine s_iload_n (pc := 29) 1 dX12_canRow_29 rfl rfl ?_
  refine s_aload_n (pc := 30) 0 dX12_canRow_30 rfl rfl ?_
  refine s_callVI (pc := 31) (as := []) (st := [.int v1]) dX12_canRow_31 lk_12_419 kd_253 (t_X12_letterMany N μ) (by omega) rfl (Nat.le_of_ble_eq_true rfl) rfl (fun x4 μ_4 => ?_)
  refine s_icmp_ge (pc := 34) (tgt := 103) dX12_canRow_34 (by decide) ?_ ?_
  · refine s_aload_n (pc := 37) 0 dX12_canRow_37 rfl rfl ?_
    refine s_getR (pc := 38) (ci := 12) (k := 57) (r := 298) dX12_canRow_38 fl_12_148 kd_253 rfl rs_253_57 ?_
    refine s_iload_n (pc := 41) 1 dX12_canRow_41 rfl rfl ?_
    refine s_iald (pc := 42) dX12_canRow_42 kd_298 ?_
    refine s_if_ne (pc := 43) (tgt := 49) dX12_canRow_43 (by decide) ?_ ?_
    · refine s_goto (pc := 46) (tgt := 97) dX12_canRow_46 (by decide) ?_
      exact t_X12_canRow_B97 N kb hkb v1 μ_4
    · refine s_aload_n (pc := 49) 0 dX12_canRow_49 rfl rfl ?_
      refine s_getR (pc := 50) (ci := 12) (k := 57) (r := 298) dX12_canRow_50 fl_12_148 kd_253 rfl rs_253_57 ?_
      refine s_iload_n (pc := 53) 1 dX12_canRow_53 rfl rfl ?_
      refine s_iald (pc := 54) dX12_canRow_54 kd_298 ?_
      refine s_iconst (pc := 55) (v := (1 : Int32)) dX12_canRow_55 (by decide) ?_
      refine s_isub (pc := 56) dX12_canRow_56 ?_
      refine s_letI (fun x6 => ?_)
      refine s_istore_n (pc := 57) (lv' := [(2, .int x6), (0, .ref 253), (1, .int v1)]) dX12_canRow_57 rfl (by decide) rfl ?_
      refine s_aload_n (pc := 58) 1 dX12_canRow_58 rfl rfl ?_
      refine s_getR (pc := 59) (ci := 12) (k := 62) (r := 303) dX12_canRow_59 fl_12_163 kd_253 rfl rs_253_62 ?_
      refine s_iload_n (pc := 62) 0 dX12_canRow_62 rfl rfl ?_
      refine s_dup2 (pc := 63) dX12_canRow_63 rfl rfl ?_
      refine s_iald (pc := 64) dX12_canRow_64 kd_303 ?_
      refine s_aload_n (pc := 65) 1 dX12_canRow_65 rfl rfl ?_
      refine s_getR (pc := 66) (ci := 12) (k := 60) (r := 301) dX12_canRow_66 fl_12_157 kd_253 rfl rs_253_60 ?_
      refine s_iconst (pc := 69) (v := (3 : Int32)) dX12_canRow_69 (by decide) ?_
      refine s_iload_n (pc := 70) 2 dX12_canRow_70 rfl rfl ?_
      refine s_imul (pc := 71) dX12_canRow_71 ?_
      refine s_iload_n (pc := 72) 0 dX12_canRow_72 rfl rfl ?_
      refine s_iadd (pc := 73) dX12_canRow_73 ?_
      refine s_iald (pc := 74) dX12_canRow_74 kd_301 ?_
      refine s_isub (pc := 75) dX12_canRow_75 ?_
      refine s_iast (pc := 76) dX12_canRow_76 kd_303 (fun μ_5 => ?_)
      refine s_aload_n (pc := 77) 1 dX12_canRow_77 rfl rfl ?_
      refine s_getR (pc := 78) (ci := 12) (k := 62) (r := 303) dX12_canRow_78 fl_12_163 kd_253 rfl rs_253_62 ?_
      refine s_iload_n (pc := 81) 0 dX12_canRow_81 rfl rfl ?_
      refine s_iald (pc := 82) dX12_canRow_82 kd_303 ?_
      refine s_if_lt (pc := 83) (tgt := 95) dX12_canRow_83 (by decide) ?_ ?_
      · refine s_iconst (pc := 95) (v := (0 : Int32)) dX12_canRow_95 (by decide) ?_
        exact s_zret0 (pc := 96) dX12_canRow_96 rfl rfl
      · refine s_aload_n (pc := 86) 1 dX12_canRow_86 rfl rfl ?_
        refine s_iload_n (pc := 87) 2 dX12_canRow_87 rfl rfl ?_
        refine s_iload_n (pc := 88) 0 dX12_canRow_88 rfl rfl ?_
        refine s_callVI (pc := 89) (as := [.int v1, .int x6]) (st := []) dX12_canRow_89 lk_12_454 kd_253 (t_X12_doesBear N v1 x6 μ_5) (by omega) rfl (by decide) rfl (fun x7 μ_6 => ?_)
        refine s_if_ne (pc := 92) (tgt := 97) dX12_canRow_92 (by decide) ?_ ?_
        · refine s_iconst (pc := 95) (v := (0 : Int32)) dX12_canRow_95 (by decide) ?_
          exact s_zret0 (pc := 96) dX12_canRow_96 rfl rfl
        · refine s_sub (lv' := [(0, .ref 253), (1, .int v1)]) [1, 2] rfl ?_
          exact t_X12_canRow_B97 N kb hkb v1 μ_6
  · refine s_iconst (pc := 103) (v := (1 : Int32)) dX12_canRow_103 (by decide) ?_
    exact s_zret0 (pc := 104) dX12_canRow_104 rfl rfl
def f_X12_canRow_L29 (N : Nat) : Nat → Int32 → z_S → Option (Int32 × z_S)
  | 0, _, _ => none
  | n + 1, v1, μ => b_X12_canRow_L29 N (f_X12_canRow_L29 N n) v1 μ
theorem t_X12_canRow_L29 (N : Nat) : ∀ (n : Nat) (v1 : Int32) (μ : z_S), z_sim false rI mX12_canRow 1 (f_X12_canRow_L29 N n v1 μ) 29 [(0, .ref 253), (1, .int v1)] [] μ
  | 0, _, _ => s_none
  | n + 1, v1, μ => tb_X12_canRow_L29 N (f_X12_canRow_L29 N n) (t_X12_canRow_L29 N n) v1 μ
def f_X12_canRow (N : Nat) (μ : z_S) : Option (Int32 × z_S) :=
  f_X12_canRow_L2 N (fun μ27 => f_X12_canRow_L29 N N (0 : Int32) μ27) N (0 : Int32) μ
theorem t_X12_canRow (N : Nat) (μ : z_S) : z_met false rI mX12_canRow 1 [.ref 253] μ (f_X12_canRow N μ) := by
  refine z_met.of (by decide +kernel) (by show _ ≤ _; first | decide | exact Nat.le_of_ble_eq_true rfl) (lv := [(0, .ref 253)]) rfl ?_
  unfold f_X12_canRow
  refine s_iconst (pc := 0) (v := (0 : Int32)) dX12_canRow_0 (by decide) ?_
  refine s_istore_n (pc := 1) (lv' := [(1, .int (0 : Int32)), (0, .ref 253)]) dX12_canRow_1 rfl (by decide) rfl ?_
  refine s_sub (lv' := [(0, .ref 253), (1, .int (0 : Int32))]) [1, 0] rfl ?_
  refine t_X12_canRow_L2 N _ ?_ N (0 : Int32) μ
  · intro μ27
    refine s_iconst (pc := 27) (v := (0 : Int32)) dX12_canRow_27 (by decide) ?_
    refine s_istore_n (pc := 28) (lv' := [(1, .int (0 : Int32)), (0, .ref 253)]) dX12_canRow_28 rfl (by decide) rfl ?_
    refine s_sub (lv' := [(0, .ref 253), (1, .int (0 : Int32))]) [1, 0] rfl ?_
    refine t_X12_canRow_L29 N N (0 : Int32) μ27
def b_X12_laysTimes_L12 (N : Nat) (c1 : Int32) (kb : Int32 → z_S → Option (Unit × z_S)) (e58 : z_S → Option (Unit × z_S)) (v2 : Int32) (μ : z_S) : Option (Unit × z_S) :=
  z_bn (f_X12_helperMany N μ) fun x2 μ_2 => if v2 < x2 then (z_bn (f_X12_timeOf N c1 v2 μ_2) fun x3 μ_3 => z_in (((3 : Int32) * c1) + v2) 24 <| z_bd (z_setI μ_3 301 (((3 : Int32) * c1) + v2).toNatClampNeg x3) fun μ_4 => z_bn (f_X12_warmOf N c1 v2 μ_4) fun x4 μ_5 => z_in (((3 : Int32) * c1) + v2) 24 <| z_bd (z_setJ μ_5 302 (((3 : Int32) * c1) + v2).toNatClampNeg x4) fun μ_6 => z_bd (v2 + 1) fun x5 => kb x5 μ_6) else e58 μ_2
theorem tb_X12_laysTimes_L12 (N : Nat) (c1 : Int32) (kb : Int32 → z_S → Option (Unit × z_S)) (e58 : z_S → Option (Unit × z_S)) (hkb : ∀ (a2 : Int32) (μ : z_S), z_sim false rV mX12_laysTimes 5 (kb a2 μ) 12 [(0, .ref 253), (1, .int c1), (2, .int a2)] [] μ) (he58 : ∀ (μ : z_S), z_sim false rV mX12_laysTimes 5 (e58 μ) 58 [(0, .ref 253), (1, .int c1)] [] μ) (v2 : Int32) (μ : z_S) : z_sim false rV mX12_laysTimes 5 (b_X12_laysTimes_L12 N c1 kb e58 v2 μ) 12 [(0, .ref 253), (1, .int c1), (2, .int v2)] [] μ := by
  unfold b_X12_laysTimes_L12
  refine s_iload_n (pc := 12) 2 dX12_laysTimes_12 rfl rfl ?_
  refine s_aload_n (pc := 13) 0 dX12_laysTimes_13 rfl rfl ?_
  refine s_callVI (pc := 14) (as := []) (st := [.int v2]) dX12_laysTimes_14 lk_12_422 kd_253 (t_X12_helperMany N μ) (by omega) rfl (Nat.le_of_ble_eq_true rfl) rfl (fun x2 μ_2 => ?_)
  refine s_icmp_ge (pc := 17) (tgt := 58) dX12_laysTimes_17 (by decide) ?_ ?_
  · refine s_aload_n (pc := 20) 0 dX12_laysTimes_20 rfl rfl ?_
    refine s_getR (pc := 21) (ci := 12) (k := 60) (r := 301) dX12_laysTimes_21 fl_12_157 kd_253 rfl rs_253_60 ?_
    refine s_iconst (pc := 24) (v := (3 : Int32)) dX12_laysTimes_24 (by decide) ?_
    refine s_iload_n (pc := 25) 1 dX12_laysTimes_25 rfl rfl ?_
    refine s_imul (pc := 26) dX12_laysTimes_26 ?_
    refine s_iload_n (pc := 27) 2 dX12_laysTimes_27 rfl rfl ?_
    refine s_iadd (pc := 28) dX12_laysTimes_28 ?_
    refine s_aload_n (pc := 29) 0 dX12_laysTimes_29 rfl rfl ?_
    refine s_iload_n (pc := 30) 1 dX12_laysTimes_30 rfl rfl ?_
    refine s_iload_n (pc := 31) 2 dX12_laysTimes_31 rfl rfl ?_
    refine s_callVI (pc := 32) (as := [.int c1, .int v2]) (st := [.int (((3 : Int32) * c1) + v2), .ref 301]) dX12_laysTimes_32 lk_12_461 kd_253 (t_X12_timeOf N c1 v2 μ_2) (by omega) rfl (Nat.le_of_ble_eq_true rfl) rfl (fun x3 μ_3 => ?_)
    refine s_iast (pc := 35) dX12_laysTimes_35 kd_301 (fun μ_4 => ?_)
    refine s_aload_n (pc := 36) 0 dX12_laysTimes_36 rfl rfl ?_
    refine s_getR (pc := 37) (ci := 12) (k := 61) (r := 302) dX12_laysTimes_37 fl_12_160 kd_253 rfl rs_253_61 ?_
    refine s_iconst (pc := 40) (v := (3 : Int32)) dX12_laysTimes_40 (by decide) ?_
    refine s_iload_n (pc := 41) 1 dX12_laysTimes_41 rfl rfl ?_
    refine s_imul (pc := 42) dX12_laysTimes_42 ?_
    refine s_iload_n (pc := 43) 2 dX12_laysTimes_43 rfl rfl ?_
    refine s_iadd (pc := 44) dX12_laysTimes_44 ?_
    refine s_aload_n (pc := 45) 0 dX12_laysTimes_45 rfl rfl ?_
    refine s_iload_n (pc := 46) 1 dX12_laysTimes_46 rfl rfl ?_
    refine s_iload_n (pc := 47) 2 dX12_laysTimes_47 rfl rfl ?_
    refine s_callVJ (pc := 48) (as := [.int c1, .int v2]) (st := [.int (((3 : Int32) * c1) + v2), .ref 302]) dX12_laysTimes_48 lk_12_464 kd_253 (t_X12_warmOf N c1 v2 μ_4) (by omega) rfl (Nat.le_of_ble_eq_true rfl) rfl (fun x4 μ_5 => ?_)
    refine s_last (pc := 51) dX12_laysTimes_51 kd_302 (fun μ_6 => ?_)
    refine s_iincB (pc := 52) (lv' := fun x5 => [(2, .int x5), (0, .ref 253), (1, .int c1)]) (c := 1) 2 dX12_laysTimes_52 rfl (by decide) (by decide) (fun _ => rfl) (fun x5 => ?_)
    refine s_goto (pc := 55) (tgt := 12) dX12_laysTimes_55 (by decide) ?_
    refine s_sub (lv' := [(0, .ref 253), (1, .int c1), (2, .int x5)]) [1, 2, 0] rfl ?_
    exact hkb x5 μ_6
  · refine s_sub (lv' := [(0, .ref 253), (1, .int c1)]) [0, 1] rfl ?_
    exact he58 μ_2
def f_X12_laysTimes_L12 (N : Nat) (c1 : Int32) (e58 : z_S → Option (Unit × z_S)) : Nat → Int32 → z_S → Option (Unit × z_S)
  | 0, _, _ => none
  | n + 1, v2, μ => b_X12_laysTimes_L12 N c1 (f_X12_laysTimes_L12 N c1 e58 n) e58 v2 μ
theorem t_X12_laysTimes_L12 (N : Nat) (c1 : Int32) (e58 : z_S → Option (Unit × z_S)) (he58 : ∀ (μ : z_S), z_sim false rV mX12_laysTimes 5 (e58 μ) 58 [(0, .ref 253), (1, .int c1)] [] μ) : ∀ (n : Nat) (v2 : Int32) (μ : z_S), z_sim false rV mX12_laysTimes 5 (f_X12_laysTimes_L12 N c1 e58 n v2 μ) 12 [(0, .ref 253), (1, .int c1), (2, .int v2)] [] μ
  | 0, _, _ => s_none
  | n + 1, v2, μ => tb_X12_laysTimes_L12 N c1 (f_X12_laysTimes_L12 N c1 e58 n) e58 (t_X12_laysTimes_L12 N c1 e58 he58 n) he58 v2 μ
def b_X12_laysTimes_L2 (N : Nat) (kb : Int32 → z_S → Option (Unit × z_S)) (v1 : Int32) (μ : z_S) : Option (Unit × z_S) :=
  z_bn (f_X12_letterMany N μ) fun x1 μ_1 => if v1 < x1 then (f_X12_laysTimes_L12 N v1 (fun μ58 => z_bd (v1 + 1) fun x6 => kb x6 μ58) N (0 : Int32) μ_1) else some ((), μ_1)
theorem tb_X12_laysTimes_L2 (N : Nat) (kb : Int32 → z_S → Option (Unit × z_S)) (hkb : ∀ (a1 : Int32) (μ : z_S), z_sim false rV mX12_laysTimes 5 (kb a1 μ) 2 [(0, .ref 253), (1, .int a1)] [] μ) (v1 : Int32) (μ : z_S) : z_sim false rV mX12_laysTimes 5 (b_X12_laysTimes_L2 N kb v1 μ) 2 [(0, .ref 253), (1, .int v1)] [] μ := by
  unfold b_X12_laysTimes_L2
  refine s_iload_n (pc := 2) 1 dX12_laysTimes_2 rfl rfl ?_
  refine s_aload_n (pc := 3) 0 dX12_laysTimes_3 rfl rfl ?_
  refine s_callVI (pc := 4) (as := []) (st := [.int v1]) dX12_laysTimes_4 lk_12_419 kd_253 (t_X12_letterMany N μ) (by omega) rfl (Nat.le_of_ble_eq_true rfl) rfl (fun x1 μ_1 => ?_)
  refine s_icmp_ge (pc := 7) (tgt := 64) dX12_laysTimes_7 (by decide) ?_ ?_
  · refine s_iconst (pc := 10) (v := (0 : Int32)) dX12_laysTimes_10 (by decide) ?_
    refine s_istore_n (pc := 11) (lv' := [(2, .int (0 : Int32)), (0, .ref 253), (1, .int v1)]) dX12_laysTimes_11 rfl (by decide) rfl ?_
    refine s_sub (lv' := [(0, .ref 253), (1, .int v1), (2, .int (0 : Int32))]) [1, 2, 0] rfl ?_
    refine t_X12_laysTimes_L12 N v1 _ ?_ N (0 : Int32) μ_1
    · intro μ58
      refine s_iincB (pc := 58) (lv' := fun x6 => [(1, .int x6), (0, .ref 253)]) (c := 1) 1 dX12_laysTimes_58 rfl (by decide) (by decide) (fun _ => rfl) (fun x6 => ?_)
      refine s_goto (pc := 61) (tgt := 2) dX12_laysTimes_61 (by decide) ?_
      refine s_sub (lv' := [(0, .ref 253), (1, .int x6)]) [1, 0] rfl ?_
      exact hkb x6 μ58
  · exact s_vret (pc := 64) dX12_laysTimes_64 rfl
def f_X12_laysTimes_L2 (N : Nat) : Nat → Int32 → z_S → Option (Unit × z_S)
  | 0, _, _ => none
  | n + 1, v1, μ => b_X12_laysTimes_L2 N (f_X12_laysTimes_L2 N n) v1 μ
theorem t_X12_laysTimes_L2 (N : Nat) : ∀ (n : Nat) (v1 : Int32) (μ : z_S), z_sim false rV mX12_laysTimes 5 (f_X12_laysTimes_L2 N n v1 μ) 2 [(0, .ref 253), (1, .int v1)] [] μ
  | 0, _, _ => s_none
  | n + 1, v1, μ => tb_X12_laysTimes_L2 N (f_X12_laysTimes_L2 N n) (t_X12_laysTimes_L2 N n) v1 μ
def f_X12_laysTimes (N : Nat) (μ : z_S) : Option (Unit × z_S) :=
  f_X12_laysTimes_L2 N N (0 : Int32) μ
theorem t_X12_laysTimes (N : Nat) (μ : z_S) : z_met false rV mX12_laysTimes 5 [.ref 253] μ (f_X12_laysTimes N μ) := by
  refine z_met.of (by decide +kernel) (by show _ ≤ _; first | decide | exact Nat.le_of_ble_eq_true rfl) (lv := [(0, .ref 253)]) rfl ?_
  unfold f_X12_laysTimes
  refine s_iconst (pc := 0) (v := (0 : Int32)) dX12_laysTimes_0 (by decide) ?_
  refine s_istore_n (pc := 1) (lv' := [(1, .int (0 : Int32)), (0, .ref 253)]) dX12_laysTimes_1 rfl (by decide) rfl ?_
  refine s_sub (lv' := [(0, .ref 253), (1, .int (0 : Int32))]) [1, 0] rfl ?_
  refine t_X12_laysTimes_L2 N N (0 : Int32) μ
def f_X12_warmIn_B41 (N : Nat) (kb : Int64 → Int32 → z_S → Option (Int64 × z_S)) (v1 : Int64) (v3 : Int32) (μ : z_S) : Option (Int64 × z_S) :=
  z_bd (v3 + 1) fun x3 => kb v1 x3 μ
theorem t_X12_warmIn_B41 (N : Nat)   (kb : Int64 → Int32 → z_S → Option (Int64 × z_S)) (hkb : ∀ (a1 : Int64) (a3 : Int32) (μ : z_S), z_sim false rJ mX12_warmIn 1 (kb a1 a3 μ) 4 [(0, .ref 253), (1, .long a1), (3, .int a3)] [] μ) (v1 : Int64) (v3 : Int32)  (μ : z_S) : z_sim false rJ mX12_warmIn 1 (f_X12_warmIn_B41 N  kb v1 v3 μ) 41 [(0, .ref 253), (1, .long v1), (3, .int v3)] [] μ := by
  unfold f_X12_warmIn_B41
  refine s_iincB (pc := 41) (lv' := fun x3 => [(3, .int x3), (0, .ref 253), (1, .long v1)]) (c := 1) 2 dX12_warmIn_41 rfl (by decide) (by decide) (fun _ => rfl) (fun x3 => ?_)
  refine s_goto (pc := 44) (tgt := 4) dX12_warmIn_44 (by decide) ?_
  refine s_sub (lv' := [(0, .ref 253), (1, .long v1), (3, .int x3)]) [1, 2, 0] rfl ?_
  exact hkb v1 x3 μ
def b_X12_warmIn_L4 (N : Nat) (kb : Int64 → Int32 → z_S → Option (Int64 × z_S)) (v1 : Int64) (v3 : Int32) (μ : z_S) : Option (Int64 × z_S) :=
  z_bn (f_X12_letterMany N μ) fun x1 μ_1 => if v3 < x1 then (z_in v3 8 <| if 0 < (μ_1.1 298 v3.toNatClampNeg) then (z_in v3 8 <| z_in ((((3 : Int32) * v3) + (μ_1.1 298 v3.toNatClampNeg)) - (1 : Int32)) 24 <| z_bd (v1 + (μ_1.2.1 302 ((((3 : Int32) * v3) + (μ_1.1 298 v3.toNatClampNeg)) - (1 : Int32)).toNatClampNeg)) fun x2 => f_X12_warmIn_B41 N kb x2 v3 μ_1) else f_X12_warmIn_B41 N kb v1 v3 μ_1) else some (v1, μ_1)
theorem tb_X12_warmIn_L4 (N : Nat) (kb : Int64 → Int32 → z_S → Option (Int64 × z_S)) (hkb : ∀ (a1 : Int64) (a3 : Int32) (μ : z_S), z_sim false rJ mX12_warmIn 1 (kb a1 a3 μ) 4 [(0, .ref 253), (1, .long a1), (3, .int a3)] [] μ) (v1 : Int64) (v3 : Int32) (μ : z_S) : z_sim false rJ mX12_warmIn 1 (b_X12_warmIn_L4 N kb v1 v3 μ) 4 [(0, .ref 253), (1, .long v1), (3, .int v3)] [] μ := by
  unfold b_X12_warmIn_L4
  refine s_iload_n (pc := 4) 2 dX12_warmIn_4 rfl rfl ?_
  refine s_aload_n (pc := 5) 0 dX12_warmIn_5 rfl rfl ?_
  refine s_callVI (pc := 6) (as := []) (st := [.int v3]) dX12_warmIn_6 lk_12_419 kd_253 (t_X12_letterMany N μ) (by omega) rfl (Nat.le_of_ble_eq_true rfl) rfl (fun x1 μ_1 => ?_)
  refine s_icmp_ge (pc := 9) (tgt := 47) dX12_warmIn_9 (by decide) ?_ ?_
  · refine s_aload_n (pc := 12) 0 dX12_warmIn_12 rfl rfl ?_
    refine s_getR (pc := 13) (ci := 12) (k := 57) (r := 298) dX12_warmIn_13 fl_12_148 kd_253 rfl rs_253_57 ?_
    refine s_iload_n (pc := 16) 2 dX12_warmIn_16 rfl rfl ?_
    refine s_iald (pc := 17) dX12_warmIn_17 kd_298 ?_
    refine s_if_le (pc := 18) (tgt := 41) dX12_warmIn_18 (by decide) ?_ ?_
    · refine s_lload_n (pc := 21) 1 dX12_warmIn_21 rfl rfl ?_
      refine s_aload_n (pc := 22) 0 dX12_warmIn_22 rfl rfl ?_
      refine s_getR (pc := 23) (ci := 12) (k := 61) (r := 302) dX12_warmIn_23 fl_12_160 kd_253 rfl rs_253_61 ?_
      refine s_iconst (pc := 26) (v := (3 : Int32)) dX12_warmIn_26 (by decide) ?_
      refine s_iload_n (pc := 27) 2 dX12_warmIn_27 rfl rfl ?_
      refine s_imul (pc := 28) dX12_warmIn_28 ?_
      refine s_aload_n (pc := 29) 0 dX12_warmIn_29 rfl rfl ?_
      refine s_getR (pc := 30) (ci := 12) (k := 57) (r := 298) dX12_warmIn_30 fl_12_148 kd_253 rfl rs_253_57 ?_
      refine s_iload_n (pc := 33) 2 dX12_warmIn_33 rfl rfl ?_
      refine s_iald (pc := 34) dX12_warmIn_34 kd_298 ?_
      refine s_iadd (pc := 35) dX12_warmIn_35 ?_
      refine s_iconst (pc := 36) (v := (1 : Int32)) dX12_warmIn_36 (by decide) ?_
      refine s_isub (pc := 37) dX12_warmIn_37 ?_
      refine s_lald (pc := 38) dX12_warmIn_38 kd_302 ?_
      refine s_ladd (pc := 39) dX12_warmIn_39 ?_
      refine s_letJ (fun x2 => ?_)
      refine s_lstore_n (pc := 40) (lv' := [(1, .long x2), (0, .ref 253), (3, .int v3)]) dX12_warmIn_40 rfl (by decide) rfl ?_
      refine s_sub (lv' := [(0, .ref 253), (1, .long x2), (3, .int v3)]) [1, 0, 2] rfl ?_
      exact t_X12_warmIn_B41 N kb hkb x2 v3 μ_1
    · exact t_X12_warmIn_B41 N kb hkb v1 v3 μ_1
  · refine s_lload_n (pc := 47) 1 dX12_warmIn_47 rfl rfl ?_
    exact s_lret (pc := 48) dX12_warmIn_48 rfl
def f_X12_warmIn_L4 (N : Nat) : Nat → Int64 → Int32 → z_S → Option (Int64 × z_S)
  | 0, _, _, _ => none
  | n + 1, v1, v3, μ => b_X12_warmIn_L4 N (f_X12_warmIn_L4 N n) v1 v3 μ
theorem t_X12_warmIn_L4 (N : Nat) : ∀ (n : Nat) (v1 : Int64) (v3 : Int32) (μ : z_S), z_sim false rJ mX12_warmIn 1 (f_X12_warmIn_L4 N n v1 v3 μ) 4 [(0, .ref 253), (1, .long v1), (3, .int v3)] [] μ
  | 0, _, _, _ => s_none
  | n + 1, v1, v3, μ => tb_X12_warmIn_L4 N (f_X12_warmIn_L4 N n) (t_X12_warmIn_L4 N n) v1 v3 μ
def f_X12_warmIn (N : Nat) (μ : z_S) : Option (Int64 × z_S) :=
  f_X12_warmIn_L4 N N (0 : Int64) (0 : Int32) μ
theorem t_X12_warmIn (N : Nat) (μ : z_S) : z_met false rJ mX12_warmIn 1 [.ref 253] μ (f_X12_warmIn N μ) := by
  refine z_met.of (by decide +kernel) (by show _ ≤ _; first | decide | exact Nat.le_of_ble_eq_true rfl) (lv := [(0, .ref 253)]) rfl ?_
  unfold f_X12_warmIn
  refine s_lconst (pc := 0) (v := (0 : Int64)) dX12_warmIn_0 (by decide) ?_
  refine s_lstore_n (pc := 1) (lv' := [(1, .long (0 : Int64)), (0, .ref 253)]) dX12_warmIn_1 rfl (by decide) rfl ?_
  refine s_iconst (pc := 2) (v := (0 : Int32)) dX12_warmIn_2 (by decide) ?_
  refine s_istore_n (pc := 3) (lv' := [(3, .int (0 : Int32)), (1, .long (0 : Int64)), (0, .ref 253)]) dX12_warmIn_3 rfl (by decide) rfl ?_
  refine s_sub (lv' := [(0, .ref 253), (1, .long (0 : Int64)), (3, .int (0 : Int32))]) [2, 1, 0] rfl ?_
  refine t_X12_warmIn_L4 N N (0 : Int64) (0 : Int32) μ
def b_X12_laysWarmest_L6 (N : Nat) (kb : Int32 → z_S → Option (Int32 × z_S)) (e32 : z_S → Option (Int32 × z_S)) (v1 : Int32) (μ : z_S) : Option (Int32 × z_S) :=
  if v1 < (8 : Int32) then (z_in v1 8 <| z_bd (z_setI μ 298 v1.toNatClampNeg (0 : Int32)) fun μ_2 => z_in v1 8 <| z_bd (z_setI μ_2 300 v1.toNatClampNeg (0 : Int32)) fun μ_3 => z_bd (v1 + 1) fun x1 => kb x1 μ_3) else e32 μ
theorem tb_X12_laysWarmest_L6 (N : Nat) (kb : Int32 → z_S → Option (Int32 × z_S)) (e32 : z_S → Option (Int32 × z_S)) (hkb : ∀ (a1 : Int32) (μ : z_S), z_sim false rI mX12_laysWarmest 6 (kb a1 μ) 6 [(0, .ref 253), (1, .int a1)] [] μ) (he32 : ∀ (μ : z_S), z_sim false rI mX12_laysWarmest 6 (e32 μ) 32 [(0, .ref 253)] [] μ) (v1 : Int32) (μ : z_S) : z_sim false rI mX12_laysWarmest 6 (b_X12_laysWarmest_L6 N kb e32 v1 μ) 6 [(0, .ref 253), (1, .int v1)] [] μ := by
  unfold b_X12_laysWarmest_L6
  refine s_iload_n (pc := 6) 1 dX12_laysWarmest_6 rfl rfl ?_
  refine s_bipush (pc := 7) (v := (8 : Int32)) dX12_laysWarmest_7 (by decide) ?_
  refine s_icmp_ge (pc := 9) (tgt := 32) dX12_laysWarmest_9 (by decide) ?_ ?_
  · refine s_aload_n (pc := 12) 0 dX12_laysWarmest_12 rfl rfl ?_
    refine s_getR (pc := 13) (ci := 12) (k := 57) (r := 298) dX12_laysWarmest_13 fl_12_148 kd_253 rfl rs_253_57 ?_
    refine s_iload_n (pc := 16) 1 dX12_laysWarmest_16 rfl rfl ?_
    refine s_iconst (pc := 17) (v := (0 : Int32)) dX12_laysWarmest_17 (by decide) ?_
    refine s_iast (pc := 18) dX12_laysWarmest_18 kd_298 (fun μ_2 => ?_)
    refine s_aload_n (pc := 19) 0 dX12_laysWarmest_19 rfl rfl ?_
    refine s_getR (pc := 20) (ci := 12) (k := 59) (r := 300) dX12_laysWarmest_20 fl_12_154 kd_253 rfl rs_253_59 ?_
    refine s_iload_n (pc := 23) 1 dX12_laysWarmest_23 rfl rfl ?_
    refine s_iconst (pc := 24) (v := (0 : Int32)) dX12_laysWarmest_24 (by decide) ?_
    refine s_iast (pc := 25) dX12_laysWarmest_25 kd_300 (fun μ_3 => ?_)
    refine s_iincB (pc := 26) (lv' := fun x1 => [(1, .int x1), (0, .ref 253)]) (c := 1) 1 dX12_laysWarmest_26 rfl (by decide) (by decide) (fun _ => rfl) (fun x1 => ?_)
    refine s_goto (pc := 29) (tgt := 6) dX12_laysWarmest_29 (by decide) ?_
    refine s_sub (lv' := [(0, .ref 253), (1, .int x1)]) [1, 0] rfl ?_
    exact hkb x1 μ_3
  · refine s_sub (lv' := [(0, .ref 253)]) [0] rfl ?_
    exact he32 μ
def f_X12_laysWarmest_L6 (N : Nat) (e32 : z_S → Option (Int32 × z_S)) : Nat → Int32 → z_S → Option (Int32 × z_S)
  | 0, _, _ => none
  | n + 1, v1, μ => b_X12_laysWarmest_L6 N (f_X12_laysWarmest_L6 N e32 n) e32 v1 μ
theorem t_X12_laysWarmest_L6 (N : Nat) (e32 : z_S → Option (Int32 × z_S)) (he32 : ∀ (μ : z_S), z_sim false rI mX12_laysWarmest 6 (e32 μ) 32 [(0, .ref 253)] [] μ) : ∀ (n : Nat) (v1 : Int32) (μ : z_S), z_sim false rI mX12_laysWarmest 6 (f_X12_laysWarmest_L6 N e32 n v1 μ) 6 [(0, .ref 253), (1, .int v1)] [] μ
  | 0, _, _ => s_none
  | n + 1, v1, μ => tb_X12_laysWarmest_L6 N (f_X12_laysWarmest_L6 N e32 n) e32 (t_X12_laysWarmest_L6 N e32 he32 n) he32 v1 μ
def f_X12_laysWarmest_B63 (N : Nat) (kb : Int32 → z_S → Option (Int32 × z_S)) (e70 : z_S → Option (Int32 × z_S)) (v1 : Int32) (s0 : Int32) (s1 : Int32) (μ : z_S) : Option (Int32 × z_S) :=
  z_in s1 8 <| z_bd (z_setI μ 299 s1.toNatClampNeg s0) fun μ_7 => z_bd (v1 + 1) fun x5 => kb x5 μ_7
theorem t_X12_laysWarmest_B63 (N : Nat)   (kb : Int32 → z_S → Option (Int32 × z_S)) (e70 : z_S → Option (Int32 × z_S)) (hkb : ∀ (a1 : Int32) (μ : z_S), z_sim false rI mX12_laysWarmest 6 (kb a1 μ) 34 [(0, .ref 253), (1, .int a1)] [] μ) (he70 : ∀  (μ : z_S), z_sim false rI mX12_laysWarmest 6 (e70 μ) 70 [(0, .ref 253)] [] μ) (v1 : Int32) (s0 : Int32) (s1 : Int32)  (μ : z_S) : z_sim false rI mX12_laysWarmest 6 (f_X12_laysWarmest_B63 N  kb e70 v1 s0 s1 μ) 63 [(0, .ref 253), (1, .int v1)] [.int s0, .int s1, .ref 299] μ := by
  unfold f_X12_laysWarmest_B63
  refine s_iast (pc := 63) dX12_laysWarmest_63 kd_299 (fun μ_7 => ?_)
  refine s_iincB (pc := 64) (lv' := fun x5 => [(1, .int x5), (0, .ref 253)]) (c := 1) 1 dX12_laysWarmest_64 rfl (by decide) (by decide) (fun _ => rfl) (fun x5 => ?_)
  refine s_goto (pc := 67) (tgt := 34) dX12_laysWarmest_67 (by decide) ?_
  refine s_sub (lv' := [(0, .ref 253), (1, .int x5)]) [1, 0] rfl ?_
  exact hkb x5 μ_7
def b_X12_laysWarmest_L34 (N : Nat) (kb : Int32 → z_S → Option (Int32 × z_S)) (e70 : z_S → Option (Int32 × z_S)) (v1 : Int32) (μ : z_S) : Option (Int32 × z_S) :=
  z_bn (f_X12_letterMany N μ) fun x2 μ_4 => if v1 < x2 then (z_bn (f_X12_doneOf N v1 μ_4) fun x3 μ_5 => if x3 = 0 then (z_bn (f_X12_helperMany N μ_5) fun x4 μ_6 => f_X12_laysWarmest_B63 N kb e70 v1 x4 v1 μ_6) else f_X12_laysWarmest_B63 N kb e70 v1 (0 : Int32) v1 μ_5) else e70 μ_4
theorem tb_X12_laysWarmest_L34 (N : Nat) (kb : Int32 → z_S → Option (Int32 × z_S)) (e70 : z_S → Option (Int32 × z_S)) (hkb : ∀ (a1 : Int32) (μ : z_S), z_sim false rI mX12_laysWarmest 6 (kb a1 μ) 34 [(0, .ref 253), (1, .int a1)] [] μ) (he70 : ∀ (μ : z_S), z_sim false rI mX12_laysWarmest 6 (e70 μ) 70 [(0, .ref 253)] [] μ) (v1 : Int32) (μ : z_S) : z_sim false rI mX12_laysWarmest 6 (b_X12_laysWarmest_L34 N kb e70 v1 μ) 34 [(0, .ref 253), (1, .int v1)] [] μ := by
  unfold b_X12_laysWarmest_L34
  refine s_iload_n (pc := 34) 1 dX12_laysWarmest_34 rfl rfl ?_
  refine s_aload_n (pc := 35) 0 dX12_laysWarmest_35 rfl rfl ?_
  refine s_callVI (pc := 36) (as := []) (st := [.int v1]) dX12_laysWarmest_36 lk_12_419 kd_253 (t_X12_letterMany N μ) (by omega) rfl (Nat.le_of_ble_eq_true rfl) rfl (fun x2 μ_4 => ?_)
  refine s_icmp_ge (pc := 39) (tgt := 70) dX12_laysWarmest_39 (by decide) ?_ ?_
  · refine s_aload_n (pc := 42) 0 dX12_laysWarmest_42 rfl rfl ?_
    refine s_getR (pc := 43) (ci := 12) (k := 58) (r := 299) dX12_laysWarmest_43 fl_12_151 kd_253 rfl rs_253_58 ?_
    refine s_iload_n (pc := 46) 1 dX12_laysWarmest_46 rfl rfl ?_
    refine s_aload_n (pc := 47) 0 dX12_laysWarmest_47 rfl rfl ?_
    refine s_iload_n (pc := 48) 1 dX12_laysWarmest_48 rfl rfl ?_
    refine s_callVI (pc := 49) (as := [.int v1]) (st := [.int v1, .ref 299]) dX12_laysWarmest_49 lk_12_451 kd_253 (t_X12_doneOf N v1 μ_4) (by omega) rfl (Nat.le_of_ble_eq_true rfl) rfl (fun x3 μ_5 => ?_)
    refine s_if_ne (pc := 52) (tgt := 62) dX12_laysWarmest_52 (by decide) ?_ ?_
    · refine s_aload_n (pc := 55) 0 dX12_laysWarmest_55 rfl rfl ?_
      refine s_callVI (pc := 56) (as := []) (st := [.int v1, .ref 299]) dX12_laysWarmest_56 lk_12_422 kd_253 (t_X12_helperMany N μ_5) (by omega) rfl (Nat.le_of_ble_eq_true rfl) rfl (fun x4 μ_6 => ?_)
      refine s_goto (pc := 59) (tgt := 63) dX12_laysWarmest_59 (by decide) ?_
      exact t_X12_laysWarmest_B63 N kb e70 hkb he70 v1 x4 v1 μ_6
    · refine s_iconst (pc := 62) (v := (0 : Int32)) dX12_laysWarmest_62 (by decide) ?_
      exact t_X12_laysWarmest_B63 N kb e70 hkb he70 v1 (0 : Int32) v1 μ_5
  · refine s_sub (lv' := [(0, .ref 253)]) [0] rfl ?_
    exact he70 μ_4
def f_X12_laysWarmest_L34 (N : Nat) (e70 : z_S → Option (Int32 × z_S)) : Nat → Int32 → z_S → Option (Int32 × z_S)
  | 0, _, _ => none
  | n + 1, v1, μ => b_X12_laysWarmest_L34 N (f_X12_laysWarmest_L34 N e70 n) e70 v1 μ
theorem t_X12_laysWarmest_L34 (N : Nat) (e70 : z_S → Option (Int32 × z_S)) (he70 : ∀ (μ : z_S), z_sim false rI mX12_laysWarmest 6 (e70 μ) 70 [(0, .ref 253)] [] μ) : ∀ (n : Nat) (v1 : Int32) (μ : z_S), z_sim false rI mX12_laysWarmest 6 (f_X12_laysWarmest_L34 N e70 n v1 μ) 34 [(0, .ref 253), (1, .int v1)] [] μ
  | 0, _, _ => s_none
  | n + 1, v1, μ => tb_X12_laysWarmest_L34 N (f_X12_laysWarmest_L34 N e70 n) e70 (t_X12_laysWarmest_L34 N e70 he70 n) he70 v1 μ
