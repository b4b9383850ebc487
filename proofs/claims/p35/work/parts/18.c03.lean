def k_X1_stepOn : Kd := (yX1_stepOn, cX1_stepOn, 5, none, [])
theorem kv_X1_stepOn : KV k_X1_stepOn 1 := ⟨uw_mem 557 (by decide +kernel) rfl, uw_mem 95 (by decide +kernel) rfl, uw_mem 556 (by decide +kernel) rfl, uw_mem 11 (by decide +kernel) rfl, ⟨by decide +kernel, by decide +kernel⟩, by decide +kernel, by decide +kernel⟩
set_option maxHeartbeats 8000000 in
set_option maxRecDepth 100000 in
theorem c_X1_stepOn {l : Launch} {Γ : Cx} {M0 : Md} (hG : GK Γ l) (a0 : Nat) (a1 : Option Nat) (C : Cd) : Ct l Γ k_X1_stepOn 5 encV (emC M0) [.ref a0, va_rf a1] C (fX1_stepOn a0 a1 C) := by
  refine ct_of (by decide +kernel) rfl (by cases a1 <;> exact Nat.le_of_ble_eq_true rfl) ?_
  refine r_lo [0, 1] (lo2 := [(0, .ref a0), (1, va_rf a1)]) (by cases a1 <;> rfl) ?_
  unfold fX1_stepOn
  refine r_aloadq_n (x := a1) dX1_stepOn_0 rfl rfl ?_
  refine r_dref (fun p1 hp1 => ?_)
  subst hp1
  refine r_cgetRN (c := 9) (kk := 0) hc_X6 rfl (by decide) inU_X6 (by decide) hG uf_X1_116 rfl (by decide) dX1_stepOn_1 (fun z2 => ?_)
  refine r_dref (fun p3 hp3 => ?_)
  subst hp3
  refine r_cgetRN (c := 5) (kk := 4) hc_X2 rfl (by decide) inU_X2 (by decide) hG uf_X1_121 rfl (by decide) dX1_stepOn_4 (fun z4 => ?_)
  refine r_astoreq_n (lo2 := [(2, va_rf z4), (0, .ref a0), (1, .ref p1)]) dX1_stepOn_7 rfl (by decide) rfl ?_
  refine r_aload_n (x := p1) dX1_stepOn_8 rfl rfl ?_
  refine r_cgetIN (c := 9) (kk := 2) hc_X6 rfl (by decide) inU_X6 (by decide) hG uf_X1_93 rfl (by decide) dX1_stepOn_9 ?_
  refine r_nm (fun x3_12 => ?_)
  refine r_istore_n (lo2 := [(3, wi x3_12), (2, va_rf z4), (0, .ref a0), (1, .ref p1)]) dX1_stepOn_12 rfl (by decide) (by cases z4 <;> rfl) ?_
  refine r_aloadq_n (x := z4) dX1_stepOn_13 rfl rfl ?_
  refine r_iload_n (x := x3_12) dX1_stepOn_14 rfl rfl ?_
  refine r_dref (fun p5 hp5 => ?_)
  subst hp5
  refine r_ccVNi (c := 11) (k2 := k_X8_valueAt) (n := 1) (rest := []) hG um_X1_125 rfl kv_X8_valueAt hc_X8 (by decide) (c_X8_valueAt hG _ _ _) (by decide) rfl (Nat.le_of_ble_eq_true rfl) dX1_stepOn_15 rfl (fun r7 C6 => ?_)
  refine r_istore (lo2 := [(4, wi r7), (3, wi x3_12), (2, .ref p5), (0, .ref a0), (1, .ref p1)]) dX1_stepOn_18 (by decide) rfl ?_
  refine r_aload_n (x := p5) dX1_stepOn_20 rfl rfl ?_
  refine r_iload_n (x := x3_12) dX1_stepOn_21 rfl rfl ?_
  refine r_ccVNi (c := 11) (k2 := k_X8_kindAt) (n := 1) (rest := []) hG um_X1_129 rfl kv_X8_kindAt hc_X8 (by decide) (c_X8_kindAt hG _ _ _) (by decide) rfl (Nat.le_of_ble_eq_true rfl) dX1_stepOn_22 rfl (fun r9 C8 => ?_)
  refine r_join (P := fun (J : Cd → Option (Unit × Cd)) => ∀  (C_279 : Cd), RunO l Γ k_X1_stepOn 5 encV (emC M0) 279 [(1, .ref p1)] [] C_279 (J C_279)) ?_ (fun J279 hJ279 => ?_)
  · intro C_279
    refine r_aload_n (x := p1) dX1_stepOn_279 rfl rfl ?_
    refine r_dup dX1_stepOn_280 rfl ?_
    refine r_cgetIN (c := 9) (kk := 2) hc_X6 rfl (by decide) inU_X6 (by decide) hG uf_X1_93 rfl (by decide) dX1_stepOn_281 ?_
    refine ro_iconst (v := 1) dX1_stepOn_284 rfl ?_
    refine r_iadd dX1_stepOn_285 ?_
    refine r_cputIN (c := 9) (kk := 2) hc_X6 rfl (by decide) inU_X6 (by decide) hG uf_X1_93 rfl tyX6 tyX6_ok nmX6 (fty := .int) (by decide) rfl rfl rfl rfl dX1_stepOn_286 (fun C10 _ _ => ?_)
    exact r_vret rfl dX1_stepOn_289
  refine r_join (P := fun (J : Cd → Option (Unit × Cd)) => ∀  (C_104 : Cd), RunO l Γ k_X1_stepOn 5 encV (emC M0) 104 [(0, .ref a0), (1, .ref p1), (4, wi r7)] [] C_104 (J C_104)) ?_ (fun J104 hJ104 => ?_)
  · intro C_104
    refine r_aload_n (x := a0) dX1_stepOn_104 rfl rfl ?_
    refine r_cgetR (c := 4) (kk := 7) hc_X1 rfl (by decide) inU_X1 (by decide) uf_X1_52 rfl (by decide) dX1_stepOn_105 (fun z11 => ?_)
    refine r_dref (fun p12 hp12 => ?_)
    subst hp12
    refine r_dup dX1_stepOn_108 rfl ?_
    refine r_cgetIN (c := 7) (kk := 3) hc_X4 rfl (by decide) inU_X4 (by decide) hG uf_X1_136 rfl (by decide) dX1_stepOn_109 ?_
    refine ro_iconst (v := 1) dX1_stepOn_112 rfl ?_
    refine r_iload (x := r7) dX1_stepOn_113 rfl ?_
    refine r_ishl dX1_stepOn_115 ?_
    refine r_ior dX1_stepOn_116 ?_
    refine r_cputIN (c := 7) (kk := 3) hc_X4 rfl (by decide) inU_X4 (by decide) hG uf_X1_136 rfl tyX4 tyX4_ok nmX4 (fty := .int) (by decide) rfl rfl rfl rfl dX1_stepOn_117 (fun C13 _ _ => ?_)
    refine r_aload_n (x := p1) dX1_stepOn_120 rfl rfl ?_
    refine r_cgetRN (c := 9) (kk := 1) hc_X6 rfl (by decide) inU_X6 (by decide) hG uf_X1_120 rfl (by decide) dX1_stepOn_121 (fun z14 => ?_)
    refine r_sipush (v := 1000) dX1_stepOn_124 rfl ?_
    refine r_iload (x := r7) dX1_stepOn_127 rfl ?_
    refine r_iadd dX1_stepOn_129 ?_
    refine r_dref (fun p15 hp15 => ?_)
    subst hp15
    refine r_ccVNv (c := 8) (k2 := k_X5_add) (n := 1) (rest := []) hG um_X1_132 rfl kv_X5_add hc_X5 (by decide) (c_X5_add hG _ _ _) (by decide) rfl (Nat.le_of_ble_eq_true rfl) dX1_stepOn_130 rfl (fun r17 C16 => ?_)
    refine r_goto (tgt := 279) dX1_stepOn_133 (by decide) ?_
    refine r_lo [1] (lo2 := [(1, .ref p1)]) rfl ?_
    exact hJ279  C16
  refine r_tswC (v := 0) (off := 67) (tgt := 92) dX1_stepOn_25 (by decide) (by decide) rfl (by decide) ?_ (fun n0 => ?_)
  · refine r_aload_n (x := p1) dX1_stepOn_92 rfl rfl ?_
    refine r_cgetRN (c := 9) (kk := 1) hc_X6 rfl (by decide) inU_X6 (by decide) hG uf_X1_120 rfl (by decide) dX1_stepOn_93 (fun z18 => ?_)
    refine r_iload (x := r7) dX1_stepOn_96 rfl ?_
    refine r_dref (fun p19 hp19 => ?_)
    subst hp19
    refine r_ccVNv (c := 8) (k2 := k_X5_add) (n := 1) (rest := []) hG um_X1_132 rfl kv_X5_add hc_X5 (by decide) (c_X5_add hG _ _ _) (by decide) rfl (Nat.le_of_ble_eq_true rfl) dX1_stepOn_98 rfl (fun r21 C20 => ?_)
    refine r_goto (tgt := 279) dX1_stepOn_101 (by decide) ?_
    refine r_lo [4] (lo2 := [(1, .ref p1)]) rfl ?_
    exact hJ279  C20
  refine r_tswC (v := 1) (off := 79) (tgt := 104) dX1_stepOn_25 (by decide) (by decide) rfl (by decide) ?_ (fun n1 => ?_)
  · refine r_lo [3, 4, 0] (lo2 := [(0, .ref a0), (1, .ref p1), (4, wi r7)]) rfl ?_
    exact hJ104  C8
  refine r_tswC (v := 2) (off := 234) (tgt := 259) dX1_stepOn_25 (by decide) (by decide) rfl (by decide) ?_ (fun n2 => ?_)
  · refine r_aload_n (x := p1) dX1_stepOn_259 rfl rfl ?_
    refine r_aload_n (x := p5) dX1_stepOn_260 rfl rfl ?_
    refine r_iload_n (x := x3_12) dX1_stepOn_261 rfl rfl ?_
    refine r_ccVNi (c := 11) (k2 := k_X8_endAt) (n := 1) (rest := [.ref p1]) hG um_X1_145 rfl kv_X8_endAt hc_X8 (by decide) (c_X8_endAt hG _ _ _) (by decide) rfl (Nat.le_of_ble_eq_true rfl) dX1_stepOn_262 rfl (fun r23 C22 => ?_)
    refine r_cputIN (c := 9) (kk := 2) hc_X6 rfl (by decide) inU_X6 (by decide) hG uf_X1_93 rfl tyX6 tyX6_ok nmX6 (fty := .int) (by decide) rfl rfl rfl rfl dX1_stepOn_265 (fun C24 _ _ => ?_)
    refine r_aload_n (x := a0) dX1_stepOn_268 rfl rfl ?_
    refine r_aload_n (x := p1) dX1_stepOn_269 rfl rfl ?_
    refine r_iload_n (x := x3_12) dX1_stepOn_270 rfl rfl ?_
    refine r_iload (x := r7) dX1_stepOn_271 rfl ?_
    refine r_ccVv (c := 4) (k2 := k_X1_giveCall) (n := 3) (rest := []) um_X1_163 rfl kv_X1_giveCall hc_X1 (by decide) (c_X1_giveCall hG _ _ _ _ _) (by decide) rfl (Nat.le_of_ble_eq_true rfl) dX1_stepOn_273 rfl (fun r26 C25 => ?_)
    refine r_goto (tgt := 279) dX1_stepOn_276 (by decide) ?_
    refine r_lo [4] (lo2 := [(1, .ref p1)]) rfl ?_
    exact hJ279  C25
  refine r_tswC (v := 3) (off := 182) (tgt := 207) dX1_stepOn_25 (by decide) (by decide) rfl (by decide) ?_ (fun n3 => ?_)
  · refine r_aload_n (x := a0) dX1_stepOn_207 rfl rfl ?_
    refine r_aload_n (x := p1) dX1_stepOn_208 rfl rfl ?_
    refine r_iload (x := r7) dX1_stepOn_209 rfl ?_
    refine r_ccVi (c := 4) (k2 := k_X1_giveArgument) (n := 2) (rest := []) um_X1_148 rfl kv_X1_giveArgument hc_X1 (by decide) (c_X1_giveArgument hG _ _ _ _) (by decide) rfl (Nat.le_of_ble_eq_true rfl) dX1_stepOn_211 rfl (fun r28 C27 => ?_)
    refine r_if_ne (tgt := 279) dX1_stepOn_214 (by decide) ?_ ?_
    · refine r_lo [4] (lo2 := [(1, .ref p1)]) rfl ?_
      exact hJ279  C27
    · exact r_vret rfl dX1_stepOn_217
  refine r_tswC (v := 4) (off := 193) (tgt := 218) dX1_stepOn_25 (by decide) (by decide) rfl (by decide) ?_ (fun n4 => ?_)
  · refine r_aload_n (x := a0) dX1_stepOn_218 rfl rfl ?_
    refine r_aload_n (x := p5) dX1_stepOn_219 rfl rfl ?_
    refine r_iload_n (x := x3_12) dX1_stepOn_220 rfl rfl ?_
    refine r_ccVv (c := 4) (k2 := k_X1_listParts) (n := 2) (rest := []) um_X1_152 rfl kv_X1_listParts hc_X1 (by decide) (c_X1_listParts hG _ _ _ _) (by decide) rfl (Nat.le_of_ble_eq_true rfl) dX1_stepOn_221 rfl (fun r30 C29 => ?_)
    refine r_aload_n (x := a0) dX1_stepOn_224 rfl rfl ?_
    refine r_aload_n (x := p1) dX1_stepOn_225 rfl rfl ?_
    refine r_iload (x := r7) dX1_stepOn_226 rfl ?_
    refine r_ccVi (c := 4) (k2 := k_X1_giveFunction) (n := 2) (rest := []) um_X1_156 rfl kv_X1_giveFunction hc_X1 (by decide) (c_X1_giveFunction hG _ _ _ _) (by decide) rfl (Nat.le_of_ble_eq_true rfl) dX1_stepOn_228 rfl (fun r32 C31 => ?_)
    refine r_if_ne (tgt := 247) dX1_stepOn_231 (by decide) ?_ ?_
    · refine r_aload_n (x := p1) dX1_stepOn_247 rfl rfl ?_
      refine r_aload_n (x := p5) dX1_stepOn_248 rfl rfl ?_
      refine r_iload_n (x := x3_12) dX1_stepOn_249 rfl rfl ?_
      refine r_ccVNi (c := 11) (k2 := k_X8_endAt) (n := 1) (rest := [.ref p1]) hG um_X1_145 rfl kv_X8_endAt hc_X8 (by decide) (c_X8_endAt hG _ _ _) (by decide) rfl (Nat.le_of_ble_eq_true rfl) dX1_stepOn_250 rfl (fun r34 C33 => ?_)
      refine r_cputIN (c := 9) (kk := 2) hc_X6 rfl (by decide) inU_X6 (by decide) hG uf_X1_93 rfl tyX6 tyX6_ok nmX6 (fty := .int) (by decide) rfl rfl rfl rfl dX1_stepOn_253 (fun C35 _ _ => ?_)
      refine r_goto (tgt := 279) dX1_stepOn_256 (by decide) ?_
      refine r_lo [4] (lo2 := [(1, .ref p1)]) rfl ?_
      exact hJ279  C35
    · refine r_aload_n (x := a0) dX1_stepOn_234 rfl rfl ?_
      refine r_aload_n (x := p1) dX1_stepOn_235 rfl rfl ?_
      refine r_cgetRN (c := 9) (kk := 0) hc_X6 rfl (by decide) inU_X6 (by decide) hG uf_X1_116 rfl (by decide) dX1_stepOn_236 (fun z36 => ?_)
      refine r_aload_n (x := a0) dX1_stepOn_239 rfl rfl ?_
      refine r_cgetI (c := 4) (kk := 14) hc_X1 rfl (by decide) inU_X1 (by decide) uf_X1_75 rfl (by decide) dX1_stepOn_240 ?_
      refine r_ccVv (c := 4) (k2 := k_X1_openPart) (n := 2) (rest := []) um_X1_159 rfl kv_X1_openPart hc_X1 (by decide) (c_X1_openPart hG _ _ _ _) (by decide) rfl (Nat.le_of_ble_eq_true rfl) dX1_stepOn_243 rfl (fun r38 C37 => ?_)
      exact r_vret rfl dX1_stepOn_246
  refine r_tswC (v := 5) (off := 254) (tgt := 279) dX1_stepOn_25 (by decide) (by decide) rfl (by decide) ?_ (fun n5 => ?_)
  · refine r_lo [4] (lo2 := [(1, .ref p1)]) rfl ?_
    exact hJ279  C8
  refine r_tswC (v := 6) (off := 254) (tgt := 279) dX1_stepOn_25 (by decide) (by decide) rfl (by decide) ?_ (fun n6 => ?_)
  · refine r_lo [4] (lo2 := [(1, .ref p1)]) rfl ?_
    exact hJ279  C8
  refine r_tswC (v := 7) (off := 254) (tgt := 279) dX1_stepOn_25 (by decide) (by decide) rfl (by decide) ?_ (fun n7 => ?_)
  · refine r_lo [4] (lo2 := [(1, .ref p1)]) rfl ?_
    exact hJ279  C8
  refine r_tswC (v := 8) (off := 130) (tgt := 155) dX1_stepOn_25 (by decide) (by decide) rfl (by decide) ?_ (fun n8 => ?_)
  · refine r_aload_n (x := p1) dX1_stepOn_155 rfl rfl ?_
    refine r_aload_n (x := p1) dX1_stepOn_156 rfl rfl ?_
    refine r_cgetRN (c := 9) (kk := 0) hc_X6 rfl (by decide) inU_X6 (by decide) hG uf_X1_116 rfl (by decide) dX1_stepOn_157 (fun z39 => ?_)
    refine r_dref (fun p40 hp40 => ?_)
    subst hp40
    refine r_cgetIN (c := 5) (kk := 6) hc_X2 rfl (by decide) inU_X2 (by decide) hG uf_X1_142 rfl (by decide) dX1_stepOn_160 ?_
    refine r_join (P := fun (J : Int → Cd → Option (Unit × Cd)) => ∀ (t0_175 : Int) (C_175 : Cd), RunO l Γ k_X1_stepOn 5 encV (emC M0) 175 [(1, .ref p1)] [wi t0_175, .ref p1] C_175 (J t0_175 C_175)) ?_ (fun J175 hJ175 => ?_)
    · intro t0_175 C_175
      refine r_cputIN (c := 9) (kk := 2) hc_X6 rfl (by decide) inU_X6 (by decide) hG uf_X1_93 rfl tyX6 tyX6_ok nmX6 (fty := .int) (by decide) rfl rfl rfl rfl dX1_stepOn_175 (fun C41 _ _ => ?_)
      refine r_goto (tgt := 279) dX1_stepOn_178 (by decide) ?_
      exact hJ279  C41
    refine r_if_le (tgt := 170) dX1_stepOn_163 (by decide) ?_ ?_
    · refine r_aload_n (x := p5) dX1_stepOn_170 rfl rfl ?_
      refine r_iload_n (x := x3_12) dX1_stepOn_171 rfl rfl ?_
      refine r_ccVNi (c := 11) (k2 := k_X8_endAt) (n := 1) (rest := [.ref p1]) hG um_X1_145 rfl kv_X8_endAt hc_X8 (by decide) (c_X8_endAt hG _ _ _) (by decide) rfl (Nat.le_of_ble_eq_true rfl) dX1_stepOn_172 rfl (fun r43 C42 => ?_)
      refine r_lo [4] (lo2 := [(1, .ref p1)]) rfl ?_
      exact hJ175 r43 C42
    · refine r_iload_n (x := x3_12) dX1_stepOn_166 rfl rfl ?_
      refine r_goto (tgt := 175) dX1_stepOn_167 (by decide) ?_
      refine r_lo [4] (lo2 := [(1, .ref p1)]) rfl ?_
      exact hJ175 x3_12 C8
  refine r_tswC (v := 9) (off := 156) (tgt := 181) dX1_stepOn_25 (by decide) (by decide) rfl (by decide) ?_ (fun n9 => ?_)
  · refine r_aload_n (x := p1) dX1_stepOn_181 rfl rfl ?_
    refine r_aload_n (x := p1) dX1_stepOn_182 rfl rfl ?_
    refine r_cgetRN (c := 9) (kk := 0) hc_X6 rfl (by decide) inU_X6 (by decide) hG uf_X1_116 rfl (by decide) dX1_stepOn_183 (fun z44 => ?_)
    refine r_dref (fun p45 hp45 => ?_)
    subst hp45
    refine r_cgetIN (c := 5) (kk := 6) hc_X2 rfl (by decide) inU_X2 (by decide) hG uf_X1_142 rfl (by decide) dX1_stepOn_186 ?_
    refine r_join (P := fun (J : Int → Cd → Option (Unit × Cd)) => ∀ (t0_201 : Int) (C_201 : Cd), RunO l Γ k_X1_stepOn 5 encV (emC M0) 201 [(1, .ref p1)] [wi t0_201, .ref p1] C_201 (J t0_201 C_201)) ?_ (fun J201 hJ201 => ?_)
    · intro t0_201 C_201
      refine r_cputIN (c := 9) (kk := 2) hc_X6 rfl (by decide) inU_X6 (by decide) hG uf_X1_93 rfl tyX6 tyX6_ok nmX6 (fty := .int) (by decide) rfl rfl rfl rfl dX1_stepOn_201 (fun C46 _ _ => ?_)
      refine r_goto (tgt := 279) dX1_stepOn_204 (by decide) ?_
      exact hJ279  C46
    refine r_if_le (tgt := 200) dX1_stepOn_189 (by decide) ?_ ?_
    · refine r_iload_n (x := x3_12) dX1_stepOn_200 rfl rfl ?_
      refine r_lo [4] (lo2 := [(1, .ref p1)]) rfl ?_
      exact hJ201 x3_12 C8
    · refine r_aload_n (x := p5) dX1_stepOn_192 rfl rfl ?_
      refine r_iload_n (x := x3_12) dX1_stepOn_193 rfl rfl ?_
      refine r_ccVNi (c := 11) (k2 := k_X8_endAt) (n := 1) (rest := [.ref p1]) hG um_X1_145 rfl kv_X8_endAt hc_X8 (by decide) (c_X8_endAt hG _ _ _) (by decide) rfl (Nat.le_of_ble_eq_true rfl) dX1_stepOn_194 rfl (fun r48 C47 => ?_)
      refine r_goto (tgt := 201) dX1_stepOn_197 (by decide) ?_
      refine r_lo [4] (lo2 := [(1, .ref p1)]) rfl ?_
      exact hJ201 r48 C47
  refine r_tswC (v := 10) (off := 254) (tgt := 279) dX1_stepOn_25 (by decide) (by decide) rfl (by decide) ?_ (fun n10 => ?_)
  · refine r_lo [4] (lo2 := [(1, .ref p1)]) rfl ?_
    exact hJ279  C8
  refine r_tswC (v := 11) (off := 111) (tgt := 136) dX1_stepOn_25 (by decide) (by decide) rfl (by decide) ?_ (fun n11 => ?_)
  · refine r_aload_n (x := a0) dX1_stepOn_136 rfl rfl ?_
    refine r_cgetR (c := 4) (kk := 7) hc_X1 rfl (by decide) inU_X1 (by decide) uf_X1_52 rfl (by decide) dX1_stepOn_137 (fun z49 => ?_)
    refine r_dref (fun p50 hp50 => ?_)
    subst hp50
    refine r_dup dX1_stepOn_140 rfl ?_
    refine r_cgetIN (c := 7) (kk := 4) hc_X4 rfl (by decide) inU_X4 (by decide) hG uf_X1_139 rfl (by decide) dX1_stepOn_141 ?_
    refine ro_iconst (v := 1) dX1_stepOn_144 rfl ?_
    refine r_iload (x := r7) dX1_stepOn_145 rfl ?_
    refine r_ishl dX1_stepOn_147 ?_
    refine r_ior dX1_stepOn_148 ?_
    refine r_cputIN (c := 7) (kk := 4) hc_X4 rfl (by decide) inU_X4 (by decide) hG uf_X1_139 rfl tyX4 tyX4_ok nmX4 (fty := .int) (by decide) rfl rfl rfl rfl dX1_stepOn_149 (fun C51 _ _ => ?_)
    refine r_goto (tgt := 279) dX1_stepOn_152 (by decide) ?_
    refine r_lo [4] (lo2 := [(1, .ref p1)]) rfl ?_
    exact hJ279  C51
  refine r_tswC (v := 12) (off := 79) (tgt := 104) dX1_stepOn_25 (by decide) (by decide) rfl (by decide) ?_ (fun n12 => ?_)
  · refine r_lo [3, 4, 0] (lo2 := [(0, .ref a0), (1, .ref p1), (4, wi r7)]) rfl ?_
    exact hJ104  C8
  refine r_tswD (tgt := 279) dX1_stepOn_25 (by omega) (by decide) ?_
  refine r_lo [4] (lo2 := [(1, .ref p1)]) rfl ?_
  exact hJ279  C8
def k_X1_expand : Kd := (yX1_expand, cX1_expand, 6, none, [])
theorem kv_X1_expand : KV k_X1_expand 3 := ⟨uw_mem 532 (by decide +kernel) rfl, uw_mem 95 (by decide +kernel) rfl, uw_mem 531 (by decide +kernel) rfl, uw_mem 5 (by decide +kernel) rfl, ⟨by decide +kernel, by decide +kernel⟩, by decide +kernel, by decide +kernel⟩
set_option maxHeartbeats 8000000 in
set_option maxRecDepth 100000 in
theorem c_X1_expand {l : Launch} {Γ : Cx} {M0 : Md} (hG : GK Γ l) (a0 : Nat) (a1 : Int) (a2 : Option Nat) (a3 : Int) (C : Cd) : Ct l Γ k_X1_expand 6 encV (emC M0) [.ref a0, wi a1, va_rf a2, wi a3] C (fX1_expand a0 a1 a2 a3 C) := by
  refine ct_of (by decide +kernel) rfl (by cases a2 <;> exact Nat.le_of_ble_eq_true rfl) ?_
  refine r_lo [0, 1, 2, 3] (lo2 := [(0, .ref a0), (1, wi a1), (2, va_rf a2), (3, wi a3)]) (by cases a2 <;> rfl) ?_
  unfold fX1_expand
  refine r_aload_n (x := a0) dX1_expand_0 rfl rfl ?_
  refine r_cgetR (c := 4) (kk := 7) hc_X1 rfl (by decide) inU_X1 (by decide) uf_X1_52 rfl (by decide) dX1_expand_1 (fun z1 => ?_)
  refine r_dref (fun p2 hp2 => ?_)
  subst hp2
  refine r_ccVNv (c := 7) (k2 := k_X4_clear) (n := 0) (rest := []) hG um_X1_82 rfl kv_X4_clear hc_X4 (by decide) (c_X4_clear hG _ _) (by decide) rfl (Nat.le_of_ble_eq_true rfl) dX1_expand_4 rfl (fun r4 C3 => ?_)
  refine r_aload_n (x := a0) dX1_expand_7 rfl rfl ?_
  refine ro_iconst (v := 0) dX1_expand_8 rfl ?_
  refine r_cputI (c := 4) (kk := 8) hc_X1 rfl (by decide) inU_X1 (by decide) uf_X1_56 rfl tyX1 tyX1_ok nmX1 (fty := .int) (by decide) rfl rfl rfl rfl dX1_expand_9 (fun C5 _ _ => ?_)
  refine r_aload_n (x := a0) dX1_expand_12 rfl rfl ?_
  refine ro_iconst (v := 0) dX1_expand_13 rfl ?_
  refine r_cputI (c := 4) (kk := 9) hc_X1 rfl (by decide) inU_X1 (by decide) uf_X1_60 rfl tyX1 tyX1_ok nmX1 (fty := .int) (by decide) rfl rfl rfl rfl dX1_expand_14 (fun C6 _ _ => ?_)
  refine r_aload_n (x := a0) dX1_expand_17 rfl rfl ?_
  refine ro_iconst (v := 0) dX1_expand_18 rfl ?_
  refine r_cputI (c := 4) (kk := 10) hc_X1 rfl (by decide) inU_X1 (by decide) uf_X1_63 rfl tyX1 tyX1_ok nmX1 (fty := .int) (by decide) rfl rfl rfl rfl dX1_expand_19 (fun C7 _ _ => ?_)
  refine r_aload_n (x := a0) dX1_expand_22 rfl rfl ?_
  refine r_iload_n (x := a3) dX1_expand_23 rfl rfl ?_
  refine r_cputI (c := 4) (kk := 11) hc_X1 rfl (by decide) inU_X1 (by decide) uf_X1_66 rfl tyX1 tyX1_ok nmX1 (fty := .int) (by decide) rfl rfl rfl rfl dX1_expand_24 (fun C8 _ _ => ?_)
  refine r_aload_n (x := a0) dX1_expand_27 rfl rfl ?_
  refine r_iload_n (x := a1) dX1_expand_28 rfl rfl ?_
  refine r_aloadq_n (x := a2) dX1_expand_29 rfl rfl ?_
  refine r_null dX1_expand_30 ?_
  refine r_aload_n (x := a0) dX1_expand_31 rfl rfl ?_
  refine r_cgetR (c := 4) (kk := 7) hc_X1 rfl (by decide) inU_X1 (by decide) uf_X1_52 rfl (by decide) dX1_expand_32 (fun z9 => ?_)
  refine r_dref (fun p10 hp10 => ?_)
  subst hp10
  refine r_cgetRN (c := 7) (kk := 0) hc_X4 rfl (by decide) inU_X4 (by decide) hG uf_X1_85 rfl (by decide) dX1_expand_35 (fun z11 => ?_)
  refine r_ccVr (c := 4) (k2 := k_X1_openFrame) (n := 4) (rest := []) um_X1_88 rfl kv_X1_openFrame hc_X1 (by decide) (c_X1_openFrame hG _ _ _ _ _ _) (by decide) rfl (Nat.le_of_ble_eq_true rfl) dX1_expand_38 rfl (fun r13 C12 => ?_)
  refine r_pop dX1_expand_41 (by cases r13 <;> rfl) ?_
  refine ro_iconst (v := 0) dX1_expand_42 rfl ?_
  refine r_istore (lo2 := [(4, wi 0), (0, .ref a0), (1, wi a1), (2, va_rf a2), (3, wi a3)]) dX1_expand_43 (by decide) rfl ?_
  refine r_loop (P := fun (J : Int → Cd → Option (Unit × Cd)) => ∀ (v4_45 : Int) (C_45 : Cd), RunO l Γ k_X1_expand 6 encV (emC M0) 45 [(0, .ref a0), (4, wi v4_45)] [] C_45 (J v4_45 C_45)) ?_ (fun L45 hL45 => ?_) (fun J45 hJ45 => ?_)
  · intros; exact ro_none
  · intro v4_45 C_45
    refine r_iload (x := v4_45) dX1_expand_45 rfl ?_
    refine r_ldc (v := 1000000) uc_X1_92 dX1_expand_47 ?_
    refine r_join (P := fun (J : Cd → Option (Unit × Cd)) => ∀  (C_110 : Cd), RunO l Γ k_X1_expand 6 encV (emC M0) 110 [] [] C_110 (J C_110)) ?_ (fun J110 hJ110 => ?_)
    · intro C_110
      exact r_vret rfl dX1_expand_110
    refine r_icmp_ge (tgt := 110) dX1_expand_49 (by decide) ?_ ?_
    · refine r_lo [] (lo2 := []) rfl ?_
      exact hJ110  C_45
    · refine r_aload_n (x := a0) dX1_expand_52 rfl rfl ?_
      refine r_cgetI (c := 4) (kk := 9) hc_X1 rfl (by decide) inU_X1 (by decide) uf_X1_60 rfl (by decide) dX1_expand_53 ?_
      refine r_if_le (tgt := 110) dX1_expand_56 (by decide) ?_ ?_
      · refine r_lo [] (lo2 := []) rfl ?_
        exact hJ110  C_45
      · refine r_aload_n (x := a0) dX1_expand_59 rfl rfl ?_
        refine r_cgetR (c := 4) (kk := 3) hc_X1 rfl (by decide) inU_X1 (by decide) uf_X1_31 rfl (by decide) dX1_expand_60 (fun z14 => ?_)
        refine r_aload_n (x := a0) dX1_expand_63 rfl rfl ?_
        refine r_cgetI (c := 4) (kk := 9) hc_X1 rfl (by decide) inU_X1 (by decide) uf_X1_60 rfl (by decide) dX1_expand_64 ?_
        refine ro_iconst (v := 1) dX1_expand_67 rfl ?_
        refine r_isub dX1_expand_68 ?_
        refine r_dref (fun p15 hp15 => ?_)
        subst hp15
        refine r_caald (t := 105) rfl (by decide) (by decide) dX1_expand_69 (fun z16 => ?_)
        refine r_astoreq (lo2 := [(5, va_rf z16), (0, .ref a0), (4, wi v4_45)]) dX1_expand_70 (by decide) rfl ?_
        refine r_aloadq (x := z16) dX1_expand_72 rfl ?_
        refine r_dref (fun p17 hp17 => ?_)
        subst hp17
        refine r_cgetIN (c := 9) (kk := 2) hc_X6 rfl (by decide) inU_X6 (by decide) hG uf_X1_93 rfl (by decide) dX1_expand_74 ?_
        refine r_aload (x := p17) dX1_expand_77 rfl ?_
        refine r_cgetIN (c := 9) (kk := 3) hc_X6 rfl (by decide) inU_X6 (by decide) hG uf_X1_96 rfl (by decide) dX1_expand_79 ?_
        refine r_join (P := fun (J : Cd → Option (Unit × Cd)) => ∀  (C_104 : Cd), RunO l Γ k_X1_expand 6 encV (emC M0) 104 [(0, .ref a0), (4, wi v4_45)] [] C_104 (J C_104)) ?_ (fun J104 hJ104 => ?_)
        · intro C_104
          refine r_iinc (x := v4_45) (lo2 := [(4, wi (v4_45 + 1)), (0, .ref a0)]) dX1_expand_104 rfl (by decide) rfl ?_
          refine r_goto (tgt := 45) dX1_expand_107 (by decide) ?_
          refine r_lo [1, 0] (lo2 := [(0, .ref a0), (4, wi (v4_45 + 1))]) rfl ?_
          exact hL45 (v4_45 + 1) C_104
        refine r_icmp_lt (tgt := 98) dX1_expand_82 (by decide) ?_ ?_
        · refine r_aload_n (x := a0) dX1_expand_98 rfl rfl ?_
          refine r_aload (x := p17) dX1_expand_99 rfl ?_
          refine r_ccVv (c := 4) (k2 := k_X1_stepOn) (n := 1) (rest := []) um_X1_99 rfl kv_X1_stepOn hc_X1 (by decide) (c_X1_stepOn hG _ _ _) (by decide) rfl (Nat.le_of_ble_eq_true rfl) dX1_expand_101 rfl (fun r19 C18 => ?_)
          refine r_lo [1, 2] (lo2 := [(0, .ref a0), (4, wi v4_45)]) rfl ?_
          exact hJ104  C18
        · refine r_aload_n (x := a0) dX1_expand_85 rfl rfl ?_
          refine r_dup dX1_expand_86 rfl ?_
          refine r_cgetI (c := 4) (kk := 9) hc_X1 rfl (by decide) inU_X1 (by decide) uf_X1_60 rfl (by decide) dX1_expand_87 ?_
          refine ro_iconst (v := 1) dX1_expand_90 rfl ?_
          refine r_isub dX1_expand_91 ?_
          refine r_cputI (c := 4) (kk := 9) hc_X1 rfl (by decide) inU_X1 (by decide) uf_X1_60 rfl tyX1 tyX1_ok nmX1 (fty := .int) (by decide) rfl rfl rfl rfl dX1_expand_92 (fun C20 _ _ => ?_)
          refine r_goto (tgt := 104) dX1_expand_95 (by decide) ?_
          refine r_lo [1, 2] (lo2 := [(0, .ref a0), (4, wi v4_45)]) rfl ?_
          exact hJ104  C20
  refine r_lo [1, 0] (lo2 := [(0, .ref a0), (4, wi 0)]) rfl ?_
  exact hJ45 0 C12
def k_X4_init : Kd := (yX4_init, cX4_init, 1, none, [])
theorem kv_X4_init : KI k_X4_init 0 := ⟨uw_mem 173 (by decide +kernel) rfl, uw_mem 97 (by decide +kernel) rfl, uw_mem 172 (by decide +kernel) rfl, ⟨rfl, rfl⟩, ⟨by decide +kernel, by decide +kernel⟩, by decide +kernel, by decide +kernel⟩
set_option maxHeartbeats 8000000 in
set_option maxRecDepth 100000 in
theorem c_X4_init {l : Launch} {Γ : Cx} {M0 : Md} (hG : GK Γ l) (a0 : Nat) (C : Cd) : Ct l Γ k_X4_init 2 encV (emC M0) [.ref a0] C (fX4_init a0 C) := by
  refine ct_of (by decide +kernel) rfl (Nat.le_of_ble_eq_true rfl) ?_
  refine r_lo [0] (lo2 := [(0, .ref a0)]) rfl ?_
  unfold fX4_init
  refine r_aload_n (x := a0) dX4_init_0 rfl rfl ?_
  refine r_objInit (by decide) uo_X4_1 uoi uoc (Nat.le_of_ble_eq_true rfl) dX4_init_1 ?_
  refine r_aload_n (x := a0) dX4_init_4 rfl rfl ?_
  refine r_cnew (c := 8) hc_X5 rfl (by decide) inU_X5 tyX5 tyX5_ok hfs_X5 un_X4_7.1 un_X4_7.2.1 un_X4_7.2.2 dX4_init_5 (fun C1 _ => ?_)
  refine r_dup dX4_init_8 rfl ?_
  refine r_ccINv (k2 := k_X5_init) (n := 0) (rest := [.ref (csz C), .ref a0]) hG um_X4_9 rfl kv_X5_init (c_X5_init hG _ _) (by decide) rfl (Nat.le_of_ble_eq_true rfl) dX4_init_9 rfl (fun r3 C2 => ?_)
  refine r_cputRF (c := 7) (kk := 0) hc_X4 rfl (by decide) inU_X4 (by decide) uf_X4_10 rfl tyX4 tyX4_ok nmX4 (x := (some (csz C))) (fty := .object "Weaveword$Row") (by decide) rfl rfl rfl (by decide +kernel) ⟨_, Or.inl rfl⟩ dX4_init_12 (fun C4 _ _ => ?_)
  refine r_aload_n (x := a0) dX4_init_15 rfl rfl ?_
  refine ro_iconst (v := 0) dX4_init_16 rfl ?_
  refine r_cputI (c := 7) (kk := 1) hc_X4 rfl (by decide) inU_X4 (by decide) uf_X4_16 rfl tyX4 tyX4_ok nmX4 (fty := .boolean) (by decide) rfl rfl rfl rfl dX4_init_17 (fun C5 _ _ => ?_)
  refine r_aload_n (x := a0) dX4_init_20 rfl rfl ?_
  refine ro_iconst (v := 0) dX4_init_21 rfl ?_
  refine r_cputI (c := 7) (kk := 2) hc_X4 rfl (by decide) inU_X4 (by decide) uf_X4_20 rfl tyX4 tyX4_ok nmX4 (fty := .boolean) (by decide) rfl rfl rfl rfl dX4_init_22 (fun C6 _ _ => ?_)
  refine r_aload_n (x := a0) dX4_init_25 rfl rfl ?_
  refine ro_iconst (v := 0) dX4_init_26 rfl ?_
  refine r_cputI (c := 7) (kk := 3) hc_X4 rfl (by decide) inU_X4 (by decide) uf_X4_23 rfl tyX4 tyX4_ok nmX4 (fty := .int) (by decide) rfl rfl rfl rfl dX4_init_27 (fun C7 _ _ => ?_)
  refine r_aload_n (x := a0) dX4_init_30 rfl rfl ?_
  refine ro_iconst (v := 0) dX4_init_31 rfl ?_
  refine r_cputI (c := 7) (kk := 4) hc_X4 rfl (by decide) inU_X4 (by decide) uf_X4_27 rfl tyX4 tyX4_ok nmX4 (fty := .int) (by decide) rfl rfl rfl rfl dX4_init_32 (fun C8 _ _ => ?_)
  refine r_aload_n (x := a0) dX4_init_35 rfl rfl ?_
  refine ro_iconst (v := 0) dX4_init_36 rfl ?_
  refine r_cputI (c := 7) (kk := 5) hc_X4 rfl (by decide) inU_X4 (by decide) uf_X4_30 rfl tyX4 tyX4_ok nmX4 (fty := .int) (by decide) rfl rfl rfl rfl dX4_init_37 (fun C9 _ _ => ?_)
  refine r_aload_n (x := a0) dX4_init_40 rfl rfl ?_
  refine ro_iconst (v := 0) dX4_init_41 rfl ?_
  refine r_cputI (c := 7) (kk := 6) hc_X4 rfl (by decide) inU_X4 (by decide) uf_X4_33 rfl tyX4 tyX4_ok nmX4 (fty := .int) (by decide) rfl rfl rfl rfl dX4_init_42 (fun C10 _ _ => ?_)
  refine r_aload_n (x := a0) dX4_init_45 rfl rfl ?_
  refine ro_iconst (v := 0) dX4_init_46 rfl ?_
  refine r_cputI (c := 7) (kk := 7) hc_X4 rfl (by decide) inU_X4 (by decide) uf_X4_36 rfl tyX4 tyX4_ok nmX4 (fty := .int) (by decide) rfl rfl rfl rfl dX4_init_47 (fun C11 _ _ => ?_)
  exact r_vret rfl dX4_init_50
def k_X9_init : Kd := (yX9_init, cX9_init, 1, none, [])
theorem kv_X9_init : KI k_X9_init 0 := ⟨uw_mem 220 (by decide +kernel) rfl, uw_mem 98 (by decide +kernel) rfl, uw_mem 219 (by decide +kernel) rfl, ⟨rfl, rfl⟩, ⟨by decide +kernel, by decide +kernel⟩, by decide +kernel, by decide +kernel⟩
set_option maxHeartbeats 8000000 in
set_option maxRecDepth 100000 in
theorem c_X9_init {l : Launch} {Γ : Cx} {M0 : Md} (hG : GK Γ l) (a0 : Nat) (C : Cd) : Ct l Γ k_X9_init 3 encV (emC M0) [.ref a0] C (fX9_init a0 C) := by
  refine ct_of (by decide +kernel) rfl (Nat.le_of_ble_eq_true rfl) ?_
  refine r_lo [0] (lo2 := [(0, .ref a0)]) rfl ?_
  unfold fX9_init
  refine r_aload_n (x := a0) dX9_init_0 rfl rfl ?_
  refine r_objInit (by decide) uo_X9_3 uoi uoc (Nat.le_of_ble_eq_true rfl) dX9_init_1 ?_
  refine r_aload_n (x := a0) dX9_init_4 rfl rfl ?_
  refine r_cnew (c := 7) hc_X4 rfl (by decide) inU_X4 tyX4 tyX4_ok hfs_X4 un_X9_9.1 un_X9_9.2.1 un_X9_9.2.2 dX9_init_5 (fun C1 _ => ?_)
  refine r_dup dX9_init_8 rfl ?_
  refine r_ccINv (k2 := k_X4_init) (n := 0) (rest := [.ref (csz C), .ref a0]) hG um_X9_11 rfl kv_X4_init (c_X4_init hG _ _) (by decide) rfl (Nat.le_of_ble_eq_true rfl) dX9_init_9 rfl (fun r3 C2 => ?_)
  refine r_cputRF (c := 12) (kk := 0) hc_X9 rfl (by decide) inU_X9 (by decide) uf_X9_12 rfl tyX9 tyX9_ok nmX9 (x := (some (csz C))) (fty := .object "Weaveword$Rendering") (by decide) rfl rfl rfl (by decide +kernel) ⟨_, Or.inl rfl⟩ dX9_init_12 (fun C4 _ _ => ?_)
  refine r_aload_n (x := a0) dX9_init_15 rfl rfl ?_
  refine ro_iconst (v := 3) dX9_init_16 rfl ?_
  refine r_cnewAI ua_I dX9_init_17 (fun C5 _ => ?_)
  refine r_dup dX9_init_19 rfl ?_
  refine ro_iconst (v := 0) dX9_init_20 rfl ?_
  refine ro_iconst (v := (-1)) dX9_init_21 rfl ?_
  refine r_ciast dX9_init_22 (fun C6 _ _ => ?_)
  refine r_dup dX9_init_23 rfl ?_
  refine ro_iconst (v := 1) dX9_init_24 rfl ?_
  refine ro_iconst (v := (-1)) dX9_init_25 rfl ?_
  refine r_ciast dX9_init_26 (fun C7 _ _ => ?_)
  refine r_dup dX9_init_27 rfl ?_
  refine ro_iconst (v := 2) dX9_init_28 rfl ?_
  refine ro_iconst (v := (-1)) dX9_init_29 rfl ?_
  refine r_ciast dX9_init_30 (fun C8 _ _ => ?_)
  refine r_cputRF (c := 12) (kk := 1) hc_X9 rfl (by decide) inU_X9 (by decide) uf_X9_18 rfl tyX9 tyX9_ok nmX9 (x := (some (csz C4))) (fty := tyX9 1) (by decide) rfl rfl rfl (by decide +kernel) ⟨"", Or.inr ⟨_, rfl⟩⟩ dX9_init_31 (fun C9 _ _ => ?_)
  refine r_aload_n (x := a0) dX9_init_34 rfl rfl ?_
  refine ro_iconst (v := 3) dX9_init_35 rfl ?_
  refine r_cnewAI ua_I dX9_init_36 (fun C10 _ => ?_)
  refine r_dup dX9_init_38 rfl ?_
  refine ro_iconst (v := 0) dX9_init_39 rfl ?_
  refine ro_iconst (v := (-1)) dX9_init_40 rfl ?_
  refine r_ciast dX9_init_41 (fun C11 _ _ => ?_)
  refine r_dup dX9_init_42 rfl ?_
  refine ro_iconst (v := 1) dX9_init_43 rfl ?_
  refine ro_iconst (v := (-1)) dX9_init_44 rfl ?_
  refine r_ciast dX9_init_45 (fun C12 _ _ => ?_)
  refine r_dup dX9_init_46 rfl ?_
  refine ro_iconst (v := 2) dX9_init_47 rfl ?_
  refine ro_iconst (v := (-1)) dX9_init_48 rfl ?_
  refine r_ciast dX9_init_49 (fun C13 _ _ => ?_)
  refine r_cputRF (c := 12) (kk := 2) hc_X9 rfl (by decide) inU_X9 (by decide) uf_X9_22 rfl tyX9 tyX9_ok nmX9 (x := (some (csz C9))) (fty := tyX9 2) (by decide) rfl rfl rfl (by decide +kernel) ⟨"", Or.inr ⟨_, rfl⟩⟩ dX9_init_50 (fun C14 _ _ => ?_)
  refine r_aload_n (x := a0) dX9_init_53 rfl rfl ?_
  refine r_null dX9_init_54 ?_
  refine r_cputR (c := 12) (kk := 3) hc_X9 rfl (by decide) inU_X9 (by decide) uf_X9_25 rfl tyX9 tyX9_ok nmX9 (x := none) (fty := .object "Weaveword$Page") (by decide) rfl (by decide +kernel) ⟨_, Or.inl rfl⟩ dX9_init_55 (fun C15 _ _ => ?_)
  refine r_aload_n (x := a0) dX9_init_58 rfl rfl ?_
  refine ro_iconst (v := 0) dX9_init_59 rfl ?_
  refine r_cputI (c := 12) (kk := 4) hc_X9 rfl (by decide) inU_X9 (by decide) uf_X9_29 rfl tyX9 tyX9_ok nmX9 (fty := .int) (by decide) rfl rfl rfl rfl dX9_init_60 (fun C16 _ _ => ?_)
  refine r_aload_n (x := a0) dX9_init_63 rfl rfl ?_
  refine ro_iconst (v := 0) dX9_init_64 rfl ?_
  refine r_cputI (c := 12) (kk := 5) hc_X9 rfl (by decide) inU_X9 (by decide) uf_X9_33 rfl tyX9 tyX9_ok nmX9 (fty := .int) (by decide) rfl rfl rfl rfl dX9_init_65 (fun C17 _ _ => ?_)
  exact r_vret rfl dX9_init_68
def k_X7_init : Kd := (yX7_init, cX7_init, 1, none, [])
theorem kv_X7_init : KI k_X7_init 0 := ⟨uw_mem 253 (by decide +kernel) rfl, uw_mem 99 (by decide +kernel) rfl, uw_mem 252 (by decide +kernel) rfl, ⟨rfl, rfl⟩, ⟨by decide +kernel, by decide +kernel⟩, by decide +kernel, by decide +kernel⟩
set_option maxHeartbeats 8000000 in
set_option maxRecDepth 100000 in
theorem c_X7_init {l : Launch} {Γ : Cx} {M0 : Md} (hG : GK Γ l) (a0 : Nat) (C : Cd) : Ct l Γ k_X7_init 1 encV (emC M0) [.ref a0] C (fX7_init a0 C) := by
  refine ct_of (by decide +kernel) rfl (Nat.le_of_ble_eq_true rfl) ?_
  refine r_lo [0] (lo2 := [(0, .ref a0)]) rfl ?_
  unfold fX7_init
  refine r_aload_n (x := a0) dX7_init_0 rfl rfl ?_
  refine r_objInit (by decide) uo_X7_3 uoi uoc (Nat.le_of_ble_eq_true rfl) dX7_init_1 ?_
  refine r_aload_n (x := a0) dX7_init_4 rfl rfl ?_
  refine r_bipush (v := 16) dX7_init_5 rfl ?_
  refine r_cnewAI ua_I dX7_init_7 (fun C1 _ => ?_)
  refine r_cputRF (c := 10) (kk := 0) hc_X7 rfl (by decide) inU_X7 (by decide) uf_X7_9 rfl tyX7 tyX7_ok nmX7 (x := (some (csz C))) (fty := tyX7 0) (by decide) rfl rfl rfl (by decide +kernel) ⟨"", Or.inr ⟨_, rfl⟩⟩ dX7_init_9 (fun C2 _ _ => ?_)
  refine r_aload_n (x := a0) dX7_init_12 rfl rfl ?_
  refine r_bipush (v := 16) dX7_init_13 rfl ?_
  refine r_cnewAI ua_I dX7_init_15 (fun C3 _ => ?_)
  refine r_cputRF (c := 10) (kk := 1) hc_X7 rfl (by decide) inU_X7 (by decide) uf_X7_15 rfl tyX7 tyX7_ok nmX7 (x := (some (csz C2))) (fty := tyX7 1) (by decide) rfl rfl rfl (by decide +kernel) ⟨"", Or.inr ⟨_, rfl⟩⟩ dX7_init_17 (fun C4 _ _ => ?_)
  refine r_aload_n (x := a0) dX7_init_20 rfl rfl ?_
  refine ro_iconst (v := 0) dX7_init_21 rfl ?_
  refine r_cputI (c := 10) (kk := 2) hc_X7 rfl (by decide) inU_X7 (by decide) uf_X7_18 rfl tyX7 tyX7_ok nmX7 (fty := .int) (by decide) rfl rfl rfl rfl dX7_init_22 (fun C5 _ _ => ?_)
  exact r_vret rfl dX7_init_25
def k_X2_init : Kd := (yX2_init, cX2_init, 1, none, [])
theorem kv_X2_init : KI k_X2_init 0 := ⟨uw_mem 268 (by decide +kernel) rfl, uw_mem 100 (by decide +kernel) rfl, uw_mem 267 (by decide +kernel) rfl, ⟨rfl, rfl⟩, ⟨by decide +kernel, by decide +kernel⟩, by decide +kernel, by decide +kernel⟩
set_option maxHeartbeats 8000000 in
set_option maxRecDepth 100000 in
theorem c_X2_init {l : Launch} {Γ : Cx} {M0 : Md} (hG : GK Γ l) (a0 : Nat) (C : Cd) : Ct l Γ k_X2_init 1 encV (emC M0) [.ref a0] C (fX2_init a0 C) := by
  refine ct_of (by decide +kernel) rfl (Nat.le_of_ble_eq_true rfl) ?_
  refine r_lo [0] (lo2 := [(0, .ref a0)]) rfl ?_
  unfold fX2_init
  refine r_aload_n (x := a0) dX2_init_0 rfl rfl ?_
  refine r_objInit (by decide) uo_X2_3 uoi uoc (Nat.le_of_ble_eq_true rfl) dX2_init_1 ?_
  refine r_aload_n (x := a0) dX2_init_4 rfl rfl ?_
  refine r_bipush (v := 10) dX2_init_5 rfl ?_
  refine r_cnewAI ua_I dX2_init_7 (fun C1 _ => ?_)
  refine r_cputRF (c := 5) (kk := 0) hc_X2 rfl (by decide) inU_X2 (by decide) uf_X2_9 rfl tyX2 tyX2_ok nmX2 (x := (some (csz C))) (fty := tyX2 0) (by decide) rfl rfl rfl (by decide +kernel) ⟨"", Or.inr ⟨_, rfl⟩⟩ dX2_init_9 (fun C2 _ _ => ?_)
  refine r_aload_n (x := a0) dX2_init_12 rfl rfl ?_
  refine r_bipush (v := 30) dX2_init_13 rfl ?_
  refine r_cnewQ (t := 106) rfl (by decide) (by decide) hG uq_X2_15.1 uq_X2_15.2 dX2_init_15 (fun C3 _ => ?_)
  refine r_cputRF (c := 5) (kk := 1) hc_X2 rfl (by decide) inU_X2 (by decide) uf_X2_17 rfl tyX2 tyX2_ok nmX2 (x := (some (csz C2))) (fty := tyX2 1) (by decide) rfl rfl rfl (by decide +kernel) ⟨"", Or.inr ⟨_, rfl⟩⟩ dX2_init_18 (fun C4 _ _ => ?_)
  refine r_aload_n (x := a0) dX2_init_21 rfl rfl ?_
  refine r_bipush (v := 30) dX2_init_22 rfl ?_
  refine r_cnewAZ ua_Z dX2_init_24 (fun C5 _ => ?_)
  refine r_cputRF (c := 5) (kk := 2) hc_X2 rfl (by decide) inU_X2 (by decide) uf_X2_21 rfl tyX2 tyX2_ok nmX2 (x := (some (csz C4))) (fty := tyX2 2) (by decide) rfl rfl rfl (by decide +kernel) ⟨"", Or.inr ⟨_, rfl⟩⟩ dX2_init_26 (fun C6 _ _ => ?_)
  refine r_aload_n (x := a0) dX2_init_29 rfl rfl ?_
  refine r_null dX2_init_30 ?_
  refine r_cputR (c := 5) (kk := 3) hc_X2 rfl (by decide) inU_X2 (by decide) uf_X2_25 rfl tyX2 tyX2_ok nmX2 (x := none) (fty := .object "Weaveword$Frame") (by decide) rfl (by decide +kernel) ⟨_, Or.inl rfl⟩ dX2_init_31 (fun C7 _ _ => ?_)
  refine r_aload_n (x := a0) dX2_init_34 rfl rfl ?_
  refine r_null dX2_init_35 ?_
  refine r_cputR (c := 5) (kk := 4) hc_X2 rfl (by decide) inU_X2 (by decide) uf_X2_29 rfl tyX2 tyX2_ok nmX2 (x := none) (fty := .object "Weaveword$Text") (by decide) rfl (by decide +kernel) ⟨_, Or.inl rfl⟩ dX2_init_36 (fun C8 _ _ => ?_)
  refine r_aload_n (x := a0) dX2_init_39 rfl rfl ?_
  refine ro_iconst (v := (-1)) dX2_init_40 rfl ?_
  refine r_cputI (c := 5) (kk := 5) hc_X2 rfl (by decide) inU_X2 (by decide) uf_X2_33 rfl tyX2 tyX2_ok nmX2 (fty := .int) (by decide) rfl rfl rfl rfl dX2_init_41 (fun C9 _ _ => ?_)
  refine r_aload_n (x := a0) dX2_init_44 rfl rfl ?_
  refine ro_iconst (v := 0) dX2_init_45 rfl ?_
  refine r_cputI (c := 5) (kk := 6) hc_X2 rfl (by decide) inU_X2 (by decide) uf_X2_37 rfl tyX2 tyX2_ok nmX2 (fty := .int) (by decide) rfl rfl rfl rfl dX2_init_46 (fun C10 _ _ => ?_)
  exact r_vret rfl dX2_init_49
def k_X6_init : Kd := (yX6_init, cX6_init, 1, none, [])
theorem kv_X6_init : KI k_X6_init 0 := ⟨uw_mem 303 (by decide +kernel) rfl, uw_mem 101 (by decide +kernel) rfl, uw_mem 302 (by decide +kernel) rfl, ⟨rfl, rfl⟩, ⟨by decide +kernel, by decide +kernel⟩, by decide +kernel, by decide +kernel⟩
set_option maxHeartbeats 8000000 in
set_option maxRecDepth 100000 in
theorem c_X6_init {l : Launch} {Γ : Cx} {M0 : Md} (hG : GK Γ l) (a0 : Nat) (C : Cd) : Ct l Γ k_X6_init 1 encV (emC M0) [.ref a0] C (fX6_init a0 C) := by
  refine ct_of (by decide +kernel) rfl (Nat.le_of_ble_eq_true rfl) ?_
  refine r_lo [0] (lo2 := [(0, .ref a0)]) rfl ?_
  unfold fX6_init
  refine r_aload_n (x := a0) dX6_init_0 rfl rfl ?_
  refine r_objInit (by decide) uo_X6_1 uoi uoc (Nat.le_of_ble_eq_true rfl) dX6_init_1 ?_
  refine r_aload_n (x := a0) dX6_init_4 rfl rfl ?_
  refine r_null dX6_init_5 ?_
  refine r_cputR (c := 9) (kk := 0) hc_X6 rfl (by decide) inU_X6 (by decide) uf_X6_7 rfl tyX6 tyX6_ok nmX6 (x := none) (fty := .object "Weaveword$Frame") (by decide) rfl (by decide +kernel) ⟨_, Or.inl rfl⟩ dX6_init_6 (fun C1 _ _ => ?_)
  refine r_aload_n (x := a0) dX6_init_9 rfl rfl ?_
  refine r_null dX6_init_10 ?_
  refine r_cputR (c := 9) (kk := 1) hc_X6 rfl (by decide) inU_X6 (by decide) uf_X6_13 rfl tyX6 tyX6_ok nmX6 (x := none) (fty := .object "Weaveword$Row") (by decide) rfl (by decide +kernel) ⟨_, Or.inl rfl⟩ dX6_init_11 (fun C2 _ _ => ?_)
  refine r_aload_n (x := a0) dX6_init_14 rfl rfl ?_
  refine ro_iconst (v := 0) dX6_init_15 rfl ?_
  refine r_cputI (c := 9) (kk := 2) hc_X6 rfl (by decide) inU_X6 (by decide) uf_X6_17 rfl tyX6 tyX6_ok nmX6 (fty := .int) (by decide) rfl rfl rfl rfl dX6_init_16 (fun C3 _ _ => ?_)
  refine r_aload_n (x := a0) dX6_init_19 rfl rfl ?_
  refine ro_iconst (v := 0) dX6_init_20 rfl ?_
  refine r_cputI (c := 9) (kk := 3) hc_X6 rfl (by decide) inU_X6 (by decide) uf_X6_21 rfl tyX6 tyX6_ok nmX6 (fty := .int) (by decide) rfl rfl rfl rfl dX6_init_21 (fun C4 _ _ => ?_)
  exact r_vret rfl dX6_init_24
def k_X1_init : Kd := (yX1_init, cX1_init, 2, none, [])
theorem kv_X1_init : KI k_X1_init 0 := ⟨uw_mem 140 (by decide +kernel) rfl, uw_mem 95 (by decide +kernel) rfl, uw_mem 139 (by decide +kernel) rfl, ⟨rfl, rfl⟩, ⟨by decide +kernel, by decide +kernel⟩, by decide +kernel, by decide +kernel⟩
set_option maxHeartbeats 8000000 in
set_option maxRecDepth 100000 in
theorem c_X1_init {l : Launch} {Γ : Cx} {M0 : Md} (hG : GK Γ l) (a0 : Nat) (C : Cd) : Ct l Γ k_X1_init 4 encV (emC M0) [.ref a0] C (fX1_init a0 C) := by
  refine ct_of (by decide +kernel) rfl (Nat.le_of_ble_eq_true rfl) ?_
  refine r_lo [0] (lo2 := [(0, .ref a0)]) rfl ?_
  unfold fX1_init
  refine r_aload_n (x := a0) dX1_init_0 rfl rfl ?_
  refine r_objInit (by decide) uo_X1_3 uoi uoc (Nat.le_of_ble_eq_true rfl) dX1_init_1 ?_
  refine r_aload_n (x := a0) dX1_init_4 rfl rfl ?_
  refine r_bipush (v := 24) dX1_init_5 rfl ?_
  refine r_cnewQ (t := 102) rfl (by decide) (by decide) hG uq_X1_9.1 uq_X1_9.2 dX1_init_7 (fun C1 _ => ?_)
  refine r_cputRF (c := 4) (kk := 0) hc_X1 rfl (by decide) inU_X1 (by decide) uf_X1_11 rfl tyX1 tyX1_ok nmX1 (x := (some (csz C))) (fty := tyX1 0) (by decide) rfl rfl rfl (by decide +kernel) ⟨"", Or.inr ⟨_, rfl⟩⟩ dX1_init_10 (fun C2 _ _ => ?_)
  refine r_aload_n (x := a0) dX1_init_13 rfl rfl ?_
  refine ro_iconst (v := 4) dX1_init_14 rfl ?_
  refine r_cnewQ (t := 103) rfl (by decide) (by decide) hG uq_X1_17.1 uq_X1_17.2 dX1_init_15 (fun C3 _ => ?_)
  refine r_cputRF (c := 4) (kk := 1) hc_X1 rfl (by decide) inU_X1 (by decide) uf_X1_19 rfl tyX1 tyX1_ok nmX1 (x := (some (csz C2))) (fty := tyX1 1) (by decide) rfl rfl rfl (by decide +kernel) ⟨"", Or.inr ⟨_, rfl⟩⟩ dX1_init_18 (fun C4 _ _ => ?_)
  refine r_aload_n (x := a0) dX1_init_21 rfl rfl ?_
  refine r_bipush (v := 41) dX1_init_22 rfl ?_
  refine r_cnewQ (t := 104) rfl (by decide) (by decide) hG uq_X1_23.1 uq_X1_23.2 dX1_init_24 (fun C5 _ => ?_)
  refine r_cputRF (c := 4) (kk := 2) hc_X1 rfl (by decide) inU_X1 (by decide) uf_X1_25 rfl tyX1 tyX1_ok nmX1 (x := (some (csz C4))) (fty := tyX1 2) (by decide) rfl rfl rfl (by decide +kernel) ⟨"", Or.inr ⟨_, rfl⟩⟩ dX1_init_27 (fun C6 _ _ => ?_)
  refine r_aload_n (x := a0) dX1_init_30 rfl rfl ?_
  refine r_sipush (v := 512) dX1_init_31 rfl ?_
  refine r_cnewQ (t := 105) rfl (by decide) (by decide) hG uq_X1_29.1 uq_X1_29.2 dX1_init_34 (fun C7 _ => ?_)
  refine r_cputRF (c := 4) (kk := 3) hc_X1 rfl (by decide) inU_X1 (by decide) uf_X1_31 rfl tyX1 tyX1_ok nmX1 (x := (some (csz C6))) (fty := tyX1 3) (by decide) rfl rfl rfl (by decide +kernel) ⟨"", Or.inr ⟨_, rfl⟩⟩ dX1_init_37 (fun C8 _ _ => ?_)
  refine r_aload_n (x := a0) dX1_init_40 rfl rfl ?_
  refine r_cnew (c := 8) hc_X5 rfl (by decide) inU_X5 tyX5 tyX5_ok hfs_X5 un_X1_35.1 un_X1_35.2.1 un_X1_35.2.2 dX1_init_41 (fun C9 _ => ?_)
  refine r_dup dX1_init_44 rfl ?_
  refine r_ccINv (k2 := k_X5_init) (n := 0) (rest := [.ref (csz C8), .ref a0]) hG um_X1_37 rfl kv_X5_init (c_X5_init hG _ _) (by decide) rfl (Nat.le_of_ble_eq_true rfl) dX1_init_45 rfl (fun r11 C10 => ?_)
  refine r_cputRF (c := 4) (kk := 4) hc_X1 rfl (by decide) inU_X1 (by decide) uf_X1_38 rfl tyX1 tyX1_ok nmX1 (x := (some (csz C8))) (fty := .object "Weaveword$Row") (by decide) rfl rfl rfl (by decide +kernel) ⟨_, Or.inl rfl⟩ dX1_init_48 (fun C12 _ _ => ?_)
  refine r_aload_n (x := a0) dX1_init_51 rfl rfl ?_
  refine r_bipush (v := 8) dX1_init_52 rfl ?_
  refine r_cnewAI ua_I dX1_init_54 (fun C13 _ => ?_)
  refine r_cputRF (c := 4) (kk := 5) hc_X1 rfl (by decide) inU_X1 (by decide) uf_X1_42 rfl tyX1 tyX1_ok nmX1 (x := (some (csz C12))) (fty := tyX1 5) (by decide) rfl rfl rfl (by decide +kernel) ⟨"", Or.inr ⟨_, rfl⟩⟩ dX1_init_56 (fun C14 _ _ => ?_)
  refine r_aload_n (x := a0) dX1_init_59 rfl rfl ?_
  refine r_bipush (v := 30) dX1_init_60 rfl ?_
  refine r_cnewAI ua_I dX1_init_62 (fun C15 _ => ?_)
  refine r_cputRF (c := 4) (kk := 6) hc_X1 rfl (by decide) inU_X1 (by decide) uf_X1_46 rfl tyX1 tyX1_ok nmX1 (x := (some (csz C14))) (fty := tyX1 6) (by decide) rfl rfl rfl (by decide +kernel) ⟨"", Or.inr ⟨_, rfl⟩⟩ dX1_init_64 (fun C16 _ _ => ?_)
  refine r_aload_n (x := a0) dX1_init_67 rfl rfl ?_
  refine r_cnew (c := 7) hc_X4 rfl (by decide) inU_X4 tyX4 tyX4_ok hfs_X4 un_X1_49.1 un_X1_49.2.1 un_X1_49.2.2 dX1_init_68 (fun C17 _ => ?_)
  refine r_dup dX1_init_71 rfl ?_
  refine r_ccINv (k2 := k_X4_init) (n := 0) (rest := [.ref (csz C16), .ref a0]) hG um_X1_51 rfl kv_X4_init (c_X4_init hG _ _) (by decide) rfl (Nat.le_of_ble_eq_true rfl) dX1_init_72 rfl (fun r19 C18 => ?_)
  refine r_cputRF (c := 4) (kk := 7) hc_X1 rfl (by decide) inU_X1 (by decide) uf_X1_52 rfl tyX1 tyX1_ok nmX1 (x := (some (csz C16))) (fty := .object "Weaveword$Rendering") (by decide) rfl rfl rfl (by decide +kernel) ⟨_, Or.inl rfl⟩ dX1_init_75 (fun C20 _ _ => ?_)
  refine r_aload_n (x := a0) dX1_init_78 rfl rfl ?_
  refine ro_iconst (v := 0) dX1_init_79 rfl ?_
  refine r_cputI (c := 4) (kk := 8) hc_X1 rfl (by decide) inU_X1 (by decide) uf_X1_56 rfl tyX1 tyX1_ok nmX1 (fty := .int) (by decide) rfl rfl rfl rfl dX1_init_80 (fun C21 _ _ => ?_)
  refine r_aload_n (x := a0) dX1_init_83 rfl rfl ?_
  refine ro_iconst (v := 0) dX1_init_84 rfl ?_
  refine r_cputI (c := 4) (kk := 9) hc_X1 rfl (by decide) inU_X1 (by decide) uf_X1_60 rfl tyX1 tyX1_ok nmX1 (fty := .int) (by decide) rfl rfl rfl rfl dX1_init_85 (fun C22 _ _ => ?_)
  refine r_aload_n (x := a0) dX1_init_88 rfl rfl ?_
  refine ro_iconst (v := 0) dX1_init_89 rfl ?_
  refine r_cputI (c := 4) (kk := 10) hc_X1 rfl (by decide) inU_X1 (by decide) uf_X1_63 rfl tyX1 tyX1_ok nmX1 (fty := .int) (by decide) rfl rfl rfl rfl dX1_init_90 (fun C23 _ _ => ?_)
  refine r_aload_n (x := a0) dX1_init_93 rfl rfl ?_
  refine ro_iconst (v := (-1)) dX1_init_94 rfl ?_
  refine r_cputI (c := 4) (kk := 11) hc_X1 rfl (by decide) inU_X1 (by decide) uf_X1_66 rfl tyX1 tyX1_ok nmX1 (fty := .int) (by decide) rfl rfl rfl rfl dX1_init_95 (fun C24 _ _ => ?_)
  refine r_aload_n (x := a0) dX1_init_98 rfl rfl ?_
  refine ro_iconst (v := 0) dX1_init_99 rfl ?_
  refine r_cputI (c := 4) (kk := 12) hc_X1 rfl (by decide) inU_X1 (by decide) uf_X1_69 rfl tyX1 tyX1_ok nmX1 (fty := .int) (by decide) rfl rfl rfl rfl dX1_init_100 (fun C25 _ _ => ?_)
  refine r_aload_n (x := a0) dX1_init_103 rfl rfl ?_
  refine ro_iconst (v := 0) dX1_init_104 rfl ?_
  refine r_cputI (c := 4) (kk := 13) hc_X1 rfl (by decide) inU_X1 (by decide) uf_X1_72 rfl tyX1 tyX1_ok nmX1 (fty := .int) (by decide) rfl rfl rfl rfl dX1_init_105 (fun C26 _ _ => ?_)
  refine r_aload_n (x := a0) dX1_init_108 rfl rfl ?_
  refine ro_iconst (v := (-1)) dX1_init_109 rfl ?_
  refine r_cputI (c := 4) (kk := 14) hc_X1 rfl (by decide) inU_X1 (by decide) uf_X1_75 rfl tyX1 tyX1_ok nmX1 (fty := .int) (by decide) rfl rfl rfl rfl dX1_init_110 (fun C27 _ _ => ?_)
  refine ro_iconst (v := 0) dX1_init_113 rfl ?_
  refine r_istore_n (lo2 := [(1, wi 0), (0, .ref a0)]) dX1_init_114 rfl (by decide) rfl ?_
  refine r_loop (P := fun (J : Int → Cd → Option (Unit × Cd)) => ∀ (v1_115 : Int) (C_115 : Cd), RunO l Γ k_X1_init 4 encV (emC M0) 115 [(0, .ref a0), (1, wi v1_115)] [] C_115 (J v1_115 C_115)) ?_ (fun L115 hL115 => ?_) (fun J115 hJ115 => ?_)
  · intros; exact ro_none
  · intro v1_115 C_115
    refine r_iload_n (x := v1_115) dX1_init_115 rfl rfl ?_
    refine r_aload_n (x := a0) dX1_init_116 rfl rfl ?_
    refine r_cgetR (c := 4) (kk := 0) hc_X1 rfl (by decide) inU_X1 (by decide) uf_X1_11 rfl (by decide) dX1_init_117 (fun z28 => ?_)
    refine r_dref (fun p29 hp29 => ?_)
    subst hp29
    refine r_calen (t := 102) rfl (by decide) dX1_init_120 ?_
    refine r_icmp_ge (tgt := 143) dX1_init_121 (by decide) ?_ ?_
    · refine ro_iconst (v := 0) dX1_init_143 rfl ?_
      refine r_istore_n (lo2 := [(1, wi 0), (0, .ref a0)]) dX1_init_144 rfl (by decide) rfl ?_
      refine r_loop (P := fun (J : Int → Cd → Option (Unit × Cd)) => ∀ (v1_145 : Int) (C_145 : Cd), RunO l Γ k_X1_init 4 encV (emC M0) 145 [(0, .ref a0), (1, wi v1_145)] [] C_145 (J v1_145 C_145)) ?_ (fun L145 hL145 => ?_) (fun J145 hJ145 => ?_)
      · intros; exact ro_none
      · intro v1_145 C_145
        refine r_iload_n (x := v1_145) dX1_init_145 rfl rfl ?_
        refine r_aload_n (x := a0) dX1_init_146 rfl rfl ?_
        refine r_cgetR (c := 4) (kk := 1) hc_X1 rfl (by decide) inU_X1 (by decide) uf_X1_19 rfl (by decide) dX1_init_147 (fun z30 => ?_)
        refine r_dref (fun p31 hp31 => ?_)
        subst hp31
        refine r_calen (t := 103) rfl (by decide) dX1_init_150 ?_
        refine r_icmp_ge (tgt := 173) dX1_init_151 (by decide) ?_ ?_
        · refine ro_iconst (v := 0) dX1_init_173 rfl ?_
          refine r_istore_n (lo2 := [(1, wi 0), (0, .ref a0)]) dX1_init_174 rfl (by decide) rfl ?_
          refine r_loop (P := fun (J : Int → Cd → Option (Unit × Cd)) => ∀ (v1_175 : Int) (C_175 : Cd), RunO l Γ k_X1_init 4 encV (emC M0) 175 [(0, .ref a0), (1, wi v1_175)] [] C_175 (J v1_175 C_175)) ?_ (fun L175 hL175 => ?_) (fun J175 hJ175 => ?_)
          · intros; exact ro_none
          · intro v1_175 C_175
            refine r_iload_n (x := v1_175) dX1_init_175 rfl rfl ?_
            refine r_aload_n (x := a0) dX1_init_176 rfl rfl ?_
            refine r_cgetR (c := 4) (kk := 2) hc_X1 rfl (by decide) inU_X1 (by decide) uf_X1_25 rfl (by decide) dX1_init_177 (fun z32 => ?_)
            refine r_dref (fun p33 hp33 => ?_)
            subst hp33
            refine r_calen (t := 104) rfl (by decide) dX1_init_180 ?_
            refine r_icmp_ge (tgt := 203) dX1_init_181 (by decide) ?_ ?_
            · refine ro_iconst (v := 0) dX1_init_203 rfl ?_
              refine r_istore_n (lo2 := [(1, wi 0), (0, .ref a0)]) dX1_init_204 rfl (by decide) rfl ?_
              refine r_loop (P := fun (J : Int → Cd → Option (Unit × Cd)) => ∀ (v1_205 : Int) (C_205 : Cd), RunO l Γ k_X1_init 4 encV (emC M0) 205 [(0, .ref a0), (1, wi v1_205)] [] C_205 (J v1_205 C_205)) ?_ (fun L205 hL205 => ?_) (fun J205 hJ205 => ?_)
              · intros; exact ro_none
              · intro v1_205 C_205
                refine r_iload_n (x := v1_205) dX1_init_205 rfl rfl ?_
                refine r_aload_n (x := a0) dX1_init_206 rfl rfl ?_
                refine r_cgetR (c := 4) (kk := 3) hc_X1 rfl (by decide) inU_X1 (by decide) uf_X1_31 rfl (by decide) dX1_init_207 (fun z34 => ?_)
                refine r_dref (fun p35 hp35 => ?_)
                subst hp35
                refine r_calen (t := 105) rfl (by decide) dX1_init_210 ?_
                refine r_icmp_ge (tgt := 233) dX1_init_211 (by decide) ?_ ?_
                · exact r_vret rfl dX1_init_233
                · refine r_aload_n (x := a0) dX1_init_214 rfl rfl ?_
                  refine r_cgetR (c := 4) (kk := 3) hc_X1 rfl (by decide) inU_X1 (by decide) uf_X1_31 rfl (by decide) dX1_init_215 (fun z36 => ?_)
                  refine r_iload_n (x := v1_205) dX1_init_218 rfl rfl ?_
                  refine r_cnew (c := 9) hc_X6 rfl (by decide) inU_X6 tyX6 tyX6_ok hfs_X6 un_X1_29.1 un_X1_29.2.1 un_X1_29.2.2 dX1_init_219 (fun C37 _ => ?_)
                  refine r_dup dX1_init_222 rfl ?_
                  refine r_ccINv (k2 := k_X6_init) (n := 0) (rest := [.ref (csz C_205), wi v1_205, va_rf z36]) hG um_X1_81 rfl kv_X6_init (c_X6_init hG _ _) (by decide) rfl (by cases z36 <;> exact Nat.le_of_ble_eq_true rfl) dX1_init_223 rfl (fun r39 C38 => ?_)
                  refine r_dref (fun p40 hp40 => ?_)
                  subst hp40
                  refine r_caast (t := 105) (c := 9) hc_X6 (by decide) rfl (by decide) (by decide) dX1_init_226 (fun C41 _ _ => ?_)
                  refine r_iinc (x := v1_205) (lo2 := [(1, wi (v1_205 + 1)), (0, .ref a0)]) dX1_init_227 rfl (by decide) rfl ?_
                  refine r_goto (tgt := 205) dX1_init_230 (by decide) ?_
                  refine r_lo [1, 0] (lo2 := [(0, .ref a0), (1, wi (v1_205 + 1))]) rfl ?_
                  exact hL205 (v1_205 + 1) C41
              refine r_lo [1, 0] (lo2 := [(0, .ref a0), (1, wi 0)]) rfl ?_
              exact hJ205 0 C_175
            · refine r_aload_n (x := a0) dX1_init_184 rfl rfl ?_
              refine r_cgetR (c := 4) (kk := 2) hc_X1 rfl (by decide) inU_X1 (by decide) uf_X1_25 rfl (by decide) dX1_init_185 (fun z42 => ?_)
              refine r_iload_n (x := v1_175) dX1_init_188 rfl rfl ?_
              refine r_cnew (c := 5) hc_X2 rfl (by decide) inU_X2 tyX2 tyX2_ok hfs_X2 un_X1_23.1 un_X1_23.2.1 un_X1_23.2.2 dX1_init_189 (fun C43 _ => ?_)
              refine r_dup dX1_init_192 rfl ?_
              refine r_ccINv (k2 := k_X2_init) (n := 0) (rest := [.ref (csz C_175), wi v1_175, va_rf z42]) hG um_X1_80 rfl kv_X2_init (c_X2_init hG _ _) (by decide) rfl (by cases z42 <;> exact Nat.le_of_ble_eq_true rfl) dX1_init_193 rfl (fun r45 C44 => ?_)
              refine r_dref (fun p46 hp46 => ?_)
              subst hp46
              refine r_caast (t := 104) (c := 5) hc_X2 (by decide) rfl (by decide) (by decide) dX1_init_196 (fun C47 _ _ => ?_)
              refine r_iinc (x := v1_175) (lo2 := [(1, wi (v1_175 + 1)), (0, .ref a0)]) dX1_init_197 rfl (by decide) rfl ?_
              refine r_goto (tgt := 175) dX1_init_200 (by decide) ?_
              refine r_lo [1, 0] (lo2 := [(0, .ref a0), (1, wi (v1_175 + 1))]) rfl ?_
              exact hL175 (v1_175 + 1) C47
          refine r_lo [1, 0] (lo2 := [(0, .ref a0), (1, wi 0)]) rfl ?_
          exact hJ175 0 C_145
        · refine r_aload_n (x := a0) dX1_init_154 rfl rfl ?_
          refine r_cgetR (c := 4) (kk := 1) hc_X1 rfl (by decide) inU_X1 (by decide) uf_X1_19 rfl (by decide) dX1_init_155 (fun z48 => ?_)
          refine r_iload_n (x := v1_145) dX1_init_158 rfl rfl ?_
          refine r_cnew (c := 10) hc_X7 rfl (by decide) inU_X7 tyX7 tyX7_ok hfs_X7 un_X1_17.1 un_X1_17.2.1 un_X1_17.2.2 dX1_init_159 (fun C49 _ => ?_)
          refine r_dup dX1_init_162 rfl ?_
          refine r_ccINv (k2 := k_X7_init) (n := 0) (rest := [.ref (csz C_145), wi v1_145, va_rf z48]) hG um_X1_79 rfl kv_X7_init (c_X7_init hG _ _) (by decide) rfl (by cases z48 <;> exact Nat.le_of_ble_eq_true rfl) dX1_init_163 rfl (fun r51 C50 => ?_)
          refine r_dref (fun p52 hp52 => ?_)
          subst hp52
          refine r_caast (t := 103) (c := 10) hc_X7 (by decide) rfl (by decide) (by decide) dX1_init_166 (fun C53 _ _ => ?_)
          refine r_iinc (x := v1_145) (lo2 := [(1, wi (v1_145 + 1)), (0, .ref a0)]) dX1_init_167 rfl (by decide) rfl ?_
          refine r_goto (tgt := 145) dX1_init_170 (by decide) ?_
          refine r_lo [1, 0] (lo2 := [(0, .ref a0), (1, wi (v1_145 + 1))]) rfl ?_
          exact hL145 (v1_145 + 1) C53
      refine r_lo [1, 0] (lo2 := [(0, .ref a0), (1, wi 0)]) rfl ?_
      exact hJ145 0 C_115
    · refine r_aload_n (x := a0) dX1_init_124 rfl rfl ?_
      refine r_cgetR (c := 4) (kk := 0) hc_X1 rfl (by decide) inU_X1 (by decide) uf_X1_11 rfl (by decide) dX1_init_125 (fun z54 => ?_)
      refine r_iload_n (x := v1_115) dX1_init_128 rfl rfl ?_
      refine r_cnew (c := 12) hc_X9 rfl (by decide) inU_X9 tyX9 tyX9_ok hfs_X9 un_X1_9.1 un_X1_9.2.1 un_X1_9.2.2 dX1_init_129 (fun C55 _ => ?_)
      refine r_dup dX1_init_132 rfl ?_
      refine r_ccINv (k2 := k_X9_init) (n := 0) (rest := [.ref (csz C_115), wi v1_115, va_rf z54]) hG um_X1_78 rfl kv_X9_init (c_X9_init hG _ _) (by decide) rfl (by cases z54 <;> exact Nat.le_of_ble_eq_true rfl) dX1_init_133 rfl (fun r57 C56 => ?_)
      refine r_dref (fun p58 hp58 => ?_)
      subst hp58
      refine r_caast (t := 102) (c := 12) hc_X9 (by decide) rfl (by decide) (by decide) dX1_init_136 (fun C59 _ _ => ?_)
      refine r_iinc (x := v1_115) (lo2 := [(1, wi (v1_115 + 1)), (0, .ref a0)]) dX1_init_137 rfl (by decide) rfl ?_
      refine r_goto (tgt := 115) dX1_init_140 (by decide) ?_
      refine r_lo [1, 0] (lo2 := [(0, .ref a0), (1, wi (v1_115 + 1))]) rfl ?_
      exact hL115 (v1_115 + 1) C59
  refine r_lo [1, 0] (lo2 := [(0, .ref a0), (1, wi 0)]) rfl ?_
  exact hJ115 0 C27
def k_X3_indexOf : Kd := (yX3_indexOf, cX3_indexOf, 3, some .int, [])
theorem kv_X3_indexOf : KV k_X3_indexOf 1 := ⟨uw_mem 1002 (by decide +kernel) rfl, uw_mem 111 (by decide +kernel) rfl, uw_mem 1001 (by decide +kernel) rfl, uw_mem 66 (by decide +kernel) rfl, ⟨by decide +kernel, by decide +kernel⟩, by decide +kernel, by decide +kernel⟩
set_option maxHeartbeats 8000000 in
set_option maxRecDepth 100000 in
theorem c_X3_indexOf {l : Launch} {Γ : Cx} {M0 : Md} (hG : GK Γ l) (a0 : Nat) (a1 : Int) (C : Cd) : Ct l Γ k_X3_indexOf 5 encI (emC M0) [.ref a0, wi a1] C (fX3_indexOf a0 a1 C) := by
  refine ct_of (by decide +kernel) rfl (Nat.le_of_ble_eq_true rfl) ?_
  refine r_lo [0, 1] (lo2 := [(0, .ref a0), (1, wi a1)]) rfl ?_
  unfold fX3_indexOf
  refine ro_iconst (v := 0) dX3_indexOf_0 rfl ?_
  refine r_istore_n (lo2 := [(2, wi 0), (0, .ref a0), (1, wi a1)]) dX3_indexOf_1 rfl (by decide) rfl ?_
  refine r_loop (P := fun (J : Int → Cd → Option (Int × Cd)) => ∀ (v2_2 : Int) (C_2 : Cd), RunO l Γ k_X3_indexOf 5 encI (emC M0) 2 [(0, .ref a0), (1, wi a1), (2, wi v2_2)] [] C_2 (J v2_2 C_2)) ?_ (fun L2 hL2 => ?_) (fun J2 hJ2 => ?_)
  · intros; exact ro_none
  · intro v2_2 C_2
    refine r_iload_n (x := v2_2) dX3_indexOf_2 rfl rfl ?_
    refine r_aload_n (x := a0) dX3_indexOf_3 rfl rfl ?_
    refine r_cgetR (c := 6) (kk := 0) hc_X3 rfl (by decide) inU_X3 (by decide) uf_X3_12 rfl (by decide) dX3_indexOf_4 (fun z1 => ?_)
    refine r_dref (fun p2 hp2 => ?_)
    subst hp2
    refine r_ccVi (c := 2) (k2 := k_AL_size) (n := 0) (rest := [wi v2_2]) um_X3_30 rfl kv_AL_size hc_Jx4a65c (by decide) (c_AL_size hG _ _) (by decide) rfl (Nat.le_of_ble_eq_true rfl) dX3_indexOf_7 rfl (fun r4 C3 => ?_)
    refine r_icmp_ge (tgt := 39) dX3_indexOf_10 (by decide) ?_ ?_
    · refine ro_iconst (v := (-1)) dX3_indexOf_39 rfl ?_
      exact r_iret rfl dX3_indexOf_40
    · refine r_aload_n (x := a0) dX3_indexOf_13 rfl rfl ?_
      refine r_cgetR (c := 6) (kk := 0) hc_X3 rfl (by decide) inU_X3 (by decide) uf_X3_12 rfl (by decide) dX3_indexOf_14 (fun z5 => ?_)
      refine r_iload_n (x := v2_2) dX3_indexOf_17 rfl rfl ?_
      refine r_dref (fun p6 hp6 => ?_)
      subst hp6
      refine r_ccVr (c := 2) (k2 := k_AL_get) (n := 1) (rest := []) um_X3_34 rfl kv_AL_get hc_Jx4a65c (by decide) (c_AL_get hG _ _ _) (by decide) rfl (Nat.le_of_ble_eq_true rfl) dX3_indexOf_18 rfl (fun r8 C7 => ?_)
      refine r_castq (c := 13) hc_X10 (by decide) uk_X3_38 dX3_indexOf_21 ?_
      refine r_dref (fun p9 hp9 => ?_)
      subst hp9
      refine r_cgetIN (c := 13) (kk := 0) hc_X10 rfl (by decide) inU_X10 (by decide) hG uf_X3_47 rfl (by decide) dX3_indexOf_24 ?_
      refine r_iload_n (x := a1) dX3_indexOf_27 rfl rfl ?_
      refine r_icmp_ne (tgt := 33) dX3_indexOf_28 (by decide) ?_ ?_
      · refine r_iinc (x := v2_2) (lo2 := [(2, wi (v2_2 + 1)), (0, .ref a0), (1, wi a1)]) dX3_indexOf_33 rfl (by decide) rfl ?_
        refine r_goto (tgt := 2) dX3_indexOf_36 (by decide) ?_
        refine r_lo [1, 2, 0] (lo2 := [(0, .ref a0), (1, wi a1), (2, wi (v2_2 + 1))]) rfl ?_
        exact hL2 (v2_2 + 1) C7
      · refine r_iload_n (x := v2_2) dX3_indexOf_31 rfl rfl ?_
        exact r_iret rfl dX3_indexOf_32
  refine r_lo [1, 2, 0] (lo2 := [(0, .ref a0), (1, wi a1), (2, wi 0)]) rfl ?_
  exact hJ2 0 C
def k_X3_init : Kd := (yX3_init, cX3_init, 2, none, [])
theorem kv_X3_init : KI k_X3_init 1 := ⟨uw_mem 876 (by decide +kernel) rfl, uw_mem 111 (by decide +kernel) rfl, uw_mem 875 (by decide +kernel) rfl, ⟨rfl, rfl⟩, ⟨by decide +kernel, by decide +kernel⟩, by decide +kernel, by decide +kernel⟩
set_option maxHeartbeats 8000000 in
set_option maxRecDepth 100000 in
theorem c_X3_init {l : Launch} {Γ : Cx} {M0 : Md} (hG : GK Γ l) (a0 : Nat) (a1 : Option Nat) (C : Cd) : Ct l Γ k_X3_init 9 encV (emC M0) [.ref a0, va_rf a1] C (fX3_init a0 a1 C) := by
  refine ct_of (by decide +kernel) rfl (by cases a1 <;> exact Nat.le_of_ble_eq_true rfl) ?_
  refine r_lo [0, 1] (lo2 := [(0, .ref a0), (1, va_rf a1)]) (by cases a1 <;> rfl) ?_
  unfold fX3_init
  refine r_aload_n (x := a0) dX3_init_0 rfl rfl ?_
  refine r_objInit (by decide) uo_X3_3 uoi uoc (Nat.le_of_ble_eq_true rfl) dX3_init_1 ?_
  refine r_aload_n (x := a0) dX3_init_4 rfl rfl ?_
  refine r_cnew (c := 2) hc_Jx4a65c rfl (by decide) inU_Jx4a65c tyJx4a65c tyJx4a65c_ok hfs_Jx4a65c un_X3_9.1 un_X3_9.2.1 un_X3_9.2.2 dX3_init_5 (fun C1 _ => ?_)
  refine r_dup dX3_init_8 rfl ?_
  refine r_ccIv (k2 := k_AL_init) (n := 0) (rest := [.ref (csz C), .ref a0]) um_X3_11 rfl kv_AL_init (c_AL_init hG _ _) (by decide) rfl (Nat.le_of_ble_eq_true rfl) dX3_init_9 rfl (fun r3 C2 => ?_)
  refine r_cputRF (c := 6) (kk := 0) hc_X3 rfl (by decide) inU_X3 (by decide) uf_X3_12 rfl tyX3 tyX3_ok nmX3 (x := (some (csz C))) (fty := .object "java/util/ArrayList") (by decide) rfl rfl rfl (by decide +kernel) ⟨_, Or.inl rfl⟩ dX3_init_12 (fun C4 _ _ => ?_)
  refine r_aload_n (x := a0) dX3_init_15 rfl rfl ?_
  refine r_null dX3_init_16 ?_
  refine r_cputR (c := 6) (kk := 2) hc_X3 rfl (by decide) inU_X3 (by decide) uf_X3_18 rfl tyX3 tyX3_ok nmX3 (x := none) (fty := .object "Weaveword$Approval") (by decide) rfl (by decide +kernel) ⟨_, Or.inl rfl⟩ dX3_init_17 (fun C5 _ _ => ?_)
  refine r_aload_n (x := a0) dX3_init_20 rfl rfl ?_
  refine r_aloadq_n (x := a1) dX3_init_21 rfl rfl ?_
  refine r_cputR (c := 6) (kk := 1) hc_X3 rfl (by decide) inU_X3 (by decide) uf_X3_22 rfl tyX3 tyX3_ok nmX3 (x := a1) (fty := .object "Weaveword$Version") (by decide) rfl (by decide +kernel) ⟨_, Or.inl rfl⟩ dX3_init_22 (fun C6 _ _ => ?_)
  refine r_aload_n (x := a0) dX3_init_25 rfl rfl ?_
  refine r_cgetR (c := 6) (kk := 0) hc_X3 rfl (by decide) inU_X3 (by decide) uf_X3_12 rfl (by decide) dX3_init_26 (fun z7 => ?_)
  refine r_aloadq_n (x := a1) dX3_init_29 rfl rfl ?_
  refine r_dref (fun p8 hp8 => ?_)
  subst hp8
  refine r_ccVi (c := 2) (k2 := k_AL_add) (n := 1) (rest := []) um_X3_26 rfl kv_AL_add hc_Jx4a65c (by decide) (c_AL_add hG _ _ _) (by decide) rfl (Nat.le_of_ble_eq_true rfl) dX3_init_30 rfl (fun r10 C9 => ?_)
  refine r_pop dX3_init_33 rfl ?_
  exact r_vret rfl dX3_init_34
def k_X3_put : Kd := (yX3_put, cX3_put, 3, none, [])
theorem kv_X3_put : KV k_X3_put 1 := ⟨uw_mem 1069 (by decide +kernel) rfl, uw_mem 111 (by decide +kernel) rfl, uw_mem 1068 (by decide +kernel) rfl, uw_mem 77 (by decide +kernel) rfl, ⟨by decide +kernel, by decide +kernel⟩, by decide +kernel, by decide +kernel⟩
set_option maxHeartbeats 8000000 in
set_option maxRecDepth 100000 in
theorem c_X3_put {l : Launch} {Γ : Cx} {M0 : Md} (hG : GK Γ l) (a0 : Nat) (a1 : Option Nat) (C : Cd) : Ct l Γ k_X3_put 9 encV (emC M0) [.ref a0, va_rf a1] C (fX3_put a0 a1 C) := by
  refine ct_of (by decide +kernel) rfl (by cases a1 <;> exact Nat.le_of_ble_eq_true rfl) ?_
  refine r_lo [0, 1] (lo2 := [(0, .ref a0), (1, va_rf a1)]) (by cases a1 <;> rfl) ?_
  unfold fX3_put
  refine r_aload_n (x := a0) dX3_put_0 rfl rfl ?_
  refine r_cgetR (c := 6) (kk := 0) hc_X3 rfl (by decide) inU_X3 (by decide) uf_X3_12 rfl (by decide) dX3_put_1 (fun z1 => ?_)
  refine r_dref (fun p2 hp2 => ?_)
  subst hp2
  refine r_ccVi (c := 2) (k2 := k_AL_size) (n := 0) (rest := []) um_X3_30 rfl kv_AL_size hc_Jx4a65c (by decide) (c_AL_size hG _ _) (by decide) rfl (Nat.le_of_ble_eq_true rfl) dX3_put_4 rfl (fun r4 C3 => ?_)
  refine r_istore_n (lo2 := [(2, wi r4), (0, .ref a0), (1, va_rf a1)]) dX3_put_7 rfl (by decide) (by cases a1 <;> rfl) ?_
  refine r_loop (P := fun (J : Int → Cd → Option (Unit × Cd)) => ∀ (v2_8 : Int) (C_8 : Cd), RunO l Γ k_X3_put 9 encV (emC M0) 8 [(0, .ref a0), (1, va_rf a1), (2, wi v2_8)] [] C_8 (J v2_8 C_8)) ?_ (fun L8 hL8 => ?_) (fun J8 hJ8 => ?_)
  · intros; exact ro_none
  · intro v2_8 C_8
    refine r_iload_n (x := v2_8) dX3_put_8 rfl rfl ?_
    refine r_join (P := fun (J : Cd → Option (Unit × Cd)) => ∀  (C_41 : Cd), RunO l Γ k_X3_put 9 encV (emC M0) 41 [(0, .ref a0), (1, va_rf a1), (2, wi v2_8)] [] C_41 (J C_41)) ?_ (fun J41 hJ41 => ?_)
    · intro C_41
      refine r_iload_n (x := v2_8) dX3_put_41 rfl rfl ?_
      refine r_aload_n (x := a0) dX3_put_42 rfl rfl ?_
      refine r_cgetR (c := 6) (kk := 0) hc_X3 rfl (by decide) inU_X3 (by decide) uf_X3_12 rfl (by decide) dX3_put_43 (fun z5 => ?_)
      refine r_dref (fun p6 hp6 => ?_)
      subst hp6
      refine r_ccVi (c := 2) (k2 := k_AL_size) (n := 0) (rest := [wi v2_8]) um_X3_30 rfl kv_AL_size hc_Jx4a65c (by decide) (c_AL_size hG _ _) (by decide) rfl (Nat.le_of_ble_eq_true rfl) dX3_put_46 rfl (fun r8 C7 => ?_)
      refine r_join (P := fun (J : Cd → Option (Unit × Cd)) => ∀  (C_57 : Cd), RunO l Γ k_X3_put 9 encV (emC M0) 57 [(0, .ref a0), (1, va_rf a1), (2, wi v2_8)] [] C_57 (J C_57)) ?_ (fun J57 hJ57 => ?_)
      · intro C_57
        refine r_aload_n (x := a0) dX3_put_57 rfl rfl ?_
        refine r_cgetR (c := 6) (kk := 0) hc_X3 rfl (by decide) inU_X3 (by decide) uf_X3_12 rfl (by decide) dX3_put_58 (fun z9 => ?_)
        refine r_iload_n (x := v2_8) dX3_put_61 rfl rfl ?_
        refine r_aloadq_n (x := a1) dX3_put_62 rfl rfl ?_
        refine r_dref (fun p10 hp10 => ?_)
        subst hp10
        refine r_ccVv (c := 2) (k2 := k_AL_addAt) (n := 2) (rest := []) um_X3_44 rfl kv_AL_addAt hc_Jx4a65c (by decide) (c_AL_addAt hG _ _ _ _) (by decide) rfl (Nat.le_of_ble_eq_true rfl) dX3_put_63 rfl (fun r12 C11 => ?_)
        exact r_vret rfl dX3_put_66
      refine r_icmp_ne (tgt := 57) dX3_put_49 (by decide) ?_ ?_
      · exact hJ57  C7
      · refine r_aload_n (x := a0) dX3_put_52 rfl rfl ?_
        refine r_aloadq_n (x := a1) dX3_put_53 rfl rfl ?_
        refine r_cputR (c := 6) (kk := 1) hc_X3 rfl (by decide) inU_X3 (by decide) uf_X3_22 rfl tyX3 tyX3_ok nmX3 (x := a1) (fty := .object "Weaveword$Version") (by decide) rfl (by decide +kernel) ⟨_, Or.inl rfl⟩ dX3_put_54 (fun C13 _ _ => ?_)
        exact hJ57  C13
    refine r_if_le (tgt := 41) dX3_put_9 (by decide) ?_ ?_
    · exact hJ41  C_8
    · refine r_aload_n (x := a0) dX3_put_12 rfl rfl ?_
      refine r_cgetR (c := 6) (kk := 0) hc_X3 rfl (by decide) inU_X3 (by decide) uf_X3_12 rfl (by decide) dX3_put_13 (fun z14 => ?_)
      refine r_iload_n (x := v2_8) dX3_put_16 rfl rfl ?_
      refine ro_iconst (v := 1) dX3_put_17 rfl ?_
      refine r_isub dX3_put_18 ?_
      refine r_dref (fun p15 hp15 => ?_)
      subst hp15
      refine r_ccVr (c := 2) (k2 := k_AL_get) (n := 1) (rest := []) um_X3_34 rfl kv_AL_get hc_Jx4a65c (by decide) (c_AL_get hG _ _ _) (by decide) rfl (Nat.le_of_ble_eq_true rfl) dX3_put_19 rfl (fun r17 C16 => ?_)
      refine r_castq (c := 13) hc_X10 (by decide) uk_X3_38 dX3_put_22 ?_
      refine r_dref (fun p18 hp18 => ?_)
      subst hp18
      refine r_cgetIN (c := 13) (kk := 1) hc_X10 rfl (by decide) inU_X10 (by decide) hG uf_X3_40 rfl (by decide) dX3_put_25 ?_
      refine r_aloadq_n (x := a1) dX3_put_28 rfl rfl ?_
      refine r_dref (fun p19 hp19 => ?_)
      subst hp19
      refine r_cgetIN (c := 13) (kk := 1) hc_X10 rfl (by decide) inU_X10 (by decide) hG uf_X3_40 rfl (by decide) dX3_put_29 ?_
      refine r_icmp_le (tgt := 41) dX3_put_32 (by decide) ?_ ?_
      · exact hJ41  C16
      · refine r_iinc (x := v2_8) (lo2 := [(2, wi (v2_8 + (-1))), (0, .ref a0), (1, .ref p19)]) dX3_put_35 rfl (by decide) rfl ?_
        refine r_goto (tgt := 8) dX3_put_38 (by decide) ?_
        refine r_lo [1, 2, 0] (lo2 := [(0, .ref a0), (1, .ref p19), (2, wi (v2_8 + (-1)))]) rfl ?_
        exact hL8 (v2_8 + (-1)) C16
  refine r_lo [1, 2, 0] (lo2 := [(0, .ref a0), (1, va_rf a1), (2, wi r4)]) rfl ?_
  exact hJ8 r4 C3
