set_option maxHeartbeats 8000000 in
set_option maxRecDepth 100000 in
theorem b_L_gives_207 {l : Launch} {Γ : Cx} {ad : Nat → Nat} {K0 : Cd} (h : wOn Γ) (hm : ∀ k, k ≤ 10 → ad k ≠ 0) (kz : Nat) (r7 : Int) (v13_163 : Int) (hz : kz = 10 ∨ kz = 11) (hz0 : ad kz ≠ 0) (L163 : Int → Int → Rw → Option (Int × Rw)) (hL163 : ∀ (v10_163 : Int) (v13_163 : Int) (E_163 : Rw), RunO l Γ k_L_gives 2 encJ (emW ad K0) 163 [(4, .ref (ad kz)), (10, vl v10_163), (12, wi r7), (13, wi v13_163)] [] E_163 (L163 v10_163 v13_163 E_163)) : ∀ (v10_207 : Int) (E_207 : Rw), RunO l Γ k_L_gives 2 encJ (emW ad K0) 207 [(4, .ref (ad kz)), (10, vl v10_207), (12, wi r7), (13, wi v13_163)] [] E_207 (fW_gives_207 L163 v13_163 v10_207 E_207) := by
  intro v10_207 E_207
  unfold fW_gives_207
  refine r_iinc (x := v13_163) (lo2 := [(13, wi (v13_163 + 1)), (4, .ref (ad kz)), (10, vl v10_207), (12, wi r7)]) dL_gives_207 rfl (by decide) rfl ?_
  refine r_goto (tgt := 163) dL_gives_210 (by decide) ?_
  refine r_lo [1, 2, 3, 0] (lo2 := [(4, .ref (ad kz)), (10, vl v10_207), (12, wi r7), (13, wi (v13_163 + 1))]) rfl ?_
  exact hL163 v10_207 (v13_163 + 1) E_207
set_option maxHeartbeats 8000000 in
set_option maxRecDepth 100000 in
theorem b_L_gives_163 {l : Launch} {Γ : Cx} {ad : Nat → Nat} {K0 : Cd} (h : wOn Γ) (hm : ∀ k, k ≤ 10 → ad k ≠ 0) (kz : Nat) (r7 : Int) (hz : kz = 10 ∨ kz = 11) (hz0 : ad kz ≠ 0) (J259 : Int → Rw → Option (Int × Rw)) (hJ259 : ∀ (v10_259 : Int) (E_259 : Rw), RunO l Γ k_L_gives 2 encJ (emW ad K0) 259 [(10, vl v10_259)] [] E_259 (J259 v10_259 E_259)) (L163 : Int → Int → Rw → Option (Int × Rw)) (hL163 : ∀ (v10_163 : Int) (v13_163 : Int) (E_163 : Rw), RunO l Γ k_L_gives 2 encJ (emW ad K0) 163 [(4, .ref (ad kz)), (10, vl v10_163), (12, wi r7), (13, wi v13_163)] [] E_163 (L163 v10_163 v13_163 E_163)) : ∀ (v10_163 : Int) (v13_163 : Int) (E_163 : Rw), RunO l Γ k_L_gives 2 encJ (emW ad K0) 163 [(4, .ref (ad kz)), (10, vl v10_163), (12, wi r7), (13, wi v13_163)] [] E_163 (fW_gives_163 kz J259 r7 L163 v10_163 v13_163 E_163) := by
  intro v10_163 v13_163 E_163
  unfold fW_gives_163
  refine r_iload (x := v13_163) dL_gives_163 rfl ?_
  refine r_bipush (v := 8) dL_gives_165 rfl ?_
  refine r_icmp_ge (tgt := 213) dL_gives_167 (by decide) ?_ ?_
  · refine r_goto (tgt := 259) dL_gives_213 (by decide) ?_
    refine r_lo [1] (lo2 := [(10, vl v10_163)]) rfl ?_
    exact hJ259 v10_163 E_163
  · refine r_iload (x := r7) dL_gives_170 rfl ?_
    refine r_iload (x := v13_163) dL_gives_172 rfl ?_
    refine r_ishr dL_gives_174 ?_
    refine ro_iconst (v := 1) dL_gives_175 rfl ?_
    refine r_iand dL_gives_176 ?_
    refine ro_iconst (v := 1) dL_gives_177 rfl ?_
    refine r_join (P := fun (J : Int → Rw → Option (Int × Rw)) => ∀ (v10_207 : Int) (E_207 : Rw), RunO l Γ k_L_gives 2 encJ (emW ad K0) 207 [(4, .ref (ad kz)), (10, vl v10_207), (12, wi r7), (13, wi v13_163)] [] E_207 (J v10_207 E_207)) ?_ (fun J207 hJ207 => ?_)
    · exact b_L_gives_207 h hm kz r7 v13_163 hz hz0 L163 hL163
    refine r_icmp_ne (tgt := 207) dL_gives_178 (by decide) ?_ ?_
    · exact hJ207 v10_163 E_163
    · refine r_aload (x := ad kz) dL_gives_181 rfl ?_
      refine ro_iconst (v := 0) dL_gives_183 rfl ?_
      refine r_dup2 dL_gives_184 rfl rfl ?_
      refine r_wiald h (wz_mem hz) hz0 dL_gives_185 ?_
      refine ro_iconst (v := 1) dL_gives_186 rfl ?_
      refine r_iload (x := v13_163) dL_gives_187 rfl ?_
      refine r_ishl dL_gives_189 ?_
      refine r_ior dL_gives_190 ?_
      refine r_wiast h (wz_mem hz) hz0 dL_gives_191 (fun E9 => ?_)
      refine r_aload (x := ad kz) dL_gives_192 rfl ?_
      refine r_lload (x := v10_163) dL_gives_194 rfl ?_
      refine r_sipush (v := 1000) dL_gives_196 rfl ?_
      refine r_iload (x := v13_163) dL_gives_199 rfl ?_
      refine r_iadd dL_gives_201 ?_
      refine r_csj (J := fun (E_ : Rw) => E_) (k2 := k_L_comes) (n := 3) (rest := []) (fun _ => rfl) rfl kv_L_comes (c_L_comes h hm kz v10_163 (1000 + v13_163) hz hz0 _) (by decide) um_L_27 rfl (Nat.le_of_ble_eq_true rfl) dL_gives_202 rfl (fun r10 E11 => ?_)
      show RunO l Γ k_L_gives 2 encJ (emW ad K0) 205 [(4, .ref (ad kz)), (10, vl v10_163), (12, wi r7), (13, wi v13_163)] [vl r10] E11 _
      refine r_lstore (lo2 := [(10, vl r10), (4, .ref (ad kz)), (12, wi r7), (13, wi v13_163)]) dL_gives_205 (by decide) rfl ?_
      refine r_lo [1, 0, 2, 3] (lo2 := [(4, .ref (ad kz)), (10, vl r10), (12, wi r7), (13, wi v13_163)]) rfl ?_
      exact hJ207 r10 E11
set_option maxHeartbeats 8000000 in
set_option maxRecDepth 100000 in
theorem b_L_gives_122 {l : Launch} {Γ : Cx} {ad : Nat → Nat} {K0 : Cd} (h : wOn Γ) (hm : ∀ k, k ≤ 10 → ad k ≠ 0) (kz : Nat) (a5 : Int) (a7 : Int) (a8 : Int) (hz : kz = 10 ∨ kz = 11) (hz0 : ad kz ≠ 0) (J259 : Int → Rw → Option (Int × Rw)) (hJ259 : ∀ (v10_259 : Int) (E_259 : Rw), RunO l Γ k_L_gives 2 encJ (emW ad K0) 259 [(10, vl v10_259)] [] E_259 (J259 v10_259 E_259)) : ∀ (E_122 : Rw), RunO l Γ k_L_gives 2 encJ (emW ad K0) 122 [(3, .ref (ad 6)), (4, .ref (ad kz)), (7, wi a7), (8, wi a8), (10, vl a5)] [] E_122 (fW_gives_122 kz a5 a7 a8 J259 E_122) := by
  intro E_122
  unfold fW_gives_122
  refine r_aload (x := ad kz) dL_gives_122 rfl ?_
  refine ro_iconst (v := 3) dL_gives_124 rfl ?_
  refine r_dup2 dL_gives_125 rfl rfl ?_
  refine r_wiald h (wz_mem hz) hz0 dL_gives_126 ?_
  refine ro_iconst (v := 1) dL_gives_127 rfl ?_
  refine r_iload (x := a8) dL_gives_128 rfl ?_
  refine r_ishl dL_gives_130 ?_
  refine r_ior dL_gives_131 ?_
  refine r_wiast h (wz_mem hz) hz0 dL_gives_132 (fun E6 => ?_)
  refine r_aload_n (x := ad 6) dL_gives_133 rfl rfl ?_
  refine r_iload (x := a8) dL_gives_134 rfl ?_
  refine r_csi (J := fun (E_ : Rw) => E_) (k2 := k_L_members) (n := 2) (rest := []) (fun _ => rfl) rfl kv_L_members (c_L_members h hm a8 _) (by decide) um_L_31 rfl (Nat.le_of_ble_eq_true rfl) dL_gives_136 rfl (fun r7 E8 => ?_)
  show RunO l Γ k_L_gives 2 encJ (emW ad K0) 139 [(3, .ref (ad 6)), (4, .ref (ad kz)), (7, wi a7), (8, wi a8), (10, vl a5)] [wi r7] E8 _
  refine r_istore (lo2 := [(12, wi r7), (3, .ref (ad 6)), (4, .ref (ad kz)), (7, wi a7), (8, wi a8), (10, vl a5)]) dL_gives_139 (by decide) rfl ?_
  refine r_iload (x := a7) dL_gives_141 rfl ?_
  refine ro_iconst (v := 5) dL_gives_143 rfl ?_
  refine r_icmp_ne (tgt := 160) dL_gives_144 (by decide) ?_ ?_
  · refine ro_iconst (v := 0) dL_gives_160 rfl ?_
    refine r_istore (lo2 := [(13, wi 0), (12, wi r7), (3, .ref (ad 6)), (4, .ref (ad kz)), (7, wi a7), (8, wi a8), (10, vl a5)]) dL_gives_161 (by decide) rfl ?_
    refine r_loop (P := fun (J : Int → Int → Rw → Option (Int × Rw)) => ∀ (v10_163 : Int) (v13_163 : Int) (E_163 : Rw), RunO l Γ k_L_gives 2 encJ (emW ad K0) 163 [(4, .ref (ad kz)), (10, vl v10_163), (12, wi r7), (13, wi v13_163)] [] E_163 (J v10_163 v13_163 E_163)) ?_ (fun L163 hL163 => ?_) (fun J163 hJ163 => ?_)
    · intros; exact ro_none
    · exact b_L_gives_163 h hm kz r7 hz hz0 J259 hJ259 L163 hL163
    refine r_lo [3, 6, 1, 0] (lo2 := [(4, .ref (ad kz)), (10, vl a5), (12, wi r7), (13, wi 0)]) rfl ?_
    exact hJ163 a5 0 E8
  · refine r_aload (x := ad kz) dL_gives_147 rfl ?_
    refine r_lload (x := a5) dL_gives_149 rfl ?_
    refine r_iload (x := r7) dL_gives_151 rfl ?_
    refine r_csi (J := fun (_ : Unit) => E8) (k2 := k_L_many) (n := 1) (rest := [vl a5, .ref (ad kz)]) (fun _ => rfl) rfl kv_L_many (c_L_many (σ0 := _) r7) (by decide) um_L_35 rfl (Nat.le_of_ble_eq_true rfl) dL_gives_153 rfl (fun r12 _ => ?_)
    show RunO l Γ k_L_gives 2 encJ (emW ad K0) 156 [(12, wi r7), (3, .ref (ad 6)), (4, .ref (ad kz)), (7, wi a7), (8, wi a8), (10, vl a5)] [wi r12, vl a5, .ref (ad kz)] E8 _
    refine r_csj (J := fun (E_ : Rw) => E_) (k2 := k_L_comes) (n := 3) (rest := []) (fun _ => rfl) rfl kv_L_comes (c_L_comes h hm kz a5 r12 hz hz0 _) (by decide) um_L_27 rfl (Nat.le_of_ble_eq_true rfl) dL_gives_156 rfl (fun r13 E14 => ?_)
    show RunO l Γ k_L_gives 2 encJ (emW ad K0) 159 [(12, wi r7), (3, .ref (ad 6)), (4, .ref (ad kz)), (7, wi a7), (8, wi a8), (10, vl a5)] [vl r13] E14 _
    exact r_lret rfl dL_gives_159
set_option maxHeartbeats 8000000 in
set_option maxRecDepth 100000 in
theorem b_L_gives_254 {l : Launch} {Γ : Cx} {ad : Nat → Nat} {K0 : Cd} (h : wOn Γ) (hm : ∀ k, k ≤ 10 → ad k ≠ 0) (kz : Nat) (a5 : Int) (hz : kz = 10 ∨ kz = 11) (hz0 : ad kz ≠ 0) (J259 : Int → Rw → Option (Int × Rw)) (hJ259 : ∀ (v10_259 : Int) (E_259 : Rw), RunO l Γ k_L_gives 2 encJ (emW ad K0) 259 [(10, vl v10_259)] [] E_259 (J259 v10_259 E_259)) : ∀ (t0_254 : Int) (E_254 : Rw), RunO l Γ k_L_gives 2 encJ (emW ad K0) 254 [] [wi t0_254, vl a5, .ref (ad kz)] E_254 (fW_gives_254 kz a5 J259 t0_254 E_254) := by
  intro t0_254 E_254
  unfold fW_gives_254
  refine r_csj (J := fun (E_ : Rw) => E_) (k2 := k_L_comes) (n := 3) (rest := []) (fun _ => rfl) rfl kv_L_comes (c_L_comes h hm kz a5 t0_254 hz hz0 _) (by decide) um_L_27 rfl (Nat.le_of_ble_eq_true rfl) dL_gives_254 rfl (fun r18 E19 => ?_)
  show RunO l Γ k_L_gives 2 encJ (emW ad K0) 257 [] [vl r18] E19 _
  refine r_lstore (lo2 := [(10, vl r18)]) dL_gives_257 (by decide) rfl ?_
  exact hJ259 r18 E19
set_option maxHeartbeats 8000000 in
set_option maxRecDepth 100000 in
theorem b_L_gives_47 {l : Launch} {Γ : Cx} {ad : Nat → Nat} {K0 : Cd} (h : wOn Γ) (hm : ∀ k, k ≤ 10 → ad k ≠ 0) (kz : Nat) (a5 : Int) (a7 : Int) (a8 : Int) (hz : kz = 10 ∨ kz = 11) (hz0 : ad kz ≠ 0) (J259 : Int → Rw → Option (Int × Rw)) (hJ259 : ∀ (v10_259 : Int) (E_259 : Rw), RunO l Γ k_L_gives 2 encJ (emW ad K0) 259 [(10, vl v10_259)] [] E_259 (J259 v10_259 E_259)) : ∀ (E_47 : Rw), RunO l Γ k_L_gives 2 encJ (emW ad K0) 47 [(0, .ref (ad 0)), (1, .ref (ad 1)), (2, .ref (ad 2)), (3, .ref (ad 6)), (4, .ref (ad kz)), (7, wi a7), (8, wi a8), (10, vl a5)] [] E_47 (fW_gives_47 kz a5 a7 a8 J259 E_47) := by
  intro E_47
  unfold fW_gives_47
  refine r_iload (x := a7) dL_gives_47 rfl ?_
  refine ro_iconst (v := 1) dL_gives_49 rfl ?_
  refine r_join (P := fun (J : Rw → Option (Int × Rw)) => ∀ (E_60 : Rw), RunO l Γ k_L_gives 2 encJ (emW ad K0) 60 [(4, .ref (ad kz)), (8, wi a8), (10, vl a5)] [] E_60 (J E_60)) ?_ (fun J60 hJ60 => ?_)
  · exact b_L_gives_60 h hm kz a5 a8 hz hz0 J259 hJ259
  refine r_icmp_eq (tgt := 60) dL_gives_50 (by decide) ?_ ?_
  · refine r_lo [4, 6, 7] (lo2 := [(4, .ref (ad kz)), (8, wi a8), (10, vl a5)]) rfl ?_
    exact hJ60 E_47
  · refine r_iload (x := a7) dL_gives_53 rfl ?_
    refine r_bipush (v := 10) dL_gives_55 rfl ?_
    refine r_icmp_ne (tgt := 89) dL_gives_57 (by decide) ?_ ?_
    · refine r_iload (x := a7) dL_gives_89 rfl ?_
      refine ro_iconst (v := 3) dL_gives_91 rfl ?_
      refine r_icmp_ne (tgt := 109) dL_gives_92 (by decide) ?_ ?_
      · refine r_iload (x := a7) dL_gives_109 rfl ?_
        refine ro_iconst (v := 5) dL_gives_111 rfl ?_
        refine r_join (P := fun (J : Rw → Option (Int × Rw)) => ∀ (E_122 : Rw), RunO l Γ k_L_gives 2 encJ (emW ad K0) 122 [(3, .ref (ad 6)), (4, .ref (ad kz)), (7, wi a7), (8, wi a8), (10, vl a5)] [] E_122 (J E_122)) ?_ (fun J122 hJ122 => ?_)
        · exact b_L_gives_122 h hm kz a5 a7 a8 hz hz0 J259 hJ259
        refine r_icmp_eq (tgt := 122) dL_gives_112 (by decide) ?_ ?_
        · refine r_lo [3, 4, 5, 6, 7] (lo2 := [(3, .ref (ad 6)), (4, .ref (ad kz)), (7, wi a7), (8, wi a8), (10, vl a5)]) rfl ?_
          exact hJ122 E_47
        · refine r_iload (x := a7) dL_gives_115 rfl ?_
          refine r_bipush (v := 6) dL_gives_117 rfl ?_
          refine r_icmp_ne (tgt := 216) dL_gives_119 (by decide) ?_ ?_
          · refine r_iload (x := a7) dL_gives_216 rfl ?_
            refine r_bipush (v := 7) dL_gives_218 rfl ?_
            refine r_icmp_ne (tgt := 259) dL_gives_220 (by decide) ?_ ?_
            · refine r_lo [7] (lo2 := [(10, vl a5)]) rfl ?_
              exact hJ259 a5 E_47
            · refine r_aload (x := ad kz) dL_gives_223 rfl ?_
              refine ro_iconst (v := 1) dL_gives_225 rfl ?_
              refine r_dup2 dL_gives_226 rfl rfl ?_
              refine r_wiald h (wz_mem hz) hz0 dL_gives_227 ?_
              refine ro_iconst (v := 1) dL_gives_228 rfl ?_
              refine r_iload (x := a8) dL_gives_229 rfl ?_
              refine r_ishl dL_gives_231 ?_
              refine r_ior dL_gives_232 ?_
              refine r_wiast h (wz_mem hz) hz0 dL_gives_233 (fun E15 => ?_)
              refine r_aload (x := ad kz) dL_gives_234 rfl ?_
              refine r_lload (x := a5) dL_gives_236 rfl ?_
              refine r_aload_n (x := ad 0) dL_gives_238 rfl rfl ?_
              refine r_aload_n (x := ad 1) dL_gives_239 rfl rfl ?_
              refine r_aload_n (x := ad 2) dL_gives_240 rfl rfl ?_
              refine r_iload (x := a8) dL_gives_241 rfl ?_
              refine r_csi (J := fun (E_ : Rw) => E_) (k2 := k_L_present) (n := 4) (rest := [vl a5, .ref (ad kz)]) (fun _ => rfl) rfl kv_L_present (c_L_present h hm a8 _) (by decide) um_L_15 rfl (Nat.le_of_ble_eq_true rfl) dL_gives_243 rfl (fun r16 E17 => ?_)
              show RunO l Γ k_L_gives 2 encJ (emW ad K0) 246 [(0, .ref (ad 0)), (1, .ref (ad 1)), (2, .ref (ad 2)), (3, .ref (ad 6)), (4, .ref (ad kz)), (7, wi a7), (8, wi a8), (10, vl a5)] [wi r16, vl a5, .ref (ad kz)] E17 _
              refine r_join (P := fun (J : Int → Rw → Option (Int × Rw)) => ∀ (t0_254 : Int) (E_254 : Rw), RunO l Γ k_L_gives 2 encJ (emW ad K0) 254 [] [wi t0_254, vl a5, .ref (ad kz)] E_254 (J t0_254 E_254)) ?_ (fun J254 hJ254 => ?_)
              · exact b_L_gives_254 h hm kz a5 hz hz0 J259 hJ259
              refine r_if_ge (tgt := 253) dL_gives_246 (by decide) ?_ ?_
              · refine ro_iconst (v := 1) dL_gives_253 rfl ?_
                refine r_lo [] (lo2 := []) rfl ?_
                exact hJ254 1 E17
              · refine ro_iconst (v := 0) dL_gives_249 rfl ?_
                refine r_goto (tgt := 254) dL_gives_250 (by decide) ?_
                refine r_lo [] (lo2 := []) rfl ?_
                exact hJ254 0 E17
          · refine r_lo [3, 4, 5, 6, 7] (lo2 := [(3, .ref (ad 6)), (4, .ref (ad kz)), (7, wi a7), (8, wi a8), (10, vl a5)]) rfl ?_
            exact hJ122 E_47
      · refine r_aload (x := ad kz) dL_gives_95 rfl ?_
        refine ro_iconst (v := 2) dL_gives_97 rfl ?_
        refine r_dup2 dL_gives_98 rfl rfl ?_
        refine r_wiald h (wz_mem hz) hz0 dL_gives_99 ?_
        refine ro_iconst (v := 1) dL_gives_100 rfl ?_
        refine r_iload (x := a8) dL_gives_101 rfl ?_
        refine r_ishl dL_gives_103 ?_
        refine r_ior dL_gives_104 ?_
        refine r_wiast h (wz_mem hz) hz0 dL_gives_105 (fun E20 => ?_)
        refine r_goto (tgt := 259) dL_gives_106 (by decide) ?_
        refine r_lo [7] (lo2 := [(10, vl a5)]) rfl ?_
        exact hJ259 a5 E20
    · refine r_lo [4, 6, 7] (lo2 := [(4, .ref (ad kz)), (8, wi a8), (10, vl a5)]) rfl ?_
      exact hJ60 E_47
set_option maxHeartbeats 8000000 in
set_option maxRecDepth 100000 in
theorem b_L_gives_21 {l : Launch} {Γ : Cx} {ad : Nat → Nat} {K0 : Cd} (h : wOn Γ) (hm : ∀ k, k ≤ 10 → ad k ≠ 0) (kz : Nat) (a5 : Int) (a7 : Int) (a8 : Int) (a9 : Int) (hz : kz = 10 ∨ kz = 11) (hz0 : ad kz ≠ 0) (J259 : Int → Rw → Option (Int × Rw)) (hJ259 : ∀ (v10_259 : Int) (E_259 : Rw), RunO l Γ k_L_gives 2 encJ (emW ad K0) 259 [(10, vl v10_259)] [] E_259 (J259 v10_259 E_259)) (J33 : Rw → Option (Int × Rw)) (hJ33 : ∀ (E_33 : Rw), RunO l Γ k_L_gives 2 encJ (emW ad K0) 33 [(4, .ref (ad kz)), (8, wi a8), (10, vl a5)] [] E_33 (J33 E_33)) : ∀ (E_21 : Rw), RunO l Γ k_L_gives 2 encJ (emW ad K0) 21 [(0, .ref (ad 0)), (1, .ref (ad 1)), (2, .ref (ad 2)), (3, .ref (ad 6)), (4, .ref (ad kz)), (7, wi a7), (8, wi a8), (9, wi a9), (10, vl a5)] [] E_21 (fW_gives_21 kz a5 a7 a8 a9 J259 J33 E_21) := by
  intro E_21
  unfold fW_gives_21
  refine r_iload (x := a7) dL_gives_21 rfl ?_
  refine r_bipush (v := 9) dL_gives_23 rfl ?_
  refine r_join (P := fun (J : Rw → Option (Int × Rw)) => ∀ (E_47 : Rw), RunO l Γ k_L_gives 2 encJ (emW ad K0) 47 [(0, .ref (ad 0)), (1, .ref (ad 1)), (2, .ref (ad 2)), (3, .ref (ad 6)), (4, .ref (ad kz)), (7, wi a7), (8, wi a8), (10, vl a5)] [] E_47 (J E_47)) ?_ (fun J47 hJ47 => ?_)
  · exact b_L_gives_47 h hm kz a5 a7 a8 hz hz0 J259 hJ259
  refine r_icmp_ne (tgt := 47) dL_gives_25 (by decide) ?_ ?_
  · refine r_lo [0, 1, 2, 3, 4, 5, 6, 8] (lo2 := [(0, .ref (ad 0)), (1, .ref (ad 1)), (2, .ref (ad 2)), (3, .ref (ad 6)), (4, .ref (ad kz)), (7, wi a7), (8, wi a8), (10, vl a5)]) rfl ?_
    exact hJ47 E_21
  · refine r_iload (x := a9) dL_gives_28 rfl ?_
    refine r_if_ne (tgt := 47) dL_gives_30 (by decide) ?_ ?_
    · refine r_lo [0, 1, 2, 3, 4, 5, 6, 8] (lo2 := [(0, .ref (ad 0)), (1, .ref (ad 1)), (2, .ref (ad 2)), (3, .ref (ad 6)), (4, .ref (ad kz)), (7, wi a7), (8, wi a8), (10, vl a5)]) rfl ?_
      exact hJ47 E_21
    · refine r_lo [4, 6, 8] (lo2 := [(4, .ref (ad kz)), (8, wi a8), (10, vl a5)]) rfl ?_
      exact hJ33 E_21
set_option maxHeartbeats 8000000 in
set_option maxRecDepth 100000 in
theorem c_L_gives {l : Launch} {Γ : Cx} {ad : Nat → Nat} {K0 : Cd} (h : wOn Γ) (hm : ∀ k, k ≤ 10 → ad k ≠ 0) (kz : Nat) (a5 : Int) (a7 : Int) (a8 : Int) (a9 : Int) (hz : kz = 10 ∨ kz = 11) (hz0 : ad kz ≠ 0) (E : Rw) : Ct l Γ k_L_gives 2 encJ (emW ad K0) [.ref (ad 0), .ref (ad 1), .ref (ad 2), .ref (ad 6), .ref (ad kz), vl a5, wi a7, wi a8, wi a9] E (fW_gives kz a5 a7 a8 a9 E) := by
  refine ct_of (by decide +kernel) rfl (Nat.le_of_ble_eq_true rfl) ?_
  refine r_lo [0, 1, 2, 3, 4, 5, 6, 7, 8] (lo2 := [(0, .ref (ad 0)), (1, .ref (ad 1)), (2, .ref (ad 2)), (3, .ref (ad 6)), (4, .ref (ad kz)), (5, vl a5), (7, wi a7), (8, wi a8), (9, wi a9)]) rfl ?_
  unfold fW_gives
  refine r_lload (x := a5) dL_gives_0 rfl ?_
  refine r_lstore (lo2 := [(10, vl a5), (0, .ref (ad 0)), (1, .ref (ad 1)), (2, .ref (ad 2)), (3, .ref (ad 6)), (4, .ref (ad kz)), (5, vl a5), (7, wi a7), (8, wi a8), (9, wi a9)]) dL_gives_2 (by decide) rfl ?_
  refine r_iload (x := a7) dL_gives_4 rfl ?_
  refine r_join (P := fun (J : Int → Rw → Option (Int × Rw)) => ∀ (v10_259 : Int) (E_259 : Rw), RunO l Γ k_L_gives 2 encJ (emW ad K0) 259 [(10, vl v10_259)] [] E_259 (J v10_259 E_259)) ?_ (fun J259 hJ259 => ?_)
  · exact b_L_gives_259 h hm kz hz hz0
  refine r_join (P := fun (J : Rw → Option (Int × Rw)) => ∀ (E_33 : Rw), RunO l Γ k_L_gives 2 encJ (emW ad K0) 33 [(4, .ref (ad kz)), (8, wi a8), (10, vl a5)] [] E_33 (J E_33)) ?_ (fun J33 hJ33 => ?_)
  · exact b_L_gives_33 h hm kz a5 a8 hz hz0 J259 hJ259
  refine r_if_eq (tgt := 33) dL_gives_6 (by decide) ?_ ?_
  · refine r_lo [5, 8, 0] (lo2 := [(4, .ref (ad kz)), (8, wi a8), (10, vl a5)]) rfl ?_
    exact hJ33 E
  · refine r_iload (x := a7) dL_gives_9 rfl ?_
    refine r_bipush (v := 8) dL_gives_11 rfl ?_
    refine r_join (P := fun (J : Rw → Option (Int × Rw)) => ∀ (E_21 : Rw), RunO l Γ k_L_gives 2 encJ (emW ad K0) 21 [(0, .ref (ad 0)), (1, .ref (ad 1)), (2, .ref (ad 2)), (3, .ref (ad 6)), (4, .ref (ad kz)), (7, wi a7), (8, wi a8), (9, wi a9), (10, vl a5)] [] E_21 (J E_21)) ?_ (fun J21 hJ21 => ?_)
    · exact b_L_gives_21 h hm kz a5 a7 a8 a9 hz hz0 J259 hJ259 J33 hJ33
    refine r_icmp_ne (tgt := 21) dL_gives_13 (by decide) ?_ ?_
    · refine r_lo [1, 2, 3, 4, 5, 7, 8, 9, 0] (lo2 := [(0, .ref (ad 0)), (1, .ref (ad 1)), (2, .ref (ad 2)), (3, .ref (ad 6)), (4, .ref (ad kz)), (7, wi a7), (8, wi a8), (9, wi a9), (10, vl a5)]) rfl ?_
      exact hJ21 E
    · refine r_iload (x := a9) dL_gives_16 rfl ?_
      refine r_if_gt (tgt := 33) dL_gives_18 (by decide) ?_ ?_
      · refine r_lo [5, 8, 0] (lo2 := [(4, .ref (ad kz)), (8, wi a8), (10, vl a5)]) rfl ?_
        exact hJ33 E
      · refine r_lo [1, 2, 3, 4, 5, 7, 8, 9, 0] (lo2 := [(0, .ref (ad 0)), (1, .ref (ad 1)), (2, .ref (ad 2)), (3, .ref (ad 6)), (4, .ref (ad kz)), (7, wi a7), (8, wi a8), (9, wi a9), (10, vl a5)]) rfl ?_
        exact hJ21 E
def k_L_way : Kd := (yL_way, cL_way, 9, some .int, [])
theorem kv_L_way : KS k_L_way 6 := ⟨uw_mem 767 (by decide +kernel) rfl, uw_mem 93 (by decide +kernel) rfl, uw_mem 766 (by decide +kernel) rfl, ⟨by decide +kernel, by decide +kernel⟩, by decide +kernel, by decide +kernel⟩
set_option maxHeartbeats 8000000 in
set_option maxRecDepth 100000 in
theorem c_L_way {l : Launch} {Γ : Cx} {ad : Nat → Nat} {K0 : Cd} (h : wOn Γ) (hm : ∀ k, k ≤ 10 → ad k ≠ 0) (kz : Nat) (a5 : Int) (hz : kz = 10 ∨ kz = 11) (hz0 : ad kz ≠ 0) (E : Rw) : Ct l Γ k_L_way 3 encI (emW ad K0) [.ref (ad 0), .ref (ad 1), .ref (ad 2), .ref (ad 3), .ref (ad kz), wi a5] E (fW_way kz a5 E) := by
  refine ct_of (by decide +kernel) rfl (Nat.le_of_ble_eq_true rfl) ?_
  refine r_lo [0, 1, 2, 3, 4, 5] (lo2 := [(0, .ref (ad 0)), (1, .ref (ad 1)), (2, .ref (ad 2)), (3, .ref (ad 3)), (4, .ref (ad kz)), (5, wi a5)]) rfl ?_
  unfold fW_way
  refine r_iload (x := a5) dL_way_0 rfl ?_
  refine r_istore (lo2 := [(6, wi a5), (0, .ref (ad 0)), (1, .ref (ad 1)), (2, .ref (ad 2)), (3, .ref (ad 3)), (4, .ref (ad kz)), (5, wi a5)]) dL_way_2 (by decide) rfl ?_
  refine ro_iconst (v := 0) dL_way_4 rfl ?_
  refine r_istore (lo2 := [(7, wi 0), (6, wi a5), (0, .ref (ad 0)), (1, .ref (ad 1)), (2, .ref (ad 2)), (3, .ref (ad 3)), (4, .ref (ad kz)), (5, wi a5)]) dL_way_5 (by decide) rfl ?_
  refine r_loop (P := fun (J : Int → Int → Rw → Option (Int × Rw)) => ∀ (v6_7 : Int) (v7_7 : Int) (E_7 : Rw), RunO l Γ k_L_way 3 encI (emW ad K0) 7 [(0, .ref (ad 0)), (1, .ref (ad 1)), (2, .ref (ad 2)), (3, .ref (ad 3)), (4, .ref (ad kz)), (6, wi v6_7), (7, wi v7_7)] [] E_7 (J v6_7 v7_7 E_7)) ?_ (fun L7 hL7 => ?_) (fun J7 hJ7 => ?_)
  · intros; exact ro_none
  · intro v6_7 v7_7 E_7
    refine r_iload (x := v7_7) dL_way_7 rfl ?_
    refine ro_iconst (v := 5) dL_way_9 rfl ?_
    refine r_icmp_ge (tgt := 86) dL_way_10 (by decide) ?_ ?_
    · refine ro_iconst (v := (-1)) dL_way_86 rfl ?_
      exact r_iret rfl dL_way_87
    · refine r_aload (x := ad kz) dL_way_13 rfl ?_
      refine ro_iconst (v := 1) dL_way_15 rfl ?_
      refine r_dup2 dL_way_16 rfl rfl ?_
      refine r_wiald h (wz_mem hz) hz0 dL_way_17 ?_
      refine ro_iconst (v := 1) dL_way_18 rfl ?_
      refine r_iload (x := v6_7) dL_way_19 rfl ?_
      refine r_ishl dL_way_21 ?_
      refine r_ior dL_way_22 ?_
      refine r_wiast h (wz_mem hz) hz0 dL_way_23 (fun E1 => ?_)
      refine r_aload_n (x := ad 0) dL_way_24 rfl rfl ?_
      refine r_aload_n (x := ad 1) dL_way_25 rfl rfl ?_
      refine r_aload_n (x := ad 2) dL_way_26 rfl rfl ?_
      refine r_iload (x := v6_7) dL_way_27 rfl ?_
      refine r_csi (J := fun (E_ : Rw) => E_) (k2 := k_L_present) (n := 4) (rest := []) (fun _ => rfl) rfl kv_L_present (c_L_present h hm v6_7 _) (by decide) um_L_15 rfl (Nat.le_of_ble_eq_true rfl) dL_way_29 rfl (fun r2 E3 => ?_)
      show RunO l Γ k_L_way 3 encI (emW ad K0) 32 [(0, .ref (ad 0)), (1, .ref (ad 1)), (2, .ref (ad 2)), (3, .ref (ad 3)), (4, .ref (ad kz)), (6, wi v6_7), (7, wi v7_7)] [wi r2] E3 _
      refine r_istore (lo2 := [(8, wi r2), (0, .ref (ad 0)), (1, .ref (ad 1)), (2, .ref (ad 2)), (3, .ref (ad 3)), (4, .ref (ad kz)), (6, wi v6_7), (7, wi v7_7)]) dL_way_32 (by decide) rfl ?_
      refine r_iload (x := r2) dL_way_34 rfl ?_
      refine r_join (P := fun (J : Rw → Option (Int × Rw)) => ∀ (E_55 : Rw), RunO l Γ k_L_way 3 encI (emW ad K0) 55 [(6, wi v6_7), (8, wi r2)] [] E_55 (J E_55)) ?_ (fun J55 hJ55 => ?_)
      · intro E_55
        refine r_iload (x := r2) dL_way_55 rfl ?_
        refine r_join (P := fun (J : Int → Rw → Option (Int × Rw)) => ∀ (t0_66 : Int) (E_66 : Rw), RunO l Γ k_L_way 3 encI (emW ad K0) 66 [] [wi t0_66] E_66 (J t0_66 E_66)) ?_ (fun J66 hJ66 => ?_)
        · intro t0_66 E_66
          exact r_iret rfl dL_way_66
        refine r_if_ge (tgt := 64) dL_way_57 (by decide) ?_ ?_
        · refine r_iload (x := v6_7) dL_way_64 rfl ?_
          refine r_lo [] (lo2 := []) rfl ?_
          exact hJ66 v6_7 E_55
        · refine ro_iconst (v := (-1)) dL_way_60 rfl ?_
          refine r_goto (tgt := 66) dL_way_61 (by decide) ?_
          refine r_lo [] (lo2 := []) rfl ?_
          exact hJ66 (-1) E_55
      refine r_if_lt (tgt := 55) dL_way_36 (by decide) ?_ ?_
      · refine r_lo [6, 0] (lo2 := [(6, wi v6_7), (8, wi r2)]) rfl ?_
        exact hJ55 E3
      · refine r_aload_n (x := ad 3) dL_way_39 rfl rfl ?_
        refine r_iload (x := r2) dL_way_40 rfl ?_
        refine r_wlald h (by decide) (hm 3 (by decide)) dL_way_42 ?_
        refine ro_iconst (v := 0) dL_way_43 rfl ?_
        refine r_csi (J := fun (_ : Unit) => E3) (k2 := k_L_macro) (n := 2) (rest := []) (fun _ => rfl) rfl kv_L_macro (c_L_macro (σ0 := _) (E3 3 (ix r2)) 0) (by decide) um_L_19 rfl (Nat.le_of_ble_eq_true rfl) dL_way_44 rfl (fun r4 _ => ?_)
        show RunO l Γ k_L_way 3 encI (emW ad K0) 47 [(8, wi r2), (0, .ref (ad 0)), (1, .ref (ad 1)), (2, .ref (ad 2)), (3, .ref (ad 3)), (4, .ref (ad kz)), (6, wi v6_7), (7, wi v7_7)] [wi r4] E3 _
        refine r_bipush (v := 16) dL_way_47 rfl ?_
        refine r_irem dL_way_49 (by decide) ?_
        refine r_bipush (v := 10) dL_way_50 rfl ?_
        refine r_icmp_eq (tgt := 67) dL_way_52 (by decide) ?_ ?_
        · refine r_aload_n (x := ad 3) dL_way_67 rfl rfl ?_
          refine r_iload (x := r2) dL_way_68 rfl ?_
          refine r_wlald h (by decide) (hm 3 (by decide)) dL_way_70 ?_
          refine ro_iconst (v := 0) dL_way_71 rfl ?_
          refine r_csi (J := fun (_ : Unit) => E3) (k2 := k_L_macro) (n := 2) (rest := []) (fun _ => rfl) rfl kv_L_macro (c_L_macro (σ0 := _) (E3 3 (ix r2)) 0) (by decide) um_L_19 rfl (Nat.le_of_ble_eq_true rfl) dL_way_72 rfl (fun r5 _ => ?_)
          show RunO l Γ k_L_way 3 encI (emW ad K0) 75 [(8, wi r2), (0, .ref (ad 0)), (1, .ref (ad 1)), (2, .ref (ad 2)), (3, .ref (ad 3)), (4, .ref (ad kz)), (6, wi v6_7), (7, wi v7_7)] [wi r5] E3 _
          refine r_bipush (v := 16) dL_way_75 rfl ?_
          refine r_idiv dL_way_77 (by decide) ?_
          refine r_nm (fun x6_78 => ?_)
          refine r_istore (lo2 := [(6, wi x6_78), (8, wi r2), (0, .ref (ad 0)), (1, .ref (ad 1)), (2, .ref (ad 2)), (3, .ref (ad 3)), (4, .ref (ad kz)), (7, wi v7_7)]) dL_way_78 (by decide) rfl ?_
          refine r_iinc (x := v7_7) (lo2 := [(7, wi (v7_7 + 1)), (6, wi x6_78), (8, wi r2), (0, .ref (ad 0)), (1, .ref (ad 1)), (2, .ref (ad 2)), (3, .ref (ad 3)), (4, .ref (ad kz))]) dL_way_80 rfl (by decide) rfl ?_
          refine r_goto (tgt := 7) dL_way_83 (by decide) ?_
          refine r_lo [3, 4, 5, 6, 7, 1, 0] (lo2 := [(0, .ref (ad 0)), (1, .ref (ad 1)), (2, .ref (ad 2)), (3, .ref (ad 3)), (4, .ref (ad kz)), (6, wi x6_78), (7, wi (v7_7 + 1))]) rfl ?_
          exact hL7 x6_78 (v7_7 + 1) E3
        · refine r_lo [6, 0] (lo2 := [(6, wi v6_7), (8, wi r2)]) rfl ?_
          exact hJ55 E3
  refine r_lo [2, 3, 4, 5, 6, 1, 0] (lo2 := [(0, .ref (ad 0)), (1, .ref (ad 1)), (2, .ref (ad 2)), (3, .ref (ad 3)), (4, .ref (ad kz)), (6, wi a5), (7, wi 0)]) rfl ?_
  exact hJ7 a5 0 E
def k_L_renders : Kd := (yL_renders, cL_renders, 17, some .long, [])
theorem kv_L_renders : KS k_L_renders 7 := ⟨uw_mem 746 (by decide +kernel) rfl, uw_mem 93 (by decide +kernel) rfl, uw_mem 745 (by decide +kernel) rfl, ⟨by decide +kernel, by decide +kernel⟩, by decide +kernel, by decide +kernel⟩
set_option maxHeartbeats 8000000 in
set_option maxRecDepth 100000 in
theorem b_L_renders_385 {l : Launch} {Γ : Cx} {ad : Nat → Nat} {K0 : Cd} (h : wOn Γ) (hm : ∀ k, k ≤ 10 → ad k ≠ 0) (hb : ∀ k, 12 ≤ k → k ≤ 14 → ad k ≠ 0) (kz : Nat) (v10_70 : Int) (hz : kz = 10 ∨ kz = 11) (hz0 : ad kz ≠ 0) : ∀ (t0_385 : Int) (E_385 : Rw), RunO l Γ k_L_renders 4 encJ (emW ad K0) 385 [(10, vl v10_70)] [wi t0_385, wi 4, .ref (ad kz)] E_385 (fW_renders_385 kz v10_70 t0_385 E_385) := by
  intro t0_385 E_385
  unfold fW_renders_385
  refine r_wiast h (wz_mem hz) hz0 dL_renders_385 (fun E6 => ?_)
  refine r_lload (x := v10_70) dL_renders_386 rfl ?_
  exact r_lret rfl dL_renders_388
set_option maxHeartbeats 8000000 in
set_option maxRecDepth 100000 in
theorem b_L_renders_359 {l : Launch} {Γ : Cx} {ad : Nat → Nat} {K0 : Cd} (h : wOn Γ) (hm : ∀ k, k ≤ 10 → ad k ≠ 0) (hb : ∀ k, 12 ≤ k → k ≤ 14 → ad k ≠ 0) (kz : Nat) (hz : kz = 10 ∨ kz = 11) (hz0 : ad kz ≠ 0) (L70 : Int → Int → Rw → Option (Int × Rw)) (hL70 : ∀ (v10_70 : Int) (v12_70 : Int) (E_70 : Rw), RunO l Γ k_L_renders 4 encJ (emW ad K0) 70 [(0, .ref (ad 0)), (1, .ref (ad 1)), (2, .ref (ad 2)), (3, .ref (ad 3)), (4, .ref (ad 6)), (5, .ref (ad kz)), (7, .ref (ad 12)), (8, .ref (ad 13)), (9, .ref (ad 14)), (10, vl v10_70), (12, wi v12_70)] [] E_70 (L70 v10_70 v12_70 E_70)) : ∀ (v10_359 : Int) (v12_359 : Int) (E_359 : Rw), RunO l Γ k_L_renders 4 encJ (emW ad K0) 359 [(0, .ref (ad 0)), (1, .ref (ad 1)), (2, .ref (ad 2)), (3, .ref (ad 3)), (4, .ref (ad 6)), (5, .ref (ad kz)), (7, .ref (ad 12)), (8, .ref (ad 13)), (9, .ref (ad 14)), (10, vl v10_359), (12, wi v12_359)] [] E_359 (fW_renders_359 L70 v10_359 v12_359 E_359) := by
  intro v10_359 v12_359 E_359
  unfold fW_renders_359
  refine r_goto (tgt := 70) dL_renders_359 (by decide) ?_
  exact hL70 v10_359 v12_359 E_359
set_option maxHeartbeats 8000000 in
set_option maxRecDepth 100000 in
theorem b_L_renders_322 {l : Launch} {Γ : Cx} {ad : Nat → Nat} {K0 : Cd} (h : wOn Γ) (hm : ∀ k, k ≤ 10 → ad k ≠ 0) (hb : ∀ k, 12 ≤ k → k ≤ 14 → ad k ≠ 0) (kz : Nat) (v10_70 : Int) (v12_70 : Int) (hz : kz = 10 ∨ kz = 11) (hz0 : ad kz ≠ 0) (J359 : Int → Int → Rw → Option (Int × Rw)) (hJ359 : ∀ (v10_359 : Int) (v12_359 : Int) (E_359 : Rw), RunO l Γ k_L_renders 4 encJ (emW ad K0) 359 [(0, .ref (ad 0)), (1, .ref (ad 1)), (2, .ref (ad 2)), (3, .ref (ad 3)), (4, .ref (ad 6)), (5, .ref (ad kz)), (7, .ref (ad 12)), (8, .ref (ad 13)), (9, .ref (ad 14)), (10, vl v10_359), (12, wi v12_359)] [] E_359 (J359 v10_359 v12_359 E_359)) : ∀ (t0_322 : Int) (E_322 : Rw), RunO l Γ k_L_renders 4 encJ (emW ad K0) 322 [(0, .ref (ad 0)), (1, .ref (ad 1)), (2, .ref (ad 2)), (3, .ref (ad 3)), (4, .ref (ad 6)), (5, .ref (ad kz)), (7, .ref (ad 12)), (8, .ref (ad 13)), (9, .ref (ad 14)), (12, wi v12_70)] [wi t0_322, vl v10_70, .ref (ad kz)] E_322 (fW_renders_322 kz v10_70 v12_70 J359 t0_322 E_322) := by
  intro t0_322 E_322
  unfold fW_renders_322
  refine r_csj (J := fun (E_ : Rw) => E_) (k2 := k_L_comes) (n := 3) (rest := []) (fun _ => rfl) rfl kv_L_comes (c_L_comes h hm kz v10_70 t0_322 hz hz0 _) (by decide) um_L_27 rfl (Nat.le_of_ble_eq_true rfl) dL_renders_322 rfl (fun r13 E14 => ?_)
  show RunO l Γ k_L_renders 4 encJ (emW ad K0) 325 [(0, .ref (ad 0)), (1, .ref (ad 1)), (2, .ref (ad 2)), (3, .ref (ad 3)), (4, .ref (ad 6)), (5, .ref (ad kz)), (7, .ref (ad 12)), (8, .ref (ad 13)), (9, .ref (ad 14)), (12, wi v12_70)] [vl r13] E14 _
  refine r_lstore (lo2 := [(10, vl r13), (0, .ref (ad 0)), (1, .ref (ad 1)), (2, .ref (ad 2)), (3, .ref (ad 3)), (4, .ref (ad 6)), (5, .ref (ad kz)), (7, .ref (ad 12)), (8, .ref (ad 13)), (9, .ref (ad 14)), (12, wi v12_70)]) dL_renders_325 (by decide) rfl ?_
  refine r_goto (tgt := 359) dL_renders_327 (by decide) ?_
  refine r_lo [1, 2, 3, 4, 5, 6, 7, 8, 9, 0, 10] (lo2 := [(0, .ref (ad 0)), (1, .ref (ad 1)), (2, .ref (ad 2)), (3, .ref (ad 3)), (4, .ref (ad 6)), (5, .ref (ad kz)), (7, .ref (ad 12)), (8, .ref (ad 13)), (9, .ref (ad 14)), (10, vl r13), (12, wi v12_70)]) rfl ?_
  exact hJ359 r13 v12_70 E14
set_option maxHeartbeats 8000000 in
set_option maxRecDepth 100000 in
theorem b_L_renders_304 {l : Launch} {Γ : Cx} {ad : Nat → Nat} {K0 : Cd} (h : wOn Γ) (hm : ∀ k, k ≤ 10 → ad k ≠ 0) (hb : ∀ k, 12 ≤ k → k ≤ 14 → ad k ≠ 0) (kz : Nat) (v10_70 : Int) (v12_70 : Int) (v15_217 : Int) (hz : kz = 10 ∨ kz = 11) (hz0 : ad kz ≠ 0) (J359 : Int → Int → Rw → Option (Int × Rw)) (hJ359 : ∀ (v10_359 : Int) (v12_359 : Int) (E_359 : Rw), RunO l Γ k_L_renders 4 encJ (emW ad K0) 359 [(0, .ref (ad 0)), (1, .ref (ad 1)), (2, .ref (ad 2)), (3, .ref (ad 3)), (4, .ref (ad 6)), (5, .ref (ad kz)), (7, .ref (ad 12)), (8, .ref (ad 13)), (9, .ref (ad 14)), (10, vl v10_359), (12, wi v12_359)] [] E_359 (J359 v10_359 v12_359 E_359)) : ∀ (E_304 : Rw), RunO l Γ k_L_renders 4 encJ (emW ad K0) 304 [(0, .ref (ad 0)), (1, .ref (ad 1)), (2, .ref (ad 2)), (3, .ref (ad 3)), (4, .ref (ad 6)), (5, .ref (ad kz)), (7, .ref (ad 12)), (8, .ref (ad 13)), (9, .ref (ad 14)), (10, vl v10_70), (12, wi v12_70), (15, wi v15_217)] [] E_304 (fW_renders_304 kz v10_70 v12_70 J359 v15_217 E_304) := by
  intro E_304
  unfold fW_renders_304
  refine r_aload (x := ad kz) dL_renders_304 rfl ?_
  refine r_lload (x := v10_70) dL_renders_306 rfl ?_
  refine r_iload (x := v15_217) dL_renders_308 rfl ?_
  refine r_join (P := fun (J : Int → Rw → Option (Int × Rw)) => ∀ (t0_322 : Int) (E_322 : Rw), RunO l Γ k_L_renders 4 encJ (emW ad K0) 322 [(0, .ref (ad 0)), (1, .ref (ad 1)), (2, .ref (ad 2)), (3, .ref (ad 3)), (4, .ref (ad 6)), (5, .ref (ad kz)), (7, .ref (ad 12)), (8, .ref (ad 13)), (9, .ref (ad 14)), (12, wi v12_70)] [wi t0_322, vl v10_70, .ref (ad kz)] E_322 (J t0_322 E_322)) ?_ (fun J322 hJ322 => ?_)
  · exact b_L_renders_322 h hm hb kz v10_70 v12_70 hz hz0 J359 hJ359
  refine r_if_eq (tgt := 319) dL_renders_310 (by decide) ?_ ?_
  · refine r_sipush (v := 9002) dL_renders_319 rfl ?_
    refine r_lo [0, 1, 2, 3, 4, 5, 6, 7, 8, 10] (lo2 := [(0, .ref (ad 0)), (1, .ref (ad 1)), (2, .ref (ad 2)), (3, .ref (ad 3)), (4, .ref (ad 6)), (5, .ref (ad kz)), (7, .ref (ad 12)), (8, .ref (ad 13)), (9, .ref (ad 14)), (12, wi v12_70)]) rfl ?_
    exact hJ322 9002 E_304
  · refine r_sipush (v := 9001) dL_renders_313 rfl ?_
    refine r_goto (tgt := 322) dL_renders_316 (by decide) ?_
    refine r_lo [0, 1, 2, 3, 4, 5, 6, 7, 8, 10] (lo2 := [(0, .ref (ad 0)), (1, .ref (ad 1)), (2, .ref (ad 2)), (3, .ref (ad 3)), (4, .ref (ad 6)), (5, .ref (ad kz)), (7, .ref (ad 12)), (8, .ref (ad 13)), (9, .ref (ad 14)), (12, wi v12_70)]) rfl ?_
    exact hJ322 9001 E_304
set_option maxHeartbeats 8000000 in
set_option maxRecDepth 100000 in
theorem b_L_renders_244 {l : Launch} {Γ : Cx} {ad : Nat → Nat} {K0 : Cd} (h : wOn Γ) (hm : ∀ k, k ≤ 10 → ad k ≠ 0) (hb : ∀ k, 12 ≤ k → k ≤ 14 → ad k ≠ 0) (kz : Nat) (v10_70 : Int) (v12_70 : Int) (r8 : Int) (r11 : Int) (v16_217 : Int) (hz : kz = 10 ∨ kz = 11) (hz0 : ad kz ≠ 0) (L217 : Int → Int → Rw → Option (Int × Rw)) (hL217 : ∀ (v15_217 : Int) (v16_217 : Int) (E_217 : Rw), RunO l Γ k_L_renders 4 encJ (emW ad K0) 217 [(0, .ref (ad 0)), (1, .ref (ad 1)), (2, .ref (ad 2)), (3, .ref (ad 3)), (4, .ref (ad 6)), (5, .ref (ad kz)), (7, .ref (ad 12)), (8, .ref (ad 13)), (9, .ref (ad 14)), (10, vl v10_70), (12, wi v12_70), (13, wi r8), (14, wi r11), (15, wi v15_217), (16, wi v16_217)] [] E_217 (L217 v15_217 v16_217 E_217)) : ∀ (t0_244 : Int) (E_244 : Rw), RunO l Γ k_L_renders 4 encJ (emW ad K0) 244 [(0, .ref (ad 0)), (1, .ref (ad 1)), (2, .ref (ad 2)), (3, .ref (ad 3)), (4, .ref (ad 6)), (5, .ref (ad kz)), (7, .ref (ad 12)), (8, .ref (ad 13)), (9, .ref (ad 14)), (10, vl v10_70), (12, wi v12_70), (13, wi r8), (14, wi r11), (16, wi v16_217)] [wi t0_244] E_244 (fW_renders_244 L217 v16_217 t0_244 E_244) := by
  intro t0_244 E_244
  unfold fW_renders_244
  refine r_istore (lo2 := [(15, wi t0_244), (0, .ref (ad 0)), (1, .ref (ad 1)), (2, .ref (ad 2)), (3, .ref (ad 3)), (4, .ref (ad 6)), (5, .ref (ad kz)), (7, .ref (ad 12)), (8, .ref (ad 13)), (9, .ref (ad 14)), (10, vl v10_70), (12, wi v12_70), (13, wi r8), (14, wi r11), (16, wi v16_217)]) dL_renders_244 (by decide) rfl ?_
  refine r_iinc (x := v16_217) (lo2 := [(16, wi (v16_217 + 1)), (15, wi t0_244), (0, .ref (ad 0)), (1, .ref (ad 1)), (2, .ref (ad 2)), (3, .ref (ad 3)), (4, .ref (ad 6)), (5, .ref (ad kz)), (7, .ref (ad 12)), (8, .ref (ad 13)), (9, .ref (ad 14)), (10, vl v10_70), (12, wi v12_70), (13, wi r8), (14, wi r11)]) dL_renders_246 rfl (by decide) rfl ?_
  refine r_goto (tgt := 217) dL_renders_249 (by decide) ?_
  refine r_lo [2, 3, 4, 5, 6, 7, 8, 9, 10, 11, 12, 13, 14, 1, 0] (lo2 := [(0, .ref (ad 0)), (1, .ref (ad 1)), (2, .ref (ad 2)), (3, .ref (ad 3)), (4, .ref (ad 6)), (5, .ref (ad kz)), (7, .ref (ad 12)), (8, .ref (ad 13)), (9, .ref (ad 14)), (10, vl v10_70), (12, wi v12_70), (13, wi r8), (14, wi r11), (15, wi t0_244), (16, wi (v16_217 + 1))]) rfl ?_
  exact hL217 t0_244 (v16_217 + 1) E_244
set_option maxHeartbeats 8000000 in
set_option maxRecDepth 100000 in
theorem b_L_renders_239 {l : Launch} {Γ : Cx} {ad : Nat → Nat} {K0 : Cd} (h : wOn Γ) (hm : ∀ k, k ≤ 10 → ad k ≠ 0) (hb : ∀ k, 12 ≤ k → k ≤ 14 → ad k ≠ 0) (kz : Nat) (v10_70 : Int) (v12_70 : Int) (r8 : Int) (r11 : Int) (v16_217 : Int) (hz : kz = 10 ∨ kz = 11) (hz0 : ad kz ≠ 0) (J244 : Int → Rw → Option (Int × Rw)) (hJ244 : ∀ (t0_244 : Int) (E_244 : Rw), RunO l Γ k_L_renders 4 encJ (emW ad K0) 244 [(0, .ref (ad 0)), (1, .ref (ad 1)), (2, .ref (ad 2)), (3, .ref (ad 3)), (4, .ref (ad 6)), (5, .ref (ad kz)), (7, .ref (ad 12)), (8, .ref (ad 13)), (9, .ref (ad 14)), (10, vl v10_70), (12, wi v12_70), (13, wi r8), (14, wi r11), (16, wi v16_217)] [wi t0_244] E_244 (J244 t0_244 E_244)) : ∀ (E_239 : Rw), RunO l Γ k_L_renders 4 encJ (emW ad K0) 239 [(0, .ref (ad 0)), (1, .ref (ad 1)), (2, .ref (ad 2)), (3, .ref (ad 3)), (4, .ref (ad 6)), (5, .ref (ad kz)), (7, .ref (ad 12)), (8, .ref (ad 13)), (9, .ref (ad 14)), (10, vl v10_70), (12, wi v12_70), (13, wi r8), (14, wi r11), (16, wi v16_217)] [] E_239 (fW_renders_239 J244 E_239) := by
  intro E_239
  unfold fW_renders_239
  refine ro_iconst (v := 1) dL_renders_239 rfl ?_
  refine r_goto (tgt := 244) dL_renders_240 (by decide) ?_
  exact hJ244 1 E_239
set_option maxHeartbeats 8000000 in
set_option maxRecDepth 100000 in
theorem b_L_renders_217 {l : Launch} {Γ : Cx} {ad : Nat → Nat} {K0 : Cd} (h : wOn Γ) (hm : ∀ k, k ≤ 10 → ad k ≠ 0) (hb : ∀ k, 12 ≤ k → k ≤ 14 → ad k ≠ 0) (kz : Nat) (v10_70 : Int) (v12_70 : Int) (r8 : Int) (r11 : Int) (hz : kz = 10 ∨ kz = 11) (hz0 : ad kz ≠ 0) (J359 : Int → Int → Rw → Option (Int × Rw)) (hJ359 : ∀ (v10_359 : Int) (v12_359 : Int) (E_359 : Rw), RunO l Γ k_L_renders 4 encJ (emW ad K0) 359 [(0, .ref (ad 0)), (1, .ref (ad 1)), (2, .ref (ad 2)), (3, .ref (ad 3)), (4, .ref (ad 6)), (5, .ref (ad kz)), (7, .ref (ad 12)), (8, .ref (ad 13)), (9, .ref (ad 14)), (10, vl v10_359), (12, wi v12_359)] [] E_359 (J359 v10_359 v12_359 E_359)) (L217 : Int → Int → Rw → Option (Int × Rw)) (hL217 : ∀ (v15_217 : Int) (v16_217 : Int) (E_217 : Rw), RunO l Γ k_L_renders 4 encJ (emW ad K0) 217 [(0, .ref (ad 0)), (1, .ref (ad 1)), (2, .ref (ad 2)), (3, .ref (ad 3)), (4, .ref (ad 6)), (5, .ref (ad kz)), (7, .ref (ad 12)), (8, .ref (ad 13)), (9, .ref (ad 14)), (10, vl v10_70), (12, wi v12_70), (13, wi r8), (14, wi r11), (15, wi v15_217), (16, wi v16_217)] [] E_217 (L217 v15_217 v16_217 E_217)) : ∀ (v15_217 : Int) (v16_217 : Int) (E_217 : Rw), RunO l Γ k_L_renders 4 encJ (emW ad K0) 217 [(0, .ref (ad 0)), (1, .ref (ad 1)), (2, .ref (ad 2)), (3, .ref (ad 3)), (4, .ref (ad 6)), (5, .ref (ad kz)), (7, .ref (ad 12)), (8, .ref (ad 13)), (9, .ref (ad 14)), (10, vl v10_70), (12, wi v12_70), (13, wi r8), (14, wi r11), (15, wi v15_217), (16, wi v16_217)] [] E_217 (fW_renders_217 kz v10_70 v12_70 r8 J359 r11 L217 v15_217 v16_217 E_217) := by
  intro v15_217 v16_217 E_217
  unfold fW_renders_217
  refine r_iload (x := v16_217) dL_renders_217 rfl ?_
  refine r_iload (x := v12_70) dL_renders_219 rfl ?_
  refine r_icmp_gt (tgt := 252) dL_renders_221 (by decide) ?_ ?_
  · refine r_iload (x := r11) dL_renders_252 rfl ?_
    refine r_if_ge (tgt := 292) dL_renders_254 (by decide) ?_ ?_
    · refine r_iload (x := v15_217) dL_renders_292 rfl ?_
      refine r_join (P := fun (J : Rw → Option (Int × Rw)) => ∀ (E_304 : Rw), RunO l Γ k_L_renders 4 encJ (emW ad K0) 304 [(0, .ref (ad 0)), (1, .ref (ad 1)), (2, .ref (ad 2)), (3, .ref (ad 3)), (4, .ref (ad 6)), (5, .ref (ad kz)), (7, .ref (ad 12)), (8, .ref (ad 13)), (9, .ref (ad 14)), (10, vl v10_70), (12, wi v12_70), (15, wi v15_217)] [] E_304 (J E_304)) ?_ (fun J304 hJ304 => ?_)
      · exact b_L_renders_304 h hm hb kz v10_70 v12_70 v15_217 hz hz0 J359 hJ359
      refine r_if_ne (tgt := 304) dL_renders_294 (by decide) ?_ ?_
      · refine r_lo [0, 1, 2, 3, 4, 5, 6, 7, 8, 9, 10, 13] (lo2 := [(0, .ref (ad 0)), (1, .ref (ad 1)), (2, .ref (ad 2)), (3, .ref (ad 3)), (4, .ref (ad 6)), (5, .ref (ad kz)), (7, .ref (ad 12)), (8, .ref (ad 13)), (9, .ref (ad 14)), (10, vl v10_70), (12, wi v12_70), (15, wi v15_217)]) rfl ?_
        exact hJ304 E_217
      · refine r_iload (x := v12_70) dL_renders_297 rfl ?_
        refine r_bipush (v := 6) dL_renders_299 rfl ?_
        refine r_icmp_ne (tgt := 330) dL_renders_301 (by decide) ?_ ?_
        · refine r_iinc (x := v12_70) (lo2 := [(12, wi (v12_70 + 1)), (0, .ref (ad 0)), (1, .ref (ad 1)), (2, .ref (ad 2)), (3, .ref (ad 3)), (4, .ref (ad 6)), (5, .ref (ad kz)), (7, .ref (ad 12)), (8, .ref (ad 13)), (9, .ref (ad 14)), (10, vl v10_70), (13, wi r8), (14, wi r11), (15, wi v15_217), (16, wi v16_217)]) dL_renders_330 rfl (by decide) rfl ?_
          refine r_aload (x := ad 12) dL_renders_333 rfl ?_
          refine r_iload (x := v12_70 + 1) dL_renders_335 rfl ?_
          refine r_aload_n (x := ad 0) dL_renders_337 rfl rfl ?_
          refine r_aload_n (x := ad 1) dL_renders_338 rfl rfl ?_
          refine r_aload_n (x := ad 2) dL_renders_339 rfl rfl ?_
          refine r_iload (x := r11) dL_renders_340 rfl ?_
          refine r_csi (J := fun (E_ : Rw) => E_) (k2 := k_L_present) (n := 4) (rest := [wi (v12_70 + 1), .ref (ad 12)]) (fun _ => rfl) rfl kv_L_present (c_L_present h hm r11 _) (by decide) um_L_15 rfl (Nat.le_of_ble_eq_true rfl) dL_renders_342 rfl (fun r15 E16 => ?_)
          show RunO l Γ k_L_renders 4 encJ (emW ad K0) 345 [(12, wi (v12_70 + 1)), (0, .ref (ad 0)), (1, .ref (ad 1)), (2, .ref (ad 2)), (3, .ref (ad 3)), (4, .ref (ad 6)), (5, .ref (ad kz)), (7, .ref (ad 12)), (8, .ref (ad 13)), (9, .ref (ad 14)), (10, vl v10_70), (13, wi r8), (14, wi r11), (15, wi v15_217), (16, wi v16_217)] [wi r15, wi (v12_70 + 1), .ref (ad 12)] E16 _
          refine r_wiast h (by decide) (hb 12 (by decide) (by decide)) dL_renders_345 (fun E17 => ?_)
          refine r_aload (x := ad 13) dL_renders_346 rfl ?_
          refine r_iload (x := v12_70 + 1) dL_renders_348 rfl ?_
          refine ro_iconst (v := 0) dL_renders_350 rfl ?_
          refine r_wiast h (by decide) (hb 13 (by decide) (by decide)) dL_renders_351 (fun E18 => ?_)
          refine r_aload (x := ad 14) dL_renders_352 rfl ?_
          refine r_iload (x := v12_70 + 1) dL_renders_354 rfl ?_
          refine r_iload (x := r11) dL_renders_356 rfl ?_
          refine r_wiast h (by decide) (hb 14 (by decide) (by decide)) dL_renders_358 (fun E19 => ?_)
          refine r_lo [1, 2, 3, 4, 5, 6, 7, 8, 9, 10, 0] (lo2 := [(0, .ref (ad 0)), (1, .ref (ad 1)), (2, .ref (ad 2)), (3, .ref (ad 3)), (4, .ref (ad 6)), (5, .ref (ad kz)), (7, .ref (ad 12)), (8, .ref (ad 13)), (9, .ref (ad 14)), (10, vl v10_70), (12, wi (v12_70 + 1))]) rfl ?_
          exact hJ359 v10_70 (v12_70 + 1) E19
        · refine r_lo [0, 1, 2, 3, 4, 5, 6, 7, 8, 9, 10, 13] (lo2 := [(0, .ref (ad 0)), (1, .ref (ad 1)), (2, .ref (ad 2)), (3, .ref (ad 3)), (4, .ref (ad 6)), (5, .ref (ad kz)), (7, .ref (ad 12)), (8, .ref (ad 13)), (9, .ref (ad 14)), (10, vl v10_70), (12, wi v12_70), (15, wi v15_217)]) rfl ?_
          exact hJ304 E_217
    · refine r_aload (x := ad kz) dL_renders_257 rfl ?_
      refine ro_iconst (v := 0) dL_renders_259 rfl ?_
      refine r_dup2 dL_renders_260 rfl rfl ?_
      refine r_wiald h (wz_mem hz) hz0 dL_renders_261 ?_
      refine ro_iconst (v := 1) dL_renders_262 rfl ?_
      refine r_iload (x := r8) dL_renders_263 rfl ?_
      refine r_bipush (v := 16) dL_renders_265 rfl ?_
      refine r_idiv dL_renders_267 (by decide) ?_
      refine r_ishl dL_renders_268 ?_
      refine r_ior dL_renders_269 ?_
      refine r_wiast h (wz_mem hz) hz0 dL_renders_270 (fun E20 => ?_)
      refine r_aload (x := ad kz) dL_renders_271 rfl ?_
      refine r_lload (x := v10_70) dL_renders_273 rfl ?_
      refine r_sipush (v := 2000) dL_renders_275 rfl ?_
      refine r_iload (x := r8) dL_renders_278 rfl ?_
      refine r_bipush (v := 16) dL_renders_280 rfl ?_
      refine r_idiv dL_renders_282 (by decide) ?_
      refine r_iadd dL_renders_283 ?_
      refine r_csj (J := fun (E_ : Rw) => E_) (k2 := k_L_comes) (n := 3) (rest := []) (fun _ => rfl) rfl kv_L_comes (c_L_comes h hm kz v10_70 (2000 + (divI r8 16)) hz hz0 _) (by decide) um_L_27 rfl (Nat.le_of_ble_eq_true rfl) dL_renders_284 rfl (fun r21 E22 => ?_)
      show RunO l Γ k_L_renders 4 encJ (emW ad K0) 287 [(0, .ref (ad 0)), (1, .ref (ad 1)), (2, .ref (ad 2)), (3, .ref (ad 3)), (4, .ref (ad 6)), (5, .ref (ad kz)), (7, .ref (ad 12)), (8, .ref (ad 13)), (9, .ref (ad 14)), (10, vl v10_70), (12, wi v12_70), (13, wi r8), (14, wi r11), (15, wi v15_217), (16, wi v16_217)] [vl r21] E22 _
      refine r_lstore (lo2 := [(10, vl r21), (0, .ref (ad 0)), (1, .ref (ad 1)), (2, .ref (ad 2)), (3, .ref (ad 3)), (4, .ref (ad 6)), (5, .ref (ad kz)), (7, .ref (ad 12)), (8, .ref (ad 13)), (9, .ref (ad 14)), (12, wi v12_70), (13, wi r8), (14, wi r11), (15, wi v15_217), (16, wi v16_217)]) dL_renders_287 (by decide) rfl ?_
      refine r_goto (tgt := 359) dL_renders_289 (by decide) ?_
      refine r_lo [1, 2, 3, 4, 5, 6, 7, 8, 9, 0, 10] (lo2 := [(0, .ref (ad 0)), (1, .ref (ad 1)), (2, .ref (ad 2)), (3, .ref (ad 3)), (4, .ref (ad 6)), (5, .ref (ad kz)), (7, .ref (ad 12)), (8, .ref (ad 13)), (9, .ref (ad 14)), (10, vl r21), (12, wi v12_70)]) rfl ?_
      exact hJ359 r21 v12_70 E22
  · refine r_iload (x := v15_217) dL_renders_224 rfl ?_
    refine r_join (P := fun (J : Int → Rw → Option (Int × Rw)) => ∀ (t0_244 : Int) (E_244 : Rw), RunO l Γ k_L_renders 4 encJ (emW ad K0) 244 [(0, .ref (ad 0)), (1, .ref (ad 1)), (2, .ref (ad 2)), (3, .ref (ad 3)), (4, .ref (ad 6)), (5, .ref (ad kz)), (7, .ref (ad 12)), (8, .ref (ad 13)), (9, .ref (ad 14)), (10, vl v10_70), (12, wi v12_70), (13, wi r8), (14, wi r11), (16, wi v16_217)] [wi t0_244] E_244 (J t0_244 E_244)) ?_ (fun J244 hJ244 => ?_)
    · exact b_L_renders_244 h hm hb kz v10_70 v12_70 r8 r11 v16_217 hz hz0 L217 hL217
    refine r_join (P := fun (J : Rw → Option (Int × Rw)) => ∀ (E_239 : Rw), RunO l Γ k_L_renders 4 encJ (emW ad K0) 239 [(0, .ref (ad 0)), (1, .ref (ad 1)), (2, .ref (ad 2)), (3, .ref (ad 3)), (4, .ref (ad 6)), (5, .ref (ad kz)), (7, .ref (ad 12)), (8, .ref (ad 13)), (9, .ref (ad 14)), (10, vl v10_70), (12, wi v12_70), (13, wi r8), (14, wi r11), (16, wi v16_217)] [] E_239 (J E_239)) ?_ (fun J239 hJ239 => ?_)
    · exact b_L_renders_239 h hm hb kz v10_70 v12_70 r8 r11 v16_217 hz hz0 J244 hJ244
    refine r_if_ne (tgt := 239) dL_renders_226 (by decide) ?_ ?_
    · refine r_lo [0, 1, 2, 3, 4, 5, 6, 7, 8, 9, 10, 11, 12, 14] (lo2 := [(0, .ref (ad 0)), (1, .ref (ad 1)), (2, .ref (ad 2)), (3, .ref (ad 3)), (4, .ref (ad 6)), (5, .ref (ad kz)), (7, .ref (ad 12)), (8, .ref (ad 13)), (9, .ref (ad 14)), (10, vl v10_70), (12, wi v12_70), (13, wi r8), (14, wi r11), (16, wi v16_217)]) rfl ?_
      exact hJ239 E_217
    · refine r_aload (x := ad 14) dL_renders_229 rfl ?_
      refine r_iload (x := v16_217) dL_renders_231 rfl ?_
      refine r_wiald h (by decide) (hb 14 (by decide) (by decide)) dL_renders_233 ?_
      refine r_iload (x := r11) dL_renders_234 rfl ?_
      refine r_icmp_ne (tgt := 243) dL_renders_236 (by decide) ?_ ?_
      · refine ro_iconst (v := 0) dL_renders_243 rfl ?_
        refine r_lo [0, 1, 2, 3, 4, 5, 6, 7, 8, 9, 10, 11, 12, 14] (lo2 := [(0, .ref (ad 0)), (1, .ref (ad 1)), (2, .ref (ad 2)), (3, .ref (ad 3)), (4, .ref (ad 6)), (5, .ref (ad kz)), (7, .ref (ad 12)), (8, .ref (ad 13)), (9, .ref (ad 14)), (10, vl v10_70), (12, wi v12_70), (13, wi r8), (14, wi r11), (16, wi v16_217)]) rfl ?_
        exact hJ244 0 E_217
      · refine r_lo [0, 1, 2, 3, 4, 5, 6, 7, 8, 9, 10, 11, 12, 14] (lo2 := [(0, .ref (ad 0)), (1, .ref (ad 1)), (2, .ref (ad 2)), (3, .ref (ad 3)), (4, .ref (ad 6)), (5, .ref (ad kz)), (7, .ref (ad 12)), (8, .ref (ad 13)), (9, .ref (ad 14)), (10, vl v10_70), (12, wi v12_70), (13, wi r8), (14, wi r11), (16, wi v16_217)]) rfl ?_
        exact hJ239 E_217
set_option maxHeartbeats 8000000 in
set_option maxRecDepth 100000 in
theorem b_L_renders_70 {l : Launch} {Γ : Cx} {ad : Nat → Nat} {K0 : Cd} (h : wOn Γ) (hm : ∀ k, k ≤ 10 → ad k ≠ 0) (hb : ∀ k, 12 ≤ k → k ≤ 14 → ad k ≠ 0) (kz : Nat) (hz : kz = 10 ∨ kz = 11) (hz0 : ad kz ≠ 0) (L70 : Int → Int → Rw → Option (Int × Rw)) (hL70 : ∀ (v10_70 : Int) (v12_70 : Int) (E_70 : Rw), RunO l Γ k_L_renders 4 encJ (emW ad K0) 70 [(0, .ref (ad 0)), (1, .ref (ad 1)), (2, .ref (ad 2)), (3, .ref (ad 3)), (4, .ref (ad 6)), (5, .ref (ad kz)), (7, .ref (ad 12)), (8, .ref (ad 13)), (9, .ref (ad 14)), (10, vl v10_70), (12, wi v12_70)] [] E_70 (L70 v10_70 v12_70 E_70)) : ∀ (v10_70 : Int) (v12_70 : Int) (E_70 : Rw), RunO l Γ k_L_renders 4 encJ (emW ad K0) 70 [(0, .ref (ad 0)), (1, .ref (ad 1)), (2, .ref (ad 2)), (3, .ref (ad 3)), (4, .ref (ad 6)), (5, .ref (ad kz)), (7, .ref (ad 12)), (8, .ref (ad 13)), (9, .ref (ad 14)), (10, vl v10_70), (12, wi v12_70)] [] E_70 (fW_renders_70 kz L70 v10_70 v12_70 E_70) := by
  intro v10_70 v12_70 E_70
  unfold fW_renders_70
  refine r_iload (x := v12_70) dL_renders_70 rfl ?_
  refine r_if_lt (tgt := 362) dL_renders_72 (by decide) ?_ ?_
  · refine r_aload (x := ad kz) dL_renders_362 rfl ?_
    refine ro_iconst (v := 4) dL_renders_364 rfl ?_
    refine r_aload (x := ad kz) dL_renders_365 rfl ?_
    refine ro_iconst (v := 4) dL_renders_367 rfl ?_
    refine r_wiald h (wz_mem hz) hz0 dL_renders_368 ?_
    refine r_sipush (v := 150) dL_renders_369 rfl ?_
    refine r_join (P := fun (J : Int → Rw → Option (Int × Rw)) => ∀ (t0_385 : Int) (E_385 : Rw), RunO l Γ k_L_renders 4 encJ (emW ad K0) 385 [(10, vl v10_70)] [wi t0_385, wi 4, .ref (ad kz)] E_385 (J t0_385 E_385)) ?_ (fun J385 hJ385 => ?_)
    · exact b_L_renders_385 h hm hb kz v10_70 hz hz0
    refine r_icmp_le (tgt := 381) dL_renders_372 (by decide) ?_ ?_
    · refine r_aload (x := ad kz) dL_renders_381 rfl ?_
      refine ro_iconst (v := 4) dL_renders_383 rfl ?_
      refine r_wiald h (wz_mem hz) hz0 dL_renders_384 ?_
      refine r_lo [9] (lo2 := [(10, vl v10_70)]) rfl ?_
      exact hJ385 (E_70 kz (ix 4)) E_70
    · refine r_sipush (v := 150) dL_renders_375 rfl ?_
      refine r_goto (tgt := 385) dL_renders_378 (by decide) ?_
      refine r_lo [9] (lo2 := [(10, vl v10_70)]) rfl ?_
      exact hJ385 150 E_70
  · refine r_aload (x := ad 13) dL_renders_75 rfl ?_
    refine r_iload (x := v12_70) dL_renders_77 rfl ?_
    refine r_wiald h (by decide) (hb 13 (by decide) (by decide)) dL_renders_79 ?_
    refine r_aload_n (x := ad 3) dL_renders_80 rfl rfl ?_
    refine r_aload (x := ad 12) dL_renders_81 rfl ?_
    refine r_iload (x := v12_70) dL_renders_83 rfl ?_
    refine r_wiald h (by decide) (hb 12 (by decide) (by decide)) dL_renders_85 ?_
    refine r_wlald h (by decide) (hm 3 (by decide)) dL_renders_86 ?_
    refine r_csi (J := fun (_ : Unit) => E_70) (k2 := k_L_macros) (n := 1) (rest := [wi (E_70 13 (ix v12_70))]) (fun _ => rfl) rfl kv_L_macros (c_L_macros (σ0 := _) (E_70 3 (ix (E_70 12 (ix v12_70))))) (by decide) um_L_7 rfl (Nat.le_of_ble_eq_true rfl) dL_renders_87 rfl (fun r7 _ => ?_)
    show RunO l Γ k_L_renders 4 encJ (emW ad K0) 90 [(0, .ref (ad 0)), (1, .ref (ad 1)), (2, .ref (ad 2)), (3, .ref (ad 3)), (4, .ref (ad 6)), (5, .ref (ad kz)), (7, .ref (ad 12)), (8, .ref (ad 13)), (9, .ref (ad 14)), (10, vl v10_70), (12, wi v12_70)] [wi r7, wi (E_70 13 (ix v12_70))] E_70 _
    refine r_icmp_ne (tgt := 99) dL_renders_90 (by decide) ?_ ?_
    · refine r_aload_n (x := ad 3) dL_renders_99 rfl rfl ?_
      refine r_aload (x := ad 12) dL_renders_100 rfl ?_
      refine r_iload (x := v12_70) dL_renders_102 rfl ?_
      refine r_wiald h (by decide) (hb 12 (by decide) (by decide)) dL_renders_104 ?_
      refine r_wlald h (by decide) (hm 3 (by decide)) dL_renders_105 ?_
      refine r_aload (x := ad 13) dL_renders_106 rfl ?_
      refine r_iload (x := v12_70) dL_renders_108 rfl ?_
      refine r_wiald h (by decide) (hb 13 (by decide) (by decide)) dL_renders_110 ?_
      refine r_csi (J := fun (_ : Unit) => E_70) (k2 := k_L_macro) (n := 2) (rest := []) (fun _ => rfl) rfl kv_L_macro (c_L_macro (σ0 := _) (E_70 3 (ix (E_70 12 (ix v12_70)))) (E_70 13 (ix v12_70))) (by decide) um_L_19 rfl (Nat.le_of_ble_eq_true rfl) dL_renders_111 rfl (fun r8 _ => ?_)
      show RunO l Γ k_L_renders 4 encJ (emW ad K0) 114 [(0, .ref (ad 0)), (1, .ref (ad 1)), (2, .ref (ad 2)), (3, .ref (ad 3)), (4, .ref (ad 6)), (5, .ref (ad kz)), (7, .ref (ad 12)), (8, .ref (ad 13)), (9, .ref (ad 14)), (10, vl v10_70), (12, wi v12_70)] [wi r8] E_70 _
      refine r_istore (lo2 := [(13, wi r8), (0, .ref (ad 0)), (1, .ref (ad 1)), (2, .ref (ad 2)), (3, .ref (ad 3)), (4, .ref (ad 6)), (5, .ref (ad kz)), (7, .ref (ad 12)), (8, .ref (ad 13)), (9, .ref (ad 14)), (10, vl v10_70), (12, wi v12_70)]) dL_renders_114 (by decide) rfl ?_
      refine r_aload (x := ad 13) dL_renders_116 rfl ?_
      refine r_iload (x := v12_70) dL_renders_118 rfl ?_
      refine r_dup2 dL_renders_120 rfl rfl ?_
      refine r_wiald h (by decide) (hb 13 (by decide) (by decide)) dL_renders_121 ?_
      refine ro_iconst (v := 1) dL_renders_122 rfl ?_
      refine r_iadd dL_renders_123 ?_
      refine r_wiast h (by decide) (hb 13 (by decide) (by decide)) dL_renders_124 (fun E9 => ?_)
      refine r_iload (x := r8) dL_renders_125 rfl ?_
      refine r_bipush (v := 16) dL_renders_127 rfl ?_
      refine r_irem dL_renders_129 (by decide) ?_
      refine ro_iconst (v := 2) dL_renders_130 rfl ?_
      refine r_join (P := fun (J : Int → Int → Rw → Option (Int × Rw)) => ∀ (v10_359 : Int) (v12_359 : Int) (E_359 : Rw), RunO l Γ k_L_renders 4 encJ (emW ad K0) 359 [(0, .ref (ad 0)), (1, .ref (ad 1)), (2, .ref (ad 2)), (3, .ref (ad 3)), (4, .ref (ad 6)), (5, .ref (ad kz)), (7, .ref (ad 12)), (8, .ref (ad 13)), (9, .ref (ad 14)), (10, vl v10_359), (12, wi v12_359)] [] E_359 (J v10_359 v12_359 E_359)) ?_ (fun J359 hJ359 => ?_)
      · exact b_L_renders_359 h hm hb kz hz hz0 L70 hL70
      refine r_icmp_eq (tgt := 163) dL_renders_131 (by decide) ?_ ?_
      · refine r_aload (x := ad kz) dL_renders_163 rfl ?_
        refine ro_iconst (v := 5) dL_renders_165 rfl ?_
        refine r_wiald h (wz_mem hz) hz0 dL_renders_166 ?_
        refine r_bipush (v := 40) dL_renders_167 rfl ?_
        refine r_icmp_ne (tgt := 187) dL_renders_169 (by decide) ?_ ?_
        · refine r_aload (x := ad kz) dL_renders_187 rfl ?_
          refine ro_iconst (v := 5) dL_renders_189 rfl ?_
          refine r_dup2 dL_renders_190 rfl rfl ?_
          refine r_wiald h (wz_mem hz) hz0 dL_renders_191 ?_
          refine ro_iconst (v := 1) dL_renders_192 rfl ?_
          refine r_iadd dL_renders_193 ?_
          refine r_wiast h (wz_mem hz) hz0 dL_renders_194 (fun E10 => ?_)
          refine r_aload_n (x := ad 0) dL_renders_195 rfl rfl ?_
          refine r_aload_n (x := ad 1) dL_renders_196 rfl rfl ?_
          refine r_aload_n (x := ad 2) dL_renders_197 rfl rfl ?_
          refine r_aload_n (x := ad 3) dL_renders_198 rfl rfl ?_
          refine r_aload (x := ad kz) dL_renders_199 rfl ?_
          refine r_iload (x := r8) dL_renders_201 rfl ?_
          refine r_bipush (v := 16) dL_renders_203 rfl ?_
          refine r_idiv dL_renders_205 (by decide) ?_
          refine r_csi (J := fun (E_ : Rw) => E_) (k2 := k_L_way) (n := 6) (rest := []) (fun _ => rfl) rfl kv_L_way (c_L_way h hm kz (divI r8 16) hz hz0 _) (by decide) um_L_43 rfl (Nat.le_of_ble_eq_true rfl) dL_renders_206 rfl (fun r11 E12 => ?_)
          show RunO l Γ k_L_renders 4 encJ (emW ad K0) 209 [(13, wi r8), (0, .ref (ad 0)), (1, .ref (ad 1)), (2, .ref (ad 2)), (3, .ref (ad 3)), (4, .ref (ad 6)), (5, .ref (ad kz)), (7, .ref (ad 12)), (8, .ref (ad 13)), (9, .ref (ad 14)), (10, vl v10_70), (12, wi v12_70)] [wi r11] E12 _
          refine r_istore (lo2 := [(14, wi r11), (13, wi r8), (0, .ref (ad 0)), (1, .ref (ad 1)), (2, .ref (ad 2)), (3, .ref (ad 3)), (4, .ref (ad 6)), (5, .ref (ad kz)), (7, .ref (ad 12)), (8, .ref (ad 13)), (9, .ref (ad 14)), (10, vl v10_70), (12, wi v12_70)]) dL_renders_209 (by decide) rfl ?_
          refine ro_iconst (v := 0) dL_renders_211 rfl ?_
          refine r_istore (lo2 := [(15, wi 0), (14, wi r11), (13, wi r8), (0, .ref (ad 0)), (1, .ref (ad 1)), (2, .ref (ad 2)), (3, .ref (ad 3)), (4, .ref (ad 6)), (5, .ref (ad kz)), (7, .ref (ad 12)), (8, .ref (ad 13)), (9, .ref (ad 14)), (10, vl v10_70), (12, wi v12_70)]) dL_renders_212 (by decide) rfl ?_
          refine ro_iconst (v := 0) dL_renders_214 rfl ?_
          refine r_istore (lo2 := [(16, wi 0), (15, wi 0), (14, wi r11), (13, wi r8), (0, .ref (ad 0)), (1, .ref (ad 1)), (2, .ref (ad 2)), (3, .ref (ad 3)), (4, .ref (ad 6)), (5, .ref (ad kz)), (7, .ref (ad 12)), (8, .ref (ad 13)), (9, .ref (ad 14)), (10, vl v10_70), (12, wi v12_70)]) dL_renders_215 (by decide) rfl ?_
          refine r_loop (P := fun (J : Int → Int → Rw → Option (Int × Rw)) => ∀ (v15_217 : Int) (v16_217 : Int) (E_217 : Rw), RunO l Γ k_L_renders 4 encJ (emW ad K0) 217 [(0, .ref (ad 0)), (1, .ref (ad 1)), (2, .ref (ad 2)), (3, .ref (ad 3)), (4, .ref (ad 6)), (5, .ref (ad kz)), (7, .ref (ad 12)), (8, .ref (ad 13)), (9, .ref (ad 14)), (10, vl v10_70), (12, wi v12_70), (13, wi r8), (14, wi r11), (15, wi v15_217), (16, wi v16_217)] [] E_217 (J v15_217 v16_217 E_217)) ?_ (fun L217 hL217 => ?_) (fun J217 hJ217 => ?_)
          · intros; exact ro_none
          · exact b_L_renders_217 h hm hb kz v10_70 v12_70 r8 r11 hz hz0 J359 hJ359 L217 hL217
          refine r_lo [4, 5, 6, 7, 8, 9, 10, 11, 12, 13, 14, 3, 2, 1, 0] (lo2 := [(0, .ref (ad 0)), (1, .ref (ad 1)), (2, .ref (ad 2)), (3, .ref (ad 3)), (4, .ref (ad 6)), (5, .ref (ad kz)), (7, .ref (ad 12)), (8, .ref (ad 13)), (9, .ref (ad 14)), (10, vl v10_70), (12, wi v12_70), (13, wi r8), (14, wi r11), (15, wi 0), (16, wi 0)]) rfl ?_
          exact hJ217 0 0 E12
        · refine r_aload (x := ad kz) dL_renders_172 rfl ?_
          refine r_lload (x := v10_70) dL_renders_174 rfl ?_
          refine r_sipush (v := 9003) dL_renders_176 rfl ?_
          refine r_csj (J := fun (E_ : Rw) => E_) (k2 := k_L_comes) (n := 3) (rest := []) (fun _ => rfl) rfl kv_L_comes (c_L_comes h hm kz v10_70 9003 hz hz0 _) (by decide) um_L_27 rfl (Nat.le_of_ble_eq_true rfl) dL_renders_179 rfl (fun r23 E24 => ?_)
          show RunO l Γ k_L_renders 4 encJ (emW ad K0) 182 [(13, wi r8), (0, .ref (ad 0)), (1, .ref (ad 1)), (2, .ref (ad 2)), (3, .ref (ad 3)), (4, .ref (ad 6)), (5, .ref (ad kz)), (7, .ref (ad 12)), (8, .ref (ad 13)), (9, .ref (ad 14)), (10, vl v10_70), (12, wi v12_70)] [vl r23] E24 _
          refine r_lstore (lo2 := [(10, vl r23), (13, wi r8), (0, .ref (ad 0)), (1, .ref (ad 1)), (2, .ref (ad 2)), (3, .ref (ad 3)), (4, .ref (ad 6)), (5, .ref (ad kz)), (7, .ref (ad 12)), (8, .ref (ad 13)), (9, .ref (ad 14)), (12, wi v12_70)]) dL_renders_182 (by decide) rfl ?_
          refine r_goto (tgt := 359) dL_renders_184 (by decide) ?_
          refine r_lo [2, 3, 4, 5, 6, 7, 8, 9, 10, 0, 11] (lo2 := [(0, .ref (ad 0)), (1, .ref (ad 1)), (2, .ref (ad 2)), (3, .ref (ad 3)), (4, .ref (ad 6)), (5, .ref (ad kz)), (7, .ref (ad 12)), (8, .ref (ad 13)), (9, .ref (ad 14)), (10, vl r23), (12, wi v12_70)]) rfl ?_
          exact hJ359 r23 v12_70 E24
      · refine r_aload_n (x := ad 0) dL_renders_134 rfl rfl ?_
        refine r_aload_n (x := ad 1) dL_renders_135 rfl rfl ?_
        refine r_aload_n (x := ad 2) dL_renders_136 rfl rfl ?_
        refine r_aload (x := ad 6) dL_renders_137 rfl ?_
        refine r_aload (x := ad kz) dL_renders_139 rfl ?_
        refine r_lload (x := v10_70) dL_renders_141 rfl ?_
        refine r_iload (x := r8) dL_renders_143 rfl ?_
        refine r_bipush (v := 16) dL_renders_145 rfl ?_
        refine r_irem dL_renders_147 (by decide) ?_
        refine r_iload (x := r8) dL_renders_148 rfl ?_
        refine r_bipush (v := 16) dL_renders_150 rfl ?_
        refine r_idiv dL_renders_152 (by decide) ?_
        refine r_iload (x := v12_70) dL_renders_153 rfl ?_
        refine r_csj (J := fun (E_ : Rw) => E_) (k2 := k_L_gives) (n := 9) (rest := []) (fun _ => rfl) rfl kv_L_gives (c_L_gives h hm kz v10_70 (remI r8 16) (divI r8 16) v12_70 hz hz0 _) (by decide) um_L_39 rfl (Nat.le_of_ble_eq_true rfl) dL_renders_155 rfl (fun r25 E26 => ?_)
        show RunO l Γ k_L_renders 4 encJ (emW ad K0) 158 [(13, wi r8), (0, .ref (ad 0)), (1, .ref (ad 1)), (2, .ref (ad 2)), (3, .ref (ad 3)), (4, .ref (ad 6)), (5, .ref (ad kz)), (7, .ref (ad 12)), (8, .ref (ad 13)), (9, .ref (ad 14)), (10, vl v10_70), (12, wi v12_70)] [vl r25] E26 _
        refine r_lstore (lo2 := [(10, vl r25), (13, wi r8), (0, .ref (ad 0)), (1, .ref (ad 1)), (2, .ref (ad 2)), (3, .ref (ad 3)), (4, .ref (ad 6)), (5, .ref (ad kz)), (7, .ref (ad 12)), (8, .ref (ad 13)), (9, .ref (ad 14)), (12, wi v12_70)]) dL_renders_158 (by decide) rfl ?_
        refine r_goto (tgt := 359) dL_renders_160 (by decide) ?_
        refine r_lo [2, 3, 4, 5, 6, 7, 8, 9, 10, 0, 11] (lo2 := [(0, .ref (ad 0)), (1, .ref (ad 1)), (2, .ref (ad 2)), (3, .ref (ad 3)), (4, .ref (ad 6)), (5, .ref (ad kz)), (7, .ref (ad 12)), (8, .ref (ad 13)), (9, .ref (ad 14)), (10, vl r25), (12, wi v12_70)]) rfl ?_
        exact hJ359 r25 v12_70 E26
    · refine r_iinc (x := v12_70) (lo2 := [(12, wi (v12_70 + (-1))), (0, .ref (ad 0)), (1, .ref (ad 1)), (2, .ref (ad 2)), (3, .ref (ad 3)), (4, .ref (ad 6)), (5, .ref (ad kz)), (7, .ref (ad 12)), (8, .ref (ad 13)), (9, .ref (ad 14)), (10, vl v10_70)]) dL_renders_93 rfl (by decide) rfl ?_
      refine r_goto (tgt := 70) dL_renders_96 (by decide) ?_
      refine r_lo [1, 2, 3, 4, 5, 6, 7, 8, 9, 10, 0] (lo2 := [(0, .ref (ad 0)), (1, .ref (ad 1)), (2, .ref (ad 2)), (3, .ref (ad 3)), (4, .ref (ad 6)), (5, .ref (ad kz)), (7, .ref (ad 12)), (8, .ref (ad 13)), (9, .ref (ad 14)), (10, vl v10_70), (12, wi (v12_70 + (-1)))]) rfl ?_
      exact hL70 v10_70 (v12_70 + (-1)) E_70
