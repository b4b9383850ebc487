def k_L_adds : Kd := (yL_adds, cL_adds, 7, some .int, [])
theorem kv_L_adds : KS k_L_adds 6 := ⟨uw_mem 779 (by decide +kernel) rfl, uw_mem 93 (by decide +kernel) rfl, uw_mem 778 (by decide +kernel) rfl, ⟨by decide +kernel, by decide +kernel⟩, by decide +kernel, by decide +kernel⟩
set_option maxHeartbeats 8000000 in
set_option maxRecDepth 100000 in
theorem c_L_adds {l : Launch} {Γ : Cx} {ad : Nat → Nat} {K0 : Cd} (h : wOn Γ) (hm : ∀ k, k ≤ 10 → ad k ≠ 0) (a3 : Int) (a4 : Int) (a5 : Int) (E : Rw) : Ct l Γ k_L_adds 1 encI (emW ad K0) [.ref (ad 0), .ref (ad 2), .ref (ad 3), wi a3, wi a4, vl a5] E (fW_adds a3 a4 a5 E) := by
  refine ct_of (by decide +kernel) rfl (Nat.le_of_ble_eq_true rfl) ?_
  refine r_lo [0, 1, 2, 3, 4, 5] (lo2 := [(0, .ref (ad 0)), (1, .ref (ad 2)), (2, .ref (ad 3)), (3, wi a3), (4, wi a4), (5, vl a5)]) rfl ?_
  unfold fW_adds
  refine r_aload_n (x := ad 2) dL_adds_0 rfl rfl ?_
  refine ro_iconst (v := 2) dL_adds_1 rfl ?_
  refine r_aload_n (x := ad 0) dL_adds_2 rfl rfl ?_
  refine ro_iconst (v := 0) dL_adds_3 rfl ?_
  refine r_wiald h (by decide) (hm 0 (by decide)) dL_adds_4 ?_
  refine r_imul dL_adds_5 ?_
  refine r_iload_n (x := a3) dL_adds_6 rfl rfl ?_
  refine r_wiast h (by decide) (hm 2 (by decide)) dL_adds_7 (fun E1 => ?_)
  refine r_aload_n (x := ad 2) dL_adds_8 rfl rfl ?_
  refine ro_iconst (v := 2) dL_adds_9 rfl ?_
  refine r_aload_n (x := ad 0) dL_adds_10 rfl rfl ?_
  refine ro_iconst (v := 0) dL_adds_11 rfl ?_
  refine r_wiald h (by decide) (hm 0 (by decide)) dL_adds_12 ?_
  refine r_imul dL_adds_13 ?_
  refine ro_iconst (v := 1) dL_adds_14 rfl ?_
  refine r_iadd dL_adds_15 ?_
  refine r_iload (x := a4) dL_adds_16 rfl ?_
  refine r_wiast h (by decide) (hm 2 (by decide)) dL_adds_18 (fun E2 => ?_)
  refine r_aload_n (x := ad 3) dL_adds_19 rfl rfl ?_
  refine r_aload_n (x := ad 0) dL_adds_20 rfl rfl ?_
  refine ro_iconst (v := 0) dL_adds_21 rfl ?_
  refine r_wiald h (by decide) (hm 0 (by decide)) dL_adds_22 ?_
  refine r_lload (x := a5) dL_adds_23 rfl ?_
  refine r_wlast h (by decide) (hm 3 (by decide)) dL_adds_25 (fun E3 => ?_)
  refine r_aload_n (x := ad 0) dL_adds_26 rfl rfl ?_
  refine ro_iconst (v := 0) dL_adds_27 rfl ?_
  refine r_dup2 dL_adds_28 rfl rfl ?_
  refine r_wiald h (by decide) (hm 0 (by decide)) dL_adds_29 ?_
  refine ro_iconst (v := 1) dL_adds_30 rfl ?_
  refine r_iadd dL_adds_31 ?_
  refine r_wiast h (by decide) (hm 0 (by decide)) dL_adds_32 (fun E4 => ?_)
  refine r_aload_n (x := ad 0) dL_adds_33 rfl rfl ?_
  refine ro_iconst (v := 0) dL_adds_34 rfl ?_
  refine r_wiald h (by decide) (hm 0 (by decide)) dL_adds_35 ?_
  refine ro_iconst (v := 1) dL_adds_36 rfl ?_
  refine r_isub dL_adds_37 ?_
  exact r_iret rfl dL_adds_38
def k_L_macros : Kd := (yL_macros, cL_macros, 5, some .int, [])
theorem kv_L_macros : KS k_L_macros 1 := ⟨uw_mem 734 (by decide +kernel) rfl, uw_mem 93 (by decide +kernel) rfl, uw_mem 733 (by decide +kernel) rfl, ⟨by decide +kernel, by decide +kernel⟩, by decide +kernel, by decide +kernel⟩
set_option maxHeartbeats 8000000 in
set_option maxRecDepth 100000 in
theorem c_L_macros {l : Launch} {Γ : Cx} {σ0 : St} (a0 : Int)  : Ct l Γ k_L_macros 1 encI (emU σ0) [vl a0] () (fW_macros a0) := by
  refine ct_of (by decide +kernel) rfl (Nat.le_of_ble_eq_true rfl) ?_
  refine r_lo [0] (lo2 := [(0, vl a0)]) rfl ?_
  unfold fW_macros
  refine ro_iconst (v := 0) dL_macros_0 rfl ?_
  refine r_istore_n (lo2 := [(2, wi 0), (0, vl a0)]) dL_macros_1 rfl (by decide) rfl ?_
  refine r_lload_n (x := a0) dL_macros_2 rfl rfl ?_
  refine r_lstore_n (lo2 := [(3, vl a0), (2, wi 0), (0, vl a0)]) dL_macros_3 rfl (by decide) rfl ?_
  refine r_loop (P := fun (J : Int → Int → Option (Int × Unit)) => ∀ (v2_4 : Int) (v3_4 : Int), RunO l Γ k_L_macros 1 encI (emU σ0) 4 [(2, wi v2_4), (3, vl v3_4)] [] () (J v2_4 v3_4)) ?_ (fun L4 hL4 => ?_) (fun J4 hJ4 => ?_)
  · intros; exact ro_none
  · intro v2_4 v3_4
    refine r_lload_n (x := v3_4) dL_macros_4 rfl rfl ?_
    refine r_lconst (x := 1) dL_macros_5 rfl ?_
    refine r_lcmp dL_macros_6 ?_
    refine r_if_le (tgt := 21) dL_macros_7 (by decide) ?_ ?_
    · refine r_iload_n (x := v2_4) dL_macros_21 rfl rfl ?_
      exact r_iret rfl dL_macros_22
    · refine r_iinc (x := v2_4) (lo2 := [(2, wi (v2_4 + 1)), (3, vl v3_4)]) dL_macros_10 rfl (by decide) rfl ?_
      refine r_lload_n (x := v3_4) dL_macros_13 rfl rfl ?_
      refine r_bipush (v := 10) dL_macros_14 rfl ?_
      refine r_lshr dL_macros_16 ?_
      refine r_nml (fun x3_17 => ?_)
      refine r_lstore_n (lo2 := [(3, vl x3_17), (2, wi (v2_4 + 1))]) dL_macros_17 rfl (by decide) rfl ?_
      refine r_goto (tgt := 4) dL_macros_18 (by decide) ?_
      refine r_lo [1, 0] (lo2 := [(2, wi (v2_4 + 1)), (3, vl x3_17)]) rfl ?_
      exact hL4 (v2_4 + 1) x3_17
  refine r_lo [1, 0] (lo2 := [(2, wi 0), (3, vl a0)]) rfl ?_
  exact hJ4 0 a0
def k_L_macro : Kd := (yL_macro, cL_macro, 3, some .int, [])
theorem kv_L_macro : KS k_L_macro 2 := ⟨uw_mem 749 (by decide +kernel) rfl, uw_mem 93 (by decide +kernel) rfl, uw_mem 748 (by decide +kernel) rfl, ⟨by decide +kernel, by decide +kernel⟩, by decide +kernel, by decide +kernel⟩
set_option maxHeartbeats 8000000 in
set_option maxRecDepth 100000 in
theorem c_L_macro {l : Launch} {Γ : Cx} {σ0 : St} (a0 : Int) (a2 : Int)  : Ct l Γ k_L_macro 2 encI (emU σ0) [vl a0, wi a2] () (fW_macro a0 a2) := by
  refine ct_of (by decide +kernel) rfl (Nat.le_of_ble_eq_true rfl) ?_
  refine r_lo [0, 1] (lo2 := [(0, vl a0), (2, wi a2)]) rfl ?_
  unfold fW_macro
  refine r_lload_n (x := a0) dL_macro_0 rfl rfl ?_
  refine r_bipush (v := 10) dL_macro_1 rfl ?_
  refine r_lload_n (x := a0) dL_macro_3 rfl rfl ?_
  refine r_csi (J := fun (_ : Unit) => ()) (k2 := k_L_macros) (n := 1) (rest := [wi 10, vl a0]) (fun _ => rfl) rfl kv_L_macros (c_L_macros (σ0 := _) a0) (by decide) um_L_7 rfl (Nat.le_of_ble_eq_true rfl) dL_macro_4 rfl (fun r1 _ => ?_)
  show RunO l Γ k_L_macro 2 encI (emU σ0) 7 [(0, vl a0), (2, wi a2)] [wi r1, wi 10, vl a0] () _
  refine ro_iconst (v := 1) dL_macro_7 rfl ?_
  refine r_isub dL_macro_8 ?_
  refine r_iload_n (x := a2) dL_macro_9 rfl rfl ?_
  refine r_isub dL_macro_10 ?_
  refine r_imul dL_macro_11 ?_
  refine r_lshr dL_macro_12 ?_
  refine r_ldc2 (v := 1023) uc_L_13 dL_macro_13 ?_
  refine r_land dL_macro_16 ?_
  refine r_l2i dL_macro_17 ?_
  exact r_iret rfl dL_macro_18
def k_L_behind : Kd := (yL_behind, cL_behind, 7, some .long, [])
theorem kv_L_behind : KS k_L_behind 2 := ⟨uw_mem 1463 (by decide +kernel) rfl, uw_mem 93 (by decide +kernel) rfl, uw_mem 1462 (by decide +kernel) rfl, ⟨by decide +kernel, by decide +kernel⟩, by decide +kernel, by decide +kernel⟩
set_option maxHeartbeats 8000000 in
set_option maxRecDepth 100000 in
theorem c_L_behind {l : Launch} {Γ : Cx} {σ0 : St} (a0 : Int) (a2 : Int)  : Ct l Γ k_L_behind 3 encJ (emU σ0) [vl a0, vl a2] () (fW_behind a0 a2) := by
  refine ct_of (by decide +kernel) rfl (Nat.le_of_ble_eq_true rfl) ?_
  refine r_lo [0, 1] (lo2 := [(0, vl a0), (2, vl a2)]) rfl ?_
  unfold fW_behind
  refine r_lload_n (x := a0) dL_behind_0 rfl rfl ?_
  refine r_lstore (lo2 := [(4, vl a0), (0, vl a0), (2, vl a2)]) dL_behind_1 (by decide) rfl ?_
  refine ro_iconst (v := 0) dL_behind_3 rfl ?_
  refine r_istore (lo2 := [(6, wi 0), (4, vl a0), (0, vl a0), (2, vl a2)]) dL_behind_4 (by decide) rfl ?_
  refine r_loop (P := fun (J : Int → Int → Option (Int × Unit)) => ∀ (v4_6 : Int) (v6_6 : Int), RunO l Γ k_L_behind 3 encJ (emU σ0) 6 [(2, vl a2), (4, vl v4_6), (6, wi v6_6)] [] () (J v4_6 v6_6)) ?_ (fun L6 hL6 => ?_) (fun J6 hJ6 => ?_)
  · intros; exact ro_none
  · intro v4_6 v6_6
    refine r_iload (x := v6_6) dL_behind_6 rfl ?_
    refine r_lload_n (x := a2) dL_behind_8 rfl rfl ?_
    refine r_csi (J := fun (_ : Unit) => ()) (k2 := k_L_macros) (n := 1) (rest := [wi v6_6]) (fun _ => rfl) rfl kv_L_macros (c_L_macros (σ0 := _) a2) (by decide) um_L_7 rfl (Nat.le_of_ble_eq_true rfl) dL_behind_9 rfl (fun r1 _ => ?_)
    show RunO l Γ k_L_behind 3 encJ (emU σ0) 12 [(2, vl a2), (4, vl v4_6), (6, wi v6_6)] [wi r1, wi v6_6] () _
    refine r_join (P := fun (J : Option (Int × Unit)) => RunO l Γ k_L_behind 3 encJ (emU σ0) 46 [(4, vl v4_6)] [] () J) ?_ (fun J46 hJ46 => ?_)
    · skip
      refine r_lload (x := v4_6) dL_behind_46 rfl ?_
      exact r_lret rfl dL_behind_48
    refine r_icmp_ge (tgt := 46) dL_behind_12 (by decide) ?_ ?_
    · refine r_lo [1] (lo2 := [(4, vl v4_6)]) rfl ?_
      exact hJ46
    · refine r_lload (x := v4_6) dL_behind_15 rfl ?_
      refine r_csi (J := fun (_ : Unit) => ()) (k2 := k_L_macros) (n := 1) (rest := []) (fun _ => rfl) rfl kv_L_macros (c_L_macros (σ0 := _) v4_6) (by decide) um_L_7 rfl (Nat.le_of_ble_eq_true rfl) dL_behind_17 rfl (fun r2 _ => ?_)
      show RunO l Γ k_L_behind 3 encJ (emU σ0) 20 [(2, vl a2), (4, vl v4_6), (6, wi v6_6)] [wi r2] () _
      refine r_bipush (v := 6) dL_behind_20 rfl ?_
      refine r_icmp_ge (tgt := 46) dL_behind_22 (by decide) ?_ ?_
      · refine r_lo [1] (lo2 := [(4, vl v4_6)]) rfl ?_
        exact hJ46
      · refine r_lload (x := v4_6) dL_behind_25 rfl ?_
        refine r_bipush (v := 10) dL_behind_27 rfl ?_
        refine r_lshl dL_behind_29 ?_
        refine r_lload_n (x := a2) dL_behind_30 rfl rfl ?_
        refine r_iload (x := v6_6) dL_behind_31 rfl ?_
        refine r_csi (J := fun (_ : Unit) => ()) (k2 := k_L_macro) (n := 2) (rest := [vl (lshlI v4_6 10)]) (fun _ => rfl) rfl kv_L_macro (c_L_macro (σ0 := _) a2 v6_6) (by decide) um_L_19 rfl (Nat.le_of_ble_eq_true rfl) dL_behind_33 rfl (fun r3 _ => ?_)
        show RunO l Γ k_L_behind 3 encJ (emU σ0) 36 [(2, vl a2), (4, vl v4_6), (6, wi v6_6)] [wi r3, vl (lshlI v4_6 10)] () _
        refine r_i2l dL_behind_36 ?_
        refine r_lor dL_behind_37 ?_
        refine r_nml (fun x4_38 => ?_)
        refine r_lstore (lo2 := [(4, vl x4_38), (2, vl a2), (6, wi v6_6)]) dL_behind_38 (by decide) rfl ?_
        refine r_iinc (x := v6_6) (lo2 := [(6, wi (v6_6 + 1)), (4, vl x4_38), (2, vl a2)]) dL_behind_40 rfl (by decide) rfl ?_
        refine r_goto (tgt := 6) dL_behind_43 (by decide) ?_
        refine r_lo [2, 1, 0] (lo2 := [(2, vl a2), (4, vl x4_38), (6, wi (v6_6 + 1))]) rfl ?_
        exact hL6 x4_38 (v6_6 + 1)
  refine r_lo [3, 1, 0] (lo2 := [(2, vl a2), (4, vl a0), (6, wi 0)]) rfl ?_
  exact hJ6 a0 0
def k_L_code : Kd := (yL_code, cL_code, 4, some .int, [])
theorem kv_L_code : KS k_L_code 2 := ⟨uw_mem 1436 (by decide +kernel) rfl, uw_mem 93 (by decide +kernel) rfl, uw_mem 1435 (by decide +kernel) rfl, ⟨by decide +kernel, by decide +kernel⟩, by decide +kernel, by decide +kernel⟩
set_option maxHeartbeats 8000000 in
set_option maxRecDepth 100000 in
theorem c_L_code {l : Launch} {Γ : Cx} {σ0 : St} (a0 : Int) (a1 : Int)  : Ct l Γ k_L_code 1 encI (emU σ0) [wi a0, wi a1] () (fW_code a0 a1) := by
  refine ct_of (by decide +kernel) rfl (Nat.le_of_ble_eq_true rfl) ?_
  refine r_lo [0, 1] (lo2 := [(0, wi a0), (1, wi a1)]) rfl ?_
  unfold fW_code
  refine r_iload_n (x := a0) dL_code_0 rfl rfl ?_
  refine r_bipush (v := 16) dL_code_1 rfl ?_
  refine r_irem dL_code_3 (by decide) ?_
  refine r_nm (fun x2_4 => ?_)
  refine r_istore_n (lo2 := [(2, wi x2_4), (0, wi a0), (1, wi a1)]) dL_code_4 rfl (by decide) rfl ?_
  refine r_iload_n (x := a0) dL_code_5 rfl rfl ?_
  refine r_bipush (v := 16) dL_code_6 rfl ?_
  refine r_idiv dL_code_8 (by decide) ?_
  refine r_nm (fun x3_9 => ?_)
  refine r_istore_n (lo2 := [(3, wi x3_9), (2, wi x2_4), (0, wi a0), (1, wi a1)]) dL_code_9 rfl (by decide) rfl ?_
  refine r_iload_n (x := x2_4) dL_code_10 rfl rfl ?_
  refine ro_iconst (v := 2) dL_code_11 rfl ?_
  refine r_icmp_ne (tgt := 40) dL_code_12 (by decide) ?_ ?_
  · refine r_iload_n (x := x2_4) dL_code_40 rfl rfl ?_
    refine ro_iconst (v := 4) dL_code_41 rfl ?_
    refine r_join (P := fun (J : Option (Int × Unit)) => RunO l Γ k_L_code 1 encI (emU σ0) 115 [(1, wi a1), (2, wi x2_4), (3, wi x3_9)] [] () J) ?_ (fun J115 hJ115 => ?_)
    · skip
      refine r_iload_n (x := x2_4) dL_code_115 rfl rfl ?_
      refine r_bipush (v := 8) dL_code_116 rfl ?_
      refine r_join (P := fun (J : Option (Int × Unit)) => RunO l Γ k_L_code 1 encI (emU σ0) 127 [(1, wi a1), (2, wi x2_4), (3, wi x3_9)] [] () J) ?_ (fun J127 hJ127 => ?_)
      · skip
        refine r_iload_n (x := a1) dL_code_127 rfl rfl ?_
        refine r_join (P := fun (J : Int → Option (Int × Unit)) => ∀ (t0_160 : Int), RunO l Γ k_L_code 1 encI (emU σ0) 160 [] [wi t0_160] () (J t0_160)) ?_ (fun J160 hJ160 => ?_)
        · intro t0_160
          exact r_iret rfl dL_code_160
        refine r_if_ne (tgt := 139) dL_code_128 (by decide) ?_ ?_
        · refine r_iload_n (x := a1) dL_code_139 rfl rfl ?_
          refine ro_iconst (v := 1) dL_code_140 rfl ?_
          refine r_icmp_ne (tgt := 148) dL_code_141 (by decide) ?_ ?_
          · refine r_iload_n (x := a1) dL_code_148 rfl rfl ?_
            refine ro_iconst (v := 2) dL_code_149 rfl ?_
            refine r_icmp_ne (tgt := 159) dL_code_150 (by decide) ?_ ?_
            · refine ro_iconst (v := (-1)) dL_code_159 rfl ?_
              refine r_lo [] (lo2 := []) rfl ?_
              exact hJ160 (-1)
            · refine r_sipush (v := 7000) dL_code_153 rfl ?_
              refine r_goto (tgt := 160) dL_code_156 (by decide) ?_
              refine r_lo [] (lo2 := []) rfl ?_
              exact hJ160 7000
          · refine r_iload_n (x := x3_9) dL_code_144 rfl rfl ?_
            refine r_goto (tgt := 160) dL_code_145 (by decide) ?_
            refine r_lo [] (lo2 := []) rfl ?_
            exact hJ160 x3_9
        · refine r_sipush (v := 1000) dL_code_131 rfl ?_
          refine r_iload_n (x := x2_4) dL_code_134 rfl rfl ?_
          refine r_imul dL_code_135 ?_
          refine r_goto (tgt := 160) dL_code_136 (by decide) ?_
          refine r_lo [] (lo2 := []) rfl ?_
          exact hJ160 (1000 * x2_4)
      refine r_icmp_eq (tgt := 127) dL_code_118 (by decide) ?_ ?_
      · exact hJ127
      · refine r_iload_n (x := x2_4) dL_code_121 rfl rfl ?_
        refine r_bipush (v := 9) dL_code_122 rfl ?_
        refine r_icmp_ne (tgt := 161) dL_code_124 (by decide) ?_ ?_
        · refine r_iload_n (x := a1) dL_code_161 rfl rfl ?_
          refine r_join (P := fun (J : Int → Option (Int × Unit)) => ∀ (t0_219 : Int), RunO l Γ k_L_code 1 encI (emU σ0) 219 [] [wi t0_219] () (J t0_219)) ?_ (fun J219 hJ219 => ?_)
          · intro t0_219
            exact r_iret rfl dL_code_219
          refine r_if_le (tgt := 169) dL_code_162 (by decide) ?_ ?_
          · refine r_iload_n (x := x2_4) dL_code_169 rfl rfl ?_
            refine r_if_ne (tgt := 177) dL_code_170 (by decide) ?_ ?_
            · refine r_iload_n (x := x2_4) dL_code_177 rfl rfl ?_
              refine ro_iconst (v := 1) dL_code_178 rfl ?_
              refine r_icmp_ne (tgt := 190) dL_code_179 (by decide) ?_ ?_
              · refine r_iload_n (x := x2_4) dL_code_190 rfl rfl ?_
                refine ro_iconst (v := 3) dL_code_191 rfl ?_
                refine r_icmp_ne (tgt := 203) dL_code_192 (by decide) ?_ ?_
                · refine r_iload_n (x := x2_4) dL_code_203 rfl rfl ?_
                  refine ro_iconst (v := 4) dL_code_204 rfl ?_
                  refine r_icmp_ne (tgt := 214) dL_code_205 (by decide) ?_ ?_
                  · refine r_sipush (v := 12000) dL_code_214 rfl ?_
                    refine r_iload_n (x := x3_9) dL_code_217 rfl rfl ?_
                    refine r_iadd dL_code_218 ?_
                    refine r_lo [] (lo2 := []) rfl ?_
                    exact hJ219 (12000 + x3_9)
                  · refine r_sipush (v := 13000) dL_code_208 rfl ?_
                    refine r_goto (tgt := 219) dL_code_211 (by decide) ?_
                    refine r_lo [] (lo2 := []) rfl ?_
                    exact hJ219 13000
                · refine r_sipush (v := 11000) dL_code_195 rfl ?_
                  refine r_iload_n (x := x3_9) dL_code_198 rfl rfl ?_
                  refine r_iadd dL_code_199 ?_
                  refine r_goto (tgt := 219) dL_code_200 (by decide) ?_
                  refine r_lo [] (lo2 := []) rfl ?_
                  exact hJ219 (11000 + x3_9)
              · refine r_sipush (v := 1000) dL_code_182 rfl ?_
                refine r_iload_n (x := x3_9) dL_code_185 rfl rfl ?_
                refine r_iadd dL_code_186 ?_
                refine r_goto (tgt := 219) dL_code_187 (by decide) ?_
                refine r_lo [] (lo2 := []) rfl ?_
                exact hJ219 (1000 + x3_9)
            · refine r_iload_n (x := x3_9) dL_code_173 rfl rfl ?_
              refine r_goto (tgt := 219) dL_code_174 (by decide) ?_
              refine r_lo [] (lo2 := []) rfl ?_
              exact hJ219 x3_9
          · refine ro_iconst (v := (-1)) dL_code_165 rfl ?_
            refine r_goto (tgt := 219) dL_code_166 (by decide) ?_
            refine r_lo [] (lo2 := []) rfl ?_
            exact hJ219 (-1)
        · exact hJ127
    refine r_icmp_le (tgt := 115) dL_code_42 (by decide) ?_ ?_
    · refine r_lo [3, 1, 0] (lo2 := [(1, wi a1), (2, wi x2_4), (3, wi x3_9)]) rfl ?_
      exact hJ115
    · refine r_iload_n (x := x2_4) dL_code_45 rfl rfl ?_
      refine r_bipush (v := 8) dL_code_46 rfl ?_
      refine r_icmp_ge (tgt := 115) dL_code_48 (by decide) ?_ ?_
      · refine r_lo [3, 1, 0] (lo2 := [(1, wi a1), (2, wi x2_4), (3, wi x3_9)]) rfl ?_
        exact hJ115
      · refine r_iload_n (x := a1) dL_code_51 rfl rfl ?_
        refine r_join (P := fun (J : Int → Option (Int × Unit)) => ∀ (t0_114 : Int), RunO l Γ k_L_code 1 encI (emU σ0) 114 [] [wi t0_114] () (J t0_114)) ?_ (fun J114 hJ114 => ?_)
        · intro t0_114
          exact r_iret rfl dL_code_114
        refine r_if_ne (tgt := 82) dL_code_52 (by decide) ?_ ?_
        · refine r_iload_n (x := a1) dL_code_82 rfl rfl ?_
          refine ro_iconst (v := 1) dL_code_83 rfl ?_
          refine r_icmp_ne (tgt := 93) dL_code_84 (by decide) ?_ ?_
          · refine r_iload_n (x := a1) dL_code_93 rfl rfl ?_
            refine ro_iconst (v := 2) dL_code_94 rfl ?_
            refine r_icmp_ne (tgt := 102) dL_code_95 (by decide) ?_ ?_
            · refine r_iload_n (x := a1) dL_code_102 rfl rfl ?_
              refine ro_iconst (v := 3) dL_code_103 rfl ?_
              refine r_icmp_ne (tgt := 113) dL_code_104 (by decide) ?_ ?_
              · refine ro_iconst (v := (-1)) dL_code_113 rfl ?_
                refine r_lo [] (lo2 := []) rfl ?_
                exact hJ114 (-1)
              · refine r_sipush (v := 7000) dL_code_107 rfl ?_
                refine r_goto (tgt := 114) dL_code_110 (by decide) ?_
                refine r_lo [] (lo2 := []) rfl ?_
                exact hJ114 7000
            · refine r_iload_n (x := x3_9) dL_code_98 rfl rfl ?_
              refine r_goto (tgt := 114) dL_code_99 (by decide) ?_
              refine r_lo [] (lo2 := []) rfl ?_
              exact hJ114 x3_9
          · refine r_sipush (v := 5000) dL_code_87 rfl ?_
            refine r_goto (tgt := 114) dL_code_90 (by decide) ?_
            refine r_lo [] (lo2 := []) rfl ?_
            exact hJ114 5000
        · refine r_sipush (v := 4000) dL_code_55 rfl ?_
          refine r_iload_n (x := x2_4) dL_code_58 rfl rfl ?_
          refine ro_iconst (v := 5) dL_code_59 rfl ?_
          refine r_join (P := fun (J : Int → Option (Int × Unit)) => ∀ (t0_78 : Int), RunO l Γ k_L_code 1 encI (emU σ0) 78 [] [wi t0_78, wi 4000] () (J t0_78)) ?_ (fun J78 hJ78 => ?_)
          · intro t0_78
            refine r_iadd dL_code_78 ?_
            refine r_goto (tgt := 114) dL_code_79 (by decide) ?_
            exact hJ114 (4000 + t0_78)
          refine r_icmp_ne (tgt := 67) dL_code_60 (by decide) ?_ ?_
          · refine r_iload_n (x := x2_4) dL_code_67 rfl rfl ?_
            refine r_bipush (v := 6) dL_code_68 rfl ?_
            refine r_icmp_ne (tgt := 77) dL_code_70 (by decide) ?_ ?_
            · refine ro_iconst (v := 3) dL_code_77 rfl ?_
              refine r_lo [] (lo2 := []) rfl ?_
              exact hJ78 3
            · refine ro_iconst (v := 5) dL_code_73 rfl ?_
              refine r_goto (tgt := 78) dL_code_74 (by decide) ?_
              refine r_lo [] (lo2 := []) rfl ?_
              exact hJ78 5
          · refine ro_iconst (v := 4) dL_code_63 rfl ?_
            refine r_goto (tgt := 78) dL_code_64 (by decide) ?_
            refine r_lo [] (lo2 := []) rfl ?_
            exact hJ78 4
  · refine r_iload_n (x := a1) dL_code_15 rfl rfl ?_
    refine r_join (P := fun (J : Int → Option (Int × Unit)) => ∀ (t0_39 : Int), RunO l Γ k_L_code 1 encI (emU σ0) 39 [] [wi t0_39] () (J t0_39)) ?_ (fun J39 hJ39 => ?_)
    · intro t0_39
      exact r_iret rfl dL_code_39
    refine r_if_ne (tgt := 27) dL_code_16 (by decide) ?_ ?_
    · refine r_iload_n (x := a1) dL_code_27 rfl rfl ?_
      refine ro_iconst (v := 1) dL_code_28 rfl ?_
      refine r_icmp_ne (tgt := 38) dL_code_29 (by decide) ?_ ?_
      · refine ro_iconst (v := (-1)) dL_code_38 rfl ?_
        refine r_lo [] (lo2 := []) rfl ?_
        exact hJ39 (-1)
      · refine r_sipush (v := 7000) dL_code_32 rfl ?_
        refine r_goto (tgt := 39) dL_code_35 (by decide) ?_
        refine r_lo [] (lo2 := []) rfl ?_
        exact hJ39 7000
    · refine r_sipush (v := 2000) dL_code_19 rfl ?_
      refine r_iload_n (x := x3_9) dL_code_22 rfl rfl ?_
      refine r_iadd dL_code_23 ?_
      refine r_goto (tgt := 39) dL_code_24 (by decide) ?_
      refine r_lo [] (lo2 := []) rfl ?_
      exact hJ39 (2000 + x3_9)
def k_L_comes : Kd := (yL_comes, cL_comes, 4, some .long, [])
theorem kv_L_comes : KS k_L_comes 3 := ⟨uw_mem 756 (by decide +kernel) rfl, uw_mem 93 (by decide +kernel) rfl, uw_mem 755 (by decide +kernel) rfl, ⟨by decide +kernel, by decide +kernel⟩, by decide +kernel, by decide +kernel⟩
set_option maxHeartbeats 8000000 in
set_option maxRecDepth 100000 in
theorem c_L_comes {l : Launch} {Γ : Cx} {ad : Nat → Nat} {K0 : Cd} (h : wOn Γ) (hm : ∀ k, k ≤ 10 → ad k ≠ 0) (kz : Nat) (a1 : Int) (a3 : Int) (hz : kz = 10 ∨ kz = 11) (hz0 : ad kz ≠ 0) (E : Rw) : Ct l Γ k_L_comes 1 encJ (emW ad K0) [.ref (ad kz), vl a1, wi a3] E (fW_comes kz a1 a3 E) := by
  refine ct_of (by decide +kernel) rfl (Nat.le_of_ble_eq_true rfl) ?_
  refine r_lo [0, 1, 2] (lo2 := [(0, .ref (ad kz)), (1, vl a1), (3, wi a3)]) rfl ?_
  unfold fW_comes
  refine r_aload_n (x := ad kz) dL_comes_0 rfl rfl ?_
  refine ro_iconst (v := 4) dL_comes_1 rfl ?_
  refine r_dup2 dL_comes_2 rfl rfl ?_
  refine r_wiald h (wz_mem hz) hz0 dL_comes_3 ?_
  refine ro_iconst (v := 1) dL_comes_4 rfl ?_
  refine r_iadd dL_comes_5 ?_
  refine r_wiast h (wz_mem hz) hz0 dL_comes_6 (fun E1 => ?_)
  refine r_aload_n (x := ad kz) dL_comes_7 rfl rfl ?_
  refine r_bipush (v := 7) dL_comes_8 rfl ?_
  refine r_aload_n (x := ad kz) dL_comes_10 rfl rfl ?_
  refine ro_iconst (v := 4) dL_comes_11 rfl ?_
  refine r_wiald h (wz_mem hz) hz0 dL_comes_12 ?_
  refine r_aload_n (x := ad kz) dL_comes_13 rfl rfl ?_
  refine r_bipush (v := 6) dL_comes_14 rfl ?_
  refine r_wiald h (wz_mem hz) hz0 dL_comes_16 ?_
  refine ro_iconst (v := 1) dL_comes_17 rfl ?_
  refine r_iadd dL_comes_18 ?_
  refine r_join (P := fun (J : Int → Rw → Option (Int × Rw)) => ∀ (t0_30 : Int) (E_30 : Rw), RunO l Γ k_L_comes 1 encJ (emW ad K0) 30 [(0, .ref (ad kz)), (1, vl a1), (3, wi a3)] [wi t0_30, wi 7, .ref (ad kz)] E_30 (J t0_30 E_30)) ?_ (fun J30 hJ30 => ?_)
  · intro t0_30 E_30
    refine r_wiast h (wz_mem hz) hz0 dL_comes_30 (fun E2 => ?_)
    refine r_aload_n (x := ad kz) dL_comes_31 rfl rfl ?_
    refine ro_iconst (v := 4) dL_comes_32 rfl ?_
    refine r_wiald h (wz_mem hz) hz0 dL_comes_33 ?_
    refine r_sipush (v := 150) dL_comes_34 rfl ?_
    refine r_join (P := fun (J : Int → Rw → Option (Int × Rw)) => ∀ (t0_56 : Int) (E_56 : Rw), RunO l Γ k_L_comes 1 encJ (emW ad K0) 56 [] [vl t0_56] E_56 (J t0_56 E_56)) ?_ (fun J56 hJ56 => ?_)
    · intro t0_56 E_56
      exact r_lret rfl dL_comes_56
    refine r_icmp_le (tgt := 44) dL_comes_37 (by decide) ?_ ?_
    · refine r_lload_n (x := a1) dL_comes_44 rfl rfl ?_
      refine r_ldc2 (v := 1000003) uc_L_23 dL_comes_45 ?_
      refine r_lmul dL_comes_48 ?_
      refine r_iload_n (x := a3) dL_comes_49 rfl rfl ?_
      refine r_i2l dL_comes_50 ?_
      refine r_ladd dL_comes_51 ?_
      refine r_ldc2 (v := 17) uc_L_25 dL_comes_52 ?_
      refine r_ladd dL_comes_55 ?_
      refine r_lo [] (lo2 := []) rfl ?_
      exact hJ56 (((a1 * 1000003) + (w32 a3)) + 17) E2
    · refine r_lload_n (x := a1) dL_comes_40 rfl rfl ?_
      refine r_goto (tgt := 56) dL_comes_41 (by decide) ?_
      refine r_lo [] (lo2 := []) rfl ?_
      exact hJ56 a1 E2
  refine r_icmp_ne (tgt := 26) dL_comes_19 (by decide) ?_ ?_
  · refine r_aload_n (x := ad kz) dL_comes_26 rfl rfl ?_
    refine r_bipush (v := 7) dL_comes_27 rfl ?_
    refine r_wiald h (wz_mem hz) hz0 dL_comes_29 ?_
    exact hJ30 (E1 kz (ix 7)) E1
  · refine r_iload_n (x := a3) dL_comes_22 rfl rfl ?_
    refine r_goto (tgt := 30) dL_comes_23 (by decide) ?_
    exact hJ30 a3 E1
set_option maxHeartbeats 8000000 in
set_option maxRecDepth 100000 in
theorem c_L_does {l : Launch} {Γ : Cx} {M0 : Md} (hG : GK Γ l) (hX : XN Γ) (a0 : Nat) (a1 : Int) (a2 : Int) (a3 : Int) (a4 : Int) (C : Cd) : CtH l Γ k_L_does hhD 13 encI (emC M0) [.ref a0, wi a1, wi a2, wi a3, wi a4] C (fW_does a0 a1 a2 a3 a4 C) := by
  refine ctH_of (by decide +kernel) rfl (Nat.le_of_ble_eq_true rfl) ?_
  refine r_lo [0, 1, 2, 3, 4] (lo2 := [(0, .ref a0), (1, wi a1), (2, wi a2), (3, wi a3), (4, wi a4)]) rfl ?_
  unfold fW_does
  refine r_iload_n (x := a1) dL_does_0 rfl rfl ?_
  refine r_join (P := fun (J : Int → Cd → Option (Int × Cd)) => ∀ (t0_190 : Int) (C_190 : Cd), RunO l Γ k_L_does 13 encI (emC M0) 190 [] [wi t0_190] C_190 (J t0_190 C_190)) ?_ (fun J190 hJ190 => ?_)
  · intro t0_190 C_190
    exact r_iret rfl dL_does_190
  refine r_if_ne (tgt := 12) dL_does_1 (by decide) ?_ ?_
  · refine r_iload_n (x := a1) dL_does_12 rfl rfl ?_
    refine ro_iconst (v := 1) dL_does_13 rfl ?_
    refine r_icmp_ne (tgt := 28) dL_does_14 (by decide) ?_ ?_
    · refine r_iload_n (x := a1) dL_does_28 rfl rfl ?_
      refine ro_iconst (v := 2) dL_does_29 rfl ?_
      refine r_icmp_ne (tgt := 42) dL_does_30 (by decide) ?_ ?_
      · refine r_iload_n (x := a1) dL_does_42 rfl rfl ?_
        refine ro_iconst (v := 3) dL_does_43 rfl ?_
        refine r_icmp_ne (tgt := 56) dL_does_44 (by decide) ?_ ?_
        · refine r_iload_n (x := a1) dL_does_56 rfl rfl ?_
          refine ro_iconst (v := 4) dL_does_57 rfl ?_
          refine r_icmp_ne (tgt := 70) dL_does_58 (by decide) ?_ ?_
          · refine r_iload_n (x := a1) dL_does_70 rfl rfl ?_
            refine ro_iconst (v := 5) dL_does_71 rfl ?_
            refine r_icmp_ne (tgt := 84) dL_does_72 (by decide) ?_ ?_
            · refine r_iload_n (x := a1) dL_does_84 rfl rfl ?_
              refine r_bipush (v := 6) dL_does_85 rfl ?_
              refine r_icmp_ne (tgt := 98) dL_does_87 (by decide) ?_ ?_
              · refine r_iload_n (x := a1) dL_does_98 rfl rfl ?_
                refine r_bipush (v := 7) dL_does_99 rfl ?_
                refine r_icmp_ne (tgt := 122) dL_does_101 (by decide) ?_ ?_
                · refine r_iload_n (x := a1) dL_does_122 rfl rfl ?_
                  refine r_bipush (v := 8) dL_does_123 rfl ?_
                  refine r_icmp_ne (tgt := 139) dL_does_125 (by decide) ?_ ?_
                  · refine r_iload_n (x := a1) dL_does_139 rfl rfl ?_
                    refine r_bipush (v := 9) dL_does_140 rfl ?_
                    refine r_icmp_ne (tgt := 154) dL_does_142 (by decide) ?_ ?_
                    · refine r_iload_n (x := a1) dL_does_154 rfl rfl ?_
                      refine r_bipush (v := 10) dL_does_155 rfl ?_
                      refine r_icmp_ne (tgt := 169) dL_does_157 (by decide) ?_ ?_
                      · refine r_iload_n (x := a1) dL_does_169 rfl rfl ?_
                        refine r_bipush (v := 11) dL_does_170 rfl ?_
                        refine r_icmp_ne (tgt := 184) dL_does_172 (by decide) ?_ ?_
                        · refine r_aload_n (x := a0) dL_does_184 rfl rfl ?_
                          refine r_iload_n (x := a2) dL_does_185 rfl rfl ?_
                          refine r_iload_n (x := a3) dL_does_186 rfl rfl ?_
                          refine r_cxH2 (k2 := k_X11_versionAt) (c := 14) (T := TX11) (N := 10) (n := 2) (rest := []) hG um_L_100 kv_X11_versionAt hc_X11 (by decide) (c_X11_versionAt hG _ _ _ _) (by decide) rfl (Nat.le_of_ble_eq_true rfl) dL_does_187 rfl (fun r1 C2 => ?_) (fun e_ C_ => does_exc hX e_ C_ (by decide))
                          show RunO l Γ k_L_does 13 encI (emC M0) 190 [(0, .ref a0), (1, wi a1), (2, wi a2), (3, wi a3), (4, wi a4)] [wi r1] C2 _
                          refine r_lo [] (lo2 := []) rfl ?_
                          exact hJ190 r1 C2
                        · refine r_aload_n (x := a0) dL_does_175 rfl rfl ?_
                          refine r_iload_n (x := a2) dL_does_176 rfl rfl ?_
                          refine r_iload_n (x := a3) dL_does_177 rfl rfl ?_
                          refine r_cxH2 (k2 := k_X11_tokenAt) (c := 14) (T := TX11) (N := 10) (n := 2) (rest := []) hG um_L_97 kv_X11_tokenAt hc_X11 (by decide) (c_X11_tokenAt hG _ _ _ _) (by decide) rfl (Nat.le_of_ble_eq_true rfl) dL_does_178 rfl (fun r3 C4 => ?_) (fun e_ C_ => does_exc hX e_ C_ (by decide))
                          show RunO l Γ k_L_does 13 encI (emC M0) 181 [(0, .ref a0), (1, wi a1), (2, wi a2), (3, wi a3), (4, wi a4)] [wi r3] C4 _
                          refine r_goto (tgt := 190) dL_does_181 (by decide) ?_
                          refine r_lo [] (lo2 := []) rfl ?_
                          exact hJ190 r3 C4
                      · refine r_aload_n (x := a0) dL_does_160 rfl rfl ?_
                        refine r_iload_n (x := a2) dL_does_161 rfl rfl ?_
                        refine r_iload_n (x := a3) dL_does_162 rfl rfl ?_
                        refine r_cxH2 (k2 := k_X11_shownAnew) (c := 14) (T := TX11) (N := 10) (n := 2) (rest := []) hG um_L_94 kv_X11_shownAnew hc_X11 (by decide) (c_X11_shownAnew hG _ _ _ _) (by decide) rfl (Nat.le_of_ble_eq_true rfl) dL_does_163 rfl (fun r5 C6 => ?_) (fun e_ C_ => does_exc hX e_ C_ (by decide))
                        show RunO l Γ k_L_does 13 encI (emC M0) 166 [(0, .ref a0), (1, wi a1), (2, wi a2), (3, wi a3), (4, wi a4)] [wi r5] C6 _
                        refine r_goto (tgt := 190) dL_does_166 (by decide) ?_
                        refine r_lo [] (lo2 := []) rfl ?_
                        exact hJ190 r5 C6
                    · refine r_aload_n (x := a0) dL_does_145 rfl rfl ?_
                      refine r_iload_n (x := a2) dL_does_146 rfl rfl ?_
                      refine r_iload_n (x := a3) dL_does_147 rfl rfl ?_
                      refine r_cxH2 (k2 := k_X11_shown) (c := 14) (T := TX11) (N := 10) (n := 2) (rest := []) hG um_L_91 kv_X11_shown hc_X11 (by decide) (c_X11_shown hG _ _ _ _) (by decide) rfl (Nat.le_of_ble_eq_true rfl) dL_does_148 rfl (fun r7 C8 => ?_) (fun e_ C_ => does_exc hX e_ C_ (by decide))
                      show RunO l Γ k_L_does 13 encI (emC M0) 151 [(0, .ref a0), (1, wi a1), (2, wi a2), (3, wi a3), (4, wi a4)] [wi r7] C8 _
                      refine r_goto (tgt := 190) dL_does_151 (by decide) ?_
                      refine r_lo [] (lo2 := []) rfl ?_
                      exact hJ190 r7 C8
                  · refine r_aload_n (x := a0) dL_does_128 rfl rfl ?_
                    refine r_iload_n (x := a2) dL_does_129 rfl rfl ?_
                    refine r_iload_n (x := a3) dL_does_130 rfl rfl ?_
                    refine r_iload (x := a4) dL_does_131 rfl ?_
                    refine r_cxH2 (k2 := k_X11_translate) (c := 14) (T := TX11) (N := 10) (n := 3) (rest := []) hG um_L_88 kv_X11_translate hc_X11 (by decide) (c_X11_translate hG _ _ _ _ _) (by decide) rfl (Nat.le_of_ble_eq_true rfl) dL_does_133 rfl (fun r9 C10 => ?_) (fun e_ C_ => does_exc hX e_ C_ (by decide))
                    show RunO l Γ k_L_does 13 encI (emC M0) 136 [(0, .ref a0), (1, wi a1), (2, wi a2), (3, wi a3), (4, wi a4)] [wi r9] C10 _
                    refine r_goto (tgt := 190) dL_does_136 (by decide) ?_
                    refine r_lo [] (lo2 := []) rfl ?_
                    exact hJ190 r9 C10
                · refine r_aload_n (x := a0) dL_does_104 rfl rfl ?_
                  refine r_iload_n (x := a2) dL_does_105 rfl rfl ?_
                  refine r_iload_n (x := a3) dL_does_106 rfl rfl ?_
                  refine ro_iconst (v := 1) dL_does_107 rfl ?_
                  refine r_join (P := fun (J : Int → Cd → Option (Int × Cd)) => ∀ (t0_116 : Int) (C_116 : Cd), RunO l Γ k_L_does 13 encI (emC M0) 116 [] [wi t0_116, wi a2, .ref a0] C_116 (J t0_116 C_116)) ?_ (fun J116 hJ116 => ?_)
                  · intro t0_116 C_116
                    refine r_cxH2 (k2 := k_X11_read) (c := 14) (T := TX11) (N := 10) (n := 2) (rest := []) hG um_L_84 kv_X11_read hc_X11 (by decide) (c_X11_read hG _ _ _ _) (by decide) rfl (Nat.le_of_ble_eq_true rfl) dL_does_116 rfl (fun r11 C12 => ?_) (fun e_ C_ => does_exc hX e_ C_ (by decide))
                    show RunO l Γ k_L_does 13 encI (emC M0) 119 [] [wi r11] C12 _
                    refine r_goto (tgt := 190) dL_does_119 (by decide) ?_
                    exact hJ190 r11 C12
                  refine r_icmp_ne (tgt := 115) dL_does_108 (by decide) ?_ ?_
                  · refine ro_iconst (v := 0) dL_does_115 rfl ?_
                    refine r_lo [] (lo2 := []) rfl ?_
                    exact hJ116 0 C
                  · refine ro_iconst (v := 1) dL_does_111 rfl ?_
                    refine r_goto (tgt := 116) dL_does_112 (by decide) ?_
                    refine r_lo [] (lo2 := []) rfl ?_
                    exact hJ116 1 C
              · refine r_aload_n (x := a0) dL_does_90 rfl rfl ?_
                refine r_iload_n (x := a2) dL_does_91 rfl rfl ?_
                refine r_cxH2 (k2 := k_X11_approve) (c := 14) (T := TX11) (N := 10) (n := 1) (rest := []) hG um_L_81 kv_X11_approve hc_X11 (by decide) (c_X11_approve hG _ _ _) (by decide) rfl (Nat.le_of_ble_eq_true rfl) dL_does_92 rfl (fun r13 C14 => ?_) (fun e_ C_ => does_exc hX e_ C_ (by decide))
                show RunO l Γ k_L_does 13 encI (emC M0) 95 [(0, .ref a0), (1, wi a1), (2, wi a2), (3, wi a3), (4, wi a4)] [wi r13] C14 _
                refine r_goto (tgt := 190) dL_does_95 (by decide) ?_
                refine r_lo [] (lo2 := []) rfl ?_
                exact hJ190 r13 C14
            · refine r_aload_n (x := a0) dL_does_75 rfl rfl ?_
              refine r_iload_n (x := a2) dL_does_76 rfl rfl ?_
              refine r_iload_n (x := a3) dL_does_77 rfl rfl ?_
              refine r_cxH2 (k2 := k_X11_moveTree) (c := 14) (T := TX11) (N := 10) (n := 2) (rest := []) hG um_L_78 kv_X11_moveTree hc_X11 (by decide) (c_X11_moveTree hG _ _ _ _) (by decide) rfl (Nat.le_of_ble_eq_true rfl) dL_does_78 rfl (fun r15 C16 => ?_) (fun e_ C_ => does_exc hX e_ C_ (by decide))
              show RunO l Γ k_L_does 13 encI (emC M0) 81 [(0, .ref a0), (1, wi a1), (2, wi a2), (3, wi a3), (4, wi a4)] [wi r15] C16 _
              refine r_goto (tgt := 190) dL_does_81 (by decide) ?_
              refine r_lo [] (lo2 := []) rfl ?_
              exact hJ190 r15 C16
          · refine r_aload_n (x := a0) dL_does_61 rfl rfl ?_
            refine r_iload_n (x := a2) dL_does_62 rfl rfl ?_
            refine r_iload_n (x := a3) dL_does_63 rfl rfl ?_
            refine r_cxH2 (k2 := k_X11_move) (c := 14) (T := TX11) (N := 10) (n := 2) (rest := []) hG um_L_75 kv_X11_move hc_X11 (by decide) (c_X11_move hG _ _ _ _) (by decide) rfl (Nat.le_of_ble_eq_true rfl) dL_does_64 rfl (fun r17 C18 => ?_) (fun e_ C_ => does_exc hX e_ C_ (by decide))
            show RunO l Γ k_L_does 13 encI (emC M0) 67 [(0, .ref a0), (1, wi a1), (2, wi a2), (3, wi a3), (4, wi a4)] [wi r17] C18 _
            refine r_goto (tgt := 190) dL_does_67 (by decide) ?_
            refine r_lo [] (lo2 := []) rfl ?_
            exact hJ190 r17 C18
        · refine r_aload_n (x := a0) dL_does_47 rfl rfl ?_
          refine r_iload_n (x := a2) dL_does_48 rfl rfl ?_
          refine r_iload_n (x := a3) dL_does_49 rfl rfl ?_
          refine r_cxH2 (k2 := k_X11_bringIn) (c := 14) (T := TX11) (N := 10) (n := 2) (rest := []) hG um_L_72 kv_X11_bringIn hc_X11 (by decide) (c_X11_bringIn hG _ _ _ _) (by decide) rfl (Nat.le_of_ble_eq_true rfl) dL_does_50 rfl (fun r19 C20 => ?_) (fun e_ C_ => does_exc hX e_ C_ (by decide))
          show RunO l Γ k_L_does 13 encI (emC M0) 53 [(0, .ref a0), (1, wi a1), (2, wi a2), (3, wi a3), (4, wi a4)] [wi r19] C20 _
          refine r_goto (tgt := 190) dL_does_53 (by decide) ?_
          refine r_lo [] (lo2 := []) rfl ?_
          exact hJ190 r19 C20
      · refine r_aload_n (x := a0) dL_does_33 rfl rfl ?_
        refine r_iload_n (x := a2) dL_does_34 rfl rfl ?_
        refine r_iload_n (x := a3) dL_does_35 rfl rfl ?_
        refine r_cxH2 (k2 := k_X11_undo) (c := 14) (T := TX11) (N := 10) (n := 2) (rest := []) hG um_L_68 kv_X11_undo hc_X11 (by decide) (c_X11_undo hG _ _ _ _) (by decide) rfl (Nat.le_of_ble_eq_true rfl) dL_does_36 rfl (fun r21 C22 => ?_) (fun e_ C_ => does_exc hX e_ C_ (by decide))
        show RunO l Γ k_L_does 13 encI (emC M0) 39 [(0, .ref a0), (1, wi a1), (2, wi a2), (3, wi a3), (4, wi a4)] [wi r21] C22 _
        refine r_goto (tgt := 190) dL_does_39 (by decide) ?_
        refine r_lo [] (lo2 := []) rfl ?_
        exact hJ190 r21 C22
    · refine r_aload_n (x := a0) dL_does_17 rfl rfl ?_
      refine r_iload_n (x := a2) dL_does_18 rfl rfl ?_
      refine r_iload_n (x := a3) dL_does_19 rfl rfl ?_
      refine r_iload (x := a4) dL_does_20 rfl ?_
      refine r_cxH2 (k2 := k_X11_edit) (c := 14) (T := TX11) (N := 10) (n := 3) (rest := []) hG um_L_64 kv_X11_edit hc_X11 (by decide) (c_X11_edit hG _ _ _ _ _) (by decide) rfl (Nat.le_of_ble_eq_true rfl) dL_does_22 rfl (fun r23 C24 => ?_) (fun e_ C_ => does_exc hX e_ C_ (by decide))
      show RunO l Γ k_L_does 13 encI (emC M0) 25 [(0, .ref a0), (1, wi a1), (2, wi a2), (3, wi a3), (4, wi a4)] [wi r23] C24 _
      refine r_goto (tgt := 190) dL_does_25 (by decide) ?_
      refine r_lo [] (lo2 := []) rfl ?_
      exact hJ190 r23 C24
  · refine r_aload_n (x := a0) dL_does_4 rfl rfl ?_
    refine r_iload_n (x := a2) dL_does_5 rfl rfl ?_
    refine r_cxH2 (k2 := k_X11_create) (c := 14) (T := TX11) (N := 10) (n := 1) (rest := []) hG um_L_59 kv_X11_create hc_X11 (by decide) (c_X11_create hG _ _ _) (by decide) rfl (Nat.le_of_ble_eq_true rfl) dL_does_6 rfl (fun r25 C26 => ?_) (fun e_ C_ => does_exc hX e_ C_ (by decide))
    show RunO l Γ k_L_does 13 encI (emC M0) 9 [(0, .ref a0), (1, wi a1), (2, wi a2), (3, wi a3), (4, wi a4)] [wi r25] C26 _
    refine r_goto (tgt := 190) dL_does_9 (by decide) ?_
    refine r_lo [] (lo2 := []) rfl ?_
    exact hJ190 r25 C26
def k_L_digest : Kd := (yL_digest, cL_digest, 7, some .long, [])
theorem kv_L_digest : KS k_L_digest 3 := ⟨uw_mem 1509 (by decide +kernel) rfl, uw_mem 93 (by decide +kernel) rfl, uw_mem 1508 (by decide +kernel) rfl, ⟨by decide +kernel, by decide +kernel⟩, by decide +kernel, by decide +kernel⟩
set_option maxHeartbeats 8000000 in
set_option maxRecDepth 100000 in
theorem c_L_digest {l : Launch} {Γ : Cx} {M0 : Md} (hG : GK Γ l) (hX : XN Γ) (a0 : Nat) (a1 : Int) (a2 : Int) (C : Cd) : Ct l Γ k_L_digest 14 encJ (emC M0) [.ref a0, wi a1, wi a2] C (fW_digest a0 a1 a2 C) := by
  refine ct_of (by decide +kernel) rfl (Nat.le_of_ble_eq_true rfl) ?_
  refine r_lo [0, 1, 2] (lo2 := [(0, .ref a0), (1, wi a1), (2, wi a2)]) rfl ?_
  unfold fW_digest
  refine r_lconst (x := 1) dL_digest_0 rfl ?_
  refine r_lstore_n (lo2 := [(3, vl 1), (0, .ref a0), (1, wi a1), (2, wi a2)]) dL_digest_1 rfl (by decide) rfl ?_
  refine r_aload_n (x := a0) dL_digest_2 rfl rfl ?_
  refine r_iload_n (x := a1) dL_digest_3 rfl rfl ?_
  refine r_iload_n (x := a2) dL_digest_4 rfl rfl ?_
  refine ro_iconst (v := 0) dL_digest_5 rfl ?_
  refine ro_iconst (v := 0) dL_digest_6 rfl ?_
  refine r_csHi (J := fun (C_ : Cd) => C_) (k2 := k_L_does) (n := 5) (rest := []) (fun _ => rfl) kv_L_does (c_L_does hG hX a0 a1 a2 0 0 _) (by decide) um_L_132 rfl (Nat.le_of_ble_eq_true rfl) dL_digest_7 rfl (fun r1 C2 => ?_)
  show RunO l Γ k_L_digest 14 encJ (emC M0) 10 [(3, vl 1), (0, .ref a0), (1, wi a1), (2, wi a2)] [wi r1] C2 _
  refine r_istore (lo2 := [(5, wi r1), (3, vl 1), (0, .ref a0), (1, wi a1), (2, wi a2)]) dL_digest_10 (by decide) rfl ?_
  refine ro_iconst (v := 1) dL_digest_12 rfl ?_
  refine r_istore (lo2 := [(6, wi 1), (5, wi r1), (3, vl 1), (0, .ref a0), (1, wi a1), (2, wi a2)]) dL_digest_13 (by decide) rfl ?_
  refine r_loop (P := fun (J : Int → Int → Int → Cd → Option (Int × Cd)) => ∀ (v3_15 : Int) (v5_15 : Int) (v6_15 : Int) (C_15 : Cd), RunO l Γ k_L_digest 14 encJ (emC M0) 15 [(0, .ref a0), (1, wi a1), (2, wi a2), (3, vl v3_15), (5, wi v5_15), (6, wi v6_15)] [] C_15 (J v3_15 v5_15 v6_15 C_15)) ?_ (fun L15 hL15 => ?_) (fun J15 hJ15 => ?_)
  · intros; exact ro_none
  · intro v3_15 v5_15 v6_15 C_15
    refine r_iload (x := v5_15) dL_digest_15 rfl ?_
    refine r_if_lt (tgt := 51) dL_digest_17 (by decide) ?_ ?_
    · refine r_lload_n (x := v3_15) dL_digest_51 rfl rfl ?_
      exact r_lret rfl dL_digest_52
    · refine r_lload_n (x := v3_15) dL_digest_20 rfl rfl ?_
      refine r_ldc2 (v := 1000003) uc_L_23 dL_digest_21 ?_
      refine r_lmul dL_digest_24 ?_
      refine r_iload (x := v5_15) dL_digest_25 rfl ?_
      refine r_i2l dL_digest_27 ?_
      refine r_ladd dL_digest_28 ?_
      refine r_ldc2 (v := 17) uc_L_25 dL_digest_29 ?_
      refine r_ladd dL_digest_32 ?_
      refine r_nml (fun x3_33 => ?_)
      refine r_lstore_n (lo2 := [(3, vl x3_33), (0, .ref a0), (1, wi a1), (2, wi a2), (5, wi v5_15), (6, wi v6_15)]) dL_digest_33 rfl (by decide) rfl ?_
      refine r_aload_n (x := a0) dL_digest_34 rfl rfl ?_
      refine r_iload_n (x := a1) dL_digest_35 rfl rfl ?_
      refine r_iload_n (x := a2) dL_digest_36 rfl rfl ?_
      refine r_iload (x := v6_15) dL_digest_37 rfl ?_
      refine ro_iconst (v := 0) dL_digest_39 rfl ?_
      refine r_csHi (J := fun (C_ : Cd) => C_) (k2 := k_L_does) (n := 5) (rest := []) (fun _ => rfl) kv_L_does (c_L_does hG hX a0 a1 a2 v6_15 0 _) (by decide) um_L_132 rfl (Nat.le_of_ble_eq_true rfl) dL_digest_40 rfl (fun r3 C4 => ?_)
      show RunO l Γ k_L_digest 14 encJ (emC M0) 43 [(3, vl x3_33), (0, .ref a0), (1, wi a1), (2, wi a2), (5, wi v5_15), (6, wi v6_15)] [wi r3] C4 _
      refine r_istore (lo2 := [(5, wi r3), (3, vl x3_33), (0, .ref a0), (1, wi a1), (2, wi a2), (6, wi v6_15)]) dL_digest_43 (by decide) rfl ?_
      refine r_iinc (x := v6_15) (lo2 := [(6, wi (v6_15 + 1)), (5, wi r3), (3, vl x3_33), (0, .ref a0), (1, wi a1), (2, wi a2)]) dL_digest_45 rfl (by decide) rfl ?_
      refine r_goto (tgt := 15) dL_digest_48 (by decide) ?_
      refine r_lo [3, 4, 5, 2, 1, 0] (lo2 := [(0, .ref a0), (1, wi a1), (2, wi a2), (3, vl x3_33), (5, wi r3), (6, wi (v6_15 + 1))]) rfl ?_
      exact hL15 x3_33 r3 (v6_15 + 1) C4
  refine r_lo [3, 4, 5, 2, 1, 0] (lo2 := [(0, .ref a0), (1, wi a1), (2, wi a2), (3, vl 1), (5, wi r1), (6, wi 1)]) rfl ?_
  exact hJ15 1 r1 1 C2
def k_L_drafts : Kd := (yL_drafts, cL_drafts, 7, some .boolean, [])
theorem kv_L_drafts : KS k_L_drafts 2 := ⟨uw_mem 1429 (by decide +kernel) rfl, uw_mem 93 (by decide +kernel) rfl, uw_mem 1428 (by decide +kernel) rfl, ⟨by decide +kernel, by decide +kernel⟩, by decide +kernel, by decide +kernel⟩
set_option maxHeartbeats 8000000 in
set_option maxRecDepth 100000 in
theorem c_L_drafts {l : Launch} {Γ : Cx} {M0 : Md} (hG : GK Γ l) {sT : Nat → Nat} (hS : STs Γ sT) (a0 : Nat) (a1 : Int) (C : Cd) : Ct l Γ k_L_drafts 7 encI (emC M0) [.ref a0, vl a1] C (fW_drafts a0 a1 C) := by
  refine ct_of (by decide +kernel) rfl (Nat.le_of_ble_eq_true rfl) ?_
  refine r_lo [0, 1] (lo2 := [(0, .ref a0), (1, vl a1)]) rfl ?_
  unfold fW_drafts
  refine ro_iconst (v := 0) dL_drafts_0 rfl ?_
  refine r_istore_n (lo2 := [(3, wi 0), (0, .ref a0), (1, vl a1)]) dL_drafts_1 rfl (by decide) rfl ?_
  refine r_aload_n (x := a0) dL_drafts_2 rfl rfl ?_
  refine r_cc1 (J := fun (C_ : Cd) => C_) (k2 := k_X11_wipe) (c := 14) (T := TX11) (N := 10) (n := 0) (rest := []) (fun _ => rfl) rfl um_L_109 kv_X11_wipe hc_X11 (by decide) (c_X11_wipe hG _ _) (by decide) rfl (Nat.le_of_ble_eq_true rfl) dL_drafts_3 rfl (fun r1 C2 => ?_)
  show RunO l Γ k_L_drafts 7 encI (emC M0) 6 [(3, wi 0), (0, .ref a0), (1, vl a1)] [wi r1] C2 _
  refine r_join (P := fun (J : Int → Cd → Option (Int × Cd)) => ∀ (t0_14 : Int) (C_14 : Cd), RunO l Γ k_L_drafts 7 encI (emC M0) 14 [(0, .ref a0), (1, vl a1), (3, wi 0)] [wi t0_14] C_14 (J t0_14 C_14)) ?_ (fun J14 hJ14 => ?_)
  · intro t0_14 C_14
    show RunO l Γ k_L_drafts 7 encI (emC M0) 14 [(0, .ref a0), (1, vl a1), (3, wi 0)] [wi t0_14] C_14 (fW_drafts_14 a0 a1 t0_14 C_14)
    unfold fW_drafts_14
    refine r_istore (lo2 := [(4, wi t0_14), (0, .ref a0), (1, vl a1), (3, wi 0)]) dL_drafts_14 (by decide) rfl ?_
    refine ro_iconst (v := 0) dL_drafts_16 rfl ?_
    refine r_istore (lo2 := [(5, wi 0), (4, wi t0_14), (0, .ref a0), (1, vl a1), (3, wi 0)]) dL_drafts_17 (by decide) rfl ?_
    refine r_loop (P := fun (J : Int → Int → Int → Cd → Option (Int × Cd)) => ∀ (v3_19 : Int) (v4_19 : Int) (v5_19 : Int) (C_19 : Cd), RunO l Γ k_L_drafts 7 encI (emC M0) 19 [(0, .ref a0), (1, vl a1), (3, wi v3_19), (4, wi v4_19), (5, wi v5_19)] [] C_19 (J v3_19 v4_19 v5_19 C_19)) ?_ (fun L19 hL19 => ?_) (fun J19 hJ19 => ?_)
    · intros; exact ro_none
    · intro v3_19 v4_19 v5_19 C_19
      show RunO l Γ k_L_drafts 7 encI (emC M0) 19 [(0, .ref a0), (1, vl a1), (3, wi v3_19), (4, wi v4_19), (5, wi v5_19)] [] C_19 (fW_drafts_19 a0 a1 L19 v3_19 v4_19 v5_19 C_19)
      unfold fW_drafts_19
      refine r_iload (x := v5_19) dL_drafts_19 rfl ?_
      refine r_lload_n (x := a1) dL_drafts_21 rfl rfl ?_
      refine r_csi (J := fun (_ : Unit) => C_19) (k2 := k_L_macros) (n := 1) (rest := [wi v5_19]) (fun _ => rfl) rfl kv_L_macros (c_L_macros (σ0 := _) a1) (by decide) um_L_7 rfl (Nat.le_of_ble_eq_true rfl) dL_drafts_22 rfl (fun r3 _ => ?_)
      show RunO l Γ k_L_drafts 7 encI (emC M0) 25 [(0, .ref a0), (1, vl a1), (3, wi v3_19), (4, wi v4_19), (5, wi v5_19)] [wi r3, wi v5_19] C_19 _
      refine r_icmp_ge (tgt := 110) dL_drafts_25 (by decide) ?_ ?_
      · refine r_iload (x := v4_19) dL_drafts_110 rfl ?_
        exact r_zret rfl dL_drafts_112
      · refine ro_iconst (v := 0) dL_drafts_28 rfl ?_
        refine r_istore (lo2 := [(6, wi 0), (0, .ref a0), (1, vl a1), (3, wi v3_19), (4, wi v4_19), (5, wi v5_19)]) dL_drafts_29 (by decide) rfl ?_
        refine r_loop (P := fun (J : Int → Int → Int → Cd → Option (Int × Cd)) => ∀ (v3_31 : Int) (v4_31 : Int) (v6_31 : Int) (C_31 : Cd), RunO l Γ k_L_drafts 7 encI (emC M0) 31 [(0, .ref a0), (1, vl a1), (3, wi v3_31), (4, wi v4_31), (5, wi v5_19), (6, wi v6_31)] [] C_31 (J v3_31 v4_31 v6_31 C_31)) ?_ (fun L31 hL31 => ?_) (fun J31 hJ31 => ?_)
        · intros; exact ro_none
        · intro v3_31 v4_31 v6_31 C_31
          show RunO l Γ k_L_drafts 7 encI (emC M0) 31 [(0, .ref a0), (1, vl a1), (3, wi v3_31), (4, wi v4_31), (5, wi v5_19), (6, wi v6_31)] [] C_31 (fW_drafts_31 a0 a1 L19 v5_19 L31 v3_31 v4_31 v6_31 C_31)
          unfold fW_drafts_31
          refine r_lload_n (x := a1) dL_drafts_31 rfl rfl ?_
          refine r_iload (x := v5_19) dL_drafts_32 rfl ?_
          refine r_csi (J := fun (_ : Unit) => C_31) (k2 := k_L_macro) (n := 2) (rest := []) (fun _ => rfl) rfl kv_L_macro (c_L_macro (σ0 := _) a1 v5_19) (by decide) um_L_19 rfl (Nat.le_of_ble_eq_true rfl) dL_drafts_34 rfl (fun r4 _ => ?_)
          show RunO l Γ k_L_drafts 7 encI (emC M0) 37 [(0, .ref a0), (1, vl a1), (3, wi v3_31), (4, wi v4_31), (5, wi v5_19), (6, wi v6_31)] [wi r4] C_31 _
          refine r_iload (x := v6_31) dL_drafts_37 rfl ?_
          refine r_csi (J := fun (_ : Unit) => C_31) (k2 := k_L_code) (n := 2) (rest := []) (fun _ => rfl) rfl kv_L_code (c_L_code (σ0 := _) r4 v6_31) (by decide) um_L_113 rfl (Nat.le_of_ble_eq_true rfl) dL_drafts_39 rfl (fun r5 _ => ?_)
          show RunO l Γ k_L_drafts 7 encI (emC M0) 42 [(0, .ref a0), (1, vl a1), (3, wi v3_31), (4, wi v4_31), (5, wi v5_19), (6, wi v6_31)] [wi r5] C_31 _
          refine r_if_lt (tgt := 104) dL_drafts_42 (by decide) ?_ ?_
          · refine r_iinc (x := v5_19) (lo2 := [(5, wi (v5_19 + 1)), (0, .ref a0), (1, vl a1), (3, wi v3_31), (4, wi v4_31), (6, wi v6_31)]) dL_drafts_104 rfl (by decide) rfl ?_
            refine r_goto (tgt := 19) dL_drafts_107 (by decide) ?_
            refine r_lo [1, 2, 3, 4, 0] (lo2 := [(0, .ref a0), (1, vl a1), (3, wi v3_31), (4, wi v4_31), (5, wi (v5_19 + 1))]) rfl ?_
            exact hL19 v3_31 v4_31 (v5_19 + 1) C_31
          · refine r_iinc (x := v3_31) (lo2 := [(3, wi (v3_31 + 1)), (0, .ref a0), (1, vl a1), (4, wi v4_31), (5, wi v5_19), (6, wi v6_31)]) dL_drafts_45 rfl (by decide) rfl ?_
            refine r_iload (x := v4_31) dL_drafts_48 rfl ?_
            refine r_join (P := fun (J : Int → Cd → Option (Int × Cd)) => ∀ (t0_96 : Int) (C_96 : Cd), RunO l Γ k_L_drafts 7 encI (emC M0) 96 [(0, .ref a0), (1, vl a1), (3, wi (v3_31 + 1)), (5, wi v5_19), (6, wi v6_31)] [wi t0_96] C_96 (J t0_96 C_96)) ?_ (fun J96 hJ96 => ?_)
            · intro t0_96 C_96
              show RunO l Γ k_L_drafts 7 encI (emC M0) 96 [(0, .ref a0), (1, vl a1), (3, wi (v3_31 + 1)), (5, wi v5_19), (6, wi v6_31)] [wi t0_96] C_96 (fW_drafts_96 L31 v3_31 v6_31 t0_96 C_96)
              unfold fW_drafts_96
              refine r_istore (lo2 := [(4, wi t0_96), (0, .ref a0), (1, vl a1), (3, wi (v3_31 + 1)), (5, wi v5_19), (6, wi v6_31)]) dL_drafts_96 (by decide) rfl ?_
              refine r_iinc (x := v6_31) (lo2 := [(6, wi (v6_31 + 1)), (4, wi t0_96), (0, .ref a0), (1, vl a1), (3, wi (v3_31 + 1)), (5, wi v5_19)]) dL_drafts_98 rfl (by decide) rfl ?_
              refine r_goto (tgt := 31) dL_drafts_101 (by decide) ?_
              refine r_lo [2, 3, 4, 1, 5, 0] (lo2 := [(0, .ref a0), (1, vl a1), (3, wi (v3_31 + 1)), (4, wi t0_96), (5, wi v5_19), (6, wi (v6_31 + 1))]) rfl ?_
              exact hL31 (v3_31 + 1) t0_96 (v6_31 + 1) C_96
            refine r_join (P := fun (J : Cd → Option (Int × Cd)) => ∀ (C_95 : Cd), RunO l Γ k_L_drafts 7 encI (emC M0) 95 [(0, .ref a0), (1, vl a1), (3, wi (v3_31 + 1)), (5, wi v5_19), (6, wi v6_31)] [] C_95 (J C_95)) ?_ (fun J95 hJ95 => ?_)
            · intro C_95
              show RunO l Γ k_L_drafts 7 encI (emC M0) 95 [(0, .ref a0), (1, vl a1), (3, wi (v3_31 + 1)), (5, wi v5_19), (6, wi v6_31)] [] C_95 (fW_drafts_95 J96 C_95)
              unfold fW_drafts_95
              refine ro_iconst (v := 0) dL_drafts_95 rfl ?_
              exact hJ96 0 C_95
            refine r_if_eq (tgt := 95) dL_drafts_50 (by decide) ?_ ?_
            · refine r_lo [1, 2, 0, 4, 5] (lo2 := [(0, .ref a0), (1, vl a1), (3, wi (v3_31 + 1)), (5, wi v5_19), (6, wi v6_31)]) rfl ?_
              exact hJ95 C_31
            · refine r_aload_n (x := a0) dL_drafts_53 rfl rfl ?_
              refine r_lload_n (x := a1) dL_drafts_54 rfl rfl ?_
              refine r_iload (x := v5_19) dL_drafts_55 rfl ?_
              refine r_csi (J := fun (_ : Unit) => C_31) (k2 := k_L_macro) (n := 2) (rest := [.ref a0]) (fun _ => rfl) rfl kv_L_macro (c_L_macro (σ0 := _) a1 v5_19) (by decide) um_L_19 rfl (Nat.le_of_ble_eq_true rfl) dL_drafts_57 rfl (fun r6 _ => ?_)
              show RunO l Γ k_L_drafts 7 encI (emC M0) 60 [(3, wi (v3_31 + 1)), (0, .ref a0), (1, vl a1), (4, wi v4_31), (5, wi v5_19), (6, wi v6_31)] [wi r6, .ref a0] C_31 _
              refine r_iload (x := v6_31) dL_drafts_60 rfl ?_
              refine r_csi (J := fun (_ : Unit) => C_31) (k2 := k_L_code) (n := 2) (rest := [.ref a0]) (fun _ => rfl) rfl kv_L_code (c_L_code (σ0 := _) r6 v6_31) (by decide) um_L_113 rfl (Nat.le_of_ble_eq_true rfl) dL_drafts_62 rfl (fun r7 _ => ?_)
              show RunO l Γ k_L_drafts 7 encI (emC M0) 65 [(3, wi (v3_31 + 1)), (0, .ref a0), (1, vl a1), (4, wi v4_31), (5, wi v5_19), (6, wi v6_31)] [wi r7, .ref a0] C_31 _
              refine r_sipush (v := 1000) dL_drafts_65 rfl ?_
              refine r_idiv dL_drafts_68 (by decide) ?_
              refine r_lload_n (x := a1) dL_drafts_69 rfl rfl ?_
              refine r_iload (x := v5_19) dL_drafts_70 rfl ?_
              refine r_csi (J := fun (_ : Unit) => C_31) (k2 := k_L_macro) (n := 2) (rest := [wi (divI r7 1000), .ref a0]) (fun _ => rfl) rfl kv_L_macro (c_L_macro (σ0 := _) a1 v5_19) (by decide) um_L_19 rfl (Nat.le_of_ble_eq_true rfl) dL_drafts_72 rfl (fun r8 _ => ?_)
              show RunO l Γ k_L_drafts 7 encI (emC M0) 75 [(3, wi (v3_31 + 1)), (0, .ref a0), (1, vl a1), (4, wi v4_31), (5, wi v5_19), (6, wi v6_31)] [wi r8, wi (divI r7 1000), .ref a0] C_31 _
              refine r_iload (x := v6_31) dL_drafts_75 rfl ?_
              refine r_csi (J := fun (_ : Unit) => C_31) (k2 := k_L_code) (n := 2) (rest := [wi (divI r7 1000), .ref a0]) (fun _ => rfl) rfl kv_L_code (c_L_code (σ0 := _) r8 v6_31) (by decide) um_L_113 rfl (Nat.le_of_ble_eq_true rfl) dL_drafts_77 rfl (fun r9 _ => ?_)
              show RunO l Γ k_L_drafts 7 encI (emC M0) 80 [(3, wi (v3_31 + 1)), (0, .ref a0), (1, vl a1), (4, wi v4_31), (5, wi v5_19), (6, wi v6_31)] [wi r9, wi (divI r7 1000), .ref a0] C_31 _
              refine r_sipush (v := 1000) dL_drafts_80 rfl ?_
              refine r_irem dL_drafts_83 (by decide) ?_
              refine r_cx1 (J := fun (C_ : Cd) => C_) (k2 := k_X11_token) (c := 14) (T := TX11) (N := 10) (n := 2) (rest := []) (fun _ => rfl) rfl um_L_116 kv_X11_token hc_X11 (by decide) (c_X11_token hG _ _ _ hS _) (by decide) rfl (Nat.le_of_ble_eq_true rfl) dL_drafts_84 rfl (fun r10 C11 => ?_)
              show RunO l Γ k_L_drafts 7 encI (emC M0) 87 [(3, wi (v3_31 + 1)), (0, .ref a0), (1, vl a1), (4, wi v4_31), (5, wi v5_19), (6, wi v6_31)] [wi r10] C11 _
              refine r_iload_n (x := v3_31 + 1) dL_drafts_87 rfl rfl ?_
              refine r_icmp_ne (tgt := 95) dL_drafts_88 (by decide) ?_ ?_
              · refine r_lo [1, 2, 0, 4, 5] (lo2 := [(0, .ref a0), (1, vl a1), (3, wi (v3_31 + 1)), (5, wi v5_19), (6, wi v6_31)]) rfl ?_
                exact hJ95 C11
              · refine ro_iconst (v := 1) dL_drafts_91 rfl ?_
                refine r_goto (tgt := 96) dL_drafts_92 (by decide) ?_
                refine r_lo [1, 2, 0, 4, 5] (lo2 := [(0, .ref a0), (1, vl a1), (3, wi (v3_31 + 1)), (5, wi v5_19), (6, wi v6_31)]) rfl ?_
                exact hJ96 1 C11
        refine r_lo [1, 2, 3, 4, 5, 0] (lo2 := [(0, .ref a0), (1, vl a1), (3, wi v3_19), (4, wi v4_19), (5, wi v5_19), (6, wi 0)]) rfl ?_
        exact hJ31 v3_19 v4_19 0 C_19
    refine r_lo [2, 3, 4, 1, 0] (lo2 := [(0, .ref a0), (1, vl a1), (3, wi 0), (4, wi t0_14), (5, wi 0)]) rfl ?_
    exact hJ19 0 t0_14 0 C_14
  refine r_if_lt (tgt := 13) dL_drafts_6 (by decide) ?_ ?_
  · refine ro_iconst (v := 0) dL_drafts_13 rfl ?_
    refine r_lo [1, 2, 0] (lo2 := [(0, .ref a0), (1, vl a1), (3, wi 0)]) rfl ?_
    exact hJ14 0 C2
  · refine ro_iconst (v := 1) dL_drafts_9 rfl ?_
    refine r_goto (tgt := 14) dL_drafts_10 (by decide) ?_
    refine r_lo [1, 2, 0] (lo2 := [(0, .ref a0), (1, vl a1), (3, wi 0)]) rfl ?_
    exact hJ14 1 C2
def k_L_drawn : Kd := (yL_drawn, cL_drawn, 7, some .long, [])
theorem kv_L_drawn : KS k_L_drawn 1 := ⟨uw_mem 1472 (by decide +kernel) rfl, uw_mem 93 (by decide +kernel) rfl, uw_mem 1471 (by decide +kernel) rfl, ⟨by decide +kernel, by decide +kernel⟩, by decide +kernel, by decide +kernel⟩
set_option maxHeartbeats 8000000 in
set_option maxRecDepth 100000 in
theorem c_L_drawn {l : Launch} {Γ : Cx} {σ0 : St} (a0 : Int)  : Ct l Γ k_L_drawn 1 encJ (emU σ0) [wi a0] () (fW_drawn a0) := by
  refine ct_of (by decide +kernel) rfl (Nat.le_of_ble_eq_true rfl) ?_
  refine r_lo [0] (lo2 := [(0, wi a0)]) rfl ?_
  unfold fW_drawn
  refine ro_iconst (v := 1) dL_drawn_0 rfl ?_
  refine r_iload_n (x := a0) dL_drawn_1 rfl rfl ?_
  refine ro_iconst (v := 5) dL_drawn_2 rfl ?_
  refine r_irem dL_drawn_3 (by decide) ?_
  refine r_iadd dL_drawn_4 ?_
  refine r_nm (fun x1_5 => ?_)
  refine r_istore_n (lo2 := [(1, wi x1_5), (0, wi a0)]) dL_drawn_5 rfl (by decide) rfl ?_
  refine r_lconst (x := 1) dL_drawn_6 rfl ?_
  refine r_lstore_n (lo2 := [(2, vl 1), (1, wi x1_5), (0, wi a0)]) dL_drawn_7 rfl (by decide) rfl ?_
  refine r_iload_n (x := a0) dL_drawn_8 rfl rfl ?_
  refine r_bipush (v := 11) dL_drawn_9 rfl ?_
  refine r_irem dL_drawn_11 (by decide) ?_
  refine r_if_ne (tgt := 34) dL_drawn_12 (by decide) ?_ ?_
  · refine ro_iconst (v := 0) dL_drawn_34 rfl ?_
    refine r_istore (lo2 := [(4, wi 0), (2, vl 1), (1, wi x1_5), (0, wi a0)]) dL_drawn_35 (by decide) rfl ?_
    refine r_loop (P := fun (J : Int → Int → Option (Int × Unit)) => ∀ (v2_37 : Int) (v4_37 : Int), RunO l Γ k_L_drawn 1 encJ (emU σ0) 37 [(0, wi a0), (1, wi x1_5), (2, vl v2_37), (4, wi v4_37)] [] () (J v2_37 v4_37)) ?_ (fun L37 hL37 => ?_) (fun J37 hJ37 => ?_)
    · intros; exact ro_none
    · intro v2_37 v4_37
      show RunO l Γ k_L_drawn 1 encJ (emU σ0) 37 [(0, wi a0), (1, wi x1_5), (2, vl v2_37), (4, wi v4_37)] [] () (fW_drawn_37 a0 x1_5 L37 v2_37 v4_37)
      unfold fW_drawn_37
      refine r_iload (x := v4_37) dL_drawn_37 rfl ?_
      refine r_iload_n (x := x1_5) dL_drawn_39 rfl rfl ?_
      refine r_icmp_ge (tgt := 141) dL_drawn_40 (by decide) ?_ ?_
      · refine r_lload_n (x := v2_37) dL_drawn_141 rfl rfl ?_
        exact r_lret rfl dL_drawn_142
      · refine r_iload_n (x := a0) dL_drawn_43 rfl rfl ?_
        refine r_bipush (v := 7) dL_drawn_44 rfl ?_
        refine r_bipush (v := 13) dL_drawn_46 rfl ?_
        refine r_iload (x := v4_37) dL_drawn_48 rfl ?_
        refine r_imul dL_drawn_50 ?_
        refine r_iadd dL_drawn_51 ?_
        refine r_idivT dL_drawn_52 ?_
        refine r_nm (fun x5_53 => ?_)
        refine r_istore (lo2 := [(5, wi x5_53), (0, wi a0), (1, wi x1_5), (2, vl v2_37), (4, wi v4_37)]) dL_drawn_53 (by decide) rfl ?_
        refine r_iload (x := x5_53) dL_drawn_55 rfl ?_
        refine r_bipush (v := 13) dL_drawn_57 rfl ?_
        refine r_irem dL_drawn_59 (by decide) ?_
        refine r_bipush (v := 10) dL_drawn_60 rfl ?_
        refine r_join (P := fun (J : Int → Option (Int × Unit)) => ∀ (t0_85 : Int), RunO l Γ k_L_drawn 1 encJ (emU σ0) 85 [(0, wi a0), (1, wi x1_5), (2, vl v2_37), (4, wi v4_37), (5, wi x5_53)] [wi t0_85] () (J t0_85)) ?_ (fun J85 hJ85 => ?_)
        · intro t0_85
          show RunO l Γ k_L_drawn 1 encJ (emU σ0) 85 [(0, wi a0), (1, wi x1_5), (2, vl v2_37), (4, wi v4_37), (5, wi x5_53)] [wi t0_85] () (fW_drawn_85 L37 v2_37 v4_37 x5_53 t0_85)
          unfold fW_drawn_85
          refine r_istore (lo2 := [(6, wi t0_85), (0, wi a0), (1, wi x1_5), (2, vl v2_37), (4, wi v4_37), (5, wi x5_53)]) dL_drawn_85 (by decide) rfl ?_
          refine r_lload_n (x := v2_37) dL_drawn_87 rfl rfl ?_
          refine r_bipush (v := 10) dL_drawn_88 rfl ?_
          refine r_lshl dL_drawn_90 ?_
          refine r_iload (x := t0_85) dL_drawn_91 rfl ?_
          refine r_bipush (v := 16) dL_drawn_93 rfl ?_
          refine r_iload (x := t0_85) dL_drawn_95 rfl ?_
          refine ro_iconst (v := 4) dL_drawn_97 rfl ?_
          refine r_join (P := fun (J : Int → Option (Int × Unit)) => ∀ (t0_130 : Int), RunO l Γ k_L_drawn 1 encJ (emU σ0) 130 [(0, wi a0), (1, wi x1_5), (4, wi v4_37)] [wi t0_130, wi 16, wi t0_85, vl (lshlI v2_37 10)] () (J t0_130)) ?_ (fun J130 hJ130 => ?_)
          · intro t0_130
            show RunO l Γ k_L_drawn 1 encJ (emU σ0) 130 [(0, wi a0), (1, wi x1_5), (4, wi v4_37)] [wi t0_130, wi 16, wi t0_85, vl (lshlI v2_37 10)] () (fW_drawn_130 L37 v2_37 v4_37 t0_85 t0_130)
            unfold fW_drawn_130
            refine r_imul dL_drawn_130 ?_
            refine r_iadd dL_drawn_131 ?_
            refine r_i2l dL_drawn_132 ?_
            refine r_lor dL_drawn_133 ?_
            refine r_nml (fun x2_134 => ?_)
            refine r_lstore_n (lo2 := [(2, vl x2_134), (0, wi a0), (1, wi x1_5), (4, wi v4_37)]) dL_drawn_134 rfl (by decide) rfl ?_
            refine r_iinc (x := v4_37) (lo2 := [(4, wi (v4_37 + 1)), (2, vl x2_134), (0, wi a0), (1, wi x1_5)]) dL_drawn_135 rfl (by decide) rfl ?_
            refine r_goto (tgt := 37) dL_drawn_138 (by decide) ?_
            refine r_lo [2, 3, 1, 0] (lo2 := [(0, wi a0), (1, wi x1_5), (2, vl x2_134), (4, wi (v4_37 + 1))]) rfl ?_
            exact hL37 x2_134 (v4_37 + 1)
          refine r_icmp_ne (tgt := 105) dL_drawn_98 (by decide) ?_ ?_
          · refine r_iload (x := x5_53) dL_drawn_105 rfl ?_
            refine r_bipush (v := 13) dL_drawn_107 rfl ?_
            refine r_idiv dL_drawn_109 (by decide) ?_
            refine r_iload (x := t0_85) dL_drawn_110 rfl ?_
            refine r_join (P := fun (J : Int → Option (Int × Unit)) => ∀ (t0_129 : Int), RunO l Γ k_L_drawn 1 encJ (emU σ0) 129 [(0, wi a0), (1, wi x1_5), (4, wi v4_37)] [wi t0_129, wi (divI x5_53 13), wi 16, wi t0_85, vl (lshlI v2_37 10)] () (J t0_129)) ?_ (fun J129 hJ129 => ?_)
            · intro t0_129
              show RunO l Γ k_L_drawn 1 encJ (emU σ0) 129 [(0, wi a0), (1, wi x1_5), (4, wi v4_37)] [wi t0_129, wi (divI x5_53 13), wi 16, wi t0_85, vl (lshlI v2_37 10)] () (fW_drawn_129 x5_53 J130 t0_129)
              unfold fW_drawn_129
              refine r_iremT dL_drawn_129 ?_
              exact hJ130 (remI (divI x5_53 13) t0_129)
            refine r_join (P := fun (J : Option (Int × Unit)) => RunO l Γ k_L_drawn 1 encJ (emU σ0) 122 [(0, wi a0), (1, wi x1_5), (4, wi v4_37)] [wi (divI x5_53 13), wi 16, wi t0_85, vl (lshlI v2_37 10)] () J) ?_ (fun J122 hJ122 => ?_)
            · skip
              show RunO l Γ k_L_drawn 1 encJ (emU σ0) 122 [(0, wi a0), (1, wi x1_5), (4, wi v4_37)] [wi (divI x5_53 13), wi 16, wi t0_85, vl (lshlI v2_37 10)] () (fW_drawn_122 J129)
              unfold fW_drawn_122
              refine r_bipush (v := 60) dL_drawn_122 rfl ?_
              refine r_goto (tgt := 129) dL_drawn_124 (by decide) ?_
              exact hJ129 60
            refine r_if_eq (tgt := 122) dL_drawn_112 (by decide) ?_ ?_
            · refine r_lo [1, 2, 4] (lo2 := [(0, wi a0), (1, wi x1_5), (4, wi v4_37)]) rfl ?_
              exact hJ122
            · refine r_iload (x := t0_85) dL_drawn_115 rfl ?_
              refine r_bipush (v := 7) dL_drawn_117 rfl ?_
              refine r_icmp_le (tgt := 127) dL_drawn_119 (by decide) ?_ ?_
              · refine r_bipush (v := 8) dL_drawn_127 rfl ?_
                refine r_lo [1, 2, 4] (lo2 := [(0, wi a0), (1, wi x1_5), (4, wi v4_37)]) rfl ?_
                exact hJ129 8
              · refine r_lo [1, 2, 4] (lo2 := [(0, wi a0), (1, wi x1_5), (4, wi v4_37)]) rfl ?_
                exact hJ122
          · refine ro_iconst (v := 0) dL_drawn_101 rfl ?_
            refine r_goto (tgt := 130) dL_drawn_102 (by decide) ?_
            refine r_lo [1, 2, 4] (lo2 := [(0, wi a0), (1, wi x1_5), (4, wi v4_37)]) rfl ?_
            exact hJ130 0
        refine r_icmp_ge (tgt := 73) dL_drawn_62 (by decide) ?_ ?_
        · refine r_iload (x := x5_53) dL_drawn_73 rfl ?_
          refine ro_iconst (v := 2) dL_drawn_75 rfl ?_
          refine r_irem dL_drawn_76 (by decide) ?_
          refine r_if_ne (tgt := 84) dL_drawn_77 (by decide) ?_ ?_
          · refine ro_iconst (v := 0) dL_drawn_84 rfl ?_
            refine r_lo [1, 2, 3, 4, 0] (lo2 := [(0, wi a0), (1, wi x1_5), (2, vl v2_37), (4, wi v4_37), (5, wi x5_53)]) rfl ?_
            exact hJ85 0
          · refine ro_iconst (v := 2) dL_drawn_80 rfl ?_
            refine r_goto (tgt := 85) dL_drawn_81 (by decide) ?_
            refine r_lo [1, 2, 3, 4, 0] (lo2 := [(0, wi a0), (1, wi x1_5), (2, vl v2_37), (4, wi v4_37), (5, wi x5_53)]) rfl ?_
            exact hJ85 2
        · refine r_iload (x := x5_53) dL_drawn_65 rfl ?_
          refine r_bipush (v := 13) dL_drawn_67 rfl ?_
          refine r_irem dL_drawn_69 (by decide) ?_
          refine r_goto (tgt := 85) dL_drawn_70 (by decide) ?_
          refine r_lo [1, 2, 3, 4, 0] (lo2 := [(0, wi a0), (1, wi x1_5), (2, vl v2_37), (4, wi v4_37), (5, wi x5_53)]) rfl ?_
          exact hJ85 (remI x5_53 13)
    refine r_lo [3, 2, 1, 0] (lo2 := [(0, wi a0), (1, wi x1_5), (2, vl 1), (4, wi 0)]) rfl ?_
    exact hJ37 1 0
  · refine r_ldc2 (v := 1024) uc_L_130 dL_drawn_15 ?_
    refine r_bipush (v := 10) dL_drawn_18 rfl ?_
    refine r_bipush (v := 16) dL_drawn_20 rfl ?_
    refine r_iload_n (x := a0) dL_drawn_22 rfl rfl ?_
    refine r_bipush (v := 11) dL_drawn_23 rfl ?_
    refine r_idiv dL_drawn_25 (by decide) ?_
    refine r_bipush (v := 8) dL_drawn_26 rfl ?_
    refine r_irem dL_drawn_28 (by decide) ?_
    refine r_imul dL_drawn_29 ?_
    refine r_iadd dL_drawn_30 ?_
    refine r_i2l dL_drawn_31 ?_
    refine r_lor dL_drawn_32 ?_
    exact r_lret rfl dL_drawn_33
def k_L_members : Kd := (yL_members, cL_members, 4, some .int, [])
theorem kv_L_members : KS k_L_members 2 := ⟨uw_mem 761 (by decide +kernel) rfl, uw_mem 93 (by decide +kernel) rfl, uw_mem 760 (by decide +kernel) rfl, ⟨by decide +kernel, by decide +kernel⟩, by decide +kernel, by decide +kernel⟩
set_option maxHeartbeats 8000000 in
set_option maxRecDepth 100000 in
theorem c_L_members {l : Launch} {Γ : Cx} {ad : Nat → Nat} {K0 : Cd} (h : wOn Γ) (hm : ∀ k, k ≤ 10 → ad k ≠ 0) (a1 : Int) (E : Rw) : Ct l Γ k_L_members 1 encI (emW ad K0) [.ref (ad 6), wi a1] E (fW_members a1 E) := by
  refine ct_of (by decide +kernel) rfl (Nat.le_of_ble_eq_true rfl) ?_
  refine r_lo [0, 1] (lo2 := [(0, .ref (ad 6)), (1, wi a1)]) rfl ?_
  unfold fW_members
  refine ro_iconst (v := 0) dL_members_0 rfl ?_
  refine r_istore_n (lo2 := [(2, wi 0), (0, .ref (ad 6)), (1, wi a1)]) dL_members_1 rfl (by decide) rfl ?_
  refine ro_iconst (v := 0) dL_members_2 rfl ?_
  refine r_istore_n (lo2 := [(3, wi 0), (2, wi 0), (0, .ref (ad 6)), (1, wi a1)]) dL_members_3 rfl (by decide) rfl ?_
  refine r_loop (P := fun (J : Int → Int → Rw → Option (Int × Rw)) => ∀ (v2_4 : Int) (v3_4 : Int) (E_4 : Rw), RunO l Γ k_L_members 1 encI (emW ad K0) 4 [(0, .ref (ad 6)), (1, wi a1), (2, wi v2_4), (3, wi v3_4)] [] E_4 (J v2_4 v3_4 E_4)) ?_ (fun L4 hL4 => ?_) (fun J4 hJ4 => ?_)
  · intros; exact ro_none
  · intro v2_4 v3_4 E_4
    refine r_iload_n (x := v3_4) dL_members_4 rfl rfl ?_
    refine r_bipush (v := 8) dL_members_5 rfl ?_
    refine r_icmp_ge (tgt := 46) dL_members_7 (by decide) ?_ ?_
    · refine r_iload_n (x := v2_4) dL_members_46 rfl rfl ?_
      exact r_iret rfl dL_members_47
    · refine r_iload_n (x := v2_4) dL_members_10 rfl rfl ?_
      refine r_aload_n (x := ad 6) dL_members_11 rfl rfl ?_
      refine r_bipush (v := 7) dL_members_12 rfl ?_
      refine r_iload_n (x := v3_4) dL_members_14 rfl rfl ?_
      refine r_imul dL_members_15 ?_
      refine r_wiald h (by decide) (hm 6 (by decide)) dL_members_16 ?_
      refine r_join (P := fun (J : Int → Rw → Option (Int × Rw)) => ∀ (t0_36 : Int) (E_36 : Rw), RunO l Γ k_L_members 1 encI (emW ad K0) 36 [(0, .ref (ad 6)), (1, wi a1), (3, wi v3_4)] [wi t0_36, wi v2_4] E_36 (J t0_36 E_36)) ?_ (fun J36 hJ36 => ?_)
      · intro t0_36 E_36
        refine r_iload_n (x := v3_4) dL_members_36 rfl rfl ?_
        refine r_ishl dL_members_37 ?_
        refine r_ior dL_members_38 ?_
        refine r_nm (fun x2_39 => ?_)
        refine r_istore_n (lo2 := [(2, wi x2_39), (0, .ref (ad 6)), (1, wi a1), (3, wi v3_4)]) dL_members_39 rfl (by decide) rfl ?_
        refine r_iinc (x := v3_4) (lo2 := [(3, wi (v3_4 + 1)), (2, wi x2_39), (0, .ref (ad 6)), (1, wi a1)]) dL_members_40 rfl (by decide) rfl ?_
        refine r_goto (tgt := 4) dL_members_43 (by decide) ?_
        refine r_lo [2, 3, 1, 0] (lo2 := [(0, .ref (ad 6)), (1, wi a1), (2, wi x2_39), (3, wi (v3_4 + 1))]) rfl ?_
        exact hL4 x2_39 (v3_4 + 1) E_36
      refine r_if_le (tgt := 35) dL_members_17 (by decide) ?_ ?_
      · refine ro_iconst (v := 0) dL_members_35 rfl ?_
        refine r_lo [0, 1, 3] (lo2 := [(0, .ref (ad 6)), (1, wi a1), (3, wi v3_4)]) rfl ?_
        exact hJ36 0 E_4
      · refine r_aload_n (x := ad 6) dL_members_20 rfl rfl ?_
        refine r_bipush (v := 7) dL_members_21 rfl ?_
        refine r_iload_n (x := v3_4) dL_members_23 rfl rfl ?_
        refine r_imul dL_members_24 ?_
        refine ro_iconst (v := 4) dL_members_25 rfl ?_
        refine r_iadd dL_members_26 ?_
        refine r_wiald h (by decide) (hm 6 (by decide)) dL_members_27 ?_
        refine r_iload_n (x := a1) dL_members_28 rfl rfl ?_
        refine r_ishr dL_members_29 ?_
        refine ro_iconst (v := 1) dL_members_30 rfl ?_
        refine r_iand dL_members_31 ?_
        refine r_goto (tgt := 36) dL_members_32 (by decide) ?_
        refine r_lo [0, 1, 3] (lo2 := [(0, .ref (ad 6)), (1, wi a1), (3, wi v3_4)]) rfl ?_
        exact hJ36 (andI (shrI (E_4 6 (ix ((7 * v3_4) + 4))) a1) 1) E_4
  refine r_lo [2, 3, 1, 0] (lo2 := [(0, .ref (ad 6)), (1, wi a1), (2, wi 0), (3, wi 0)]) rfl ?_
  exact hJ4 0 0 E
