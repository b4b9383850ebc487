def k_L_adds : Kd := (yL_adds, cL_adds, 7, some .int, [])
theorem kv_L_adds : KS k_L_adds 6 := ⟨uw_mem 779 (by decide +kernel) rfl, uw_mem 93 (by decide +kernel) rfl, uw_mem 778 (by decide +kernel) rfl, ⟨by decide +kernel, by decide +kernel⟩, by decide +kernel, by decide +kernel⟩
set_option maxHeartbeats 8000000 in
set_option maxRecDepth 100000 in
theorem c_L_adds {l : Launch} {Γ : Cx} {ad : Nat → Nat} {K0 : Cd} (h : wOn Γ) (hm : ∀ k, k ≤ 10 → ad k ≠ 0) (a3 : Int) (a4 : Int) (a5 : Int) (E : Rw) : Ct l Γ k_L_adds 1 encI (emW ad K0) [.ref (ad 0), .ref (ad 2), .ref (ad 3), wi a3, wi a4, vl a5] E (fW_adds a3 a4 a5 E) := by
  refine ct_of (by decide +kernel) rfl (Nat.le_of_ble_eq_true rfl) ?_
  refine r_lo [0, 1, 2, 3, 4, 5] (lo2 := [(0, .ref (ad 0)), (1, .ref (ad 2)), (2, .ref (ad 3)), (3, wi a3), (4, wi a4), (5, vl a5)]) rfl ?_
  unfold fW_adds
  refine r_aload_n (x := ad 2) dL_adds_0 rfl rfl ?_
  refine ro_iconst (v := 2) dL_adds_1 rfl ?_
  refine r_aload_n (x := ad 0) dL_adds_2 rfl rfl ?_
  refine ro_iconst (v := 0) dL_adds_3 rfl ?_
  refine r_wiald h (by decide) (hm 0 (by decide)) dL_adds_4 ?_
  refine r_imul dL_adds_5 ?_
  refine r_iload_n (x := a3) dL_adds_6 rfl rfl ?_
  refine r_wiast h (by decide) (hm 2 (by decide)) dL_adds_7 (fun E1 => ?_)
  refine r_aload_n (x := ad 2) dL_adds_8 rfl rfl ?_
  refine ro_iconst (v := 2) dL_adds_9 rfl ?_
  refine r_aload_n (x := ad 0) dL_adds_10 rfl rfl ?_
  refine ro_iconst (v := 0) dL_adds_11 rfl ?_
  refine r_wiald h (by decide) (hm 0 (by decide)) dL_adds_12 ?_
  refine r_imul dL_adds_13 ?_
  refine ro_iconst (v := 1) dL_adds_14 rfl ?_
  refine r_iadd dL_adds_15 ?_
  refine r_iload (x := a4) dL_adds_16 rfl ?_
  refine r_wiast h (by decide) (hm 2 (by decide)) dL_adds_18 (fun E2 => ?_)
  refine r_aload_n (x := ad 3) dL_adds_19 rfl rfl ?_
  refine r_aload_n (x := ad 0) dL_adds_20 rfl rfl ?_
  refine ro_iconst (v := 0) dL_adds_21 rfl ?_
  refine r_wiald h (by decide) (hm 0 (by decide)) dL_adds_22 ?_
  refine r_lload (x := a5) dL_adds_23 rfl ?_
  refine r_wlast h (by decide) (hm 3 (by decide)) dL_adds_25 (fun E3 => ?_)
  refine r_aload_n (x := ad 0) dL_adds_26 rfl rfl ?_
  refine ro_iconst (v := 0) dL_adds_27 rfl ?_
  refine r_dup2 dL_adds_28 rfl rfl ?_
  refine r_wiald h (by decide) (hm 0 (by decide)) dL_adds_29 ?_
  refine ro_iconst (v := 1) dL_adds_30 rfl ?_
  refine r_iadd dL_adds_31 ?_
  refine r_wiast h (by decide) (hm 0 (by decide)) dL_adds_32 (fun E4 => ?_)
  refine r_aload_n (x := ad 0) dL_adds_33 rfl rfl ?_
  refine ro_iconst (v := 0) dL_adds_34 rfl ?_
  refine r_wiald h (by decide) (hm 0 (by decide)) dL_adds_35 ?_
  refine ro_iconst (v := 1) dL_adds_36 rfl ?_
  refine r_isub dL_adds_37 ?_
  exact r_iret rfl dL_adds_38
def k_L_macros : Kd := (yL_macros, cL_macros, 5, some .int, [])
theorem kv_L_macros : KS k_L_macros 1 := ⟨uw_mem 734 (by decide +kernel) rfl, uw_mem 93 (by decide +kernel) rfl, uw_mem 733 (by decide +kernel) rfl, ⟨by decide +kernel, by decide +kernel⟩, by decide +kernel, by decide +kernel⟩
set_option maxHeartbeats 8000000 in
set_option maxRecDepth 100000 in
theorem c_L_macros {l : Launch} {Γ : Cx} {σ0 : St} (a0 : Int)  : Ct l Γ k_L_macros 1 encI (emU σ0) [vl a0] () (fW_macros a0) := by
  refine ct_of (by decide +kernel) rfl (Nat.le_of_ble_eq_true rfl) ?_
  refine r_lo [0] (lo2 := [(0, vl a0)]) rfl ?_
  unfold fW_macros
  refine ro_iconst (v := 0) dL_macros_0 rfl ?_
  refine r_istore_n (lo2 := [(2, wi 0), (0, vl a0)]) dL_macros_1 rfl (by decide) rfl ?_
  refine r_lload_n (x := a0) dL_macros_2 rfl rfl ?_
  refine r_lstore_n (lo2 := [(3, vl a0), (2, wi 0), (0, vl a0)]) dL_macros_3 rfl (by decide) rfl ?_
  refine r_loop (P := fun (J : Int → Int → Option (Int × Unit)) => ∀ (v2_4 : Int) (v3_4 : Int), RunO l Γ k_L_macros 1 encI (emU σ0) 4 [(2, wi v2_4), (3, vl v3_4)] [] () (J v2_4 v3_4)) ?_ (fun L4 hL4 => ?_) (fun J4 hJ4 => ?_)
  · intros; exact ro_none
  · intro v2_4 v3_4
    refine r_lload_n (x := v3_4) dL_macros_4 rfl rfl ?_
    refine r_lconst (x := 1) dL_macros_5 rfl ?_
    refine r_lcmp dL_macros_6 ?_
    refine r_if_le (tgt := 21) dL_macros_7 (by decide) ?_ ?_
    · refine r_iload_n (x := v2_4) dL_macros_21 rfl rfl ?_
      exact r_iret rfl dL_macros_22
    · refine r_iinc (x := v2_4) (lo2 := [(2, wi (v2_4 + 1)), (3, vl v3_4)]) dL_macros_10 rfl (by decide) rfl ?_
      refine r_lload_n (x := v3_4) dL_macros_13 rfl rfl ?_
      refine r_bipush (v := 10) dL_macros_14 rfl ?_
      refine r_lshr dL_macros_16 ?_
      refine r_nml (fun x3_17 => ?_)
      refine r_lstore_n (lo2 := [(3, vl x3_17), (2, wi (v2_4 + 1))]) dL_macros_17 rfl (by decide) rfl ?_
      refine r_goto (tgt := 4) dL_macros_18 (by decide) ?_
      refine r_lo [1, 0] (lo2 := [(2, wi (v2_4 + 1)), (3, vl x3_17)]) rfl ?_
      exact hL4 (v2_4 + 1) x3_17
  refine r_lo [1, 0] (lo2 := [(2, wi 0), (3, vl a0)]) rfl ?_
  exact hJ4 0 a0
def k_L_macro : Kd := (yL_macro, cL_macro, 3, some .int, [])
theorem kv_L_macro : KS k_L_macro 2 := ⟨uw_mem 749 (by decide +kernel) rfl, uw_mem 93 (by decide +kernel) rfl, uw_mem 748 (by decide +kernel) rfl, ⟨by decide +kernel, by decide +kernel⟩, by decide +kernel, by decide +kernel⟩
set_option maxHeartbeats 8000000 in
set_option maxRecDepth 100000 in
theorem c_L_macro {l : Launch} {Γ : Cx} {σ0 : St} (a0 : Int) (a2 : Int)  : Ct l Γ k_L_macro 2 encI (emU σ0) [vl a0, wi a2] () (fW_macro a0 a2) := by
  refine ct_of (by decide +kernel) rfl (Nat.le_of_ble_eq_true rfl) ?_
  refine r_lo [0, 1] (lo2 := [(0, vl a0), (2, wi a2)]) rfl ?_
  unfold fW_macro
  refine r_lload_n (x := a0) dL_macro_0 rfl rfl ?_
  refine r_bipush (v := 10) dL_macro_1 rfl ?_
  refine r_lload_n (x := a0) dL_macro_3 rfl rfl ?_
  refine r_csi (J := fun (_ : Unit) => ()) (k2 := k_L_macros) (n := 1) (rest := [wi 10, vl a0]) (fun _ => rfl) rfl kv_L_macros (c_L_macros (σ0 := _) a0) (by decide) um_L_7 rfl (Nat.le_of_ble_eq_true rfl) dL_macro_4 rfl (fun r1 _ => ?_)
  show RunO l Γ k_L_macro 2 encI (emU σ0) 7 [(0, vl a0), (2, wi a2)] [wi r1, wi 10, vl a0] () _
  refine ro_iconst (v := 1) dL_macro_7 rfl ?_
  refine r_isub dL_macro_8 ?_
  refine r_iload_n (x := a2) dL_macro_9 rfl rfl ?_
  refine r_isub dL_macro_10 ?_
  refine r_imul dL_macro_11 ?_
  refine r_lshr dL_macro_12 ?_
  refine r_ldc2 (v := 1023) uc_L_13 dL_macro_13 ?_
  refine r_land dL_macro_16 ?_
  refine r_l2i dL_macro_17 ?_
  exact r_iret rfl dL_macro_18
def k_L_behind : Kd := (yL_behind, cL_behind, 7, some .long, [])
theorem kv_L_behind : KS k_L_behind 2 := ⟨uw_mem 1463 (by decide +kernel) rfl, uw_mem 93 (by decide +kernel) rfl, uw_mem 1462 (by decide +kernel) rfl, ⟨by decide +kernel, by decide +kernel⟩, by decide +kernel, by decide +kernel⟩
set_option maxHeartbeats 8000000 in
set_option maxRecDepth 100000 in
theorem c_L_behind {l : Launch} {Γ : Cx} {σ0 : St} (a0 : Int) (a2 : Int)  : Ct l Γ k_L_behind 3 encJ (emU σ0) [vl a0, vl a2] () (fW_behind a0 a2) := by
  refine ct_of (by decide +kernel) rfl (Nat.le_of_ble_eq_true rfl) ?_
  refine r_lo [0, 1] (lo2 := [(0, vl a0), (2, vl a2)]) rfl ?_
  unfold fW_behind
  refine r_lload_n (x := a0) dL_behind_0 rfl rfl ?_
  refine r_lstore (lo2 := [(4, vl a0), (0, vl a0), (2, vl a2)]) dL_behind_1 (by decide) rfl ?_
  refine ro_iconst (v := 0) dL_behind_3 rfl ?_
  refine r_istore (lo2 := [(6, wi 0), (4, vl a0), (0, vl a0), (2, vl a2)]) dL_behind_4 (by decide) rfl ?_
  refine r_loop (P := fun (J : Int → Int → Option (Int × Unit)) => ∀ (v4_6 : Int) (v6_6 : Int), RunO l Γ k_L_behind 3 encJ (emU σ0) 6 [(2, vl a2), (4, vl v4_6), (6, wi v6_6)] [] () (J v4_6 v6_6)) ?_ (fun L6 hL6 => ?_) (fun J6 hJ6 => ?_)
  · intros; exact ro_none
  · intro v4_6 v6_6
    refine r_iload (x := v6_6) dL_behind_6 rfl ?_
    refine r_lload_n (x := a2) dL_behind_8 rfl rfl ?_
    refine r_csi (J := fun (_ : Unit) => ()) (k2 := k_L_macros) (n := 1) (rest := [wi v6_6]) (fun _ => rfl) rfl kv_L_macros (c_L_macros (σ0 := _) a2) (by decide) um_L_7 rfl (Nat.le_of_ble_eq_true rfl) dL_behind_9 rfl (fun r1 _ => ?_)
    show RunO l Γ k_L_behind 3 encJ (emU σ0) 12 [(2, vl a2), (4, vl v4_6), (6, wi v6_6)] [wi r1, wi v6_6] () _
    refine r_join (P := fun (J : Option (Int × Unit)) => RunO l Γ k_L_behind 3 encJ (emU σ0) 46 [(4, vl v4_6)] [] () J) ?_ (fun J46 hJ46 => ?_)
    · skip
      refine r_lload (x := v4_6) dL_behind_46 rfl ?_
      exact r_lret rfl dL_behind_48
    refine r_icmp_ge (tgt := 46) dL_behind_12 (by decide) ?_ ?_
    · refine r_lo [1] (lo2 := [(4, vl v4_6)]) rfl ?_
      exact hJ46
    · refine r_lload (x := v4_6) dL_behind_15 rfl ?_
      refine r_csi (J := fun (_ : Unit) => ()) (k2 := k_L_macros) (n := 1) (rest := []) (fun _ => rfl) rfl kv_L_macros (c_L_macros (σ0 := _) v4_6) (by decide) um_L_7 rfl (Nat.le_of_ble_eq_true rfl) dL_behind_17 rfl (fun r2 _ => ?_)
      show RunO l Γ k_L_behind 3 encJ (emU σ0) 20 [(2, vl a2), (4, vl v4_6), (6, wi v6_6)] [wi r2] () _
      refine r_bipush (v := 6) dL_behind_20 rfl ?_
      refine r_icmp_ge (tgt := 46) dL_behind_22 (by decide) ?_ ?_
      · refine r_lo [1] (lo2 := [(4, vl v4_6)]) rfl ?_
        exact hJ46
      · refine r_lload (x := v4_6) dL_behind_25 rfl ?_
        refine r_bipush (v := 10) dL_behind_27 rfl ?_
        refine r_lshl dL_behind_29 ?_
        refine r_lload_n (x := a2) dL_behind_30 rfl rfl ?_
        refine r_iload (x := v6_6) dL_behind_31 rfl ?_
        refine r_csi (J := fun (_ : Unit) => ()) (k2 := k_L_macro) (n := 2) (rest := [vl (lshlI v4_6 10)]) (fun _ => rfl) rfl kv_L_macro (c_L_macro (σ0 := _) a2 v6_6) (by decide) um_L_19 rfl (Nat.le_of_ble_eq_true rfl) dL_behind_33 rfl (fun r3 _ => ?_)
        show RunO l Γ k_L_behind 3 encJ (emU σ0) 36 [(2, vl a2), (4, vl v4_6), (6, wi v6_6)] [wi r3, vl (lshlI v4_6 10)] () _
        refine r_i2l dL_behind_36 ?_
        refine r_lor dL_behind_37 ?_
        refine r_nml (fun x4_38 => ?_)
        refine r_lstore (lo2 := [(4, vl x4_38), (2, vl a2), (6, wi v6_6)]) dL_behind_38 (by decide) rfl ?_
        refine r_iinc (x := v6_6) (lo2 := [(6, wi (v6_6 + 1)), (4, vl x4_38), (2, vl a2)]) dL_behind_40 rfl (by decide) rfl ?_
        refine r_goto (tgt := 6) dL_behind_43 (by decide) ?_
        refine r_lo [2, 1, 0] (lo2 := [(2, vl a2), (4, vl x4_38), (6, wi (v6_6 + 1))]) rfl ?_
        exact hL6 x4_38 (v6_6 + 1)
  refine r_lo [3, 1, 0] (lo2 := [(2, vl a2), (4, vl a0), (6, wi 0)]) rfl ?_
  exact hJ6 a0 0
def k_L_code : Kd := (yL_code, cL_code, 4, some .int, [])
theorem kv_L_code : KS k_L_code 2 := ⟨uw_mem 1436 (by decide +kernel) rfl, uw_mem 93 (by decide +kernel) rfl, uw_mem 1435 (by decide +kernel) rfl, ⟨by decide +kernel, by decide +kernel⟩, by decide +kernel, by decide +kernel⟩
set_option maxHeartbeats 8000000 in
set_option maxRecDepth 100000 in
theorem c_L_code {l : Launch} {Γ : Cx} {σ0 : St} (a0 : Int) (a1 : Int)  : Ct l Γ k_L_code 1 encI (emU σ0) [wi a0, wi a1] () (fW_code a0 a1) := by
  refine ct_of (by decide +kernel) rfl (Nat.le_of_ble_eq_true rfl) ?_
  refine r_lo [0, 1] (lo2 := [(0, wi a0), (1, wi a1)]) rfl ?_
  unfold fW_code
  refine r_iload_n (x := a0) dL_code_0 rfl rfl ?_
  refine r_bipush (v := 16) dL_code_1 rfl ?_
  refine r_irem dL_code_3 (by decide) ?_
  refine r_nm (fun x2_4 => ?_)
  refine r_istore_n (lo2 := [(2, wi x2_4), (0, wi a0), (1, wi a1)]) dL_code_4 rfl (by decide) rfl ?_
  refine r_iload_n (x := a0) dL_code_5 rfl rfl ?_
  refine r_bipush (v := 16) dL_code_6 rfl ?_
  refine r_idiv dL_code_8 (by decide) ?_
  refine r_nm (fun x3_9 => ?_)
  refine r_istore_n (lo2 := [(3, wi x3_9), (2, wi x2_4), (0, wi a0), (1, wi a1)]) dL_code_9 rfl (by decide) rfl ?_
  refine r_iload_n (x := x2_4) dL_code_10 rfl rfl ?_
  refine ro_iconst (v := 2) dL_code_11 rfl ?_
  refine r_icmp_ne (tgt := 40) dL_code_12 (by decide) ?_ ?_
  · refine r_iload_n (x := x2_4) dL_code_40 rfl rfl ?_
    refine ro_iconst (v := 4) dL_code_41 rfl ?_
    refine r_join (P := fun (J : Option (Int × Unit)) => RunO l Γ k_L_code 1 encI (emU σ0) 115 [(1, wi a1), (2, wi x2_4), (3, wi x3_9)] [] () J) ?_ (fun J115 hJ115 => ?_)
    · skip
      refine r_iload_n (x := x2_4) dL_code_115 rfl rfl ?_
      refine r_bipush (v := 8) dL_code_116 rfl ?_
      refine r_join (P := fun (J : Option (Int × Unit)) => RunO l Γ k_L_code 1 encI (emU σ0) 127 [(1, wi a1), (2, wi x2_4), (3, wi x3_9)] [] () J) ?_ (fun J127 hJ127 => ?_)
      · skip
        refine r_iload_n (x := a1) dL_code_127 rfl rfl ?_
        refine r_join (P := fun (J : Int → Option (Int × Unit)) => ∀ (t0_160 : Int), RunO l Γ k_L_code 1 encI (emU σ0) 160 [] [wi t0_160] () (J t0_160)) ?_ (fun J160 hJ160 => ?_)
        · intro t0_160
          exact r_iret rfl dL_code_160
        refine r_if_ne (tgt := 139) dL_code_128 (by decide) ?_ ?_
        · refine r_iload_n (x := a1) dL_code_139 rfl rfl ?_
          refine ro_iconst (v := 1) dL_code_140 rfl ?_
          refine r_icmp_ne (tgt := 148) dL_code_141 (by decide) ?_ ?_
          · refine r_iload_n (x := a1) dL_code_148 rfl rfl ?_
            refine ro_iconst (v := 2) dL_code_149 rfl ?_
            refine r_icmp_ne (tgt := 159) dL_code_150 (by decide) ?_ ?_
            · refine ro_iconst (v := (-1)) dL_code_159 rfl ?_
              refine r_lo [] (lo2 := []) rfl ?_
              exact hJ160 (-1)
            · refine r_sipush (v := 7000) dL_code_153 rfl ?_
              refine r_goto (tgt := 160) dL_code_156 (by decide) ?_
              refine r_lo [] (lo2 := []) rfl ?_
              exact hJ160 7000
          · refine r_iload_n (x := x3_9) dL_code_144 rfl rfl ?_
            refine r_goto (tgt := 160) dL_code_145 (by decide) ?_
            refine r_lo [] (lo2 := []) rfl ?_
            exact hJ160 x3_9
        · refine r_sipush (v := 1000) dL_code_131 rfl ?_
          refine r_iload_n (x := x2_4) dL_code_134 rfl rfl ?_
          refine r_imul dL_code_135 ?_
          refine r_goto (tgt := 160) dL_code_136 (by decide) ?_
          refine r_lo [] (lo2 := []) rfl ?_
          exact hJ160 (1000 * x2_4)
      refine r_icmp_eq (tgt := 127) dL_code_118 (by decide) ?_ ?_
      · exact hJ127
      · refine r_iload_n (x := x2_4) dL_code_121 rfl rfl ?_
        refine r_bipush (v := 9) dL_code_122 rfl ?_
        refine r_icmp_ne (tgt := 161) dL_code_124 (by decide) ?_ ?_
        · refine r_iload_n (x := a1) dL_code_161 rfl rfl ?_
          refine r_join (P := fun (J : Int → Option (Int × Unit)) => ∀ (t0_219 : Int), RunO l Γ k_L_code 1 encI (emU σ0) 219 [] [wi t0_219] () (J t0_219)) ?_ (fun J219 hJ219 => ?_)
          · intro t0_219
            exact r_iret rfl dL_code_219
          refine r_if_le (tgt := 169) dL_code_162 (by decide) ?_ ?_
          · refine r_iload_n (x := x2_4) dL_code_169 rfl rfl ?_
            refine r_if_ne (tgt := 177) dL_code_170 (by decide) ?_ ?_
            · refine r_iload_n (x := x2_4) dL_code_177 rfl rfl ?_
              refine ro_iconst (v := 1) dL_code_178 rfl ?_
              refine r_icmp_ne (tgt := 190) dL_code_179 (by decide) ?_ ?_
              · refine r_iload_n (x := x2_4) dL_code_190 rfl rfl ?_
                refine ro_iconst (v := 3) dL_code_191 rfl ?_
                refine r_icmp_ne (tgt := 203) dL_code_192 (by decide) ?_ ?_
                · refine r_iload_n (x := x2_4) dL_code_203 rfl rfl ?_
                  refine ro_iconst (v := 4) dL_code_204 rfl ?_
                  refine r_icmp_ne (tgt := 214) dL_code_205 (by decide) ?_ ?_
                  · refine r_sipush (v := 12000) dL_code_214 rfl ?_
                    refine r_iload_n (x := x3_9) dL_code_217 rfl rfl ?_
                    refine r_iadd dL_code_218 ?_
                    refine r_lo [] (lo2 := []) rfl ?_
                    exact hJ219 (12000 + x3_9)
                  · refine r_sipush (v := 13000) dL_code_208 rfl ?_
                    refine r_goto (tgt := 219) dL_code_211 (by decide) ?_
                    refine r_lo [] (lo2 := []) rfl ?_
                    exact hJ219 13000
                · refine r_sipush (v := 11000) dL_code_195 rfl ?_
                  refine r_iload_n (x := x3_9) dL_code_198 rfl rfl ?_
                  refine r_iadd dL_code_199 ?_
                  refine r_goto (tgt := 219) dL_code_200 (by decide) ?_
                  refine r_lo [] (lo2 := []) rfl ?_
                  exact hJ219 (11000 + x3_9)
              · refine r_sipush (v := 1000) dL_code_182 rfl ?_
                refine r_iload_n (x := x3_9) dL_code_185 rfl rfl ?_
                refine r_iadd dL_code_186 ?_
                refine r_goto (tgt := 219) dL_code_187 (by decide) ?_
                refine r_lo [] (lo2 := []) rfl ?_
                exact hJ219 (1000 + x3_9)
            · refine r_iload_n (x := x3_9) dL_code_173 rfl rfl ?_
              refine r_goto (tgt := 219) dL_code_174 (by decide) ?_
              refine r_lo [] (lo2 := []) rfl ?_
              exact hJ219 x3_9
          · refine ro_iconst (v := (-1)) dL_code_165 rfl ?_
            refine r_goto (tgt := 219) dL_code_166 (by decide) ?_
            refine r_lo [] (lo2 := []) rfl ?_
            exact hJ219 (-1)
        · exact hJ127
    refine r_icmp_le (tgt := 115) dL_code_42 (by decide) ?_ ?_
    · refine r_lo [3, 1, 0] (lo2 := [(1, wi a1), (2, wi x2_4), (3, wi x3_9)]) rfl ?_
      exact hJ115
    · refine r_iload_n (x := x2_4) dL_code_45 rfl rfl ?_
      refine r_bipush (v := 8) dL_code_46 rfl ?_
      refine r_icmp_ge (tgt := 115) dL_code_48 (by decide) ?_ ?_
      · refine r_lo [3, 1, 0] (lo2 := [(1, wi a1), (2, wi x2_4), (3, wi x3_9)]) rfl ?_
        exact hJ115
      · refine r_iload_n (x := a1) dL_code_51 rfl rfl ?_
        refine r_join (P := fun (J : Int → Option (Int × Unit)) => ∀ (t0_114 : Int), RunO l Γ k_L_code 1 encI (emU σ0) 114 [] [wi t0_114] () (J t0_114)) ?_ (fun J114 hJ114 => ?_)
        · intro t0_114
          exact r_iret rfl dL_code_114
        refine r_if_ne (tgt := 82) dL_code_52 (by decide) ?_ ?_
        · refine r_iload_n (x := a1) dL_code_82 rfl rfl ?_
          refine ro_iconst (v := 1) dL_code_83 rfl ?_
          refine r_icmp_ne (tgt := 93) dL_code_84 (by decide) ?_ ?_
          · refine r_iload_n (x := a1) dL_code_93 rfl rfl ?_
            refine ro_iconst (v := 2) dL_code_94 rfl ?_
            refine r_icmp_ne (tgt := 102) dL_code_95 (by decide) ?_ ?_
            · refine r_iload_n (x := a1) dL_code_102 rfl rfl ?_
              refine ro_iconst (v := 3) dL_code_103 rfl ?_
              refine r_icmp_ne (tgt := 113) dL_code_104 (by decide) ?_ ?_
              · refine ro_iconst (v := (-1)) dL_code_113 rfl ?_
                refine r_lo [] (lo2 := []) rfl ?_
                exact hJ114 (-1)
              · refine r_sipush (v := 7000) dL_code_107 rfl ?_
                refine r_goto (tgt := 114) dL_code_110 (by decide) ?_
                refine r_lo [] (lo2 := []) rfl ?_
                exact hJ114 7000
            · refine r_iload_n (x := x3_9) dL_code_98 rfl rfl ?_
              refine r_goto (tgt := 114) dL_code_99 (by decide) ?_
              refine r_lo [] (lo2 := []) rfl ?_
              exact hJ114 x3_9
          · refine r_sipush (v := 5000) dL_code_87 rfl ?_
            refine r_goto (tgt := 114) dL_code_90 (by decide) ?_
            refine r_lo [] (lo2 := []) rfl ?_
            exact hJ114 5000
        · refine r_sipush (v := 4000) dL_code_55 rfl ?_
          refine r_iload_n (x := x2_4) dL_code_58 rfl rfl ?_
          refine ro_iconst (v := 5) dL_code_59 rfl ?_
          refine r_join (P := fun (J : Int → Option (Int × Unit)) => ∀ (t0_78 : Int), RunO l Γ k_L_code 1 encI (emU σ0) 78 [] [wi t0_78, wi 4000] () (J t0_78)) ?_ (fun J78 hJ78 => ?_)
          · intro t0_78
            refine r_iadd dL_code_78 ?_
            refine r_goto (tgt := 114) dL_code_79 (by decide) ?_
            exact hJ114 (4000 + t0_78)
          refine r_icmp_ne (tgt := 67) dL_code_60 (by decide) ?_ ?_
          · refine r_iload_n (x := x2_4) dL_code_67 rfl rfl ?_
            refine r_bipush (v := 6) dL_code_68 rfl ?_
            refine r_icmp_ne (tgt := 77) dL_code_70 (by decide) ?_ ?_
            · refine ro_iconst (v := 3) dL_code_77 rfl ?_
              refine r_lo [] (lo2 := []) rfl ?_
              exact hJ78 3
            · refine ro_iconst (v := 5) dL_code_73 rfl ?_
              refine r_goto (tgt := 78) dL_code_74 (by decide) ?_
              refine r_lo [] (lo2 := []) rfl ?_
              exact hJ78 5
          · refine ro_iconst (v := 4) dL_code_63 rfl ?_
            refine r_goto (tgt := 78) dL_code_64 (by decide) ?_
            refine r_lo [] (lo2 := []) rfl ?_
            exact hJ78 4
  · refine r_iload_n (x := a1) dL_code_15 rfl rfl ?_
    refine r_join (P := fun (J : Int → Option (Int × Unit)) => ∀ (t0_39 : Int), RunO l Γ k_L_code 1 encI (emU σ0) 39 [] [wi t0_39] () (J t0_39)) ?_ (fun J39 hJ39 => ?_)
    · intro t0_39
      exact r_iret rfl dL_code_39
    refine r_if_ne (tgt := 27) dL_code_16 (by decide) ?_ ?_
    · refine r_iload_n (x := a1) dL_code_27 rfl rfl ?_
      refine ro_iconst (v := 1) dL_code_28 rfl ?_
      refine r_icmp_ne (tgt := 38) dL_code_29 (by decide) ?_ ?_
      · refine ro_iconst (v := (-1)) dL_code_38 rfl ?_
        refine r_lo [] (lo2 := []) rfl ?_
        exact hJ39 (-1)
      · refine r_sipush (v := 7000) dL_code_32 rfl ?_
        refine r_goto (tgt := 39) dL_code_35 (by decide) ?_
        refine r_lo [] (lo2 := []) rfl ?_
        exact hJ39 7000
    · refine r_sipush (v := 2000) dL_code_19 rfl ?_
      refine r_iload_n (x := x3_9) dL_code_22 rfl rfl ?_
      refine r_iadd dL_code_23 ?_
      refine r_goto (tgt := 39) dL_code_24 (by decide) ?_
      refine r_lo [] (lo2 := []) rfl ?_
      exact hJ39 (2000 + x3_9)
def k_L_comes : Kd := (yL_comes, cL_comes, 4, some .long, [])
theorem kv_L_comes : KS k_L_comes 3 := ⟨uw_mem 756 (by decide +kernel) rfl, uw_mem 93 (by decide +kernel) rfl, uw_mem 755 (by decide +kernel) rfl, ⟨by decide +kernel, by decide +kernel⟩, by decide +kernel, by decide +kernel⟩
set_option maxHeartbeats 8000000 in
set_option maxRecDepth 100000 in
theorem c_L_comes {l : Launch} {Γ : Cx} {ad : Nat → Nat} {K0 : Cd} (h : wOn Γ) (hm : ∀ k, k ≤ 10 → ad k ≠ 0) (kz : Nat) (a1 : Int) (a3 : Int) (hz : kz = 10 ∨ kz = 11) (hz0 : ad kz ≠ 0) (E : Rw) : Ct l Γ k_L_comes 1 encJ (emW ad K0) [.ref (ad kz), vl a1, wi a3] E (fW_comes kz a1 a3 E) := by
  refine ct_of (by decide +kernel) rfl (Nat.le_of_ble_eq_true rfl) ?_
  refine r_lo [0, 1, 2] (lo2 := [(0, .ref (ad kz)), (1, vl a1), (3, wi a3)]) rfl ?_
  unfold fW_comes
  refine r_aload_n (x := ad kz) dL_comes_0 rfl rfl ?_
  refine ro_iconst (v := 4) dL_comes_1 rfl ?_
  refine r_dup2 dL_comes_2 rfl rfl ?_
  refine r_wiald h (wz_mem hz) hz0 dL_comes_3 ?_
  refine ro_iconst (v := 1) dL_comes_4 rfl ?_
  refine r_iadd dL_comes_5 ?_
  refine r_wiast h (wz_mem hz) hz0 dL_comes_6 (fun E1 => ?_)
  refine r_aload_n (x := ad kz) dL_comes_7 rfl rfl ?_
  refine r_bipush (v := 7) dL_comes_8 rfl ?_
  refine r_aload_n (x := ad kz) dL_comes_10 rfl rfl ?_
  refine ro_iconst (v := 4) dL_comes_11 rfl ?_
  refine r_wiald h (wz_mem hz) hz0 dL_comes_12 ?_
  refine r_aload_n (x := ad kz) dL_comes_13 rfl rfl ?_
  refine r_bipush (v := 6) dL_comes_14 rfl ?_
  refine r_wiald h (wz_mem hz) hz0 dL_comes_16 ?_
  refine ro_iconst (v := 1) dL_comes_17 rfl ?_
  refine r_iadd dL_comes_18 ?_
  refine r_join (P := fun (J : Int → Rw → Option (Int × Rw)) => ∀ (t0_30 : Int) (E_30 : Rw), RunO l Γ k_L_comes 1 encJ (emW ad K0) 30 [(0, .ref (ad kz)), (1, vl a1), (3, wi a3)] [wi t0_30, wi 7, .ref (ad kz)] E_30 (J t0_30 E_30)) ?_ (fun J30 hJ30 => ?_)
  · intro t0_30 E_30
    refine r_wiast h (wz_mem hz) hz0 dL_comes_30 (fun E2 => ?_)
    refine r_aload_n (x := ad kz) dL_comes_31 rfl rfl ?_
    refine ro_iconst (v := 4) dL_comes_32 rfl ?_
    refine r_wiald h (wz_mem hz) hz0 dL_comes_33 ?_
    refine r_sipush (v := 150) dL_comes_34 rfl ?_
    refine r_join (P := fun (J : Int → Rw → Option (Int × Rw)) => ∀ (t0_56 : Int) (E_56 : Rw), RunO l Γ k_L_comes 1 encJ (emW ad K0) 56 [] [vl t0_56] E_56 (J t0_56 E_56)) ?_ (fun J56 hJ56 => ?_)
    · intro t0_56 E_56
      exact r_lret rfl dL_comes_56
    refine r_icmp_le (tgt := 44) dL_comes_37 (by decide) ?_ ?_
    · refine r_lload_n (x := a1) dL_comes_44 rfl rfl ?_
      refine r_ldc2 (v := 1000003) uc_L_23 dL_comes_45 ?_
      refine r_lmul dL_comes_48 ?_
      refine r_iload_n (x := a3) dL_comes_49 rfl rfl ?_
      refine r_i2l dL_comes_50 ?_
      refine r_ladd dL_comes_51 ?_
      refine r_ldc2 (v := 17) uc_L_25 dL_comes_52 ?_
      refine r_ladd dL_comes_55 ?_
      refine r_lo [] (lo2 := []) rfl ?_
      exact hJ56 (((a1 * 1000003) + (w32 a3)) + 17) E2
    · refine r_lload_n (x := a1) dL_comes_40 rfl rfl ?_
      refine r_goto (tgt := 56) dL_comes_41 (by decide) ?_
      refine r_lo [] (lo2 := []) rfl ?_
      exact hJ56 a1 E2
  refine r_icmp_ne (tgt := 26) dL_comes_19 (by decide) ?_ ?_
  · refine r_aload_n (x := ad kz) dL_comes_26 rfl rfl ?_
    refine r_bipush (v := 7) dL_comes_27 rfl ?_
    refine r_wiald h (wz_mem hz) hz0 dL_comes_29 ?_
    exact hJ30 (E1 kz (ix 7)) E1
  · refine r_iload_n (x := a3) dL_comes_22 rfl rfl ?_
    refine r_goto (tgt := 30) dL_comes_23 (by decide) ?_
    exact hJ30 a3 E1
set_option maxHeartbeats 8000000 in
set_option maxRecDepth 100000 in
theorem c_L_does {l : Launch} {Γ : Cx} {M0 : Md} (hG : GK Γ l) (hX : XN Γ) (a0 : Nat) (a1 : Int) (a2 : Int) (a3 : Int) (a4 : Int) (C : Cd) : CtH l Γ k_L_does hhD 13 encI (emC M0) [.ref a0, wi a1, wi a2, wi a3, wi a4] C (fW_does a0 a1 a2 a3 a4 C) := by
  refine ctH_of (by decide +kernel) rfl (Nat.le_of_ble_eq_true rfl) ?_
  refine r_lo [0, 1, 2, 3, 4] (lo2 := [(0, .ref a0), (1, wi a1), (2, wi a2), (3, wi a3), (4, wi a4)]) rfl ?_
  unfold fW_does
  refine r_iload_n (x := a1) dL_does_0 rfl rfl ?_
  refine r_join (P := fun (J : Int → Cd → Option (Int × Cd)) => ∀ (t0_190 : Int) (C_190 : Cd), RunO l Γ k_L_does 13 encI (emC M0) 190 [] [wi t0_190] C_190 (J t0_190 C_190)) ?_ (fun J190 hJ190 => ?_)
  · intro t0_190 C_190
    exact r_iret rfl dL_does_190
  refine r_if_ne (tgt := 12) dL_does_1 (by decide) ?_ ?_
  · refine r_iload_n (x := a1) dL_does_12 rfl rfl ?_
    refine ro_iconst (v := 1) dL_does_13 rfl ?_
    refine r_icmp_ne (tgt := 28) dL_does_14 (by decide) ?_ ?_
    · refine r_iload_n (x := a1) dL_does_28 rfl rfl ?_
      refine ro_iconst (v := 2) dL_does_29 rfl ?_
      refine r_icmp_ne (tgt := 42) dL_does_30 (by decide) ?_ ?_
      · refine r_iload_n (x := a1) dL_does_42 rfl rfl ?_
        refine ro_iconst (v := 3) dL_does_43 rfl ?_
        refine r_icmp_ne (tgt := 56) dL_does_44 (by decide) ?_ ?_
        · refine r_iload_n (x := a1) dL_does_56 rfl rfl ?_
          refine ro_iconst (v := 4) dL_does_57 rfl ?_
          refine r_icmp_ne (tgt := 70) dL_does_58 (by decide) ?_ ?_
          · refine r_iload_n (x := a1) dL_does_70 rfl rfl ?_
            refine ro_iconst (v := 5) dL_does_71 rfl ?_
            refine r_icmp_ne (tgt := 84) dL_does_72 (by decide) ?_ ?_
            · refine r_iload_n (x := a1) dL_does_84 rfl rfl ?_
              refine r_bipush (v := 6) dL_does_85 rfl ?_
              refine r_icmp_ne (tgt := 98) dL_does_87 (by decide) ?_ ?_
              · refine r_iload_n (x := a1) dL_does_98 rfl rfl ?_
                refine r_bipush (v := 7) dL_does_99 rfl ?_
                refine r_icmp_ne (tgt := 122) dL_does_101 (by decide) ?_ ?_
                · refine r_iload_n (x := a1) dL_does_122 rfl rfl ?_
                  refine r_bipush (v := 8) dL_does_123 rfl ?_
                  refine r_icmp_ne (tgt := 139) dL_does_125 (by decide) ?_ ?_
                  · refine r_iload_n (x := a1) dL_does_139 rfl rfl ?_
                    refine r_bipush (v := 9) dL_does_140 rfl ?_
                    refine r_icmp_ne (tgt := 154) dL_does_142 (by decide) ?_ ?_
                    · refine r_iload_n (x := a1) dL_does_154 rfl rfl ?_
                      refine r_bipush (v := 10) dL_does_155 rfl ?_
                      refine r_icmp_ne (tgt := 169) dL_does_157 (by decide) ?_ ?_
                      · refine r_iload_n (x := a1) dL_does_169 rfl rfl ?_
                        refine r_bipush (v := 11) dL_does_170 rfl ?_
                        refine r_icmp_ne (tgt := 184) dL_does_172 (by decide) ?_ ?_
                        · refine r_aload_n (x := a0) dL_does_184 rfl rfl ?_
                          refine r_iload_n (x := a2) dL_does_185 rfl rfl ?_
                          refine r_iload_n (x := a3) dL_does_186 rfl rfl ?_
                          refine r_cxH2 (k2 := k_X11_versionAt) (c := 14) (T := TX11) (N := 10) (n := 2) (rest := []) hG um_L_100 kv_X11_versionAt hc_X11 (by decide) (c_X11_versionAt hG _ _ _ _) (by decide) rfl (Nat.le_of_ble_eq_true rfl) dL_does_187 rfl (fun r1 C2 => ?_) (fun e_ C_ => does_exc hX e_ C_ (by decide))
                          show RunO l Γ k_L_does 13 encI (emC M0) 190 [(0, .ref a0), (1, wi a1), (2, wi a2), (3, wi a3), (4, wi a4)] [wi r1] C2 _
                          refine r_lo [] (lo2 := []) rfl ?_
                          exact hJ190 r1 C2
                        · refine r_aload_n (x := a0) dL_does_175 rfl rfl ?_
                          refine r_iload_n (x := a2) dL_does_176 rfl rfl ?_
                          refine r_iload_n (x := a3) dL_does_177 rfl rfl ?_
                          refine r_cxH2 (k2 := k_X11_tokenAt) (c := 14) (T := TX11) (N := 10) (n := 2) (rest := []) hG um_L_97 kv_X11_tokenAt hc_X11 (by decide) (c_X11_tokenAt hG _ _ _ _) (by decide) rfl (Nat.le_of_ble_eq_true rfl) dL_does_178 rfl (fun r3 C4 => ?_) (fun e_ C_ => does_exc hX e_ C_ (by decide))
                          show RunO l Γ k_L_does 13 encI (emC M0) 181 [(0, .ref a0), (1, wi a1), (2, wi a2), (3, wi a3), (4, wi a4)] [wi r3] C4 _
                          refine r_goto (tgt := 190) dL_does_181 (by decide) ?_
                          refine r_lo [] (lo2 := []) rfl ?_
                          exact hJ190 r3 C4
                      · refine r_aload_n (x := a0) dL_does_160 rfl rfl ?_
                        refine r_iload_n (x := a2) dL_does_161 rfl rfl ?_
                        refine r_iload_n (x := a3) dL_does_162 rfl rfl ?_
                        refine r_cxH2 (k2 := k_X11_shownAnew) (c := 14) (T := TX11) (N := 10) (n := 2) (rest := []) hG um_L_94 kv_X11_shownAnew hc_X11 (by decide) (c_X11_shownAnew hG _ _ _ _) (by decide) rfl (Nat.le_of_ble_eq_true rfl) dL_does_163 rfl (fun r5 C6 => ?_) (fun e_ C_ => does_exc hX e_ C_ (by decide))
                        show RunO l Γ k_L_does 13 encI (emC M0) 166 [(0, .ref a0), (1, wi a1), (2, wi a2), (3, wi a3), (4, wi a4)] [wi r5] C6 _
                        refine r_goto (tgt := 190) dL_does_166 (by decide) ?_
                        refine r_lo [] (lo2 := []) rfl ?_
                        exact hJ190 r5 C6
                    · refine r_aload_n (x := a0) dL_does_145 rfl rfl ?_
                      refine r_iload_n (x := a2) dL_does_146 rfl rfl ?_
                      refine r_iload_n (x := a3) dL_does_147 rfl rfl ?_
                      refine r_cxH2 (k2 := k_X11_shown) (c := 14) (T := TX11) (N := 10) (n := 2) (rest := []) hG um_L_91 kv_X11_shown hc_X11 (by decide) (c_X11_shown hG _ _ _ _) (by decide) rfl (Nat.le_of_ble_eq_true rfl) dL_does_148 rfl (fun r7 C8 => ?_) (fun e_ C_ => does_exc hX e_ C_ (by decide))
                      show RunO l Γ k_L_does 13 encI (emC M0) 151 [(0, .ref a0), (1, wi a1), (2, wi a2), (3, wi a3), (4, wi a4)] [wi r7] C8 _
                      refine r_goto (tgt := 190) dL_does_151 (by decide) ?_
                      refine r_lo [] (lo2 := []) rfl ?_
                      exact hJ190 r7 C8
                  · refine r_aload_n (x := a0) dL_does_128 rfl rfl ?_
                    refine r_iload_n (x := a2) dL_does_129 rfl rfl ?_
                    refine r_iload_n (x := a3) dL_does_130 rfl rfl ?_
                    refine r_iload (x := a4) dL_does_131 rfl ?_
                    refine r_cxH2 (k2 := k_X11_translate) (c := 14) (T := TX11) (N := 10) (n := 3) (rest := []) hG um_L_88 kv_X11_translate hc_X11 (by decide) (c_X11_translate hG _ _ _ _ _) (by decide) rfl (Nat.le_of_ble_eq_true rfl) dL_does_133 rfl (fun r9 C10 => ?_) (fun e_ C_ => does_exc hX e_ C_ (by decide))
                    show RunO l Γ k_L_does 13 encI (emC M0) 136 [(0, .ref a0), (1, wi a1), (2, wi a2), (3, wi a3), (4, wi a4)] [wi r9] C10 _
                    refine r_goto (tgt := 190) dL_does_136 (by decide) ?_
                    refine r_lo [] (lo2 := []) rfl ?_
                    exact hJ190 r9 C10
                · refine r_aload_n (x := a0) dL_does_104 rfl rfl ?_
                  refine r_iload_n (x := a2) dL_does_105 rfl rfl ?_
                  refine r_iload_n (x := a3) dL_does_106 rfl rfl ?_
                  refine ro_iconst (v := 1) dL_does_107 rfl ?_
                  refine r_join (P := fun (J : Int → Cd → Option (Int × Cd)) => ∀ (t0_116 : Int) (C_116 : Cd), RunO l Γ k_L_does 13 encI (emC M0) 116 [] [wi t0_116, wi a2, .ref a0] C_116 (J t0_116 C_116)) ?_ (fun J116 hJ116 => ?_)
                  · intro t0_116 C_116
                    refine r_cxH2 (k2 := k_X11_read) (c := 14) (T := TX11) (N := 10) (n := 2) (rest := []) hG um_L_84 kv_X11_read hc_X11 (by decide) (c_X11_read hG _ _ _ _) (by decide) rfl (Nat.le_of_ble_eq_true rfl) dL_does_116 rfl (fun r11 C12 => ?_) (fun e_ C_ => does_exc hX e_ C_ (by decide))
                    show RunO l Γ k_L_does 13 encI (emC M0) 119 [] [wi r11] C12 _
                    refine r_goto (tgt := 190) dL_does_119 (by decide) ?_
                    exact hJ190 r11 C12
                  refine r_icmp_ne (tgt := 115) dL_does_108 (by decide) ?_ ?_
                  · refine ro_iconst (v := 0) dL_does_115 rfl ?_
                    refine r_lo [] (lo2 := []) rfl ?_
                    exact hJ116 0 C
                  · refine ro_iconst (v := 1) dL_does_111 rfl ?_
                    refine r_goto (tgt := 116) dL_does_112 (by decide) ?_
                    refine r_lo [] (lo2 := []) rfl ?_
                    exact hJ116 1 C
              · refine r_aload_n (x := a0) dL_does_90 rfl rfl ?_
                refine r_iload_n (x := a2) dL_does_91 rfl rfl ?_
                refine r_cxH2 (k2 := k_X11_approve) (c := 14) (T := TX11) (N := 10) (n := 1) (rest := []) hG um_L_81 kv_X11_approve hc_X11 (by decide) (c_X11_approve hG _ _ _) (by decide) rfl (Nat.le_of_ble_eq_true rfl) dL_does_92 rfl (fun r13 C14 => ?_) (fun e_ C_ => does_exc hX e_ C_ (by decide))
                show RunO l Γ k_L_does 13 encI (emC M0) 95 [(0, .ref a0), (1, wi a1), (2, wi a2), (3, wi a3), (4, wi a4)] [wi r13] C14 _
                refine r_goto (tgt := 190) dL_does_95 (by decide) ?_
                refine r_lo [] (lo2 := []) rfl ?_
                exact hJ190 r13 C14
            · refine r_aload_n (x := a0) dL_does_75 rfl rfl ?_
              refine r_iload_n (x := a2) dL_does_76 rfl rfl ?_
              refine r_iload_n (x := a3) dL_does_77 rfl rfl ?_
              refine r_cxH2 (k2 := k_X11_moveTree) (c := 14) (T := TX11) (N := 10) (n := 2) (rest := []) hG um_L_78 kv_X11_moveTree hc_X11 (by decide) (c_X11_moveTree hG _ _ _ _) (by decide) rfl (Nat.le_of_ble_eq_true rfl) dL_does_78 rfl (fun r15 C16 => ?_) (fun e_ C_ => does_exc hX e_ C_ (by decide))
              show RunO l Γ k_L_does 13 encI (emC M0) 81 [(0, .ref a0), (1, wi a1), (2, wi a2), (3, wi a3), (4, wi a4)] [wi r15] C16 _
              refine r_goto (tgt := 190) dL_does_81 (by decide) ?_
              refine r_lo [] (lo2 := []) rfl ?_
              exact hJ190 r15 C16
          · refine r_aload_n (x := a0) dL_does_61 rfl rfl ?_
            refine r_iload_n (x := a2) dL_does_62 rfl rfl ?_
            refine r_iload_n (x := a3) dL_does_63 rfl rfl ?_
            refine r_cxH2 (k2 := k_X11_move) (c := 14) (T := TX11) (N := 10) (n := 2) (rest := []) hG um_L_75 kv_X11_move hc_X11 (by decide) (c_X11_move hG _ _ _ _) (by decide) rfl (Nat.le_of_ble_eq_true rfl) dL_does_64 rfl (fun r17 C18 => ?_) (fun e_ C_ => does_exc hX e_ C_ (by decide))
            show RunO l Γ k_L_does 13 encI (emC M0) 67 [(0, .ref a0), (1, wi a1), (2, wi a2), (3, wi a3), (4, wi a4)] [wi r17] C18 _
            refine r_goto (tgt := 190) dL_does_67 (by decide) ?_
            refine r_lo [] (lo2 := []) rfl ?_
            exact hJ190 r17 C18
        · refine r_aload_n (x := a0) dL_does_47 rfl rfl ?_
          refine r_iload_n (x := a2) dL_does_48 rfl rfl ?_
          refine r_iload_n (x := a3) dL_does_49 rfl rfl ?_
          refine r_cxH2 (k2 := k_X11_bringIn) (c := 14) (T := TX11) (N := 10) (n := 2) (rest := []) hG um_L_72 kv_X11_bringIn hc_X11 (by decide) (c_X11_bringIn hG _ _ _ _) (by decide) rfl (Nat.le_of_ble_eq_true rfl) dL_does_50 rfl (fun r19 C20 => ?_) (fun e_ C_ => does_exc hX e_ C_ (by decide))
          show RunO l Γ k_L_does 13 encI (emC M0) 53 [(0, .ref a0), (1, wi a1), (2, wi a2), (3, wi a3), (4, wi a4)] [wi r19] C20 _
          refine r_goto (tgt := 190) dL_does_53 (by decide) ?_
          refine r_lo [] (lo2 := []) rfl ?_
          exact hJ190 r19 C20
      · refine r_aload_n (x := a0) dL_does_33 rfl rfl ?_
        refine r_iload_n (x := a2) dL_does_34 rfl rfl ?_
        refine r_iload_n (x := a3) dL_does_35 rfl rfl ?_
        refine r_cxH2 (k2 := k_X11_undo) (c := 14) (T := TX11) (N := 10) (n := 2) (rest := []) hG um_L_68 kv_X11_undo hc_X11 (by decide) (c_X11_undo hG _ _ _ _) (by decide) rfl (Nat.le_of_ble_eq_true rfl) dL_does_36 rfl (fun r21 C22 => ?_) (fun e_ C_ => does_exc hX e_ C_ (by decide))
        show RunO l Γ k_L_does 13 encI (emC M0) 39 [(0, .ref a0), (1, wi a1), (2, wi a2), (3, wi a3), (4, wi a4)] [wi r21] C22 _
        refine r_goto (tgt := 190) dL_does_39 (by decide) ?_
        refine r_lo [] (lo2 := []) rfl ?_
        exact hJ190 r21 C22
    · refine r_aload_n (x := a0) dL_does_17 rfl rfl ?_
      refine r_iload_n (x := a2) dL_does_18 rfl rfl ?_
      refine r_iload_n (x := a3) dL_does_19 rfl rfl ?_
      refine r_iload (x := a4) dL_does_20 rfl ?_
      refine r_cxH2 (k2 := k_X11_edit) (c := 14) (T := TX11) (N := 10) (n := 3) (rest := []) hG um_L_64 kv_X11_edit hc_X11 (by decide) (c_X11_edit hG _ _ _ _ _) (by decide) rfl (Nat.le_of_ble_eq_true rfl) dL_does_22 rfl (fun r23 C24 => ?_) (fun e_ C_ => does_exc hX e_ C_ (by decide))
      show RunO l Γ k_L_does 13 encI (emC M0) 25 [(0, .ref a0), (1, wi a1), (2, wi a2), (3, wi a3), (4, wi a4)] [wi r23] C24 _
      refine r_goto (tgt := 190) dL_does_25 (by decide) ?_
      refine r_lo [] (lo2 := []) rfl ?_
      exact hJ190 r23 C24
  · refine r_aload_n (x := a0) dL_does_4 rfl rfl ?_
    refine r_iload_n (x := a2) dL_does_5 rfl rfl ?_
    refine r_cxH2 (k2 := k_X11_create) (c := 14) (T := TX11) (N := 10) (n := 1) (rest := []) hG um_L_59 kv_X11_create hc_X11 (by decide) (c_X11_create hG _ _ _) (by decide) rfl (Nat.le_of_ble_eq_true rfl) dL_does_6 rfl (fun r25 C26 => ?_) (fun e_ C_ => does_exc hX e_ C_ (by decide))
    show RunO l Γ k_L_does 13 encI (emC M0) 9 [(0, .ref a0), (1, wi a1), (2, wi a2), (3, wi a3), (4, wi a4)] [wi r25] C26 _
    refine r_goto (tgt := 190) dL_does_9 (by decide) ?_
    refine r_lo [] (lo2 := []) rfl ?_
    exact hJ190 r25 C26
