def k_L_sections : Kd := (yL_sections, cL_sections, 4, some .int, [])
theorem kv_L_sections : KS k_L_sections 1 := ⟨uw_mem 1454 (by decide +kernel) rfl, uw_mem 93 (by decide +kernel) rfl, uw_mem 1453 (by decide +kernel) rfl, ⟨by decide +kernel, by decide +kernel⟩, by decide +kernel, by decide +kernel⟩
set_option maxHeartbeats 8000000 in
set_option maxRecDepth 100000 in
theorem c_L_sections {l : Launch} {Γ : Cx} {σ0 : St} (a0 : Int)  : Ct l Γ k_L_sections 3 encI (emU σ0) [vl a0] () (fW_sections a0) := by
  refine ct_of (by decide +kernel) rfl (Nat.le_of_ble_eq_true rfl) ?_
  refine r_lo [0] (lo2 := [(0, vl a0)]) rfl ?_
  unfold fW_sections
  refine ro_iconst (v := 1) dL_sections_0 rfl ?_
  refine r_istore_n (lo2 := [(2, wi 1), (0, vl a0)]) dL_sections_1 rfl (by decide) rfl ?_
  refine ro_iconst (v := 0) dL_sections_2 rfl ?_
  refine r_istore_n (lo2 := [(3, wi 0), (2, wi 1), (0, vl a0)]) dL_sections_3 rfl (by decide) rfl ?_
  refine r_loop (P := fun (J : Int → Int → Option (Int × Unit)) => ∀ (v2_4 : Int) (v3_4 : Int), RunO l Γ k_L_sections 3 encI (emU σ0) 4 [(0, vl a0), (2, wi v2_4), (3, wi v3_4)] [] () (J v2_4 v3_4)) ?_ (fun L4 hL4 => ?_) (fun J4 hJ4 => ?_)
  · intros; exact ro_none
  · intro v2_4 v3_4
    refine r_iload_n (x := v3_4) dL_sections_4 rfl rfl ?_
    refine r_lload_n (x := a0) dL_sections_5 rfl rfl ?_
    refine r_csi (J := fun (_ : Unit) => ()) (k2 := k_L_macros) (n := 1) (rest := [wi v3_4]) (fun _ => rfl) rfl kv_L_macros (c_L_macros (σ0 := _) a0) (by decide) um_L_7 rfl (Nat.le_of_ble_eq_true rfl) dL_sections_6 rfl (fun r1 _ => ?_)
    show RunO l Γ k_L_sections 3 encI (emU σ0) 9 [(0, vl a0), (2, wi v2_4), (3, wi v3_4)] [wi r1, wi v3_4] () _
    refine r_icmp_ge (tgt := 38) dL_sections_9 (by decide) ?_ ?_
    · refine r_iload_n (x := v2_4) dL_sections_38 rfl rfl ?_
      exact r_iret rfl dL_sections_39
    · refine r_iload_n (x := v2_4) dL_sections_12 rfl rfl ?_
      refine r_lload_n (x := a0) dL_sections_13 rfl rfl ?_
      refine r_iload_n (x := v3_4) dL_sections_14 rfl rfl ?_
      refine r_csi (J := fun (_ : Unit) => ()) (k2 := k_L_macro) (n := 2) (rest := [wi v2_4]) (fun _ => rfl) rfl kv_L_macro (c_L_macro (σ0 := _) a0 v3_4) (by decide) um_L_19 rfl (Nat.le_of_ble_eq_true rfl) dL_sections_15 rfl (fun r2 _ => ?_)
      show RunO l Γ k_L_sections 3 encI (emU σ0) 18 [(0, vl a0), (2, wi v2_4), (3, wi v3_4)] [wi r2, wi v2_4] () _
      refine r_bipush (v := 16) dL_sections_18 rfl ?_
      refine r_irem dL_sections_20 (by decide) ?_
      refine ro_iconst (v := 4) dL_sections_21 rfl ?_
      refine r_join (P := fun (J : Int → Option (Int × Unit)) => ∀ (t0_30 : Int), RunO l Γ k_L_sections 3 encI (emU σ0) 30 [(0, vl a0), (3, wi v3_4)] [wi t0_30, wi v2_4] () (J t0_30)) ?_ (fun J30 hJ30 => ?_)
      · intro t0_30
        refine r_iadd dL_sections_30 ?_
        refine r_nm (fun x2_31 => ?_)
        refine r_istore_n (lo2 := [(2, wi x2_31), (0, vl a0), (3, wi v3_4)]) dL_sections_31 rfl (by decide) rfl ?_
        refine r_iinc (x := v3_4) (lo2 := [(3, wi (v3_4 + 1)), (2, wi x2_31), (0, vl a0)]) dL_sections_32 rfl (by decide) rfl ?_
        refine r_goto (tgt := 4) dL_sections_35 (by decide) ?_
        refine r_lo [2, 1, 0] (lo2 := [(0, vl a0), (2, wi x2_31), (3, wi (v3_4 + 1))]) rfl ?_
        exact hL4 x2_31 (v3_4 + 1)
      refine r_icmp_ne (tgt := 29) dL_sections_22 (by decide) ?_ ?_
      · refine ro_iconst (v := 0) dL_sections_29 rfl ?_
        refine r_lo [0, 2] (lo2 := [(0, vl a0), (3, wi v3_4)]) rfl ?_
        exact hJ30 0
      · refine ro_iconst (v := 1) dL_sections_25 rfl ?_
        refine r_goto (tgt := 30) dL_sections_26 (by decide) ?_
        refine r_lo [0, 2] (lo2 := [(0, vl a0), (3, wi v3_4)]) rfl ?_
        exact hJ30 1
  refine r_lo [2, 1, 0] (lo2 := [(0, vl a0), (2, wi 1), (3, wi 0)]) rfl ?_
  exact hJ4 1 0
def k_L_section : Kd := (yL_section, cL_section, 7, some .long, [])
theorem kv_L_section : KS k_L_section 2 := ⟨uw_mem 1460 (by decide +kernel) rfl, uw_mem 93 (by decide +kernel) rfl, uw_mem 1459 (by decide +kernel) rfl, ⟨by decide +kernel, by decide +kernel⟩, by decide +kernel, by decide +kernel⟩
set_option maxHeartbeats 8000000 in
set_option maxRecDepth 100000 in
theorem c_L_section {l : Launch} {Γ : Cx} {σ0 : St} (a0 : Int) (a2 : Int)  : Ct l Γ k_L_section 3 encJ (emU σ0) [vl a0, wi a2] () (fW_section a0 a2) := by
  refine ct_of (by decide +kernel) rfl (Nat.le_of_ble_eq_true rfl) ?_
  refine r_lo [0, 1] (lo2 := [(0, vl a0), (2, wi a2)]) rfl ?_
  unfold fW_section
  refine r_lconst (x := 1) dL_section_0 rfl ?_
  refine r_lstore_n (lo2 := [(3, vl 1), (0, vl a0), (2, wi a2)]) dL_section_1 rfl (by decide) rfl ?_
  refine ro_iconst (v := 0) dL_section_2 rfl ?_
  refine r_istore (lo2 := [(5, wi 0), (3, vl 1), (0, vl a0), (2, wi a2)]) dL_section_3 (by decide) rfl ?_
  refine ro_iconst (v := 0) dL_section_5 rfl ?_
  refine r_istore (lo2 := [(6, wi 0), (5, wi 0), (3, vl 1), (0, vl a0), (2, wi a2)]) dL_section_6 (by decide) rfl ?_
  refine r_loop (P := fun (J : Int → Int → Int → Option (Int × Unit)) => ∀ (v3_8 : Int) (v5_8 : Int) (v6_8 : Int), RunO l Γ k_L_section 3 encJ (emU σ0) 8 [(0, vl a0), (2, wi a2), (3, vl v3_8), (5, wi v5_8), (6, wi v6_8)] [] () (J v3_8 v5_8 v6_8)) ?_ (fun L8 hL8 => ?_) (fun J8 hJ8 => ?_)
  · intros; exact ro_none
  · intro v3_8 v5_8 v6_8
    refine r_iload (x := v6_8) dL_section_8 rfl ?_
    refine r_lload_n (x := a0) dL_section_10 rfl rfl ?_
    refine r_csi (J := fun (_ : Unit) => ()) (k2 := k_L_macros) (n := 1) (rest := [wi v6_8]) (fun _ => rfl) rfl kv_L_macros (c_L_macros (σ0 := _) a0) (by decide) um_L_7 rfl (Nat.le_of_ble_eq_true rfl) dL_section_11 rfl (fun r1 _ => ?_)
    show RunO l Γ k_L_section 3 encJ (emU σ0) 14 [(0, vl a0), (2, wi a2), (3, vl v3_8), (5, wi v5_8), (6, wi v6_8)] [wi r1, wi v6_8] () _
    refine r_icmp_ge (tgt := 69) dL_section_14 (by decide) ?_ ?_
    · refine r_lload_n (x := v3_8) dL_section_69 rfl rfl ?_
      exact r_lret rfl dL_section_70
    · refine r_iload (x := v5_8) dL_section_17 rfl ?_
      refine r_lload_n (x := a0) dL_section_19 rfl rfl ?_
      refine r_iload (x := v6_8) dL_section_20 rfl ?_
      refine r_csi (J := fun (_ : Unit) => ()) (k2 := k_L_macro) (n := 2) (rest := [wi v5_8]) (fun _ => rfl) rfl kv_L_macro (c_L_macro (σ0 := _) a0 v6_8) (by decide) um_L_19 rfl (Nat.le_of_ble_eq_true rfl) dL_section_22 rfl (fun r2 _ => ?_)
      show RunO l Γ k_L_section 3 encJ (emU σ0) 25 [(0, vl a0), (2, wi a2), (3, vl v3_8), (5, wi v5_8), (6, wi v6_8)] [wi r2, wi v5_8] () _
      refine r_bipush (v := 16) dL_section_25 rfl ?_
      refine r_irem dL_section_27 (by decide) ?_
      refine ro_iconst (v := 4) dL_section_28 rfl ?_
      refine r_join (P := fun (J : Int → Option (Int × Unit)) => ∀ (t0_37 : Int), RunO l Γ k_L_section 3 encJ (emU σ0) 37 [(0, vl a0), (2, wi a2), (3, vl v3_8), (6, wi v6_8)] [wi t0_37, wi v5_8] () (J t0_37)) ?_ (fun J37 hJ37 => ?_)
      · intro t0_37
        refine r_iadd dL_section_37 ?_
        refine r_nm (fun x5_38 => ?_)
        refine r_istore (lo2 := [(5, wi x5_38), (0, vl a0), (2, wi a2), (3, vl v3_8), (6, wi v6_8)]) dL_section_38 (by decide) rfl ?_
        refine r_iload (x := x5_38) dL_section_40 rfl ?_
        refine r_iload_n (x := a2) dL_section_42 rfl rfl ?_
        refine r_join (P := fun (J : Int → Option (Int × Unit)) => ∀ (t0_62 : Int), RunO l Γ k_L_section 3 encJ (emU σ0) 62 [(0, vl a0), (2, wi a2), (5, wi x5_38), (6, wi v6_8)] [vl t0_62] () (J t0_62)) ?_ (fun J62 hJ62 => ?_)
        · intro t0_62
          refine r_lstore_n (lo2 := [(3, vl t0_62), (0, vl a0), (2, wi a2), (5, wi x5_38), (6, wi v6_8)]) dL_section_62 rfl (by decide) rfl ?_
          refine r_iinc (x := v6_8) (lo2 := [(6, wi (v6_8 + 1)), (3, vl t0_62), (0, vl a0), (2, wi a2), (5, wi x5_38)]) dL_section_63 rfl (by decide) rfl ?_
          refine r_goto (tgt := 8) dL_section_66 (by decide) ?_
          refine r_lo [2, 3, 1, 4, 0] (lo2 := [(0, vl a0), (2, wi a2), (3, vl t0_62), (5, wi x5_38), (6, wi (v6_8 + 1))]) rfl ?_
          exact hL8 t0_62 x5_38 (v6_8 + 1)
        refine r_icmp_ne (tgt := 61) dL_section_43 (by decide) ?_ ?_
        · refine r_lload_n (x := v3_8) dL_section_61 rfl rfl ?_
          refine r_lo [1, 2, 0, 4] (lo2 := [(0, vl a0), (2, wi a2), (5, wi x5_38), (6, wi v6_8)]) rfl ?_
          exact hJ62 v3_8
        · refine r_lload_n (x := v3_8) dL_section_46 rfl rfl ?_
          refine r_bipush (v := 10) dL_section_47 rfl ?_
          refine r_lshl dL_section_49 ?_
          refine r_lload_n (x := a0) dL_section_50 rfl rfl ?_
          refine r_iload (x := v6_8) dL_section_51 rfl ?_
          refine r_csi (J := fun (_ : Unit) => ()) (k2 := k_L_macro) (n := 2) (rest := [vl (lshlI v3_8 10)]) (fun _ => rfl) rfl kv_L_macro (c_L_macro (σ0 := _) a0 v6_8) (by decide) um_L_19 rfl (Nat.le_of_ble_eq_true rfl) dL_section_53 rfl (fun r3 _ => ?_)
          show RunO l Γ k_L_section 3 encJ (emU σ0) 56 [(5, wi x5_38), (0, vl a0), (2, wi a2), (3, vl v3_8), (6, wi v6_8)] [wi r3, vl (lshlI v3_8 10)] () _
          refine r_i2l dL_section_56 ?_
          refine r_lor dL_section_57 ?_
          refine r_goto (tgt := 62) dL_section_58 (by decide) ?_
          refine r_lo [1, 2, 0, 4] (lo2 := [(0, vl a0), (2, wi a2), (5, wi x5_38), (6, wi v6_8)]) rfl ?_
          exact hJ62 (lorI (lshlI v3_8 10) (w32 r3))
      refine r_icmp_ne (tgt := 36) dL_section_29 (by decide) ?_ ?_
      · refine ro_iconst (v := 0) dL_section_36 rfl ?_
        refine r_lo [0, 1, 2, 4] (lo2 := [(0, vl a0), (2, wi a2), (3, vl v3_8), (6, wi v6_8)]) rfl ?_
        exact hJ37 0
      · refine ro_iconst (v := 1) dL_section_32 rfl ?_
        refine r_goto (tgt := 37) dL_section_33 (by decide) ?_
        refine r_lo [0, 1, 2, 4] (lo2 := [(0, vl a0), (2, wi a2), (3, vl v3_8), (6, wi v6_8)]) rfl ?_
        exact hJ37 1
  refine r_lo [3, 4, 2, 1, 0] (lo2 := [(0, vl a0), (2, wi a2), (3, vl 1), (5, wi 0), (6, wi 0)]) rfl ?_
  exact hJ8 1 0 0
def k_L_with : Kd := (yL_with, cL_with, 8, some .long, [])
theorem kv_L_with : KS k_L_with 3 := ⟨uw_mem 1457 (by decide +kernel) rfl, uw_mem 93 (by decide +kernel) rfl, uw_mem 1456 (by decide +kernel) rfl, ⟨by decide +kernel, by decide +kernel⟩, by decide +kernel, by decide +kernel⟩
set_option maxHeartbeats 8000000 in
set_option maxRecDepth 100000 in
theorem c_L_with {l : Launch} {Γ : Cx} {σ0 : St} (a0 : Int) (a2 : Int) (a3 : Int)  : Ct l Γ k_L_with 4 encJ (emU σ0) [vl a0, wi a2, vl a3] () (fW_with a0 a2 a3) := by
  refine ct_of (by decide +kernel) rfl (Nat.le_of_ble_eq_true rfl) ?_
  refine r_lo [0, 1, 2] (lo2 := [(0, vl a0), (2, wi a2), (3, vl a3)]) rfl ?_
  unfold fW_with
  refine r_lconst (x := 1) dL_with_0 rfl ?_
  refine r_lstore (lo2 := [(5, vl 1), (0, vl a0), (2, wi a2), (3, vl a3)]) dL_with_1 (by decide) rfl ?_
  refine ro_iconst (v := 0) dL_with_3 rfl ?_
  refine r_istore (lo2 := [(7, wi 0), (5, vl 1), (0, vl a0), (2, wi a2), (3, vl a3)]) dL_with_4 (by decide) rfl ?_
  refine r_loop (P := fun (J : Int → Int → Option (Int × Unit)) => ∀ (v5_6 : Int) (v7_6 : Int), RunO l Γ k_L_with 4 encJ (emU σ0) 6 [(0, vl a0), (2, wi a2), (3, vl a3), (5, vl v5_6), (7, wi v7_6)] [] () (J v5_6 v7_6)) ?_ (fun L6 hL6 => ?_) (fun J6 hJ6 => ?_)
  · intros; exact ro_none
  · intro v5_6 v7_6
    refine r_iload (x := v7_6) dL_with_6 rfl ?_
    refine r_lload_n (x := a0) dL_with_8 rfl rfl ?_
    refine r_csi (J := fun (_ : Unit) => ()) (k2 := k_L_sections) (n := 1) (rest := [wi v7_6]) (fun _ => rfl) rfl kv_L_sections (c_L_sections (σ0 := _) a0) (by decide) um_L_119 rfl (Nat.le_of_ble_eq_true rfl) dL_with_9 rfl (fun r1 _ => ?_)
    show RunO l Γ k_L_with 4 encJ (emU σ0) 12 [(0, vl a0), (2, wi a2), (3, vl a3), (5, vl v5_6), (7, wi v7_6)] [wi r1, wi v7_6] () _
    refine r_icmp_ge (tgt := 44) dL_with_12 (by decide) ?_ ?_
    · refine r_lload (x := v5_6) dL_with_44 rfl ?_
      exact r_lret rfl dL_with_46
    · refine r_lload (x := v5_6) dL_with_15 rfl ?_
      refine r_iload (x := v7_6) dL_with_17 rfl ?_
      refine r_iload_n (x := a2) dL_with_19 rfl rfl ?_
      refine r_join (P := fun (J : Int → Option (Int × Unit)) => ∀ (t0_33 : Int), RunO l Γ k_L_with 4 encJ (emU σ0) 33 [(0, vl a0), (2, wi a2), (3, vl a3), (7, wi v7_6)] [vl t0_33, vl v5_6] () (J t0_33)) ?_ (fun J33 hJ33 => ?_)
      · intro t0_33
        refine r_csj (J := fun (_ : Unit) => ()) (k2 := k_L_behind) (n := 2) (rest := []) (fun _ => rfl) rfl kv_L_behind (c_L_behind (σ0 := _) v5_6 t0_33) (by decide) um_L_126 rfl (Nat.le_of_ble_eq_true rfl) dL_with_33 rfl (fun r2 _ => ?_)
        show RunO l Γ k_L_with 4 encJ (emU σ0) 36 [(0, vl a0), (2, wi a2), (3, vl a3), (7, wi v7_6)] [vl r2] () _
        refine r_lstore (lo2 := [(5, vl r2), (0, vl a0), (2, wi a2), (3, vl a3), (7, wi v7_6)]) dL_with_36 (by decide) rfl ?_
        refine r_iinc (x := v7_6) (lo2 := [(7, wi (v7_6 + 1)), (5, vl r2), (0, vl a0), (2, wi a2), (3, vl a3)]) dL_with_38 rfl (by decide) rfl ?_
        refine r_goto (tgt := 6) dL_with_41 (by decide) ?_
        refine r_lo [2, 3, 4, 1, 0] (lo2 := [(0, vl a0), (2, wi a2), (3, vl a3), (5, vl r2), (7, wi (v7_6 + 1))]) rfl ?_
        exact hL6 r2 (v7_6 + 1)
      refine r_icmp_ne (tgt := 27) dL_with_20 (by decide) ?_ ?_
      · refine r_lload_n (x := a0) dL_with_27 rfl rfl ?_
        refine r_iload (x := v7_6) dL_with_28 rfl ?_
        refine r_csj (J := fun (_ : Unit) => ()) (k2 := k_L_section) (n := 2) (rest := [vl v5_6]) (fun _ => rfl) rfl kv_L_section (c_L_section (σ0 := _) a0 v7_6) (by decide) um_L_122 rfl (Nat.le_of_ble_eq_true rfl) dL_with_30 rfl (fun r3 _ => ?_)
        show RunO l Γ k_L_with 4 encJ (emU σ0) 33 [(0, vl a0), (2, wi a2), (3, vl a3), (5, vl v5_6), (7, wi v7_6)] [vl r3, vl v5_6] () _
        refine r_lo [0, 1, 2, 4] (lo2 := [(0, vl a0), (2, wi a2), (3, vl a3), (7, wi v7_6)]) rfl ?_
        exact hJ33 r3
      · refine r_lload_n (x := a3) dL_with_23 rfl rfl ?_
        refine r_goto (tgt := 33) dL_with_24 (by decide) ?_
        refine r_lo [0, 1, 2, 4] (lo2 := [(0, vl a0), (2, wi a2), (3, vl a3), (7, wi v7_6)]) rfl ?_
        exact hJ33 a3
  refine r_lo [2, 3, 4, 1, 0] (lo2 := [(0, vl a0), (2, wi a2), (3, vl a3), (5, vl 1), (7, wi 0)]) rfl ?_
  exact hJ6 1 0
def k_L_merged : Kd := (yL_merged, cL_merged, 15, some .long, [])
theorem kv_L_merged : KS k_L_merged 3 := ⟨uw_mem 1466 (by decide +kernel) rfl, uw_mem 93 (by decide +kernel) rfl, uw_mem 1465 (by decide +kernel) rfl, ⟨by decide +kernel, by decide +kernel⟩, by decide +kernel, by decide +kernel⟩
set_option maxHeartbeats 8000000 in
set_option maxRecDepth 100000 in
theorem c_L_merged {l : Launch} {Γ : Cx} {σ0 : St} (a0 : Int) (a2 : Int) (a4 : Int)  : Ct l Γ k_L_merged 4 encJ (emU σ0) [vl a0, vl a2, vl a4] () (fW_merged a0 a2 a4) := by
  refine ct_of (by decide +kernel) rfl (Nat.le_of_ble_eq_true rfl) ?_
  refine r_lo [0, 1, 2] (lo2 := [(0, vl a0), (2, vl a2), (4, vl a4)]) rfl ?_
  unfold fW_merged
  refine r_lconst (x := 1) dL_merged_0 rfl ?_
  refine r_lstore (lo2 := [(6, vl 1), (0, vl a0), (2, vl a2), (4, vl a4)]) dL_merged_1 (by decide) rfl ?_
  refine r_lload_n (x := a0) dL_merged_3 rfl rfl ?_
  refine r_csi (J := fun (_ : Unit) => ()) (k2 := k_L_sections) (n := 1) (rest := []) (fun _ => rfl) rfl kv_L_sections (c_L_sections (σ0 := _) a0) (by decide) um_L_119 rfl (Nat.le_of_ble_eq_true rfl) dL_merged_4 rfl (fun r1 _ => ?_)
  show RunO l Γ k_L_merged 4 encJ (emU σ0) 7 [(6, vl 1), (0, vl a0), (2, vl a2), (4, vl a4)] [wi r1] () _
  refine r_lload_n (x := a2) dL_merged_7 rfl rfl ?_
  refine r_csi (J := fun (_ : Unit) => ()) (k2 := k_L_sections) (n := 1) (rest := [wi r1]) (fun _ => rfl) rfl kv_L_sections (c_L_sections (σ0 := _) a2) (by decide) um_L_119 rfl (Nat.le_of_ble_eq_true rfl) dL_merged_8 rfl (fun r2 _ => ?_)
  show RunO l Γ k_L_merged 4 encJ (emU σ0) 11 [(6, vl 1), (0, vl a0), (2, vl a2), (4, vl a4)] [wi r2, wi r1] () _
  refine r_join (P := fun (J : Option (Int × Unit)) => RunO l Γ k_L_merged 4 encJ (emU σ0) 26 [] [] () J) ?_ (fun J26 hJ26 => ?_)
  · skip
    show RunO l Γ k_L_merged 4 encJ (emU σ0) 26 [] [] () (fW_merged_26)
    unfold fW_merged_26
    refine r_lconst (x := 0) dL_merged_26 rfl ?_
    exact r_lret rfl dL_merged_27
  refine r_icmp_ne (tgt := 26) dL_merged_11 (by decide) ?_ ?_
  · refine r_lo [] (lo2 := []) rfl ?_
    exact hJ26
  · refine r_lload_n (x := a0) dL_merged_14 rfl rfl ?_
    refine r_csi (J := fun (_ : Unit) => ()) (k2 := k_L_sections) (n := 1) (rest := []) (fun _ => rfl) rfl kv_L_sections (c_L_sections (σ0 := _) a0) (by decide) um_L_119 rfl (Nat.le_of_ble_eq_true rfl) dL_merged_15 rfl (fun r3 _ => ?_)
    show RunO l Γ k_L_merged 4 encJ (emU σ0) 18 [(6, vl 1), (0, vl a0), (2, vl a2), (4, vl a4)] [wi r3] () _
    refine r_lload (x := a4) dL_merged_18 rfl ?_
    refine r_csi (J := fun (_ : Unit) => ()) (k2 := k_L_sections) (n := 1) (rest := [wi r3]) (fun _ => rfl) rfl kv_L_sections (c_L_sections (σ0 := _) a4) (by decide) um_L_119 rfl (Nat.le_of_ble_eq_true rfl) dL_merged_20 rfl (fun r4 _ => ?_)
    show RunO l Γ k_L_merged 4 encJ (emU σ0) 23 [(6, vl 1), (0, vl a0), (2, vl a2), (4, vl a4)] [wi r4, wi r3] () _
    refine r_icmp_eq (tgt := 28) dL_merged_23 (by decide) ?_ ?_
    · refine ro_iconst (v := 0) dL_merged_28 rfl ?_
      refine r_istore (lo2 := [(8, wi 0), (6, vl 1), (0, vl a0), (2, vl a2), (4, vl a4)]) dL_merged_29 (by decide) rfl ?_
      refine r_loop (P := fun (J : Int → Int → Option (Int × Unit)) => ∀ (v6_31 : Int) (v8_31 : Int), RunO l Γ k_L_merged 4 encJ (emU σ0) 31 [(0, vl a0), (2, vl a2), (4, vl a4), (6, vl v6_31), (8, wi v8_31)] [] () (J v6_31 v8_31)) ?_ (fun L31 hL31 => ?_) (fun J31 hJ31 => ?_)
      · intros; exact ro_none
      · intro v6_31 v8_31
        show RunO l Γ k_L_merged 4 encJ (emU σ0) 31 [(0, vl a0), (2, vl a2), (4, vl a4), (6, vl v6_31), (8, wi v8_31)] [] () (fW_merged_31 a0 a2 a4 L31 v6_31 v8_31)
        unfold fW_merged_31
        refine r_iload (x := v8_31) dL_merged_31 rfl ?_
        refine r_lload_n (x := a2) dL_merged_33 rfl rfl ?_
        refine r_csi (J := fun (_ : Unit) => ()) (k2 := k_L_sections) (n := 1) (rest := [wi v8_31]) (fun _ => rfl) rfl kv_L_sections (c_L_sections (σ0 := _) a2) (by decide) um_L_119 rfl (Nat.le_of_ble_eq_true rfl) dL_merged_34 rfl (fun r5 _ => ?_)
        show RunO l Γ k_L_merged 4 encJ (emU σ0) 37 [(0, vl a0), (2, vl a2), (4, vl a4), (6, vl v6_31), (8, wi v8_31)] [wi r5, wi v8_31] () _
        refine r_icmp_ge (tgt := 119) dL_merged_37 (by decide) ?_ ?_
        · refine r_lload (x := v6_31) dL_merged_119 rfl ?_
          exact r_lret rfl dL_merged_121
        · refine r_lload_n (x := a0) dL_merged_40 rfl rfl ?_
          refine r_iload (x := v8_31) dL_merged_41 rfl ?_
          refine r_csj (J := fun (_ : Unit) => ()) (k2 := k_L_section) (n := 2) (rest := []) (fun _ => rfl) rfl kv_L_section (c_L_section (σ0 := _) a0 v8_31) (by decide) um_L_122 rfl (Nat.le_of_ble_eq_true rfl) dL_merged_43 rfl (fun r6 _ => ?_)
          show RunO l Γ k_L_merged 4 encJ (emU σ0) 46 [(0, vl a0), (2, vl a2), (4, vl a4), (6, vl v6_31), (8, wi v8_31)] [vl r6] () _
          refine r_lstore (lo2 := [(9, vl r6), (0, vl a0), (2, vl a2), (4, vl a4), (6, vl v6_31), (8, wi v8_31)]) dL_merged_46 (by decide) rfl ?_
          refine r_lload_n (x := a2) dL_merged_48 rfl rfl ?_
          refine r_iload (x := v8_31) dL_merged_49 rfl ?_
          refine r_csj (J := fun (_ : Unit) => ()) (k2 := k_L_section) (n := 2) (rest := []) (fun _ => rfl) rfl kv_L_section (c_L_section (σ0 := _) a2 v8_31) (by decide) um_L_122 rfl (Nat.le_of_ble_eq_true rfl) dL_merged_51 rfl (fun r7 _ => ?_)
          show RunO l Γ k_L_merged 4 encJ (emU σ0) 54 [(9, vl r6), (0, vl a0), (2, vl a2), (4, vl a4), (6, vl v6_31), (8, wi v8_31)] [vl r7] () _
          refine r_lstore (lo2 := [(11, vl r7), (9, vl r6), (0, vl a0), (2, vl a2), (4, vl a4), (6, vl v6_31), (8, wi v8_31)]) dL_merged_54 (by decide) rfl ?_
          refine r_lload (x := a4) dL_merged_56 rfl ?_
          refine r_iload (x := v8_31) dL_merged_58 rfl ?_
          refine r_csj (J := fun (_ : Unit) => ()) (k2 := k_L_section) (n := 2) (rest := []) (fun _ => rfl) rfl kv_L_section (c_L_section (σ0 := _) a4 v8_31) (by decide) um_L_122 rfl (Nat.le_of_ble_eq_true rfl) dL_merged_60 rfl (fun r8 _ => ?_)
          show RunO l Γ k_L_merged 4 encJ (emU σ0) 63 [(11, vl r7), (9, vl r6), (0, vl a0), (2, vl a2), (4, vl a4), (6, vl v6_31), (8, wi v8_31)] [vl r8] () _
          refine r_lstore (lo2 := [(13, vl r8), (11, vl r7), (9, vl r6), (0, vl a0), (2, vl a2), (4, vl a4), (6, vl v6_31), (8, wi v8_31)]) dL_merged_63 (by decide) rfl ?_
          refine r_lload (x := r6) dL_merged_65 rfl ?_
          refine r_lload (x := r7) dL_merged_67 rfl ?_
          refine r_lcmp dL_merged_69 ?_
          refine r_join (P := fun (J : Option (Int × Unit)) => RunO l Γ k_L_merged 4 encJ (emU σ0) 91 [(0, vl a0), (2, vl a2), (4, vl a4), (6, vl v6_31), (8, wi v8_31), (9, vl r6), (11, vl r7), (13, vl r8)] [] () J) ?_ (fun J91 hJ91 => ?_)
          · skip
            show RunO l Γ k_L_merged 4 encJ (emU σ0) 91 [(0, vl a0), (2, vl a2), (4, vl a4), (6, vl v6_31), (8, wi v8_31), (9, vl r6), (11, vl r7), (13, vl r8)] [] () (fW_merged_91 L31 v6_31 v8_31 r6 r7 r8)
            unfold fW_merged_91
            refine r_lload (x := v6_31) dL_merged_91 rfl ?_
            refine r_lload (x := r6) dL_merged_93 rfl ?_
            refine r_lload (x := r7) dL_merged_95 rfl ?_
            refine r_lcmp dL_merged_97 ?_
            refine r_join (P := fun (J : Int → Option (Int × Unit)) => ∀ (t0_108 : Int), RunO l Γ k_L_merged 4 encJ (emU σ0) 108 [(0, vl a0), (2, vl a2), (4, vl a4), (8, wi v8_31)] [vl t0_108, vl v6_31] () (J t0_108)) ?_ (fun J108 hJ108 => ?_)
            · intro t0_108
              show RunO l Γ k_L_merged 4 encJ (emU σ0) 108 [(0, vl a0), (2, vl a2), (4, vl a4), (8, wi v8_31)] [vl t0_108, vl v6_31] () (fW_merged_108 L31 v6_31 v8_31 t0_108)
              unfold fW_merged_108
              refine r_csj (J := fun (_ : Unit) => ()) (k2 := k_L_behind) (n := 2) (rest := []) (fun _ => rfl) rfl kv_L_behind (c_L_behind (σ0 := _) v6_31 t0_108) (by decide) um_L_126 rfl (Nat.le_of_ble_eq_true rfl) dL_merged_108 rfl (fun r9 _ => ?_)
              show RunO l Γ k_L_merged 4 encJ (emU σ0) 111 [(0, vl a0), (2, vl a2), (4, vl a4), (8, wi v8_31)] [vl r9] () _
              refine r_lstore (lo2 := [(6, vl r9), (0, vl a0), (2, vl a2), (4, vl a4), (8, wi v8_31)]) dL_merged_111 (by decide) rfl ?_
              refine r_iinc (x := v8_31) (lo2 := [(8, wi (v8_31 + 1)), (6, vl r9), (0, vl a0), (2, vl a2), (4, vl a4)]) dL_merged_113 rfl (by decide) rfl ?_
              refine r_goto (tgt := 31) dL_merged_116 (by decide) ?_
              refine r_lo [2, 3, 4, 1, 0] (lo2 := [(0, vl a0), (2, vl a2), (4, vl a4), (6, vl r9), (8, wi (v8_31 + 1))]) rfl ?_
              exact hL31 r9 (v8_31 + 1)
            refine r_if_ne (tgt := 106) dL_merged_98 (by decide) ?_ ?_
            · refine r_lload (x := r6) dL_merged_106 rfl ?_
              refine r_lo [0, 1, 2, 4] (lo2 := [(0, vl a0), (2, vl a2), (4, vl a4), (8, wi v8_31)]) rfl ?_
              exact hJ108 r6
            · refine r_lload (x := r8) dL_merged_101 rfl ?_
              refine r_goto (tgt := 108) dL_merged_103 (by decide) ?_
              refine r_lo [0, 1, 2, 4] (lo2 := [(0, vl a0), (2, vl a2), (4, vl a4), (8, wi v8_31)]) rfl ?_
              exact hJ108 r8
          refine r_if_eq (tgt := 91) dL_merged_70 (by decide) ?_ ?_
          · refine r_lo [3, 4, 5, 6, 7, 2, 1, 0] (lo2 := [(0, vl a0), (2, vl a2), (4, vl a4), (6, vl v6_31), (8, wi v8_31), (9, vl r6), (11, vl r7), (13, vl r8)]) rfl ?_
            exact hJ91
          · refine r_lload (x := r8) dL_merged_73 rfl ?_
            refine r_lload (x := r7) dL_merged_75 rfl ?_
            refine r_lcmp dL_merged_77 ?_
            refine r_if_eq (tgt := 91) dL_merged_78 (by decide) ?_ ?_
            · refine r_lo [3, 4, 5, 6, 7, 2, 1, 0] (lo2 := [(0, vl a0), (2, vl a2), (4, vl a4), (6, vl v6_31), (8, wi v8_31), (9, vl r6), (11, vl r7), (13, vl r8)]) rfl ?_
              exact hJ91
            · refine r_lload (x := r8) dL_merged_81 rfl ?_
              refine r_lload (x := r6) dL_merged_83 rfl ?_
              refine r_lcmp dL_merged_85 ?_
              refine r_if_eq (tgt := 91) dL_merged_86 (by decide) ?_ ?_
              · refine r_lo [3, 4, 5, 6, 7, 2, 1, 0] (lo2 := [(0, vl a0), (2, vl a2), (4, vl a4), (6, vl v6_31), (8, wi v8_31), (9, vl r6), (11, vl r7), (13, vl r8)]) rfl ?_
                exact hJ91
              · refine r_lconst (x := 0) dL_merged_89 rfl ?_
                exact r_lret rfl dL_merged_90
      refine r_lo [2, 3, 4, 1, 0] (lo2 := [(0, vl a0), (2, vl a2), (4, vl a4), (6, vl 1), (8, wi 0)]) rfl ?_
      exact hJ31 1 0
    · refine r_lo [] (lo2 := []) rfl ?_
      exact hJ26
def k_L_undone : Kd := (yL_undone, cL_undone, 10, some .long, [])
theorem kv_L_undone : KS k_L_undone 3 := ⟨uw_mem 1469 (by decide +kernel) rfl, uw_mem 93 (by decide +kernel) rfl, uw_mem 1468 (by decide +kernel) rfl, ⟨by decide +kernel, by decide +kernel⟩, by decide +kernel, by decide +kernel⟩
set_option maxHeartbeats 8000000 in
set_option maxRecDepth 100000 in
theorem c_L_undone {l : Launch} {Γ : Cx} {σ0 : St} (a0 : Int) (a2 : Int) (a4 : Int)  : Ct l Γ k_L_undone 4 encJ (emU σ0) [vl a0, vl a2, vl a4] () (fW_undone a0 a2 a4) := by
  refine ct_of (by decide +kernel) rfl (Nat.le_of_ble_eq_true rfl) ?_
  refine r_lo [0, 1, 2] (lo2 := [(0, vl a0), (2, vl a2), (4, vl a4)]) rfl ?_
  unfold fW_undone
  refine r_lconst (x := 1) dL_undone_0 rfl ?_
  refine r_lstore (lo2 := [(6, vl 1), (0, vl a0), (2, vl a2), (4, vl a4)]) dL_undone_1 (by decide) rfl ?_
  refine r_lload_n (x := a0) dL_undone_3 rfl rfl ?_
  refine r_csi (J := fun (_ : Unit) => ()) (k2 := k_L_sections) (n := 1) (rest := []) (fun _ => rfl) rfl kv_L_sections (c_L_sections (σ0 := _) a0) (by decide) um_L_119 rfl (Nat.le_of_ble_eq_true rfl) dL_undone_4 rfl (fun r1 _ => ?_)
  show RunO l Γ k_L_undone 4 encJ (emU σ0) 7 [(6, vl 1), (0, vl a0), (2, vl a2), (4, vl a4)] [wi r1] () _
  refine r_lload_n (x := a2) dL_undone_7 rfl rfl ?_
  refine r_csi (J := fun (_ : Unit) => ()) (k2 := k_L_sections) (n := 1) (rest := [wi r1]) (fun _ => rfl) rfl kv_L_sections (c_L_sections (σ0 := _) a2) (by decide) um_L_119 rfl (Nat.le_of_ble_eq_true rfl) dL_undone_8 rfl (fun r2 _ => ?_)
  show RunO l Γ k_L_undone 4 encJ (emU σ0) 11 [(6, vl 1), (0, vl a0), (2, vl a2), (4, vl a4)] [wi r2, wi r1] () _
  refine r_join (P := fun (J : Option (Int × Unit)) => RunO l Γ k_L_undone 4 encJ (emU σ0) 26 [] [] () J) ?_ (fun J26 hJ26 => ?_)
  · skip
    show RunO l Γ k_L_undone 4 encJ (emU σ0) 26 [] [] () (fW_undone_26)
    unfold fW_undone_26
    refine r_lconst (x := 0) dL_undone_26 rfl ?_
    exact r_lret rfl dL_undone_27
  refine r_icmp_ne (tgt := 26) dL_undone_11 (by decide) ?_ ?_
  · refine r_lo [] (lo2 := []) rfl ?_
    exact hJ26
  · refine r_lload_n (x := a0) dL_undone_14 rfl rfl ?_
    refine r_csi (J := fun (_ : Unit) => ()) (k2 := k_L_sections) (n := 1) (rest := []) (fun _ => rfl) rfl kv_L_sections (c_L_sections (σ0 := _) a0) (by decide) um_L_119 rfl (Nat.le_of_ble_eq_true rfl) dL_undone_15 rfl (fun r3 _ => ?_)
    show RunO l Γ k_L_undone 4 encJ (emU σ0) 18 [(6, vl 1), (0, vl a0), (2, vl a2), (4, vl a4)] [wi r3] () _
    refine r_lload (x := a4) dL_undone_18 rfl ?_
    refine r_csi (J := fun (_ : Unit) => ()) (k2 := k_L_sections) (n := 1) (rest := [wi r3]) (fun _ => rfl) rfl kv_L_sections (c_L_sections (σ0 := _) a4) (by decide) um_L_119 rfl (Nat.le_of_ble_eq_true rfl) dL_undone_20 rfl (fun r4 _ => ?_)
    show RunO l Γ k_L_undone 4 encJ (emU σ0) 23 [(6, vl 1), (0, vl a0), (2, vl a2), (4, vl a4)] [wi r4, wi r3] () _
    refine r_icmp_eq (tgt := 28) dL_undone_23 (by decide) ?_ ?_
    · refine ro_iconst (v := 0) dL_undone_28 rfl ?_
      refine r_istore (lo2 := [(8, wi 0), (6, vl 1), (0, vl a0), (2, vl a2), (4, vl a4)]) dL_undone_29 (by decide) rfl ?_
      refine r_loop (P := fun (J : Int → Int → Option (Int × Unit)) => ∀ (v6_31 : Int) (v8_31 : Int), RunO l Γ k_L_undone 4 encJ (emU σ0) 31 [(0, vl a0), (2, vl a2), (4, vl a4), (6, vl v6_31), (8, wi v8_31)] [] () (J v6_31 v8_31)) ?_ (fun L31 hL31 => ?_) (fun J31 hJ31 => ?_)
      · intros; exact ro_none
      · intro v6_31 v8_31
        show RunO l Γ k_L_undone 4 encJ (emU σ0) 31 [(0, vl a0), (2, vl a2), (4, vl a4), (6, vl v6_31), (8, wi v8_31)] [] () (fW_undone_31 a0 a2 a4 L31 v6_31 v8_31)
        unfold fW_undone_31
        refine r_iload (x := v8_31) dL_undone_31 rfl ?_
        refine r_lload_n (x := a2) dL_undone_33 rfl rfl ?_
        refine r_csi (J := fun (_ : Unit) => ()) (k2 := k_L_sections) (n := 1) (rest := [wi v8_31]) (fun _ => rfl) rfl kv_L_sections (c_L_sections (σ0 := _) a2) (by decide) um_L_119 rfl (Nat.le_of_ble_eq_true rfl) dL_undone_34 rfl (fun r5 _ => ?_)
        show RunO l Γ k_L_undone 4 encJ (emU σ0) 37 [(0, vl a0), (2, vl a2), (4, vl a4), (6, vl v6_31), (8, wi v8_31)] [wi r5, wi v8_31] () _
        refine r_icmp_ge (tgt := 116) dL_undone_37 (by decide) ?_ ?_
        · refine r_lload (x := v6_31) dL_undone_116 rfl ?_
          exact r_lret rfl dL_undone_118
        · refine r_lload_n (x := a0) dL_undone_40 rfl rfl ?_
          refine r_iload (x := v8_31) dL_undone_41 rfl ?_
          refine r_csj (J := fun (_ : Unit) => ()) (k2 := k_L_section) (n := 2) (rest := []) (fun _ => rfl) rfl kv_L_section (c_L_section (σ0 := _) a0 v8_31) (by decide) um_L_122 rfl (Nat.le_of_ble_eq_true rfl) dL_undone_43 rfl (fun r6 _ => ?_)
          show RunO l Γ k_L_undone 4 encJ (emU σ0) 46 [(0, vl a0), (2, vl a2), (4, vl a4), (6, vl v6_31), (8, wi v8_31)] [vl r6] () _
          refine r_lload_n (x := a2) dL_undone_46 rfl rfl ?_
          refine r_iload (x := v8_31) dL_undone_47 rfl ?_
          refine r_csj (J := fun (_ : Unit) => ()) (k2 := k_L_section) (n := 2) (rest := [vl r6]) (fun _ => rfl) rfl kv_L_section (c_L_section (σ0 := _) a2 v8_31) (by decide) um_L_122 rfl (Nat.le_of_ble_eq_true rfl) dL_undone_49 rfl (fun r7 _ => ?_)
          show RunO l Γ k_L_undone 4 encJ (emU σ0) 52 [(0, vl a0), (2, vl a2), (4, vl a4), (6, vl v6_31), (8, wi v8_31)] [vl r7, vl r6] () _
          refine r_lcmp dL_undone_52 ?_
          refine r_join (P := fun (J : Int → Option (Int × Unit)) => ∀ (t0_61 : Int), RunO l Γ k_L_undone 4 encJ (emU σ0) 61 [(0, vl a0), (2, vl a2), (4, vl a4), (6, vl v6_31), (8, wi v8_31)] [wi t0_61] () (J t0_61)) ?_ (fun J61 hJ61 => ?_)
          · intro t0_61
            show RunO l Γ k_L_undone 4 encJ (emU σ0) 61 [(0, vl a0), (2, vl a2), (4, vl a4), (6, vl v6_31), (8, wi v8_31)] [wi t0_61] () (fW_undone_61 a0 a2 a4 L31 v6_31 v8_31 t0_61)
            unfold fW_undone_61
            refine r_istore (lo2 := [(9, wi t0_61), (0, vl a0), (2, vl a2), (4, vl a4), (6, vl v6_31), (8, wi v8_31)]) dL_undone_61 (by decide) rfl ?_
            refine r_iload (x := t0_61) dL_undone_63 rfl ?_
            refine r_join (P := fun (J : Option (Int × Unit)) => RunO l Γ k_L_undone 4 encJ (emU σ0) 87 [(0, vl a0), (2, vl a2), (4, vl a4), (6, vl v6_31), (8, wi v8_31), (9, wi t0_61)] [] () J) ?_ (fun J87 hJ87 => ?_)
            · skip
              show RunO l Γ k_L_undone 4 encJ (emU σ0) 87 [(0, vl a0), (2, vl a2), (4, vl a4), (6, vl v6_31), (8, wi v8_31), (9, wi t0_61)] [] () (fW_undone_87 a0 a4 L31 v6_31 v8_31 t0_61)
              unfold fW_undone_87
              refine r_lload (x := v6_31) dL_undone_87 rfl ?_
              refine r_iload (x := t0_61) dL_undone_89 rfl ?_
              refine r_join (P := fun (J : Int → Option (Int × Unit)) => ∀ (t0_100 : Int), RunO l Γ k_L_undone 4 encJ (emU σ0) 100 [(0, vl a0), (2, vl a2), (4, vl a4), (8, wi v8_31)] [vl t0_100, vl v6_31] () (J t0_100)) ?_ (fun J100 hJ100 => ?_)
              · intro t0_100
                show RunO l Γ k_L_undone 4 encJ (emU σ0) 100 [(0, vl a0), (2, vl a2), (4, vl a4), (8, wi v8_31)] [vl t0_100, vl v6_31] () (fW_undone_100 L31 v6_31 v8_31 t0_100)
                unfold fW_undone_100
                refine r_iload (x := v8_31) dL_undone_100 rfl ?_
                refine r_csj (J := fun (_ : Unit) => ()) (k2 := k_L_section) (n := 2) (rest := [vl v6_31]) (fun _ => rfl) rfl kv_L_section (c_L_section (σ0 := _) t0_100 v8_31) (by decide) um_L_122 rfl (Nat.le_of_ble_eq_true rfl) dL_undone_102 rfl (fun r8 _ => ?_)
                show RunO l Γ k_L_undone 4 encJ (emU σ0) 105 [(0, vl a0), (2, vl a2), (4, vl a4), (8, wi v8_31)] [vl r8, vl v6_31] () _
                refine r_csj (J := fun (_ : Unit) => ()) (k2 := k_L_behind) (n := 2) (rest := []) (fun _ => rfl) rfl kv_L_behind (c_L_behind (σ0 := _) v6_31 r8) (by decide) um_L_126 rfl (Nat.le_of_ble_eq_true rfl) dL_undone_105 rfl (fun r9 _ => ?_)
                show RunO l Γ k_L_undone 4 encJ (emU σ0) 108 [(0, vl a0), (2, vl a2), (4, vl a4), (8, wi v8_31)] [vl r9] () _
                refine r_lstore (lo2 := [(6, vl r9), (0, vl a0), (2, vl a2), (4, vl a4), (8, wi v8_31)]) dL_undone_108 (by decide) rfl ?_
                refine r_iinc (x := v8_31) (lo2 := [(8, wi (v8_31 + 1)), (6, vl r9), (0, vl a0), (2, vl a2), (4, vl a4)]) dL_undone_110 rfl (by decide) rfl ?_
                refine r_goto (tgt := 31) dL_undone_113 (by decide) ?_
                refine r_lo [2, 3, 4, 1, 0] (lo2 := [(0, vl a0), (2, vl a2), (4, vl a4), (6, vl r9), (8, wi (v8_31 + 1))]) rfl ?_
                exact hL31 r9 (v8_31 + 1)
              refine r_if_eq (tgt := 98) dL_undone_91 (by decide) ?_ ?_
              · refine r_lload (x := a4) dL_undone_98 rfl ?_
                refine r_lo [0, 1, 2, 4] (lo2 := [(0, vl a0), (2, vl a2), (4, vl a4), (8, wi v8_31)]) rfl ?_
                exact hJ100 a4
              · refine r_lload_n (x := a0) dL_undone_94 rfl rfl ?_
                refine r_goto (tgt := 100) dL_undone_95 (by decide) ?_
                refine r_lo [0, 1, 2, 4] (lo2 := [(0, vl a0), (2, vl a2), (4, vl a4), (8, wi v8_31)]) rfl ?_
                exact hJ100 a0
            refine r_if_eq (tgt := 87) dL_undone_65 (by decide) ?_ ?_
            · refine r_lo [1, 2, 3, 4, 5, 0] (lo2 := [(0, vl a0), (2, vl a2), (4, vl a4), (6, vl v6_31), (8, wi v8_31), (9, wi t0_61)]) rfl ?_
              exact hJ87
            · refine r_lload (x := a4) dL_undone_68 rfl ?_
              refine r_iload (x := v8_31) dL_undone_70 rfl ?_
              refine r_csj (J := fun (_ : Unit) => ()) (k2 := k_L_section) (n := 2) (rest := []) (fun _ => rfl) rfl kv_L_section (c_L_section (σ0 := _) a4 v8_31) (by decide) um_L_122 rfl (Nat.le_of_ble_eq_true rfl) dL_undone_72 rfl (fun r10 _ => ?_)
              show RunO l Γ k_L_undone 4 encJ (emU σ0) 75 [(9, wi t0_61), (0, vl a0), (2, vl a2), (4, vl a4), (6, vl v6_31), (8, wi v8_31)] [vl r10] () _
              refine r_lload_n (x := a2) dL_undone_75 rfl rfl ?_
              refine r_iload (x := v8_31) dL_undone_76 rfl ?_
              refine r_csj (J := fun (_ : Unit) => ()) (k2 := k_L_section) (n := 2) (rest := [vl r10]) (fun _ => rfl) rfl kv_L_section (c_L_section (σ0 := _) a2 v8_31) (by decide) um_L_122 rfl (Nat.le_of_ble_eq_true rfl) dL_undone_78 rfl (fun r11 _ => ?_)
              show RunO l Γ k_L_undone 4 encJ (emU σ0) 81 [(9, wi t0_61), (0, vl a0), (2, vl a2), (4, vl a4), (6, vl v6_31), (8, wi v8_31)] [vl r11, vl r10] () _
              refine r_lcmp dL_undone_81 ?_
              refine r_if_eq (tgt := 87) dL_undone_82 (by decide) ?_ ?_
              · refine r_lo [1, 2, 3, 4, 5, 0] (lo2 := [(0, vl a0), (2, vl a2), (4, vl a4), (6, vl v6_31), (8, wi v8_31), (9, wi t0_61)]) rfl ?_
                exact hJ87
              · refine r_lconst (x := 0) dL_undone_85 rfl ?_
                exact r_lret rfl dL_undone_86
          refine r_if_eq (tgt := 60) dL_undone_53 (by decide) ?_ ?_
          · refine ro_iconst (v := 0) dL_undone_60 rfl ?_
            exact hJ61 0
          · refine ro_iconst (v := 1) dL_undone_56 rfl ?_
            refine r_goto (tgt := 61) dL_undone_57 (by decide) ?_
            exact hJ61 1
      refine r_lo [2, 3, 4, 1, 0] (lo2 := [(0, vl a0), (2, vl a2), (4, vl a4), (6, vl 1), (8, wi 0)]) rfl ?_
      exact hJ31 1 0
    · refine r_lo [] (lo2 := []) rfl ?_
      exact hJ26
def k_L_next : Kd := (yL_next, cL_next, 6, some .int, [])
theorem kv_L_next : KS k_L_next 4 := ⟨uw_mem 773 (by decide +kernel) rfl, uw_mem 93 (by decide +kernel) rfl, uw_mem 772 (by decide +kernel) rfl, ⟨by decide +kernel, by decide +kernel⟩, by decide +kernel, by decide +kernel⟩
set_option maxHeartbeats 8000000 in
set_option maxRecDepth 100000 in
theorem c_L_next {l : Launch} {Γ : Cx} {ad : Nat → Nat} {K0 : Cd} (h : wOn Γ) (hm : ∀ k, k ≤ 10 → ad k ≠ 0)  (E : Rw) : Ct l Γ k_L_next 2 encI (emW ad K0) [.ref (ad 1), .ref (ad 4), .ref (ad 6), .ref (ad 8)] E (fW_next E) := by
  refine ct_of (by decide +kernel) rfl (Nat.le_of_ble_eq_true rfl) ?_
  refine r_lo [0, 1, 2, 3] (lo2 := [(0, .ref (ad 1)), (1, .ref (ad 4)), (2, .ref (ad 6)), (3, .ref (ad 8))]) rfl ?_
  unfold fW_next
  refine ro_iconst (v := (-1)) dL_next_0 rfl ?_
  refine r_istore (lo2 := [(4, wi (-1)), (0, .ref (ad 1)), (1, .ref (ad 4)), (2, .ref (ad 6)), (3, .ref (ad 8))]) dL_next_1 (by decide) rfl ?_
  refine ro_iconst (v := 0) dL_next_3 rfl ?_
  refine r_istore (lo2 := [(5, wi 0), (4, wi (-1)), (0, .ref (ad 1)), (1, .ref (ad 4)), (2, .ref (ad 6)), (3, .ref (ad 8))]) dL_next_4 (by decide) rfl ?_
  refine r_loop (P := fun (J : Int → Int → Rw → Option (Int × Rw)) => ∀ (v4_6 : Int) (v5_6 : Int) (E_6 : Rw), RunO l Γ k_L_next 2 encI (emW ad K0) 6 [(0, .ref (ad 1)), (1, .ref (ad 4)), (2, .ref (ad 6)), (3, .ref (ad 8)), (4, wi v4_6), (5, wi v5_6)] [] E_6 (J v4_6 v5_6 E_6)) ?_ (fun L6 hL6 => ?_) (fun J6 hJ6 => ?_)
  · intros; exact ro_none
  · intro v4_6 v5_6 E_6
    refine r_iload (x := v5_6) dL_next_6 rfl ?_
    refine r_bipush (v := 8) dL_next_8 rfl ?_
    refine r_icmp_ge (tgt := 68) dL_next_10 (by decide) ?_ ?_
    · refine r_iload (x := v4_6) dL_next_68 rfl ?_
      exact r_iret rfl dL_next_70
    · refine r_aload_n (x := ad 1) dL_next_13 rfl rfl ?_
      refine r_aload_n (x := ad 4) dL_next_14 rfl rfl ?_
      refine r_aload_n (x := ad 6) dL_next_15 rfl rfl ?_
      refine r_aload_n (x := ad 8) dL_next_16 rfl rfl ?_
      refine r_iload (x := v5_6) dL_next_17 rfl ?_
      refine r_csi (J := fun (E_ : Rw) => E_) (k2 := k_L_isStale) (n := 5) (rest := []) (fun _ => rfl) rfl kv_L_isStale (c_L_isStale h hm v5_6 _) (by decide) um_L_55 rfl (Nat.le_of_ble_eq_true rfl) dL_next_19 rfl (fun r1 E2 => ?_)
      show RunO l Γ k_L_next 2 encI (emW ad K0) 22 [(0, .ref (ad 1)), (1, .ref (ad 4)), (2, .ref (ad 6)), (3, .ref (ad 8)), (4, wi v4_6), (5, wi v5_6)] [wi r1] E2 _
      refine r_join (P := fun (J : Int → Rw → Option (Int × Rw)) => ∀ (t0_60 : Int) (E_60 : Rw), RunO l Γ k_L_next 2 encI (emW ad K0) 60 [(0, .ref (ad 1)), (1, .ref (ad 4)), (2, .ref (ad 6)), (3, .ref (ad 8)), (5, wi v5_6)] [wi t0_60] E_60 (J t0_60 E_60)) ?_ (fun J60 hJ60 => ?_)
      · intro t0_60 E_60
        refine r_istore (lo2 := [(4, wi t0_60), (0, .ref (ad 1)), (1, .ref (ad 4)), (2, .ref (ad 6)), (3, .ref (ad 8)), (5, wi v5_6)]) dL_next_60 (by decide) rfl ?_
        refine r_iinc (x := v5_6) (lo2 := [(5, wi (v5_6 + 1)), (4, wi t0_60), (0, .ref (ad 1)), (1, .ref (ad 4)), (2, .ref (ad 6)), (3, .ref (ad 8))]) dL_next_62 rfl (by decide) rfl ?_
        refine r_goto (tgt := 6) dL_next_65 (by decide) ?_
        refine r_lo [2, 3, 4, 5, 1, 0] (lo2 := [(0, .ref (ad 1)), (1, .ref (ad 4)), (2, .ref (ad 6)), (3, .ref (ad 8)), (4, wi t0_60), (5, wi (v5_6 + 1))]) rfl ?_
        exact hL6 t0_60 (v5_6 + 1) E_60
      refine r_join (P := fun (J : Rw → Option (Int × Rw)) => ∀ (E_58 : Rw), RunO l Γ k_L_next 2 encI (emW ad K0) 58 [(0, .ref (ad 1)), (1, .ref (ad 4)), (2, .ref (ad 6)), (3, .ref (ad 8)), (4, wi v4_6), (5, wi v5_6)] [] E_58 (J E_58)) ?_ (fun J58 hJ58 => ?_)
      · intro E_58
        refine r_iload (x := v4_6) dL_next_58 rfl ?_
        refine r_lo [0, 1, 2, 3, 5] (lo2 := [(0, .ref (ad 1)), (1, .ref (ad 4)), (2, .ref (ad 6)), (3, .ref (ad 8)), (5, wi v5_6)]) rfl ?_
        exact hJ60 v4_6 E_58
      refine r_if_eq (tgt := 58) dL_next_22 (by decide) ?_ ?_
      · exact hJ58 E2
      · refine r_iload (x := v4_6) dL_next_25 rfl ?_
        refine r_join (P := fun (J : Rw → Option (Int × Rw)) => ∀ (E_53 : Rw), RunO l Γ k_L_next 2 encI (emW ad K0) 53 [(0, .ref (ad 1)), (1, .ref (ad 4)), (2, .ref (ad 6)), (3, .ref (ad 8)), (5, wi v5_6)] [] E_53 (J E_53)) ?_ (fun J53 hJ53 => ?_)
        · intro E_53
          refine r_iload (x := v5_6) dL_next_53 rfl ?_
          refine r_goto (tgt := 60) dL_next_55 (by decide) ?_
          exact hJ60 v5_6 E_53
        refine r_if_lt (tgt := 53) dL_next_27 (by decide) ?_ ?_
        · refine r_lo [0, 1, 2, 3, 5] (lo2 := [(0, .ref (ad 1)), (1, .ref (ad 4)), (2, .ref (ad 6)), (3, .ref (ad 8)), (5, wi v5_6)]) rfl ?_
          exact hJ53 E2
        · refine r_aload_n (x := ad 6) dL_next_30 rfl rfl ?_
          refine r_bipush (v := 7) dL_next_31 rfl ?_
          refine r_iload (x := v5_6) dL_next_33 rfl ?_
          refine r_imul dL_next_35 ?_
          refine r_bipush (v := 6) dL_next_36 rfl ?_
          refine r_iadd dL_next_38 ?_
          refine r_wiald h (by decide) (hm 6 (by decide)) dL_next_39 ?_
          refine r_aload_n (x := ad 6) dL_next_40 rfl rfl ?_
          refine r_bipush (v := 7) dL_next_41 rfl ?_
          refine r_iload (x := v4_6) dL_next_43 rfl ?_
          refine r_imul dL_next_45 ?_
          refine r_bipush (v := 6) dL_next_46 rfl ?_
          refine r_iadd dL_next_48 ?_
          refine r_wiald h (by decide) (hm 6 (by decide)) dL_next_49 ?_
          refine r_icmp_le (tgt := 58) dL_next_50 (by decide) ?_ ?_
          · exact hJ58 E2
          · refine r_lo [0, 1, 2, 3, 5] (lo2 := [(0, .ref (ad 1)), (1, .ref (ad 4)), (2, .ref (ad 6)), (3, .ref (ad 8)), (5, wi v5_6)]) rfl ?_
            exact hJ53 E2
  refine r_lo [2, 3, 4, 5, 1, 0] (lo2 := [(0, .ref (ad 1)), (1, .ref (ad 4)), (2, .ref (ad 6)), (3, .ref (ad 8)), (4, wi (-1)), (5, wi 0)]) rfl ?_
  exact hJ6 (-1) 0 E
def k_L_rendered : Kd := (yL_rendered, cL_rendered, 10, none, [])
theorem kv_L_rendered : KS k_L_rendered 9 := ⟨uw_mem 743 (by decide +kernel) rfl, uw_mem 93 (by decide +kernel) rfl, uw_mem 742 (by decide +kernel) rfl, ⟨by decide +kernel, by decide +kernel⟩, by decide +kernel, by decide +kernel⟩
set_option maxHeartbeats 8000000 in
set_option maxRecDepth 100000 in
theorem c_L_rendered {l : Launch} {Γ : Cx} {ma : Nat → Nat} (h : wOn Γ) (hm : ∀ k, k ≤ 10 → ma k ≠ 0) (a8 : Int) (E : Rw) (C : Cd) (q : (Nat → Nat)) : Ct l Γ k_L_rendered 5 encV (em3 ma) [.ref (ma 0), .ref (ma 1), .ref (ma 2), .ref (ma 3), .ref (ma 6), .ref (ma 7), .ref (ma 8), .ref (ma 10), wi a8] (E, C, q) (fW_rendered a8 E C q) := by
  refine ct_of (by decide +kernel) rfl (Nat.le_of_ble_eq_true rfl) ?_
  refine r_lo [0, 1, 2, 3, 4, 5, 6, 7, 8] (lo2 := [(0, .ref (ma 0)), (1, .ref (ma 1)), (2, .ref (ma 2)), (3, .ref (ma 3)), (4, .ref (ma 6)), (5, .ref (ma 7)), (6, .ref (ma 8)), (7, .ref (ma 10)), (8, wi a8)]) rfl ?_
  unfold fW_rendered
  refine r_aload_n (x := ma 0) dL_rendered_0 rfl rfl ?_
  refine ro_iconst (v := 3) dL_rendered_1 rfl ?_
  refine r_wiald3 h (by decide) (by decide) (hm 0 (by decide)) dL_rendered_2 ?_
  refine r_nm (fun x9_3 => ?_)
  refine r_istore (lo2 := [(9, wi x9_3), (0, .ref (ma 0)), (1, .ref (ma 1)), (2, .ref (ma 2)), (3, .ref (ma 3)), (4, .ref (ma 6)), (5, .ref (ma 7)), (6, .ref (ma 8)), (7, .ref (ma 10)), (8, wi a8)]) dL_rendered_3 (by decide) rfl ?_
  refine r_aload (x := ma 7) dL_rendered_5 rfl ?_
  refine r_iload (x := a8) dL_rendered_7 rfl ?_
  refine r_aload_n (x := ma 0) dL_rendered_9 rfl rfl ?_
  refine r_aload_n (x := ma 1) dL_rendered_10 rfl rfl ?_
  refine r_aload_n (x := ma 2) dL_rendered_11 rfl rfl ?_
  refine r_aload_n (x := ma 3) dL_rendered_12 rfl rfl ?_
  refine r_aload (x := ma 6) dL_rendered_13 rfl ?_
  refine r_aload (x := ma 10) dL_rendered_15 rfl ?_
  refine r_iload (x := a8) dL_rendered_17 rfl ?_
  refine r_cs3j (k2 := k_L_renders) (n := 7) (rest := [wi a8, .ref (ma 7)]) rfl kv_L_renders (c_L_renders h hm 10 a8 (Or.inl rfl) (hm 10 (by decide)) _ _) (by decide) um_L_47 rfl (Nat.le_of_ble_eq_true rfl) dL_rendered_19 rfl (fun r1 E2 C3 q4 => ?_)
  refine r_wlast3 h (by decide) (by decide) (hm 7 (by decide)) dL_rendered_22 (fun E5 => ?_)
  refine r_aload_n (x := ma 0) dL_rendered_23 rfl rfl ?_
  refine r_aload (x := ma 6) dL_rendered_24 rfl ?_
  refine r_aload (x := ma 8) dL_rendered_26 rfl ?_
  refine r_iload (x := a8) dL_rendered_28 rfl ?_
  refine r_aload (x := ma 10) dL_rendered_30 rfl ?_
  refine ro_iconst (v := 2) dL_rendered_32 rfl ?_
  refine r_wiald3 h (by decide) (by decide) (hm 10 (by decide)) dL_rendered_33 ?_
  refine r_csv (J := fun (E_ : Rw) => (E_, C3, q4)) (k2 := k_L_sets) (n := 5) (rest := []) (fun _ => rfl) rfl kv_L_sets (c_L_sets (ad := adq ma q4) (K0 := C3) h (adq_hm hm) a8 (E5 10 (ix 2)) _) (by decide) um_L_51 rfl (Nat.le_of_ble_eq_true rfl) dL_rendered_34 rfl (fun r6 E7 => ?_)
  show RunO l Γ k_L_rendered 5 encV (em3 ma) 37 [(9, wi x9_3), (0, .ref (ma 0)), (1, .ref (ma 1)), (2, .ref (ma 2)), (3, .ref (ma 3)), (4, .ref (ma 6)), (5, .ref (ma 7)), (6, .ref (ma 8)), (7, .ref (ma 10)), (8, wi a8)] [] (E7, C3, q4) _
  refine r_aload (x := ma 6) dL_rendered_37 rfl ?_
  refine r_bipush (v := 7) dL_rendered_39 rfl ?_
  refine r_iload (x := a8) dL_rendered_41 rfl ?_
  refine r_imul dL_rendered_43 ?_
  refine r_iload (x := x9_3) dL_rendered_44 rfl ?_
  refine ro_iconst (v := 1) dL_rendered_46 rfl ?_
  refine r_iadd dL_rendered_47 ?_
  refine r_wiast3 h (by decide) (by decide) (hm 6 (by decide)) dL_rendered_48 (fun E8 => ?_)
  refine r_aload (x := ma 6) dL_rendered_49 rfl ?_
  refine r_bipush (v := 7) dL_rendered_51 rfl ?_
  refine r_iload (x := a8) dL_rendered_53 rfl ?_
  refine r_imul dL_rendered_55 ?_
  refine ro_iconst (v := 1) dL_rendered_56 rfl ?_
  refine r_iadd dL_rendered_57 ?_
  refine r_aload (x := ma 10) dL_rendered_58 rfl ?_
  refine ro_iconst (v := 4) dL_rendered_60 rfl ?_
  refine r_wiald3 h (by decide) (by decide) (hm 10 (by decide)) dL_rendered_61 ?_
  refine r_wiast3 h (by decide) (by decide) (hm 6 (by decide)) dL_rendered_62 (fun E9 => ?_)
  refine r_aload (x := ma 6) dL_rendered_63 rfl ?_
  refine r_bipush (v := 7) dL_rendered_65 rfl ?_
  refine r_iload (x := a8) dL_rendered_67 rfl ?_
  refine r_imul dL_rendered_69 ?_
  refine ro_iconst (v := 2) dL_rendered_70 rfl ?_
  refine r_iadd dL_rendered_71 ?_
  refine r_aload (x := ma 10) dL_rendered_72 rfl ?_
  refine ro_iconst (v := 0) dL_rendered_74 rfl ?_
  refine r_wiald3 h (by decide) (by decide) (hm 10 (by decide)) dL_rendered_75 ?_
  refine r_wiast3 h (by decide) (by decide) (hm 6 (by decide)) dL_rendered_76 (fun E10 => ?_)
  refine r_aload (x := ma 6) dL_rendered_77 rfl ?_
  refine r_bipush (v := 7) dL_rendered_79 rfl ?_
  refine r_iload (x := a8) dL_rendered_81 rfl ?_
  refine r_imul dL_rendered_83 ?_
  refine ro_iconst (v := 3) dL_rendered_84 rfl ?_
  refine r_iadd dL_rendered_85 ?_
  refine r_aload (x := ma 10) dL_rendered_86 rfl ?_
  refine ro_iconst (v := 1) dL_rendered_88 rfl ?_
  refine r_wiald3 h (by decide) (by decide) (hm 10 (by decide)) dL_rendered_89 ?_
  refine r_wiast3 h (by decide) (by decide) (hm 6 (by decide)) dL_rendered_90 (fun E11 => ?_)
  refine r_aload (x := ma 6) dL_rendered_91 rfl ?_
  refine r_bipush (v := 7) dL_rendered_93 rfl ?_
  refine r_iload (x := a8) dL_rendered_95 rfl ?_
  refine r_imul dL_rendered_97 ?_
  refine ro_iconst (v := 5) dL_rendered_98 rfl ?_
  refine r_iadd dL_rendered_99 ?_
  refine r_aload (x := ma 10) dL_rendered_100 rfl ?_
  refine ro_iconst (v := 3) dL_rendered_102 rfl ?_
  refine r_wiald3 h (by decide) (by decide) (hm 10 (by decide)) dL_rendered_103 ?_
  refine r_wiast3 h (by decide) (by decide) (hm 6 (by decide)) dL_rendered_104 (fun E12 => ?_)
  exact r_vret rfl dL_rendered_105
set_option maxHeartbeats 8000000 in
set_option maxRecDepth 100000 in
theorem b_L_law {l : Launch} {Γ : Cx} {ma : Nat → Nat} (h : wOn Γ) (hm : ∀ k, k ≤ 10 → ma k ≠ 0) (hG : GK Γ l) {sT : Nat → Nat} (hS : STs Γ sT) (hX : XN Γ) {T : List ExceptionTableEntry} (htb : T = []) {sb : Nat} (xs : Nat → Int32) (Ls : Nat) (a1 : Nat) (hxs : XScr Γ sb Ls xs) (E : Rw) (C : Cd) (q : (Nat → Nat)) : RunO l Γ (kL T) 16 encI (em3 ma) 71 [(0, .ref sb), (1, .ref a1), (2, .ref (ma 0)), (3, .ref (ma 1)), (4, .ref (ma 2)), (5, .ref (ma 3)), (6, .ref (ma 4)), (7, .ref (ma 5)), (8, .ref (ma 6)), (9, .ref (ma 7)), (10, .ref (ma 8)), (11, .ref (ma 9)), (12, .ref (ma 10))] [] (E, C, q) (fW_law xs Ls a1 E C q) := by
  unfold fW_law
  refine r_aload_n (x := a1) dL_law_71 rfl rfl ?_
  refine r_aload_n (x := ma 0) dL_law_72 rfl rfl ?_
  refine r_aload_n (x := ma 1) dL_law_73 rfl rfl ?_
  refine r_aload (x := ma 2) dL_law_74 rfl ?_
  refine r_aload (x := ma 3) dL_law_76 rfl ?_
  refine r_aload (x := ma 4) dL_law_78 rfl ?_
  refine r_aload (x := ma 6) dL_law_80 rfl ?_
  refine r_aload (x := ma 7) dL_law_82 rfl ?_
  refine r_aload (x := ma 8) dL_law_84 rfl ?_
  refine r_aload (x := ma 9) dL_law_86 rfl ?_
  refine ro_iconst (v := 0) dL_law_88 rfl ?_
  refine r_cs3i (k2 := k_L_isWiki) (n := 11) (rest := []) htb kv_L_isWiki (c_L_isWiki h hm hG hX a1 0 _ _ _) (by decide) um_L_180 rfl (Nat.le_of_ble_eq_true rfl) dL_law_89 rfl (fun r1 E2 C3 q4 => ?_)
  refine r_istore (lo2 := [(13, wi r1), (0, .ref sb), (1, .ref a1), (2, .ref (ma 0)), (3, .ref (ma 1)), (4, .ref (ma 2)), (5, .ref (ma 3)), (6, .ref (ma 4)), (7, .ref (ma 5)), (8, .ref (ma 6)), (9, .ref (ma 7)), (10, .ref (ma 8)), (11, .ref (ma 9)), (12, .ref (ma 10))]) dL_law_92 (by decide) rfl ?_
  refine ro_iconst (v := 0) dL_law_94 rfl ?_
  refine r_istore (lo2 := [(14, wi 0), (13, wi r1), (0, .ref sb), (1, .ref a1), (2, .ref (ma 0)), (3, .ref (ma 1)), (4, .ref (ma 2)), (5, .ref (ma 3)), (6, .ref (ma 4)), (7, .ref (ma 5)), (8, .ref (ma 6)), (9, .ref (ma 7)), (10, .ref (ma 8)), (11, .ref (ma 9)), (12, .ref (ma 10))]) dL_law_95 (by decide) rfl ?_
  refine r_loop (P := fun (J : Int → Int → Rw → Cd → (Nat → Nat) → Option (Int × S3)) => ∀ (v13_97 : Int) (v14_97 : Int) (E_97 : Rw) (C_97 : Cd) (q_97 : (Nat → Nat)), RunO l Γ (kL T) 16 encI (em3 ma) 97 [(0, .ref sb), (1, .ref a1), (2, .ref (ma 0)), (3, .ref (ma 1)), (4, .ref (ma 2)), (5, .ref (ma 3)), (6, .ref (ma 4)), (7, .ref (ma 5)), (8, .ref (ma 6)), (9, .ref (ma 7)), (10, .ref (ma 8)), (11, .ref (ma 9)), (12, .ref (ma 10)), (13, wi v13_97), (14, wi v14_97)] [] (E_97, C_97, q_97) (J v13_97 v14_97 E_97 C_97 q_97)) ?_ (fun L97 hL97 => ?_) (fun J97 hJ97 => ?_)
  · intros; exact ro_none
  · intro v13_97 v14_97 E_97 C_97 q_97
    show RunO l Γ (kL T) 16 encI (em3 ma) 97 [(0, .ref sb), (1, .ref a1), (2, .ref (ma 0)), (3, .ref (ma 1)), (4, .ref (ma 2)), (5, .ref (ma 3)), (6, .ref (ma 4)), (7, .ref (ma 5)), (8, .ref (ma 6)), (9, .ref (ma 7)), (10, .ref (ma 8)), (11, .ref (ma 9)), (12, .ref (ma 10)), (13, wi v13_97), (14, wi v14_97)] [] (E_97, C_97, q_97) (fW_law_97 xs Ls a1 L97 v13_97 v14_97 E_97 C_97 q_97)
    unfold fW_law_97
    refine r_iload (x := v14_97) dL_law_97 rfl ?_
    refine r_bipush (v := 100) dL_law_99 rfl ?_
    refine r_join (P := fun (J : Rw → Cd → (Nat → Nat) → Option (Int × S3)) => ∀ (E_1850 : Rw) (C_1850 : Cd) (q_1850 : (Nat → Nat)), RunO l Γ (kL T) 16 encI (em3 ma) 1850 [(1, .ref a1), (2, .ref (ma 0)), (3, .ref (ma 1)), (4, .ref (ma 2)), (5, .ref (ma 3)), (6, .ref (ma 4)), (8, .ref (ma 6)), (9, .ref (ma 7)), (10, .ref (ma 8)), (11, .ref (ma 9)), (13, wi v13_97)] [] (E_1850, C_1850, q_1850) (J E_1850 C_1850 q_1850)) ?_ (fun J1850 hJ1850 => ?_)
    · intro E_1850 C_1850 q_1850
      show RunO l Γ (kL T) 16 encI (em3 ma) 1850 [(1, .ref a1), (2, .ref (ma 0)), (3, .ref (ma 1)), (4, .ref (ma 2)), (5, .ref (ma 3)), (6, .ref (ma 4)), (8, .ref (ma 6)), (9, .ref (ma 7)), (10, .ref (ma 8)), (11, .ref (ma 9)), (13, wi v13_97)] [] (E_1850, C_1850, q_1850) (fW_law_1850 a1 v13_97 E_1850 C_1850 q_1850)
      unfold fW_law_1850
      refine r_iload (x := v13_97) dL_law_1850 rfl ?_
      refine r_join (P := fun (J : Int → Rw → Cd → (Nat → Nat) → Option (Int × S3)) => ∀ (t0_1885 : Int) (E_1885 : Rw) (C_1885 : Cd) (q_1885 : (Nat → Nat)), RunO l Γ (kL T) 16 encI (em3 ma) 1885 [] [wi t0_1885] (E_1885, C_1885, q_1885) (J t0_1885 E_1885 C_1885 q_1885)) ?_ (fun J1885 hJ1885 => ?_)
      · intro t0_1885 E_1885 C_1885 q_1885
        show RunO l Γ (kL T) 16 encI (em3 ma) 1885 [] [wi t0_1885] (E_1885, C_1885, q_1885) (fW_law_1885 t0_1885 E_1885 C_1885 q_1885)
        unfold fW_law_1885
        exact r_zret rfl dL_law_1885
      refine r_join (P := fun (J : Rw → Cd → (Nat → Nat) → Option (Int × S3)) => ∀ (E_1884 : Rw) (C_1884 : Cd) (q_1884 : (Nat → Nat)), RunO l Γ (kL T) 16 encI (em3 ma) 1884 [] [] (E_1884, C_1884, q_1884) (J E_1884 C_1884 q_1884)) ?_ (fun J1884 hJ1884 => ?_)
      · intro E_1884 C_1884 q_1884
        show RunO l Γ (kL T) 16 encI (em3 ma) 1884 [] [] (E_1884, C_1884, q_1884) (fW_law_1884 J1885 E_1884 C_1884 q_1884)
        unfold fW_law_1884
        refine ro_iconst (v := 0) dL_law_1884 rfl ?_
        exact hJ1885 0 E_1884 C_1884 q_1884
      refine r_if_eq (tgt := 1884) dL_law_1852 (by decide) ?_ ?_
      · refine r_lo [] (lo2 := []) rfl ?_
        exact hJ1884 E_1850 C_1850 q_1850
      · refine r_aload_n (x := a1) dL_law_1855 rfl rfl ?_
        refine r_aload_n (x := ma 0) dL_law_1856 rfl rfl ?_
        refine r_aload_n (x := ma 1) dL_law_1857 rfl rfl ?_
        refine r_aload (x := ma 2) dL_law_1858 rfl ?_
        refine r_aload (x := ma 3) dL_law_1860 rfl ?_
        refine r_aload (x := ma 4) dL_law_1862 rfl ?_
        refine r_aload (x := ma 6) dL_law_1864 rfl ?_
        refine r_aload (x := ma 7) dL_law_1866 rfl ?_
        refine r_aload (x := ma 8) dL_law_1868 rfl ?_
        refine r_aload (x := ma 9) dL_law_1870 rfl ?_
        refine r_bipush (v := 13) dL_law_1872 rfl ?_
        refine r_cs3i (k2 := k_L_isWiki) (n := 11) (rest := []) htb kv_L_isWiki (c_L_isWiki h hm hG hX a1 13 _ _ _) (by decide) um_L_180 rfl (Nat.le_of_ble_eq_true rfl) dL_law_1874 rfl (fun r5 E6 C7 q8 => ?_)
        refine r_if_eq (tgt := 1884) dL_law_1877 (by decide) ?_ ?_
        · refine r_lo [] (lo2 := []) rfl ?_
          exact hJ1884 E6 C7 q8
        · refine ro_iconst (v := 1) dL_law_1880 rfl ?_
          refine r_goto (tgt := 1885) dL_law_1881 (by decide) ?_
          refine r_lo [] (lo2 := []) rfl ?_
          exact hJ1885 1 E6 C7 q8
    refine r_icmp_ge (tgt := 1850) dL_law_101 (by decide) ?_ ?_
    · refine r_lo [1, 2, 3, 4, 5, 6, 8, 9, 10, 11, 13] (lo2 := [(1, .ref a1), (2, .ref (ma 0)), (3, .ref (ma 1)), (4, .ref (ma 2)), (5, .ref (ma 3)), (6, .ref (ma 4)), (8, .ref (ma 6)), (9, .ref (ma 7)), (10, .ref (ma 8)), (11, .ref (ma 9)), (13, wi v13_97)]) rfl ?_
      exact hJ1850 E_97 C_97 q_97
    · refine r_iload (x := v13_97) dL_law_104 rfl ?_
      refine r_if_eq (tgt := 1850) dL_law_106 (by decide) ?_ ?_
      · refine r_lo [1, 2, 3, 4, 5, 6, 8, 9, 10, 11, 13] (lo2 := [(1, .ref a1), (2, .ref (ma 0)), (3, .ref (ma 1)), (4, .ref (ma 2)), (5, .ref (ma 3)), (6, .ref (ma 4)), (8, .ref (ma 6)), (9, .ref (ma 7)), (10, .ref (ma 8)), (11, .ref (ma 9)), (13, wi v13_97)]) rfl ?_
        exact hJ1850 E_97 C_97 q_97
      · refine r_iload (x := v14_97) dL_law_109 rfl ?_
        refine r_aload_n (x := sb) dL_law_111 rfl rfl ?_
        refine r_xlen hxs dL_law_112 ?_
        refine r_join (P := fun (J : Int → Rw → Cd → (Nat → Nat) → Option (Int × S3)) => ∀ (t0_147 : Int) (E_147 : Rw) (C_147 : Cd) (q_147 : (Nat → Nat)), RunO l Γ (kL T) 16 encI (em3 ma) 147 [(0, .ref sb), (1, .ref a1), (2, .ref (ma 0)), (3, .ref (ma 1)), (4, .ref (ma 2)), (5, .ref (ma 3)), (6, .ref (ma 4)), (7, .ref (ma 5)), (8, .ref (ma 6)), (9, .ref (ma 7)), (10, .ref (ma 8)), (11, .ref (ma 9)), (12, .ref (ma 10)), (13, wi v13_97), (14, wi v14_97)] [wi t0_147] (E_147, C_147, q_147) (J t0_147 E_147 C_147 q_147)) ?_ (fun J147 hJ147 => ?_)
        · intro t0_147 E_147 C_147 q_147
          show RunO l Γ (kL T) 16 encI (em3 ma) 147 [(0, .ref sb), (1, .ref a1), (2, .ref (ma 0)), (3, .ref (ma 1)), (4, .ref (ma 2)), (5, .ref (ma 3)), (6, .ref (ma 4)), (7, .ref (ma 5)), (8, .ref (ma 6)), (9, .ref (ma 7)), (10, .ref (ma 8)), (11, .ref (ma 9)), (12, .ref (ma 10)), (13, wi v13_97), (14, wi v14_97)] [wi t0_147] (E_147, C_147, q_147) (fW_law_147 a1 L97 v13_97 v14_97 t0_147 E_147 C_147 q_147)
          unfold fW_law_147
          refine r_istore (lo2 := [(15, wi t0_147), (0, .ref sb), (1, .ref a1), (2, .ref (ma 0)), (3, .ref (ma 1)), (4, .ref (ma 2)), (5, .ref (ma 3)), (6, .ref (ma 4)), (7, .ref (ma 5)), (8, .ref (ma 6)), (9, .ref (ma 7)), (10, .ref (ma 8)), (11, .ref (ma 9)), (12, .ref (ma 10)), (13, wi v13_97), (14, wi v14_97)]) dL_law_147 (by decide) rfl ?_
          refine r_iload (x := v14_97) dL_law_149 rfl ?_
          refine ro_iconst (v := 3) dL_law_151 rfl ?_
          refine r_join (P := fun (J : Int → Rw → Cd → (Nat → Nat) → Option (Int × S3)) => ∀ (t0_164 : Int) (E_164 : Rw) (C_164 : Cd) (q_164 : (Nat → Nat)), RunO l Γ (kL T) 16 encI (em3 ma) 164 [(0, .ref sb), (1, .ref a1), (2, .ref (ma 0)), (3, .ref (ma 1)), (4, .ref (ma 2)), (5, .ref (ma 3)), (6, .ref (ma 4)), (7, .ref (ma 5)), (8, .ref (ma 6)), (9, .ref (ma 7)), (10, .ref (ma 8)), (11, .ref (ma 9)), (12, .ref (ma 10)), (13, wi v13_97), (14, wi v14_97), (15, wi t0_147)] [wi t0_164] (E_164, C_164, q_164) (J t0_164 E_164 C_164 q_164)) ?_ (fun J164 hJ164 => ?_)
          · intro t0_164 E_164 C_164 q_164
            show RunO l Γ (kL T) 16 encI (em3 ma) 164 [(0, .ref sb), (1, .ref a1), (2, .ref (ma 0)), (3, .ref (ma 1)), (4, .ref (ma 2)), (5, .ref (ma 3)), (6, .ref (ma 4)), (7, .ref (ma 5)), (8, .ref (ma 6)), (9, .ref (ma 7)), (10, .ref (ma 8)), (11, .ref (ma 9)), (12, .ref (ma 10)), (13, wi v13_97), (14, wi v14_97), (15, wi t0_147)] [wi t0_164] (E_164, C_164, q_164) (fW_law_164 a1 L97 v13_97 v14_97 t0_147 t0_164 E_164 C_164 q_164)
            unfold fW_law_164
            refine r_istore (lo2 := [(16, wi t0_164), (0, .ref sb), (1, .ref a1), (2, .ref (ma 0)), (3, .ref (ma 1)), (4, .ref (ma 2)), (5, .ref (ma 3)), (6, .ref (ma 4)), (7, .ref (ma 5)), (8, .ref (ma 6)), (9, .ref (ma 7)), (10, .ref (ma 8)), (11, .ref (ma 9)), (12, .ref (ma 10)), (13, wi v13_97), (14, wi v14_97), (15, wi t0_147)]) dL_law_164 (by decide) rfl ?_
            refine r_iload (x := t0_147) dL_law_166 rfl ?_
            refine r_bipush (v := 26) dL_law_168 rfl ?_
            refine r_idiv dL_law_170 (by decide) ?_
            refine r_nm (fun x17_171 => ?_)
            refine r_istore (lo2 := [(17, wi x17_171), (16, wi t0_164), (0, .ref sb), (1, .ref a1), (2, .ref (ma 0)), (3, .ref (ma 1)), (4, .ref (ma 2)), (5, .ref (ma 3)), (6, .ref (ma 4)), (7, .ref (ma 5)), (8, .ref (ma 6)), (9, .ref (ma 7)), (10, .ref (ma 8)), (11, .ref (ma 9)), (12, .ref (ma 10)), (13, wi v13_97), (14, wi v14_97), (15, wi t0_147)]) dL_law_171 (by decide) rfl ?_
            refine r_iload (x := v14_97) dL_law_173 rfl ?_
            refine ro_iconst (v := 3) dL_law_175 rfl ?_
            refine r_join (P := fun (J : Int → Rw → Cd → (Nat → Nat) → Option (Int × S3)) => ∀ (t0_189 : Int) (E_189 : Rw) (C_189 : Cd) (q_189 : (Nat → Nat)), RunO l Γ (kL T) 16 encI (em3 ma) 189 [(0, .ref sb), (1, .ref a1), (2, .ref (ma 0)), (3, .ref (ma 1)), (4, .ref (ma 2)), (5, .ref (ma 3)), (6, .ref (ma 4)), (7, .ref (ma 5)), (8, .ref (ma 6)), (9, .ref (ma 7)), (10, .ref (ma 8)), (11, .ref (ma 9)), (12, .ref (ma 10)), (13, wi v13_97), (14, wi v14_97), (16, wi t0_164), (17, wi x17_171)] [wi t0_189] (E_189, C_189, q_189) (J t0_189 E_189 C_189 q_189)) ?_ (fun J189 hJ189 => ?_)
            · intro t0_189 E_189 C_189 q_189
              show RunO l Γ (kL T) 16 encI (em3 ma) 189 [(0, .ref sb), (1, .ref a1), (2, .ref (ma 0)), (3, .ref (ma 1)), (4, .ref (ma 2)), (5, .ref (ma 3)), (6, .ref (ma 4)), (7, .ref (ma 5)), (8, .ref (ma 6)), (9, .ref (ma 7)), (10, .ref (ma 8)), (11, .ref (ma 9)), (12, .ref (ma 10)), (13, wi v13_97), (14, wi v14_97), (16, wi t0_164), (17, wi x17_171)] [wi t0_189] (E_189, C_189, q_189) (fW_law_189 a1 L97 v13_97 v14_97 t0_164 x17_171 t0_189 E_189 C_189 q_189)
              unfold fW_law_189
              refine r_istore (lo2 := [(18, wi t0_189), (0, .ref sb), (1, .ref a1), (2, .ref (ma 0)), (3, .ref (ma 1)), (4, .ref (ma 2)), (5, .ref (ma 3)), (6, .ref (ma 4)), (7, .ref (ma 5)), (8, .ref (ma 6)), (9, .ref (ma 7)), (10, .ref (ma 8)), (11, .ref (ma 9)), (12, .ref (ma 10)), (13, wi v13_97), (14, wi v14_97), (16, wi t0_164), (17, wi x17_171)]) dL_law_189 (by decide) rfl ?_
              refine r_aload_n (x := ma 1) dL_law_191 rfl rfl ?_
              refine r_iload (x := t0_189) dL_law_192 rfl ?_
              refine r_wiald3 h (by decide) (by decide) (hm 1 (by decide)) dL_law_194 ?_
              refine r_join (P := fun (J : Int → Rw → Cd → (Nat → Nat) → Option (Int × S3)) => ∀ (t0_203 : Int) (E_203 : Rw) (C_203 : Cd) (q_203 : (Nat → Nat)), RunO l Γ (kL T) 16 encI (em3 ma) 203 [(0, .ref sb), (1, .ref a1), (2, .ref (ma 0)), (3, .ref (ma 1)), (4, .ref (ma 2)), (5, .ref (ma 3)), (6, .ref (ma 4)), (7, .ref (ma 5)), (8, .ref (ma 6)), (9, .ref (ma 7)), (10, .ref (ma 8)), (11, .ref (ma 9)), (12, .ref (ma 10)), (13, wi v13_97), (14, wi v14_97), (16, wi t0_164), (17, wi x17_171), (18, wi t0_189)] [wi t0_203] (E_203, C_203, q_203) (J t0_203 E_203 C_203 q_203)) ?_ (fun J203 hJ203 => ?_)
              · intro t0_203 E_203 C_203 q_203
                show RunO l Γ (kL T) 16 encI (em3 ma) 203 [(0, .ref sb), (1, .ref a1), (2, .ref (ma 0)), (3, .ref (ma 1)), (4, .ref (ma 2)), (5, .ref (ma 3)), (6, .ref (ma 4)), (7, .ref (ma 5)), (8, .ref (ma 6)), (9, .ref (ma 7)), (10, .ref (ma 8)), (11, .ref (ma 9)), (12, .ref (ma 10)), (13, wi v13_97), (14, wi v14_97), (16, wi t0_164), (17, wi x17_171), (18, wi t0_189)] [wi t0_203] (E_203, C_203, q_203) (fW_law_203 a1 L97 v13_97 v14_97 t0_164 x17_171 t0_189 t0_203 E_203 C_203 q_203)
                unfold fW_law_203
                refine r_istore (lo2 := [(19, wi t0_203), (0, .ref sb), (1, .ref a1), (2, .ref (ma 0)), (3, .ref (ma 1)), (4, .ref (ma 2)), (5, .ref (ma 3)), (6, .ref (ma 4)), (7, .ref (ma 5)), (8, .ref (ma 6)), (9, .ref (ma 7)), (10, .ref (ma 8)), (11, .ref (ma 9)), (12, .ref (ma 10)), (13, wi v13_97), (14, wi v14_97), (16, wi t0_164), (17, wi x17_171), (18, wi t0_189)]) dL_law_203 (by decide) rfl ?_
                refine r_aload_n (x := ma 0) dL_law_205 rfl rfl ?_
                refine r_aload_n (x := ma 1) dL_law_206 rfl rfl ?_
                refine r_aload (x := ma 2) dL_law_207 rfl ?_
                refine r_iload (x := t0_189) dL_law_209 rfl ?_
                refine r_csi (J := fun (E_ : Rw) => (E_, C_203, q_203)) (k2 := k_L_present) (n := 4) (rest := []) (fun _ => rfl) htb kv_L_present (c_L_present (ad := adq ma q_203) (K0 := C_203) h (adq_hm hm) t0_189 _) (by decide) um_L_15 rfl (Nat.le_of_ble_eq_true rfl) dL_law_211 rfl (fun r9 E10 => ?_)
                show RunO l Γ (kL T) 16 encI (em3 ma) 214 [(19, wi t0_203), (0, .ref sb), (1, .ref a1), (2, .ref (ma 0)), (3, .ref (ma 1)), (4, .ref (ma 2)), (5, .ref (ma 3)), (6, .ref (ma 4)), (7, .ref (ma 5)), (8, .ref (ma 6)), (9, .ref (ma 7)), (10, .ref (ma 8)), (11, .ref (ma 9)), (12, .ref (ma 10)), (13, wi v13_97), (14, wi v14_97), (16, wi t0_164), (17, wi x17_171), (18, wi t0_189)] [wi r9] (E10, C_203, q_203) _
                refine r_istore (lo2 := [(20, wi r9), (19, wi t0_203), (0, .ref sb), (1, .ref a1), (2, .ref (ma 0)), (3, .ref (ma 1)), (4, .ref (ma 2)), (5, .ref (ma 3)), (6, .ref (ma 4)), (7, .ref (ma 5)), (8, .ref (ma 6)), (9, .ref (ma 7)), (10, .ref (ma 8)), (11, .ref (ma 9)), (12, .ref (ma 10)), (13, wi v13_97), (14, wi v14_97), (16, wi t0_164), (17, wi x17_171), (18, wi t0_189)]) dL_law_214 (by decide) rfl ?_
                refine r_iload (x := x17_171) dL_law_216 rfl ?_
                refine r_bipush (v := 8) dL_law_218 rfl ?_
                refine r_idiv dL_law_220 (by decide) ?_
                refine r_csj (J := fun (_ : Unit) => (E10, C_203, q_203)) (k2 := k_L_drawn) (n := 1) (rest := []) (fun _ => rfl) htb kv_L_drawn (c_L_drawn (σ0 := _) (divI x17_171 8)) (by decide) um_L_186 rfl (Nat.le_of_ble_eq_true rfl) dL_law_221 rfl (fun r11 _ => ?_)
                show RunO l Γ (kL T) 16 encI (em3 ma) 224 [(20, wi r9), (19, wi t0_203), (0, .ref sb), (1, .ref a1), (2, .ref (ma 0)), (3, .ref (ma 1)), (4, .ref (ma 2)), (5, .ref (ma 3)), (6, .ref (ma 4)), (7, .ref (ma 5)), (8, .ref (ma 6)), (9, .ref (ma 7)), (10, .ref (ma 8)), (11, .ref (ma 9)), (12, .ref (ma 10)), (13, wi v13_97), (14, wi v14_97), (16, wi t0_164), (17, wi x17_171), (18, wi t0_189)] [vl r11] (E10, C_203, q_203) _
                refine r_lstore (lo2 := [(21, vl r11), (20, wi r9), (19, wi t0_203), (0, .ref sb), (1, .ref a1), (2, .ref (ma 0)), (3, .ref (ma 1)), (4, .ref (ma 2)), (5, .ref (ma 3)), (6, .ref (ma 4)), (7, .ref (ma 5)), (8, .ref (ma 6)), (9, .ref (ma 7)), (10, .ref (ma 8)), (11, .ref (ma 9)), (12, .ref (ma 10)), (13, wi v13_97), (14, wi v14_97), (16, wi t0_164), (17, wi x17_171), (18, wi t0_189)]) dL_law_224 (by decide) rfl ?_
                refine r_iload (x := x17_171) dL_law_226 rfl ?_
                refine r_bipush (v := 8) dL_law_228 rfl ?_
                refine r_idiv dL_law_230 (by decide) ?_
                refine r_bipush (v := 8) dL_law_231 rfl ?_
                refine r_irem dL_law_233 (by decide) ?_
                refine r_nm (fun x23_234 => ?_)
                refine r_istore (lo2 := [(23, wi x23_234), (21, vl r11), (20, wi r9), (19, wi t0_203), (0, .ref sb), (1, .ref a1), (2, .ref (ma 0)), (3, .ref (ma 1)), (4, .ref (ma 2)), (5, .ref (ma 3)), (6, .ref (ma 4)), (7, .ref (ma 5)), (8, .ref (ma 6)), (9, .ref (ma 7)), (10, .ref (ma 8)), (11, .ref (ma 9)), (12, .ref (ma 10)), (13, wi v13_97), (14, wi v14_97), (16, wi t0_164), (17, wi x17_171), (18, wi t0_189)]) dL_law_234 (by decide) rfl ?_
                refine r_iload (x := t0_164) dL_law_236 rfl ?_
                refine ro_iconst (v := 5) dL_law_238 rfl ?_
                refine r_join (P := fun (J : Int → Rw → Cd → (Nat → Nat) → Option (Int × S3)) => ∀ (v13_1788 : Int) (E_1788 : Rw) (C_1788 : Cd) (q_1788 : (Nat → Nat)), RunO l Γ (kL T) 16 encI (em3 ma) 1788 [(0, .ref sb), (1, .ref a1), (2, .ref (ma 0)), (3, .ref (ma 1)), (4, .ref (ma 2)), (5, .ref (ma 3)), (6, .ref (ma 4)), (7, .ref (ma 5)), (8, .ref (ma 6)), (9, .ref (ma 7)), (10, .ref (ma 8)), (11, .ref (ma 9)), (12, .ref (ma 10)), (13, wi v13_1788), (14, wi v14_97), (17, wi x17_171)] [] (E_1788, C_1788, q_1788) (J v13_1788 E_1788 C_1788 q_1788)) ?_ (fun J1788 hJ1788 => ?_)
                · intro v13_1788 E_1788 C_1788 q_1788
                  show RunO l Γ (kL T) 16 encI (em3 ma) 1788 [(0, .ref sb), (1, .ref a1), (2, .ref (ma 0)), (3, .ref (ma 1)), (4, .ref (ma 2)), (5, .ref (ma 3)), (6, .ref (ma 4)), (7, .ref (ma 5)), (8, .ref (ma 6)), (9, .ref (ma 7)), (10, .ref (ma 8)), (11, .ref (ma 9)), (12, .ref (ma 10)), (13, wi v13_1788), (14, wi v14_97), (17, wi x17_171)] [] (E_1788, C_1788, q_1788) (fW_law_1788 a1 L97 v14_97 x17_171 v13_1788 E_1788 C_1788 q_1788)
                  unfold fW_law_1788
                  refine r_aload_n (x := ma 0) dL_law_1788 rfl rfl ?_
                  refine r_aload_n (x := ma 1) dL_law_1789 rfl rfl ?_
                  refine r_aload (x := ma 2) dL_law_1790 rfl ?_
                  refine r_aload (x := ma 4) dL_law_1792 rfl ?_
                  refine r_aload (x := ma 5) dL_law_1794 rfl ?_
                  refine r_csv (J := fun (E_ : Rw) => (E_, C_1788, q_1788)) (k2 := k_L_settles) (n := 5) (rest := []) (fun _ => rfl) htb kv_L_settles (c_L_settles (ad := adq ma q_1788) (K0 := C_1788) h (adq_hm hm)  _) (by decide) um_L_231 rfl (Nat.le_of_ble_eq_true rfl) dL_law_1796 rfl (fun r12 E13 => ?_)
                  show RunO l Γ (kL T) 16 encI (em3 ma) 1799 [(0, .ref sb), (1, .ref a1), (2, .ref (ma 0)), (3, .ref (ma 1)), (4, .ref (ma 2)), (5, .ref (ma 3)), (6, .ref (ma 4)), (7, .ref (ma 5)), (8, .ref (ma 6)), (9, .ref (ma 7)), (10, .ref (ma 8)), (11, .ref (ma 9)), (12, .ref (ma 10)), (13, wi v13_1788), (14, wi v14_97), (17, wi x17_171)] [] (E13, C_1788, q_1788) _
                  refine r_iload (x := v13_1788) dL_law_1799 rfl ?_
                  refine r_join (P := fun (J : Int → Rw → Cd → (Nat → Nat) → Option (Int × S3)) => ∀ (t0_1842 : Int) (E_1842 : Rw) (C_1842 : Cd) (q_1842 : (Nat → Nat)), RunO l Γ (kL T) 16 encI (em3 ma) 1842 [(0, .ref sb), (1, .ref a1), (2, .ref (ma 0)), (3, .ref (ma 1)), (4, .ref (ma 2)), (5, .ref (ma 3)), (6, .ref (ma 4)), (7, .ref (ma 5)), (8, .ref (ma 6)), (9, .ref (ma 7)), (10, .ref (ma 8)), (11, .ref (ma 9)), (12, .ref (ma 10)), (14, wi v14_97)] [wi t0_1842] (E_1842, C_1842, q_1842) (J t0_1842 E_1842 C_1842 q_1842)) ?_ (fun J1842 hJ1842 => ?_)
                  · intro t0_1842 E_1842 C_1842 q_1842
                    show RunO l Γ (kL T) 16 encI (em3 ma) 1842 [(0, .ref sb), (1, .ref a1), (2, .ref (ma 0)), (3, .ref (ma 1)), (4, .ref (ma 2)), (5, .ref (ma 3)), (6, .ref (ma 4)), (7, .ref (ma 5)), (8, .ref (ma 6)), (9, .ref (ma 7)), (10, .ref (ma 8)), (11, .ref (ma 9)), (12, .ref (ma 10)), (14, wi v14_97)] [wi t0_1842] (E_1842, C_1842, q_1842) (fW_law_1842 L97 v14_97 t0_1842 E_1842 C_1842 q_1842)
                    unfold fW_law_1842
                    refine r_istore (lo2 := [(13, wi t0_1842), (0, .ref sb), (1, .ref a1), (2, .ref (ma 0)), (3, .ref (ma 1)), (4, .ref (ma 2)), (5, .ref (ma 3)), (6, .ref (ma 4)), (7, .ref (ma 5)), (8, .ref (ma 6)), (9, .ref (ma 7)), (10, .ref (ma 8)), (11, .ref (ma 9)), (12, .ref (ma 10)), (14, wi v14_97)]) dL_law_1842 (by decide) rfl ?_
                    refine r_iinc (x := v14_97) (lo2 := [(14, wi (v14_97 + 1)), (13, wi t0_1842), (0, .ref sb), (1, .ref a1), (2, .ref (ma 0)), (3, .ref (ma 1)), (4, .ref (ma 2)), (5, .ref (ma 3)), (6, .ref (ma 4)), (7, .ref (ma 5)), (8, .ref (ma 6)), (9, .ref (ma 7)), (10, .ref (ma 8)), (11, .ref (ma 9)), (12, .ref (ma 10))]) dL_law_1844 rfl (by decide) rfl ?_
                    refine r_goto (tgt := 97) dL_law_1847 (by decide) ?_
                    refine r_lo [2, 3, 4, 5, 6, 7, 8, 9, 10, 11, 12, 13, 14, 1, 0] (lo2 := [(0, .ref sb), (1, .ref a1), (2, .ref (ma 0)), (3, .ref (ma 1)), (4, .ref (ma 2)), (5, .ref (ma 3)), (6, .ref (ma 4)), (7, .ref (ma 5)), (8, .ref (ma 6)), (9, .ref (ma 7)), (10, .ref (ma 8)), (11, .ref (ma 9)), (12, .ref (ma 10)), (13, wi t0_1842), (14, wi (v14_97 + 1))]) rfl ?_
                    exact hL97 t0_1842 (v14_97 + 1) E_1842 C_1842 q_1842
                  refine r_join (P := fun (J : Rw → Cd → (Nat → Nat) → Option (Int × S3)) => ∀ (E_1841 : Rw) (C_1841 : Cd) (q_1841 : (Nat → Nat)), RunO l Γ (kL T) 16 encI (em3 ma) 1841 [(0, .ref sb), (1, .ref a1), (2, .ref (ma 0)), (3, .ref (ma 1)), (4, .ref (ma 2)), (5, .ref (ma 3)), (6, .ref (ma 4)), (7, .ref (ma 5)), (8, .ref (ma 6)), (9, .ref (ma 7)), (10, .ref (ma 8)), (11, .ref (ma 9)), (12, .ref (ma 10)), (14, wi v14_97)] [] (E_1841, C_1841, q_1841) (J E_1841 C_1841 q_1841)) ?_ (fun J1841 hJ1841 => ?_)
                  · intro E_1841 C_1841 q_1841
                    show RunO l Γ (kL T) 16 encI (em3 ma) 1841 [(0, .ref sb), (1, .ref a1), (2, .ref (ma 0)), (3, .ref (ma 1)), (4, .ref (ma 2)), (5, .ref (ma 3)), (6, .ref (ma 4)), (7, .ref (ma 5)), (8, .ref (ma 6)), (9, .ref (ma 7)), (10, .ref (ma 8)), (11, .ref (ma 9)), (12, .ref (ma 10)), (14, wi v14_97)] [] (E_1841, C_1841, q_1841) (fW_law_1841 J1842 E_1841 C_1841 q_1841)
                    unfold fW_law_1841
                    refine ro_iconst (v := 0) dL_law_1841 rfl ?_
                    exact hJ1842 0 E_1841 C_1841 q_1841
                  refine r_if_eq (tgt := 1841) dL_law_1801 (by decide) ?_ ?_
                  · refine r_lo [0, 1, 2, 3, 4, 5, 6, 7, 8, 9, 10, 11, 12, 14] (lo2 := [(0, .ref sb), (1, .ref a1), (2, .ref (ma 0)), (3, .ref (ma 1)), (4, .ref (ma 2)), (5, .ref (ma 3)), (6, .ref (ma 4)), (7, .ref (ma 5)), (8, .ref (ma 6)), (9, .ref (ma 7)), (10, .ref (ma 8)), (11, .ref (ma 9)), (12, .ref (ma 10)), (14, wi v14_97)]) rfl ?_
                    exact hJ1841 E13 C_1788 q_1788
                  · refine r_iload (x := v14_97) dL_law_1804 rfl ?_
                    refine ro_iconst (v := 5) dL_law_1806 rfl ?_
                    refine r_irem dL_law_1807 (by decide) ?_
                    refine ro_iconst (v := 4) dL_law_1808 rfl ?_
                    refine r_join (P := fun (J : Rw → Cd → (Nat → Nat) → Option (Int × S3)) => ∀ (E_1837 : Rw) (C_1837 : Cd) (q_1837 : (Nat → Nat)), RunO l Γ (kL T) 16 encI (em3 ma) 1837 [(0, .ref sb), (1, .ref a1), (2, .ref (ma 0)), (3, .ref (ma 1)), (4, .ref (ma 2)), (5, .ref (ma 3)), (6, .ref (ma 4)), (7, .ref (ma 5)), (8, .ref (ma 6)), (9, .ref (ma 7)), (10, .ref (ma 8)), (11, .ref (ma 9)), (12, .ref (ma 10)), (14, wi v14_97)] [] (E_1837, C_1837, q_1837) (J E_1837 C_1837 q_1837)) ?_ (fun J1837 hJ1837 => ?_)
                    · intro E_1837 C_1837 q_1837
                      show RunO l Γ (kL T) 16 encI (em3 ma) 1837 [(0, .ref sb), (1, .ref a1), (2, .ref (ma 0)), (3, .ref (ma 1)), (4, .ref (ma 2)), (5, .ref (ma 3)), (6, .ref (ma 4)), (7, .ref (ma 5)), (8, .ref (ma 6)), (9, .ref (ma 7)), (10, .ref (ma 8)), (11, .ref (ma 9)), (12, .ref (ma 10)), (14, wi v14_97)] [] (E_1837, C_1837, q_1837) (fW_law_1837 J1842 E_1837 C_1837 q_1837)
                      unfold fW_law_1837
                      refine ro_iconst (v := 1) dL_law_1837 rfl ?_
                      refine r_goto (tgt := 1842) dL_law_1838 (by decide) ?_
                      exact hJ1842 1 E_1837 C_1837 q_1837
                    refine r_icmp_lt (tgt := 1837) dL_law_1809 (by decide) ?_ ?_
                    · refine r_lo [0, 1, 2, 3, 4, 5, 6, 7, 8, 9, 10, 11, 12, 14] (lo2 := [(0, .ref sb), (1, .ref a1), (2, .ref (ma 0)), (3, .ref (ma 1)), (4, .ref (ma 2)), (5, .ref (ma 3)), (6, .ref (ma 4)), (7, .ref (ma 5)), (8, .ref (ma 6)), (9, .ref (ma 7)), (10, .ref (ma 8)), (11, .ref (ma 9)), (12, .ref (ma 10)), (14, wi v14_97)]) rfl ?_
                      exact hJ1837 E13 C_1788 q_1788
                    · refine r_aload_n (x := a1) dL_law_1812 rfl rfl ?_
                      refine r_aload_n (x := ma 0) dL_law_1813 rfl rfl ?_
                      refine r_aload_n (x := ma 1) dL_law_1814 rfl rfl ?_
                      refine r_aload (x := ma 2) dL_law_1815 rfl ?_
                      refine r_aload (x := ma 3) dL_law_1817 rfl ?_
                      refine r_aload (x := ma 4) dL_law_1819 rfl ?_
                      refine r_aload (x := ma 6) dL_law_1821 rfl ?_
                      refine r_aload (x := ma 7) dL_law_1823 rfl ?_
                      refine r_aload (x := ma 8) dL_law_1825 rfl ?_
                      refine r_aload (x := ma 9) dL_law_1827 rfl ?_
                      refine r_iload (x := x17_171) dL_law_1829 rfl ?_
                      refine r_cs3i (k2 := k_L_isWiki) (n := 11) (rest := []) htb kv_L_isWiki (c_L_isWiki h hm hG hX a1 x17_171 _ _ _) (by decide) um_L_180 rfl (Nat.le_of_ble_eq_true rfl) dL_law_1831 rfl (fun r14 E15 C16 q17 => ?_)
                      refine r_if_eq (tgt := 1841) dL_law_1834 (by decide) ?_ ?_
                      · refine r_lo [0, 1, 2, 3, 4, 5, 6, 7, 8, 9, 10, 11, 12, 14] (lo2 := [(0, .ref sb), (1, .ref a1), (2, .ref (ma 0)), (3, .ref (ma 1)), (4, .ref (ma 2)), (5, .ref (ma 3)), (6, .ref (ma 4)), (7, .ref (ma 5)), (8, .ref (ma 6)), (9, .ref (ma 7)), (10, .ref (ma 8)), (11, .ref (ma 9)), (12, .ref (ma 10)), (14, wi v14_97)]) rfl ?_
                        exact hJ1841 E15 C16 q17
                      · refine r_lo [0, 1, 2, 3, 4, 5, 6, 7, 8, 9, 10, 11, 12, 14] (lo2 := [(0, .ref sb), (1, .ref a1), (2, .ref (ma 0)), (3, .ref (ma 1)), (4, .ref (ma 2)), (5, .ref (ma 3)), (6, .ref (ma 4)), (7, .ref (ma 5)), (8, .ref (ma 6)), (9, .ref (ma 7)), (10, .ref (ma 8)), (11, .ref (ma 9)), (12, .ref (ma 10)), (14, wi v14_97)]) rfl ?_
                        exact hJ1837 E15 C16 q17
                refine r_join (P := fun (J : Rw → Cd → (Nat → Nat) → Option (Int × S3)) => ∀ (E_352 : Rw) (C_352 : Cd) (q_352 : (Nat → Nat)), RunO l Γ (kL T) 16 encI (em3 ma) 352 [(0, .ref sb), (1, .ref a1), (2, .ref (ma 0)), (3, .ref (ma 1)), (4, .ref (ma 2)), (5, .ref (ma 3)), (6, .ref (ma 4)), (7, .ref (ma 5)), (8, .ref (ma 6)), (9, .ref (ma 7)), (10, .ref (ma 8)), (11, .ref (ma 9)), (12, .ref (ma 10)), (13, wi v13_97), (14, wi v14_97), (16, wi t0_164), (17, wi x17_171), (18, wi t0_189), (19, wi t0_203), (20, wi r9), (21, vl r11), (23, wi x23_234)] [] (E_352, C_352, q_352) (J E_352 C_352 q_352)) ?_ (fun J352 hJ352 => ?_)
                · intro E_352 C_352 q_352
                  show RunO l Γ (kL T) 16 encI (em3 ma) 352 [(0, .ref sb), (1, .ref a1), (2, .ref (ma 0)), (3, .ref (ma 1)), (4, .ref (ma 2)), (5, .ref (ma 3)), (6, .ref (ma 4)), (7, .ref (ma 5)), (8, .ref (ma 6)), (9, .ref (ma 7)), (10, .ref (ma 8)), (11, .ref (ma 9)), (12, .ref (ma 10)), (13, wi v13_97), (14, wi v14_97), (16, wi t0_164), (17, wi x17_171), (18, wi t0_189), (19, wi t0_203), (20, wi r9), (21, vl r11), (23, wi x23_234)] [] (E_352, C_352, q_352) (fW_law_352 a1 v13_97 t0_164 x17_171 t0_189 t0_203 r9 r11 x23_234 J1788 E_352 C_352 q_352)
                  unfold fW_law_352
                  refine r_iload (x := t0_164) dL_law_352 rfl ?_
                  refine r_bipush (v := 10) dL_law_354 rfl ?_
                  refine r_join (P := fun (J : Rw → Cd → (Nat → Nat) → Option (Int × S3)) => ∀ (E_696 : Rw) (C_696 : Cd) (q_696 : (Nat → Nat)), RunO l Γ (kL T) 16 encI (em3 ma) 696 [(0, .ref sb), (1, .ref a1), (2, .ref (ma 0)), (3, .ref (ma 1)), (4, .ref (ma 2)), (5, .ref (ma 3)), (6, .ref (ma 4)), (7, .ref (ma 5)), (8, .ref (ma 6)), (9, .ref (ma 7)), (10, .ref (ma 8)), (11, .ref (ma 9)), (12, .ref (ma 10)), (13, wi v13_97), (14, wi v14_97), (16, wi t0_164), (17, wi x17_171), (18, wi t0_189), (19, wi t0_203), (20, wi r9), (21, vl r11), (23, wi x23_234)] [] (E_696, C_696, q_696) (J E_696 C_696 q_696)) ?_ (fun J696 hJ696 => ?_)
                  · intro E_696 C_696 q_696
                    show RunO l Γ (kL T) 16 encI (em3 ma) 696 [(0, .ref sb), (1, .ref a1), (2, .ref (ma 0)), (3, .ref (ma 1)), (4, .ref (ma 2)), (5, .ref (ma 3)), (6, .ref (ma 4)), (7, .ref (ma 5)), (8, .ref (ma 6)), (9, .ref (ma 7)), (10, .ref (ma 8)), (11, .ref (ma 9)), (12, .ref (ma 10)), (13, wi v13_97), (14, wi v14_97), (16, wi t0_164), (17, wi x17_171), (18, wi t0_189), (19, wi t0_203), (20, wi r9), (21, vl r11), (23, wi x23_234)] [] (E_696, C_696, q_696) (fW_law_696 a1 v13_97 t0_164 x17_171 t0_189 t0_203 r9 r11 x23_234 J1788 E_696 C_696 q_696)
                    unfold fW_law_696
                    refine r_iload (x := t0_164) dL_law_696 rfl ?_
                    refine r_bipush (v := 10) dL_law_698 rfl ?_
                    refine r_join (P := fun (J : Rw → Cd → (Nat → Nat) → Option (Int × S3)) => ∀ (E_933 : Rw) (C_933 : Cd) (q_933 : (Nat → Nat)), RunO l Γ (kL T) 16 encI (em3 ma) 933 [(0, .ref sb), (1, .ref a1), (2, .ref (ma 0)), (3, .ref (ma 1)), (4, .ref (ma 2)), (5, .ref (ma 3)), (6, .ref (ma 4)), (7, .ref (ma 5)), (8, .ref (ma 6)), (9, .ref (ma 7)), (10, .ref (ma 8)), (11, .ref (ma 9)), (12, .ref (ma 10)), (14, wi v14_97), (16, wi t0_164), (17, wi x17_171), (18, wi t0_189), (19, wi t0_203), (20, wi r9), (21, vl r11), (23, wi x23_234)] [] (E_933, C_933, q_933) (J E_933 C_933 q_933)) ?_ (fun J933 hJ933 => ?_)
                    · intro E_933 C_933 q_933
                      show RunO l Γ (kL T) 16 encI (em3 ma) 933 [(0, .ref sb), (1, .ref a1), (2, .ref (ma 0)), (3, .ref (ma 1)), (4, .ref (ma 2)), (5, .ref (ma 3)), (6, .ref (ma 4)), (7, .ref (ma 5)), (8, .ref (ma 6)), (9, .ref (ma 7)), (10, .ref (ma 8)), (11, .ref (ma 9)), (12, .ref (ma 10)), (14, wi v14_97), (16, wi t0_164), (17, wi x17_171), (18, wi t0_189), (19, wi t0_203), (20, wi r9), (21, vl r11), (23, wi x23_234)] [] (E_933, C_933, q_933) (fW_law_933 a1 t0_164 x17_171 t0_189 t0_203 r9 r11 x23_234 J1788 E_933 C_933 q_933)
                      unfold fW_law_933
                      refine r_iload (x := t0_164) dL_law_933 rfl ?_
                      refine r_bipush (v := 11) dL_law_935 rfl ?_
                      refine r_join (P := fun (J : Rw → Cd → (Nat → Nat) → Option (Int × S3)) => ∀ (E_1066 : Rw) (C_1066 : Cd) (q_1066 : (Nat → Nat)), RunO l Γ (kL T) 16 encI (em3 ma) 1066 [(0, .ref sb), (1, .ref a1), (2, .ref (ma 0)), (3, .ref (ma 1)), (4, .ref (ma 2)), (5, .ref (ma 3)), (6, .ref (ma 4)), (7, .ref (ma 5)), (8, .ref (ma 6)), (9, .ref (ma 7)), (10, .ref (ma 8)), (11, .ref (ma 9)), (12, .ref (ma 10)), (14, wi v14_97), (16, wi t0_164), (17, wi x17_171), (18, wi t0_189), (19, wi t0_203), (20, wi r9), (23, wi x23_234)] [] (E_1066, C_1066, q_1066) (J E_1066 C_1066 q_1066)) ?_ (fun J1066 hJ1066 => ?_)
                      · intro E_1066 C_1066 q_1066
                        show RunO l Γ (kL T) 16 encI (em3 ma) 1066 [(0, .ref sb), (1, .ref a1), (2, .ref (ma 0)), (3, .ref (ma 1)), (4, .ref (ma 2)), (5, .ref (ma 3)), (6, .ref (ma 4)), (7, .ref (ma 5)), (8, .ref (ma 6)), (9, .ref (ma 7)), (10, .ref (ma 8)), (11, .ref (ma 9)), (12, .ref (ma 10)), (14, wi v14_97), (16, wi t0_164), (17, wi x17_171), (18, wi t0_189), (19, wi t0_203), (20, wi r9), (23, wi x23_234)] [] (E_1066, C_1066, q_1066) (fW_law_1066 a1 t0_164 x17_171 t0_189 t0_203 r9 x23_234 J1788 E_1066 C_1066 q_1066)
                        unfold fW_law_1066
                        refine r_iload (x := t0_164) dL_law_1066 rfl ?_
                        refine r_bipush (v := 14) dL_law_1068 rfl ?_
                        refine r_join (P := fun (J : Rw → Cd → (Nat → Nat) → Option (Int × S3)) => ∀ (E_1231 : Rw) (C_1231 : Cd) (q_1231 : (Nat → Nat)), RunO l Γ (kL T) 16 encI (em3 ma) 1231 [(0, .ref sb), (1, .ref a1), (2, .ref (ma 0)), (3, .ref (ma 1)), (4, .ref (ma 2)), (5, .ref (ma 3)), (6, .ref (ma 4)), (7, .ref (ma 5)), (8, .ref (ma 6)), (9, .ref (ma 7)), (10, .ref (ma 8)), (11, .ref (ma 9)), (12, .ref (ma 10)), (14, wi v14_97), (16, wi t0_164), (17, wi x17_171), (18, wi t0_189), (19, wi t0_203), (20, wi r9), (23, wi x23_234)] [] (E_1231, C_1231, q_1231) (J E_1231 C_1231 q_1231)) ?_ (fun J1231 hJ1231 => ?_)
                        · intro E_1231 C_1231 q_1231
                          show RunO l Γ (kL T) 16 encI (em3 ma) 1231 [(0, .ref sb), (1, .ref a1), (2, .ref (ma 0)), (3, .ref (ma 1)), (4, .ref (ma 2)), (5, .ref (ma 3)), (6, .ref (ma 4)), (7, .ref (ma 5)), (8, .ref (ma 6)), (9, .ref (ma 7)), (10, .ref (ma 8)), (11, .ref (ma 9)), (12, .ref (ma 10)), (14, wi v14_97), (16, wi t0_164), (17, wi x17_171), (18, wi t0_189), (19, wi t0_203), (20, wi r9), (23, wi x23_234)] [] (E_1231, C_1231, q_1231) (fW_law_1231 a1 t0_164 x17_171 t0_189 t0_203 r9 x23_234 J1788 E_1231 C_1231 q_1231)
                          unfold fW_law_1231
                          refine r_iload (x := t0_164) dL_law_1231 rfl ?_
                          refine r_bipush (v := 14) dL_law_1233 rfl ?_
                          refine r_join (P := fun (J : Rw → Cd → (Nat → Nat) → Option (Int × S3)) => ∀ (E_1273 : Rw) (C_1273 : Cd) (q_1273 : (Nat → Nat)), RunO l Γ (kL T) 16 encI (em3 ma) 1273 [(0, .ref sb), (1, .ref a1), (2, .ref (ma 0)), (3, .ref (ma 1)), (4, .ref (ma 2)), (5, .ref (ma 3)), (6, .ref (ma 4)), (7, .ref (ma 5)), (8, .ref (ma 6)), (9, .ref (ma 7)), (10, .ref (ma 8)), (11, .ref (ma 9)), (12, .ref (ma 10)), (14, wi v14_97), (16, wi t0_164), (17, wi x17_171), (18, wi t0_189), (19, wi t0_203), (20, wi r9), (23, wi x23_234)] [] (E_1273, C_1273, q_1273) (J E_1273 C_1273 q_1273)) ?_ (fun J1273 hJ1273 => ?_)
                          · intro E_1273 C_1273 q_1273
                            show RunO l Γ (kL T) 16 encI (em3 ma) 1273 [(0, .ref sb), (1, .ref a1), (2, .ref (ma 0)), (3, .ref (ma 1)), (4, .ref (ma 2)), (5, .ref (ma 3)), (6, .ref (ma 4)), (7, .ref (ma 5)), (8, .ref (ma 6)), (9, .ref (ma 7)), (10, .ref (ma 8)), (11, .ref (ma 9)), (12, .ref (ma 10)), (14, wi v14_97), (16, wi t0_164), (17, wi x17_171), (18, wi t0_189), (19, wi t0_203), (20, wi r9), (23, wi x23_234)] [] (E_1273, C_1273, q_1273) (fW_law_1273 a1 t0_164 x17_171 t0_189 t0_203 r9 x23_234 J1788 E_1273 C_1273 q_1273)
                            unfold fW_law_1273
                            refine r_iload (x := t0_164) dL_law_1273 rfl ?_
                            refine r_bipush (v := 15) dL_law_1275 rfl ?_
                            refine r_icmp_ne (tgt := 1334) dL_law_1277 (by decide) ?_ ?_
                            · refine r_iload (x := t0_164) dL_law_1334 rfl ?_
                              refine r_bipush (v := 19) dL_law_1336 rfl ?_
                              refine r_icmp_ge (tgt := 1434) dL_law_1338 (by decide) ?_ ?_
                              · refine r_iload (x := t0_164) dL_law_1434 rfl ?_
                                refine r_bipush (v := 22) dL_law_1436 rfl ?_
                                refine r_icmp_ge (tgt := 1565) dL_law_1438 (by decide) ?_ ?_
                                · refine r_iload (x := t0_164) dL_law_1565 rfl ?_
                                  refine r_bipush (v := 24) dL_law_1567 rfl ?_
                                  refine r_icmp_ge (tgt := 1627) dL_law_1569 (by decide) ?_ ?_
                                  · refine r_iload (x := x17_171) dL_law_1627 rfl ?_
                                    refine r_bipush (v := 64) dL_law_1629 rfl ?_
                                    refine r_idiv dL_law_1631 (by decide) ?_
                                    refine ro_iconst (v := 2) dL_law_1632 rfl ?_
                                    refine r_irem dL_law_1633 (by decide) ?_
                                    refine r_nm (fun x24_1634 => ?_)
                                    refine r_istore (lo2 := [(24, wi x24_1634), (0, .ref sb), (1, .ref a1), (2, .ref (ma 0)), (3, .ref (ma 1)), (4, .ref (ma 2)), (5, .ref (ma 3)), (6, .ref (ma 4)), (7, .ref (ma 5)), (8, .ref (ma 6)), (9, .ref (ma 7)), (10, .ref (ma 8)), (11, .ref (ma 9)), (12, .ref (ma 10)), (14, wi v14_97), (16, wi t0_164), (17, wi x17_171), (18, wi t0_189), (19, wi t0_203), (20, wi r9), (23, wi x23_234)]) dL_law_1634 (by decide) rfl ?_
                                    refine r_iload (x := t0_203) dL_law_1636 rfl ?_
                                    refine r_join (P := fun (J : Int → Rw → Cd → (Nat → Nat) → Option (Int × S3)) => ∀ (t0_1653 : Int) (E_1653 : Rw) (C_1653 : Cd) (q_1653 : (Nat → Nat)), RunO l Γ (kL T) 16 encI (em3 ma) 1653 [(0, .ref sb), (1, .ref a1), (2, .ref (ma 0)), (3, .ref (ma 1)), (4, .ref (ma 2)), (5, .ref (ma 3)), (6, .ref (ma 4)), (7, .ref (ma 5)), (8, .ref (ma 6)), (9, .ref (ma 7)), (10, .ref (ma 8)), (11, .ref (ma 9)), (12, .ref (ma 10)), (14, wi v14_97), (17, wi x17_171), (18, wi t0_189), (19, wi t0_203), (20, wi r9), (23, wi x23_234), (24, wi x24_1634)] [wi t0_1653] (E_1653, C_1653, q_1653) (J t0_1653 E_1653 C_1653 q_1653)) ?_ (fun J1653 hJ1653 => ?_)
                                    · intro t0_1653 E_1653 C_1653 q_1653
                                      show RunO l Γ (kL T) 16 encI (em3 ma) 1653 [(0, .ref sb), (1, .ref a1), (2, .ref (ma 0)), (3, .ref (ma 1)), (4, .ref (ma 2)), (5, .ref (ma 3)), (6, .ref (ma 4)), (7, .ref (ma 5)), (8, .ref (ma 6)), (9, .ref (ma 7)), (10, .ref (ma 8)), (11, .ref (ma 9)), (12, .ref (ma 10)), (14, wi v14_97), (17, wi x17_171), (18, wi t0_189), (19, wi t0_203), (20, wi r9), (23, wi x23_234), (24, wi x24_1634)] [wi t0_1653] (E_1653, C_1653, q_1653) (fW_law_1653 a1 t0_189 t0_203 r9 x23_234 J1788 x24_1634 t0_1653 E_1653 C_1653 q_1653)
                                      unfold fW_law_1653
                                      refine r_istore (lo2 := [(25, wi t0_1653), (0, .ref sb), (1, .ref a1), (2, .ref (ma 0)), (3, .ref (ma 1)), (4, .ref (ma 2)), (5, .ref (ma 3)), (6, .ref (ma 4)), (7, .ref (ma 5)), (8, .ref (ma 6)), (9, .ref (ma 7)), (10, .ref (ma 8)), (11, .ref (ma 9)), (12, .ref (ma 10)), (14, wi v14_97), (17, wi x17_171), (18, wi t0_189), (19, wi t0_203), (20, wi r9), (23, wi x23_234), (24, wi x24_1634)]) dL_law_1653 (by decide) rfl ?_
                                      refine r_aload_n (x := a1) dL_law_1655 rfl rfl ?_
                                      refine r_bipush (v := 8) dL_law_1656 rfl ?_
                                      refine r_iload (x := t0_189) dL_law_1658 rfl ?_
                                      refine r_iload (x := x24_1634) dL_law_1660 rfl ?_
                                      refine ro_iconst (v := 1) dL_law_1662 rfl ?_
                                      refine r_iadd dL_law_1663 ?_
                                      refine r_iload (x := x23_234) dL_law_1664 rfl ?_
                                      refine r_csHi (J := fun (C_ : Cd) => (E_1653, C_, q_1653)) (k2 := k_L_does) (n := 5) (rest := []) (fun _ => rfl) kv_L_does (c_L_does hG hX a1 8 t0_189 (x24_1634 + 1) x23_234 _) (by decide) um_L_132 rfl (Nat.le_of_ble_eq_true rfl) dL_law_1666 rfl (fun r18 C19 => ?_)
                                      show RunO l Γ (kL T) 16 encI (em3 ma) 1669 [(25, wi t0_1653), (0, .ref sb), (1, .ref a1), (2, .ref (ma 0)), (3, .ref (ma 1)), (4, .ref (ma 2)), (5, .ref (ma 3)), (6, .ref (ma 4)), (7, .ref (ma 5)), (8, .ref (ma 6)), (9, .ref (ma 7)), (10, .ref (ma 8)), (11, .ref (ma 9)), (12, .ref (ma 10)), (14, wi v14_97), (17, wi x17_171), (18, wi t0_189), (19, wi t0_203), (20, wi r9), (23, wi x23_234), (24, wi x24_1634)] [wi r18] (E_1653, C19, q_1653) _
                                      refine r_iload (x := t0_203) dL_law_1669 rfl ?_
                                      refine r_join (P := fun (J : Int → Rw → Cd → (Nat → Nat) → Option (Int × S3)) => ∀ (t0_1704 : Int) (E_1704 : Rw) (C_1704 : Cd) (q_1704 : (Nat → Nat)), RunO l Γ (kL T) 16 encI (em3 ma) 1704 [(0, .ref sb), (1, .ref a1), (2, .ref (ma 0)), (3, .ref (ma 1)), (4, .ref (ma 2)), (5, .ref (ma 3)), (6, .ref (ma 4)), (7, .ref (ma 5)), (8, .ref (ma 6)), (9, .ref (ma 7)), (10, .ref (ma 8)), (11, .ref (ma 9)), (12, .ref (ma 10)), (14, wi v14_97), (17, wi x17_171), (18, wi t0_189), (20, wi r9), (23, wi x23_234), (24, wi x24_1634), (25, wi t0_1653)] [wi t0_1704, wi r18] (E_1704, C_1704, q_1704) (J t0_1704 E_1704 C_1704 q_1704)) ?_ (fun J1704 hJ1704 => ?_)
                                      · intro t0_1704 E_1704 C_1704 q_1704
                                        show RunO l Γ (kL T) 16 encI (em3 ma) 1704 [(0, .ref sb), (1, .ref a1), (2, .ref (ma 0)), (3, .ref (ma 1)), (4, .ref (ma 2)), (5, .ref (ma 3)), (6, .ref (ma 4)), (7, .ref (ma 5)), (8, .ref (ma 6)), (9, .ref (ma 7)), (10, .ref (ma 8)), (11, .ref (ma 9)), (12, .ref (ma 10)), (14, wi v14_97), (17, wi x17_171), (18, wi t0_189), (20, wi r9), (23, wi x23_234), (24, wi x24_1634), (25, wi t0_1653)] [wi t0_1704, wi r18] (E_1704, C_1704, q_1704) (fW_law_1704 t0_189 r9 x23_234 J1788 x24_1634 t0_1653 r18 t0_1704 E_1704 C_1704 q_1704)
                                        unfold fW_law_1704
                                        refine r_join (P := fun (J : Int → Rw → Cd → (Nat → Nat) → Option (Int × S3)) => ∀ (t0_1712 : Int) (E_1712 : Rw) (C_1712 : Cd) (q_1712 : (Nat → Nat)), RunO l Γ (kL T) 16 encI (em3 ma) 1712 [(0, .ref sb), (1, .ref a1), (2, .ref (ma 0)), (3, .ref (ma 1)), (4, .ref (ma 2)), (5, .ref (ma 3)), (6, .ref (ma 4)), (7, .ref (ma 5)), (8, .ref (ma 6)), (9, .ref (ma 7)), (10, .ref (ma 8)), (11, .ref (ma 9)), (12, .ref (ma 10)), (14, wi v14_97), (17, wi x17_171), (18, wi t0_189), (20, wi r9), (23, wi x23_234), (24, wi x24_1634), (25, wi t0_1653)] [wi t0_1712] (E_1712, C_1712, q_1712) (J t0_1712 E_1712 C_1712 q_1712)) ?_ (fun J1712 hJ1712 => ?_)
                                        · intro t0_1712 E_1712 C_1712 q_1712
                                          show RunO l Γ (kL T) 16 encI (em3 ma) 1712 [(0, .ref sb), (1, .ref a1), (2, .ref (ma 0)), (3, .ref (ma 1)), (4, .ref (ma 2)), (5, .ref (ma 3)), (6, .ref (ma 4)), (7, .ref (ma 5)), (8, .ref (ma 6)), (9, .ref (ma 7)), (10, .ref (ma 8)), (11, .ref (ma 9)), (12, .ref (ma 10)), (14, wi v14_97), (17, wi x17_171), (18, wi t0_189), (20, wi r9), (23, wi x23_234), (24, wi x24_1634), (25, wi t0_1653)] [wi t0_1712] (E_1712, C_1712, q_1712) (fW_law_1712 t0_189 r9 x23_234 J1788 x24_1634 t0_1653 t0_1712 E_1712 C_1712 q_1712)
                                          unfold fW_law_1712
                                          refine r_istore (lo2 := [(13, wi t0_1712), (0, .ref sb), (1, .ref a1), (2, .ref (ma 0)), (3, .ref (ma 1)), (4, .ref (ma 2)), (5, .ref (ma 3)), (6, .ref (ma 4)), (7, .ref (ma 5)), (8, .ref (ma 6)), (9, .ref (ma 7)), (10, .ref (ma 8)), (11, .ref (ma 9)), (12, .ref (ma 10)), (14, wi v14_97), (17, wi x17_171), (18, wi t0_189), (20, wi r9), (23, wi x23_234), (24, wi x24_1634), (25, wi t0_1653)]) dL_law_1712 (by decide) rfl ?_
                                          refine r_aload (x := ma 9) dL_law_1714 rfl ?_
                                          refine r_iload (x := t0_189) dL_law_1716 rfl ?_
                                          refine r_bipush (v := 8) dL_law_1718 rfl ?_
                                          refine r_iload (x := x24_1634) dL_law_1720 rfl ?_
                                          refine r_imul dL_law_1722 ?_
                                          refine r_iadd dL_law_1723 ?_
                                          refine r_iload (x := t0_1653) dL_law_1724 rfl ?_
                                          refine r_join (P := fun (J : Int → Rw → Cd → (Nat → Nat) → Option (Int × S3)) => ∀ (t0_1747 : Int) (E_1747 : Rw) (C_1747 : Cd) (q_1747 : (Nat → Nat)), RunO l Γ (kL T) 16 encI (em3 ma) 1747 [(0, .ref sb), (1, .ref a1), (2, .ref (ma 0)), (3, .ref (ma 1)), (4, .ref (ma 2)), (5, .ref (ma 3)), (6, .ref (ma 4)), (7, .ref (ma 5)), (8, .ref (ma 6)), (9, .ref (ma 7)), (10, .ref (ma 8)), (11, .ref (ma 9)), (12, .ref (ma 10)), (13, wi t0_1712), (14, wi v14_97), (17, wi x17_171), (18, wi t0_189), (20, wi r9), (24, wi x24_1634), (25, wi t0_1653)] [wi t0_1747, wi (t0_189 + (8 * x24_1634)), .ref (ma 9)] (E_1747, C_1747, q_1747) (J t0_1747 E_1747 C_1747 q_1747)) ?_ (fun J1747 hJ1747 => ?_)
                                          · intro t0_1747 E_1747 C_1747 q_1747
                                            show RunO l Γ (kL T) 16 encI (em3 ma) 1747 [(0, .ref sb), (1, .ref a1), (2, .ref (ma 0)), (3, .ref (ma 1)), (4, .ref (ma 2)), (5, .ref (ma 3)), (6, .ref (ma 4)), (7, .ref (ma 5)), (8, .ref (ma 6)), (9, .ref (ma 7)), (10, .ref (ma 8)), (11, .ref (ma 9)), (12, .ref (ma 10)), (13, wi t0_1712), (14, wi v14_97), (17, wi x17_171), (18, wi t0_189), (20, wi r9), (24, wi x24_1634), (25, wi t0_1653)] [wi t0_1747, wi (t0_189 + (8 * x24_1634)), .ref (ma 9)] (E_1747, C_1747, q_1747) (fW_law_1747 t0_189 r9 J1788 x24_1634 t0_1653 t0_1712 t0_1747 E_1747 C_1747 q_1747)
                                            unfold fW_law_1747
                                            refine r_wiast3 h (by decide) (by decide) (hm 9 (by decide)) dL_law_1747 (fun E20 => ?_)
                                            refine r_aload (x := ma 9) dL_law_1748 rfl ?_
                                            refine r_bipush (v := 16) dL_law_1750 rfl ?_
                                            refine r_iload (x := t0_189) dL_law_1752 rfl ?_
                                            refine r_iadd dL_law_1754 ?_
                                            refine r_bipush (v := 8) dL_law_1755 rfl ?_
                                            refine r_iload (x := x24_1634) dL_law_1757 rfl ?_
                                            refine r_imul dL_law_1759 ?_
                                            refine r_iadd dL_law_1760 ?_
                                            refine r_iload (x := t0_1653) dL_law_1761 rfl ?_
                                            refine r_join (P := fun (J : Int → Rw → Cd → (Nat → Nat) → Option (Int × S3)) => ∀ (t0_1787 : Int) (E_1787 : Rw) (C_1787 : Cd) (q_1787 : (Nat → Nat)), RunO l Γ (kL T) 16 encI (em3 ma) 1787 [(0, .ref sb), (1, .ref a1), (2, .ref (ma 0)), (3, .ref (ma 1)), (4, .ref (ma 2)), (5, .ref (ma 3)), (6, .ref (ma 4)), (7, .ref (ma 5)), (8, .ref (ma 6)), (9, .ref (ma 7)), (10, .ref (ma 8)), (11, .ref (ma 9)), (12, .ref (ma 10)), (13, wi t0_1712), (14, wi v14_97), (17, wi x17_171)] [wi t0_1787, wi ((16 + t0_189) + (8 * x24_1634)), .ref (ma 9)] (E_1787, C_1787, q_1787) (J t0_1787 E_1787 C_1787 q_1787)) ?_ (fun J1787 hJ1787 => ?_)
                                            · intro t0_1787 E_1787 C_1787 q_1787
                                              show RunO l Γ (kL T) 16 encI (em3 ma) 1787 [(0, .ref sb), (1, .ref a1), (2, .ref (ma 0)), (3, .ref (ma 1)), (4, .ref (ma 2)), (5, .ref (ma 3)), (6, .ref (ma 4)), (7, .ref (ma 5)), (8, .ref (ma 6)), (9, .ref (ma 7)), (10, .ref (ma 8)), (11, .ref (ma 9)), (12, .ref (ma 10)), (13, wi t0_1712), (14, wi v14_97), (17, wi x17_171)] [wi t0_1787, wi ((16 + t0_189) + (8 * x24_1634)), .ref (ma 9)] (E_1787, C_1787, q_1787) (fW_law_1787 t0_189 J1788 x24_1634 t0_1712 t0_1787 E_1787 C_1787 q_1787)
                                              unfold fW_law_1787
                                              refine r_wiast3 h (by decide) (by decide) (hm 9 (by decide)) dL_law_1787 (fun E21 => ?_)
                                              exact hJ1788 t0_1712 E21 C_1787 q_1787
                                            refine r_if_eq (tgt := 1773) dL_law_1763 (by decide) ?_ ?_
                                            · refine r_aload (x := ma 9) dL_law_1773 rfl ?_
                                              refine r_bipush (v := 16) dL_law_1775 rfl ?_
                                              refine r_iload (x := t0_189) dL_law_1777 rfl ?_
                                              refine r_iadd dL_law_1779 ?_
                                              refine r_bipush (v := 8) dL_law_1780 rfl ?_
                                              refine r_iload (x := x24_1634) dL_law_1782 rfl ?_
                                              refine r_imul dL_law_1784 ?_
                                              refine r_iadd dL_law_1785 ?_
                                              refine r_wiald3 h (by decide) (by decide) (hm 9 (by decide)) dL_law_1786 ?_
                                              refine r_lo [0, 1, 2, 3, 4, 5, 6, 7, 8, 9, 10, 11, 12, 13, 14, 15] (lo2 := [(0, .ref sb), (1, .ref a1), (2, .ref (ma 0)), (3, .ref (ma 1)), (4, .ref (ma 2)), (5, .ref (ma 3)), (6, .ref (ma 4)), (7, .ref (ma 5)), (8, .ref (ma 6)), (9, .ref (ma 7)), (10, .ref (ma 8)), (11, .ref (ma 9)), (12, .ref (ma 10)), (13, wi t0_1712), (14, wi v14_97), (17, wi x17_171)]) rfl ?_
                                              exact hJ1787 (E20 9 (ix ((16 + t0_189) + (8 * x24_1634)))) E20 C_1747 q_1747
                                            · refine r_iload (x := r9) dL_law_1766 rfl ?_
                                              refine ro_iconst (v := 1) dL_law_1768 rfl ?_
                                              refine r_iadd dL_law_1769 ?_
                                              refine r_goto (tgt := 1787) dL_law_1770 (by decide) ?_
                                              refine r_lo [0, 1, 2, 3, 4, 5, 6, 7, 8, 9, 10, 11, 12, 13, 14, 15] (lo2 := [(0, .ref sb), (1, .ref a1), (2, .ref (ma 0)), (3, .ref (ma 1)), (4, .ref (ma 2)), (5, .ref (ma 3)), (6, .ref (ma 4)), (7, .ref (ma 5)), (8, .ref (ma 6)), (9, .ref (ma 7)), (10, .ref (ma 8)), (11, .ref (ma 9)), (12, .ref (ma 10)), (13, wi t0_1712), (14, wi v14_97), (17, wi x17_171)]) rfl ?_
                                              exact hJ1787 (r9 + 1) E20 C_1747 q_1747
                                          refine r_if_eq (tgt := 1736) dL_law_1726 (by decide) ?_ ?_
                                          · refine r_aload (x := ma 9) dL_law_1736 rfl ?_
                                            refine r_iload (x := t0_189) dL_law_1738 rfl ?_
                                            refine r_bipush (v := 8) dL_law_1740 rfl ?_
                                            refine r_iload (x := x24_1634) dL_law_1742 rfl ?_
                                            refine r_imul dL_law_1744 ?_
                                            refine r_iadd dL_law_1745 ?_
                                            refine r_wiald3 h (by decide) (by decide) (hm 9 (by decide)) dL_law_1746 ?_
                                            refine r_lo [1, 2, 3, 4, 5, 6, 7, 8, 9, 10, 11, 12, 13, 0, 14, 15, 16, 17, 19, 20] (lo2 := [(0, .ref sb), (1, .ref a1), (2, .ref (ma 0)), (3, .ref (ma 1)), (4, .ref (ma 2)), (5, .ref (ma 3)), (6, .ref (ma 4)), (7, .ref (ma 5)), (8, .ref (ma 6)), (9, .ref (ma 7)), (10, .ref (ma 8)), (11, .ref (ma 9)), (12, .ref (ma 10)), (13, wi t0_1712), (14, wi v14_97), (17, wi x17_171), (18, wi t0_189), (20, wi r9), (24, wi x24_1634), (25, wi t0_1653)]) rfl ?_
                                            exact hJ1747 (E_1712 9 (ix (t0_189 + (8 * x24_1634)))) E_1712 C_1712 q_1712
                                          · refine r_iload (x := x23_234) dL_law_1729 rfl ?_
                                            refine ro_iconst (v := 1) dL_law_1731 rfl ?_
                                            refine r_iadd dL_law_1732 ?_
                                            refine r_goto (tgt := 1747) dL_law_1733 (by decide) ?_
                                            refine r_lo [1, 2, 3, 4, 5, 6, 7, 8, 9, 10, 11, 12, 13, 0, 14, 15, 16, 17, 19, 20] (lo2 := [(0, .ref sb), (1, .ref a1), (2, .ref (ma 0)), (3, .ref (ma 1)), (4, .ref (ma 2)), (5, .ref (ma 3)), (6, .ref (ma 4)), (7, .ref (ma 5)), (8, .ref (ma 6)), (9, .ref (ma 7)), (10, .ref (ma 8)), (11, .ref (ma 9)), (12, .ref (ma 10)), (13, wi t0_1712), (14, wi v14_97), (17, wi x17_171), (18, wi t0_189), (20, wi r9), (24, wi x24_1634), (25, wi t0_1653)]) rfl ?_
                                            exact hJ1747 (x23_234 + 1) E_1712 C_1712 q_1712
                                        refine r_icmp_ne (tgt := 1711) dL_law_1704 (by decide) ?_ ?_
                                        · refine ro_iconst (v := 0) dL_law_1711 rfl ?_
                                          exact hJ1712 0 E_1704 C_1704 q_1704
                                        · refine ro_iconst (v := 1) dL_law_1707 rfl ?_
                                          refine r_goto (tgt := 1712) dL_law_1708 (by decide) ?_
                                          exact hJ1712 1 E_1704 C_1704 q_1704
                                      refine r_if_ne (tgt := 1679) dL_law_1671 (by decide) ?_ ?_
                                      · refine r_iload (x := x23_234) dL_law_1679 rfl ?_
                                        refine r_iload (x := t0_189) dL_law_1681 rfl ?_
                                        refine r_icmp_ne (tgt := 1691) dL_law_1683 (by decide) ?_ ?_
                                        · refine r_aload (x := ma 9) dL_law_1691 rfl ?_
                                          refine r_iload (x := t0_189) dL_law_1693 rfl ?_
                                          refine r_bipush (v := 8) dL_law_1695 rfl ?_
                                          refine r_iload (x := x24_1634) dL_law_1697 rfl ?_
                                          refine r_imul dL_law_1699 ?_
                                          refine r_iadd dL_law_1700 ?_
                                          refine r_wiald3 h (by decide) (by decide) (hm 9 (by decide)) dL_law_1701 ?_
                                          refine ro_iconst (v := 1) dL_law_1702 rfl ?_
                                          refine r_isub dL_law_1703 ?_
                                          refine r_lo [1, 2, 3, 4, 5, 6, 7, 8, 9, 10, 11, 12, 13, 14, 15, 16, 18, 19, 20, 0] (lo2 := [(0, .ref sb), (1, .ref a1), (2, .ref (ma 0)), (3, .ref (ma 1)), (4, .ref (ma 2)), (5, .ref (ma 3)), (6, .ref (ma 4)), (7, .ref (ma 5)), (8, .ref (ma 6)), (9, .ref (ma 7)), (10, .ref (ma 8)), (11, .ref (ma 9)), (12, .ref (ma 10)), (14, wi v14_97), (17, wi x17_171), (18, wi t0_189), (20, wi r9), (23, wi x23_234), (24, wi x24_1634), (25, wi t0_1653)]) rfl ?_
                                          exact hJ1704 ((E_1653 9 (ix (t0_189 + (8 * x24_1634)))) - 1) E_1653 C19 q_1653
                                        · refine r_bipush (v := (-12)) dL_law_1686 rfl ?_
                                          refine r_goto (tgt := 1704) dL_law_1688 (by decide) ?_
                                          refine r_lo [1, 2, 3, 4, 5, 6, 7, 8, 9, 10, 11, 12, 13, 14, 15, 16, 18, 19, 20, 0] (lo2 := [(0, .ref sb), (1, .ref a1), (2, .ref (ma 0)), (3, .ref (ma 1)), (4, .ref (ma 2)), (5, .ref (ma 3)), (6, .ref (ma 4)), (7, .ref (ma 5)), (8, .ref (ma 6)), (9, .ref (ma 7)), (10, .ref (ma 8)), (11, .ref (ma 9)), (12, .ref (ma 10)), (14, wi v14_97), (17, wi x17_171), (18, wi t0_189), (20, wi r9), (23, wi x23_234), (24, wi x24_1634), (25, wi t0_1653)]) rfl ?_
                                          exact hJ1704 (-12) E_1653 C19 q_1653
                                      · refine r_bipush (v := (-11)) dL_law_1674 rfl ?_
                                        refine r_goto (tgt := 1704) dL_law_1676 (by decide) ?_
                                        refine r_lo [1, 2, 3, 4, 5, 6, 7, 8, 9, 10, 11, 12, 13, 14, 15, 16, 18, 19, 20, 0] (lo2 := [(0, .ref sb), (1, .ref a1), (2, .ref (ma 0)), (3, .ref (ma 1)), (4, .ref (ma 2)), (5, .ref (ma 3)), (6, .ref (ma 4)), (7, .ref (ma 5)), (8, .ref (ma 6)), (9, .ref (ma 7)), (10, .ref (ma 8)), (11, .ref (ma 9)), (12, .ref (ma 10)), (14, wi v14_97), (17, wi x17_171), (18, wi t0_189), (20, wi r9), (23, wi x23_234), (24, wi x24_1634), (25, wi t0_1653)]) rfl ?_
                                        exact hJ1704 (-11) E_1653 C19 q_1653
                                    refine r_join (P := fun (J : Rw → Cd → (Nat → Nat) → Option (Int × S3)) => ∀ (E_1652 : Rw) (C_1652 : Cd) (q_1652 : (Nat → Nat)), RunO l Γ (kL T) 16 encI (em3 ma) 1652 [(0, .ref sb), (1, .ref a1), (2, .ref (ma 0)), (3, .ref (ma 1)), (4, .ref (ma 2)), (5, .ref (ma 3)), (6, .ref (ma 4)), (7, .ref (ma 5)), (8, .ref (ma 6)), (9, .ref (ma 7)), (10, .ref (ma 8)), (11, .ref (ma 9)), (12, .ref (ma 10)), (14, wi v14_97), (17, wi x17_171), (18, wi t0_189), (19, wi t0_203), (20, wi r9), (23, wi x23_234), (24, wi x24_1634)] [] (E_1652, C_1652, q_1652) (J E_1652 C_1652 q_1652)) ?_ (fun J1652 hJ1652 => ?_)
                                    · intro E_1652 C_1652 q_1652
                                      show RunO l Γ (kL T) 16 encI (em3 ma) 1652 [(0, .ref sb), (1, .ref a1), (2, .ref (ma 0)), (3, .ref (ma 1)), (4, .ref (ma 2)), (5, .ref (ma 3)), (6, .ref (ma 4)), (7, .ref (ma 5)), (8, .ref (ma 6)), (9, .ref (ma 7)), (10, .ref (ma 8)), (11, .ref (ma 9)), (12, .ref (ma 10)), (14, wi v14_97), (17, wi x17_171), (18, wi t0_189), (19, wi t0_203), (20, wi r9), (23, wi x23_234), (24, wi x24_1634)] [] (E_1652, C_1652, q_1652) (fW_law_1652 J1653 E_1652 C_1652 q_1652)
                                      unfold fW_law_1652
                                      refine ro_iconst (v := 0) dL_law_1652 rfl ?_
                                      exact hJ1653 0 E_1652 C_1652 q_1652
                                    refine r_if_eq (tgt := 1652) dL_law_1638 (by decide) ?_ ?_
                                    · refine r_lo [1, 2, 3, 4, 5, 6, 7, 8, 9, 10, 11, 12, 13, 14, 16, 17, 18, 19, 20, 0] (lo2 := [(0, .ref sb), (1, .ref a1), (2, .ref (ma 0)), (3, .ref (ma 1)), (4, .ref (ma 2)), (5, .ref (ma 3)), (6, .ref (ma 4)), (7, .ref (ma 5)), (8, .ref (ma 6)), (9, .ref (ma 7)), (10, .ref (ma 8)), (11, .ref (ma 9)), (12, .ref (ma 10)), (14, wi v14_97), (17, wi x17_171), (18, wi t0_189), (19, wi t0_203), (20, wi r9), (23, wi x23_234), (24, wi x24_1634)]) rfl ?_
                                      exact hJ1652 E_1273 C_1273 q_1273
                                    · refine r_iload (x := x23_234) dL_law_1641 rfl ?_
                                      refine r_iload (x := t0_189) dL_law_1643 rfl ?_
                                      refine r_icmp_eq (tgt := 1652) dL_law_1645 (by decide) ?_ ?_
                                      · refine r_lo [1, 2, 3, 4, 5, 6, 7, 8, 9, 10, 11, 12, 13, 14, 16, 17, 18, 19, 20, 0] (lo2 := [(0, .ref sb), (1, .ref a1), (2, .ref (ma 0)), (3, .ref (ma 1)), (4, .ref (ma 2)), (5, .ref (ma 3)), (6, .ref (ma 4)), (7, .ref (ma 5)), (8, .ref (ma 6)), (9, .ref (ma 7)), (10, .ref (ma 8)), (11, .ref (ma 9)), (12, .ref (ma 10)), (14, wi v14_97), (17, wi x17_171), (18, wi t0_189), (19, wi t0_203), (20, wi r9), (23, wi x23_234), (24, wi x24_1634)]) rfl ?_
                                        exact hJ1652 E_1273 C_1273 q_1273
                                      · refine ro_iconst (v := 1) dL_law_1648 rfl ?_
                                        refine r_goto (tgt := 1653) dL_law_1649 (by decide) ?_
                                        refine r_lo [1, 2, 3, 4, 5, 6, 7, 8, 9, 10, 11, 12, 13, 14, 16, 17, 18, 19, 20, 0] (lo2 := [(0, .ref sb), (1, .ref a1), (2, .ref (ma 0)), (3, .ref (ma 1)), (4, .ref (ma 2)), (5, .ref (ma 3)), (6, .ref (ma 4)), (7, .ref (ma 5)), (8, .ref (ma 6)), (9, .ref (ma 7)), (10, .ref (ma 8)), (11, .ref (ma 9)), (12, .ref (ma 10)), (14, wi v14_97), (17, wi x17_171), (18, wi t0_189), (19, wi t0_203), (20, wi r9), (23, wi x23_234), (24, wi x24_1634)]) rfl ?_
                                        exact hJ1653 1 E_1273 C_1273 q_1273
                                  · refine r_iload (x := x17_171) dL_law_1572 rfl ?_
                                    refine r_bipush (v := 8) dL_law_1574 rfl ?_
                                    refine r_idiv dL_law_1576 (by decide) ?_
                                    refine r_bipush (v := 100) dL_law_1577 rfl ?_
                                    refine r_irem dL_law_1579 (by decide) ?_
                                    refine r_nm (fun x24_1580 => ?_)
                                    refine r_istore (lo2 := [(24, wi x24_1580), (0, .ref sb), (1, .ref a1), (2, .ref (ma 0)), (3, .ref (ma 1)), (4, .ref (ma 2)), (5, .ref (ma 3)), (6, .ref (ma 4)), (7, .ref (ma 5)), (8, .ref (ma 6)), (9, .ref (ma 7)), (10, .ref (ma 8)), (11, .ref (ma 9)), (12, .ref (ma 10)), (14, wi v14_97), (16, wi t0_164), (17, wi x17_171), (18, wi t0_189), (19, wi t0_203), (20, wi r9), (23, wi x23_234)]) dL_law_1580 (by decide) rfl ?_
                                    refine r_aload_n (x := a1) dL_law_1582 rfl rfl ?_
                                    refine r_iload (x := t0_189) dL_law_1583 rfl ?_
                                    refine r_iload (x := x24_1580) dL_law_1585 rfl ?_
                                    refine r_cx1 (J := fun (C_ : Cd) => (E_1273, C_, q_1273)) (k2 := k_X11_rank) (c := 14) (T := TX11) (N := 10) (n := 2) (rest := []) (fun _ => rfl) htb um_L_228 kv_X11_rank hc_X11 (by decide) (c_X11_rank hG _ _ _ _) (by decide) rfl (Nat.le_of_ble_eq_true rfl) dL_law_1587 rfl (fun r22 C23 => ?_)
                                    show RunO l Γ (kL T) 16 encI (em3 ma) 1590 [(24, wi x24_1580), (0, .ref sb), (1, .ref a1), (2, .ref (ma 0)), (3, .ref (ma 1)), (4, .ref (ma 2)), (5, .ref (ma 3)), (6, .ref (ma 4)), (7, .ref (ma 5)), (8, .ref (ma 6)), (9, .ref (ma 7)), (10, .ref (ma 8)), (11, .ref (ma 9)), (12, .ref (ma 10)), (14, wi v14_97), (16, wi t0_164), (17, wi x17_171), (18, wi t0_189), (19, wi t0_203), (20, wi r9), (23, wi x23_234)] [wi r22] (E_1273, C23, q_1273) _
                                    refine r_aload (x := ma 6) dL_law_1590 rfl ?_
                                    refine r_bipush (v := 7) dL_law_1592 rfl ?_
                                    refine r_iload (x := t0_189) dL_law_1594 rfl ?_
                                    refine r_imul dL_law_1596 ?_
                                    refine r_bipush (v := 6) dL_law_1597 rfl ?_
                                    refine r_iadd dL_law_1599 ?_
                                    refine r_wiald3 h (by decide) (by decide) (hm 6 (by decide)) dL_law_1600 ?_
                                    refine r_join (P := fun (J : Int → Rw → Cd → (Nat → Nat) → Option (Int × S3)) => ∀ (t0_1609 : Int) (E_1609 : Rw) (C_1609 : Cd) (q_1609 : (Nat → Nat)), RunO l Γ (kL T) 16 encI (em3 ma) 1609 [(0, .ref sb), (1, .ref a1), (2, .ref (ma 0)), (3, .ref (ma 1)), (4, .ref (ma 2)), (5, .ref (ma 3)), (6, .ref (ma 4)), (7, .ref (ma 5)), (8, .ref (ma 6)), (9, .ref (ma 7)), (10, .ref (ma 8)), (11, .ref (ma 9)), (12, .ref (ma 10)), (14, wi v14_97), (17, wi x17_171), (18, wi t0_189), (24, wi x24_1580)] [wi t0_1609] (E_1609, C_1609, q_1609) (J t0_1609 E_1609 C_1609 q_1609)) ?_ (fun J1609 hJ1609 => ?_)
                                    · intro t0_1609 E_1609 C_1609 q_1609
                                      show RunO l Γ (kL T) 16 encI (em3 ma) 1609 [(0, .ref sb), (1, .ref a1), (2, .ref (ma 0)), (3, .ref (ma 1)), (4, .ref (ma 2)), (5, .ref (ma 3)), (6, .ref (ma 4)), (7, .ref (ma 5)), (8, .ref (ma 6)), (9, .ref (ma 7)), (10, .ref (ma 8)), (11, .ref (ma 9)), (12, .ref (ma 10)), (14, wi v14_97), (17, wi x17_171), (18, wi t0_189), (24, wi x24_1580)] [wi t0_1609] (E_1609, C_1609, q_1609) (fW_law_1609 t0_189 J1788 x24_1580 t0_1609 E_1609 C_1609 q_1609)
                                      unfold fW_law_1609
                                      refine r_istore (lo2 := [(13, wi t0_1609), (0, .ref sb), (1, .ref a1), (2, .ref (ma 0)), (3, .ref (ma 1)), (4, .ref (ma 2)), (5, .ref (ma 3)), (6, .ref (ma 4)), (7, .ref (ma 5)), (8, .ref (ma 6)), (9, .ref (ma 7)), (10, .ref (ma 8)), (11, .ref (ma 9)), (12, .ref (ma 10)), (14, wi v14_97), (17, wi x17_171), (18, wi t0_189), (24, wi x24_1580)]) dL_law_1609 (by decide) rfl ?_
                                      refine r_aload (x := ma 6) dL_law_1611 rfl ?_
                                      refine r_bipush (v := 7) dL_law_1613 rfl ?_
                                      refine r_iload (x := t0_189) dL_law_1615 rfl ?_
                                      refine r_imul dL_law_1617 ?_
                                      refine r_bipush (v := 6) dL_law_1618 rfl ?_
                                      refine r_iadd dL_law_1620 ?_
                                      refine r_iload (x := x24_1580) dL_law_1621 rfl ?_
                                      refine r_wiast3 h (by decide) (by decide) (hm 6 (by decide)) dL_law_1623 (fun E24 => ?_)
                                      refine r_goto (tgt := 1788) dL_law_1624 (by decide) ?_
                                      refine r_lo [1, 2, 3, 4, 5, 6, 7, 8, 9, 10, 11, 12, 13, 0, 14, 15] (lo2 := [(0, .ref sb), (1, .ref a1), (2, .ref (ma 0)), (3, .ref (ma 1)), (4, .ref (ma 2)), (5, .ref (ma 3)), (6, .ref (ma 4)), (7, .ref (ma 5)), (8, .ref (ma 6)), (9, .ref (ma 7)), (10, .ref (ma 8)), (11, .ref (ma 9)), (12, .ref (ma 10)), (13, wi t0_1609), (14, wi v14_97), (17, wi x17_171)]) rfl ?_
                                      exact hJ1788 t0_1609 E24 C_1609 q_1609
                                    refine r_icmp_ne (tgt := 1608) dL_law_1601 (by decide) ?_ ?_
                                    · refine ro_iconst (v := 0) dL_law_1608 rfl ?_
                                      refine r_lo [1, 2, 3, 4, 5, 6, 7, 8, 9, 10, 11, 12, 13, 14, 16, 17, 0] (lo2 := [(0, .ref sb), (1, .ref a1), (2, .ref (ma 0)), (3, .ref (ma 1)), (4, .ref (ma 2)), (5, .ref (ma 3)), (6, .ref (ma 4)), (7, .ref (ma 5)), (8, .ref (ma 6)), (9, .ref (ma 7)), (10, .ref (ma 8)), (11, .ref (ma 9)), (12, .ref (ma 10)), (14, wi v14_97), (17, wi x17_171), (18, wi t0_189), (24, wi x24_1580)]) rfl ?_
                                      exact hJ1609 0 E_1273 C23 q_1273
                                    · refine ro_iconst (v := 1) dL_law_1604 rfl ?_
                                      refine r_goto (tgt := 1609) dL_law_1605 (by decide) ?_
                                      refine r_lo [1, 2, 3, 4, 5, 6, 7, 8, 9, 10, 11, 12, 13, 14, 16, 17, 0] (lo2 := [(0, .ref sb), (1, .ref a1), (2, .ref (ma 0)), (3, .ref (ma 1)), (4, .ref (ma 2)), (5, .ref (ma 3)), (6, .ref (ma 4)), (7, .ref (ma 5)), (8, .ref (ma 6)), (9, .ref (ma 7)), (10, .ref (ma 8)), (11, .ref (ma 9)), (12, .ref (ma 10)), (14, wi v14_97), (17, wi x17_171), (18, wi t0_189), (24, wi x24_1580)]) rfl ?_
                                      exact hJ1609 1 E_1273 C23 q_1273
                                · refine r_iload (x := x17_171) dL_law_1441 rfl ?_
                                  refine r_bipush (v := 8) dL_law_1443 rfl ?_
                                  refine r_idiv dL_law_1445 (by decide) ?_
                                  refine ro_iconst (v := 2) dL_law_1446 rfl ?_
                                  refine r_irem dL_law_1447 (by decide) ?_
                                  refine r_join (P := fun (J : Int → Rw → Cd → (Nat → Nat) → Option (Int × S3)) => ∀ (t0_1456 : Int) (E_1456 : Rw) (C_1456 : Cd) (q_1456 : (Nat → Nat)), RunO l Γ (kL T) 16 encI (em3 ma) 1456 [(0, .ref sb), (1, .ref a1), (2, .ref (ma 0)), (3, .ref (ma 1)), (4, .ref (ma 2)), (5, .ref (ma 3)), (6, .ref (ma 4)), (7, .ref (ma 5)), (8, .ref (ma 6)), (9, .ref (ma 7)), (10, .ref (ma 8)), (11, .ref (ma 9)), (12, .ref (ma 10)), (14, wi v14_97), (17, wi x17_171), (18, wi t0_189), (19, wi t0_203)] [wi t0_1456] (E_1456, C_1456, q_1456) (J t0_1456 E_1456 C_1456 q_1456)) ?_ (fun J1456 hJ1456 => ?_)
                                  · intro t0_1456 E_1456 C_1456 q_1456
                                    show RunO l Γ (kL T) 16 encI (em3 ma) 1456 [(0, .ref sb), (1, .ref a1), (2, .ref (ma 0)), (3, .ref (ma 1)), (4, .ref (ma 2)), (5, .ref (ma 3)), (6, .ref (ma 4)), (7, .ref (ma 5)), (8, .ref (ma 6)), (9, .ref (ma 7)), (10, .ref (ma 8)), (11, .ref (ma 9)), (12, .ref (ma 10)), (14, wi v14_97), (17, wi x17_171), (18, wi t0_189), (19, wi t0_203)] [wi t0_1456] (E_1456, C_1456, q_1456) (fW_law_1456 a1 t0_189 t0_203 J1788 t0_1456 E_1456 C_1456 q_1456)
                                    unfold fW_law_1456
                                    refine r_istore (lo2 := [(24, wi t0_1456), (0, .ref sb), (1, .ref a1), (2, .ref (ma 0)), (3, .ref (ma 1)), (4, .ref (ma 2)), (5, .ref (ma 3)), (6, .ref (ma 4)), (7, .ref (ma 5)), (8, .ref (ma 6)), (9, .ref (ma 7)), (10, .ref (ma 8)), (11, .ref (ma 9)), (12, .ref (ma 10)), (14, wi v14_97), (17, wi x17_171), (18, wi t0_189), (19, wi t0_203)]) dL_law_1456 (by decide) rfl ?_
                                    refine r_iload (x := t0_203) dL_law_1458 rfl ?_
                                    refine r_join (P := fun (J : Rw → Cd → (Nat → Nat) → Option (Int × S3)) => ∀ (E_1513 : Rw) (C_1513 : Cd) (q_1513 : (Nat → Nat)), RunO l Γ (kL T) 16 encI (em3 ma) 1513 [(0, .ref sb), (1, .ref a1), (2, .ref (ma 0)), (3, .ref (ma 1)), (4, .ref (ma 2)), (5, .ref (ma 3)), (6, .ref (ma 4)), (7, .ref (ma 5)), (8, .ref (ma 6)), (9, .ref (ma 7)), (10, .ref (ma 8)), (11, .ref (ma 9)), (12, .ref (ma 10)), (14, wi v14_97), (17, wi x17_171), (18, wi t0_189), (19, wi t0_203), (24, wi t0_1456)] [] (E_1513, C_1513, q_1513) (J E_1513 C_1513 q_1513)) ?_ (fun J1513 hJ1513 => ?_)
                                    · intro E_1513 C_1513 q_1513
                                      show RunO l Γ (kL T) 16 encI (em3 ma) 1513 [(0, .ref sb), (1, .ref a1), (2, .ref (ma 0)), (3, .ref (ma 1)), (4, .ref (ma 2)), (5, .ref (ma 3)), (6, .ref (ma 4)), (7, .ref (ma 5)), (8, .ref (ma 6)), (9, .ref (ma 7)), (10, .ref (ma 8)), (11, .ref (ma 9)), (12, .ref (ma 10)), (14, wi v14_97), (17, wi x17_171), (18, wi t0_189), (19, wi t0_203), (24, wi t0_1456)] [] (E_1513, C_1513, q_1513) (fW_law_1513 a1 t0_189 t0_203 J1788 t0_1456 E_1513 C_1513 q_1513)
                                      unfold fW_law_1513
                                      refine r_aload_n (x := a1) dL_law_1513 rfl rfl ?_
                                      refine r_bipush (v := 7) dL_law_1514 rfl ?_
                                      refine r_iload (x := t0_189) dL_law_1516 rfl ?_
                                      refine r_iload (x := t0_1456) dL_law_1518 rfl ?_
                                      refine r_join (P := fun (J : Int → Rw → Cd → (Nat → Nat) → Option (Int × S3)) => ∀ (t0_1528 : Int) (E_1528 : Rw) (C_1528 : Cd) (q_1528 : (Nat → Nat)), RunO l Γ (kL T) 16 encI (em3 ma) 1528 [(0, .ref sb), (1, .ref a1), (2, .ref (ma 0)), (3, .ref (ma 1)), (4, .ref (ma 2)), (5, .ref (ma 3)), (6, .ref (ma 4)), (7, .ref (ma 5)), (8, .ref (ma 6)), (9, .ref (ma 7)), (10, .ref (ma 8)), (11, .ref (ma 9)), (12, .ref (ma 10)), (14, wi v14_97), (17, wi x17_171), (18, wi t0_189), (19, wi t0_203)] [wi t0_1528, wi t0_189, wi 7, .ref a1] (E_1528, C_1528, q_1528) (J t0_1528 E_1528 C_1528 q_1528)) ?_ (fun J1528 hJ1528 => ?_)
                                      · intro t0_1528 E_1528 C_1528 q_1528
                                        show RunO l Γ (kL T) 16 encI (em3 ma) 1528 [(0, .ref sb), (1, .ref a1), (2, .ref (ma 0)), (3, .ref (ma 1)), (4, .ref (ma 2)), (5, .ref (ma 3)), (6, .ref (ma 4)), (7, .ref (ma 5)), (8, .ref (ma 6)), (9, .ref (ma 7)), (10, .ref (ma 8)), (11, .ref (ma 9)), (12, .ref (ma 10)), (14, wi v14_97), (17, wi x17_171), (18, wi t0_189), (19, wi t0_203)] [wi t0_1528, wi t0_189, wi 7, .ref a1] (E_1528, C_1528, q_1528) (fW_law_1528 a1 t0_189 t0_203 J1788 t0_1528 E_1528 C_1528 q_1528)
                                        unfold fW_law_1528
                                        refine ro_iconst (v := 0) dL_law_1528 rfl ?_
                                        refine r_csHi (J := fun (C_ : Cd) => (E_1528, C_, q_1528)) (k2 := k_L_does) (n := 5) (rest := []) (fun _ => rfl) kv_L_does (c_L_does hG hX a1 7 t0_189 t0_1528 0 _) (by decide) um_L_132 rfl (Nat.le_of_ble_eq_true rfl) dL_law_1529 rfl (fun r25 C26 => ?_)
                                        show RunO l Γ (kL T) 16 encI (em3 ma) 1532 [(0, .ref sb), (1, .ref a1), (2, .ref (ma 0)), (3, .ref (ma 1)), (4, .ref (ma 2)), (5, .ref (ma 3)), (6, .ref (ma 4)), (7, .ref (ma 5)), (8, .ref (ma 6)), (9, .ref (ma 7)), (10, .ref (ma 8)), (11, .ref (ma 9)), (12, .ref (ma 10)), (14, wi v14_97), (17, wi x17_171), (18, wi t0_189), (19, wi t0_203)] [wi r25] (E_1528, C26, q_1528) _
                                        refine r_iload (x := t0_203) dL_law_1532 rfl ?_
                                        refine r_join (P := fun (J : Int → Rw → Cd → (Nat → Nat) → Option (Int × S3)) => ∀ (t0_1552 : Int) (E_1552 : Rw) (C_1552 : Cd) (q_1552 : (Nat → Nat)), RunO l Γ (kL T) 16 encI (em3 ma) 1552 [(0, .ref sb), (1, .ref a1), (2, .ref (ma 0)), (3, .ref (ma 1)), (4, .ref (ma 2)), (5, .ref (ma 3)), (6, .ref (ma 4)), (7, .ref (ma 5)), (8, .ref (ma 6)), (9, .ref (ma 7)), (10, .ref (ma 8)), (11, .ref (ma 9)), (12, .ref (ma 10)), (14, wi v14_97), (17, wi x17_171)] [wi t0_1552, wi r25] (E_1552, C_1552, q_1552) (J t0_1552 E_1552 C_1552 q_1552)) ?_ (fun J1552 hJ1552 => ?_)
                                        · intro t0_1552 E_1552 C_1552 q_1552
                                          show RunO l Γ (kL T) 16 encI (em3 ma) 1552 [(0, .ref sb), (1, .ref a1), (2, .ref (ma 0)), (3, .ref (ma 1)), (4, .ref (ma 2)), (5, .ref (ma 3)), (6, .ref (ma 4)), (7, .ref (ma 5)), (8, .ref (ma 6)), (9, .ref (ma 7)), (10, .ref (ma 8)), (11, .ref (ma 9)), (12, .ref (ma 10)), (14, wi v14_97), (17, wi x17_171)] [wi t0_1552, wi r25] (E_1552, C_1552, q_1552) (fW_law_1552 J1788 r25 t0_1552 E_1552 C_1552 q_1552)
                                          unfold fW_law_1552
                                          refine r_join (P := fun (J : Int → Rw → Cd → (Nat → Nat) → Option (Int × S3)) => ∀ (t0_1560 : Int) (E_1560 : Rw) (C_1560 : Cd) (q_1560 : (Nat → Nat)), RunO l Γ (kL T) 16 encI (em3 ma) 1560 [(0, .ref sb), (1, .ref a1), (2, .ref (ma 0)), (3, .ref (ma 1)), (4, .ref (ma 2)), (5, .ref (ma 3)), (6, .ref (ma 4)), (7, .ref (ma 5)), (8, .ref (ma 6)), (9, .ref (ma 7)), (10, .ref (ma 8)), (11, .ref (ma 9)), (12, .ref (ma 10)), (14, wi v14_97), (17, wi x17_171)] [wi t0_1560] (E_1560, C_1560, q_1560) (J t0_1560 E_1560 C_1560 q_1560)) ?_ (fun J1560 hJ1560 => ?_)
                                          · intro t0_1560 E_1560 C_1560 q_1560
                                            show RunO l Γ (kL T) 16 encI (em3 ma) 1560 [(0, .ref sb), (1, .ref a1), (2, .ref (ma 0)), (3, .ref (ma 1)), (4, .ref (ma 2)), (5, .ref (ma 3)), (6, .ref (ma 4)), (7, .ref (ma 5)), (8, .ref (ma 6)), (9, .ref (ma 7)), (10, .ref (ma 8)), (11, .ref (ma 9)), (12, .ref (ma 10)), (14, wi v14_97), (17, wi x17_171)] [wi t0_1560] (E_1560, C_1560, q_1560) (fW_law_1560 J1788 t0_1560 E_1560 C_1560 q_1560)
                                            unfold fW_law_1560
                                            refine r_istore (lo2 := [(13, wi t0_1560), (0, .ref sb), (1, .ref a1), (2, .ref (ma 0)), (3, .ref (ma 1)), (4, .ref (ma 2)), (5, .ref (ma 3)), (6, .ref (ma 4)), (7, .ref (ma 5)), (8, .ref (ma 6)), (9, .ref (ma 7)), (10, .ref (ma 8)), (11, .ref (ma 9)), (12, .ref (ma 10)), (14, wi v14_97), (17, wi x17_171)]) dL_law_1560 (by decide) rfl ?_
                                            refine r_goto (tgt := 1788) dL_law_1562 (by decide) ?_
                                            refine r_lo [1, 2, 3, 4, 5, 6, 7, 8, 9, 10, 11, 12, 13, 0, 14, 15] (lo2 := [(0, .ref sb), (1, .ref a1), (2, .ref (ma 0)), (3, .ref (ma 1)), (4, .ref (ma 2)), (5, .ref (ma 3)), (6, .ref (ma 4)), (7, .ref (ma 5)), (8, .ref (ma 6)), (9, .ref (ma 7)), (10, .ref (ma 8)), (11, .ref (ma 9)), (12, .ref (ma 10)), (13, wi t0_1560), (14, wi v14_97), (17, wi x17_171)]) rfl ?_
                                            exact hJ1788 t0_1560 E_1560 C_1560 q_1560
                                          refine r_icmp_ne (tgt := 1559) dL_law_1552 (by decide) ?_ ?_
                                          · refine ro_iconst (v := 0) dL_law_1559 rfl ?_
                                            exact hJ1560 0 E_1552 C_1552 q_1552
                                          · refine ro_iconst (v := 1) dL_law_1555 rfl ?_
                                            refine r_goto (tgt := 1560) dL_law_1556 (by decide) ?_
                                            exact hJ1560 1 E_1552 C_1552 q_1552
                                        refine r_if_eq (tgt := 1550) dL_law_1534 (by decide) ?_ ?_
                                        · refine r_bipush (v := (-11)) dL_law_1550 rfl ?_
                                          refine r_lo [0, 1, 2, 3, 4, 5, 6, 7, 8, 9, 10, 11, 12, 13, 14] (lo2 := [(0, .ref sb), (1, .ref a1), (2, .ref (ma 0)), (3, .ref (ma 1)), (4, .ref (ma 2)), (5, .ref (ma 3)), (6, .ref (ma 4)), (7, .ref (ma 5)), (8, .ref (ma 6)), (9, .ref (ma 7)), (10, .ref (ma 8)), (11, .ref (ma 9)), (12, .ref (ma 10)), (14, wi v14_97), (17, wi x17_171)]) rfl ?_
                                          exact hJ1552 (-11) E_1528 C26 q_1528
                                        · refine r_aload (x := ma 6) dL_law_1537 rfl ?_
                                          refine r_bipush (v := 7) dL_law_1539 rfl ?_
                                          refine r_iload (x := t0_189) dL_law_1541 rfl ?_
                                          refine r_imul dL_law_1543 ?_
                                          refine ro_iconst (v := 1) dL_law_1544 rfl ?_
                                          refine r_iadd dL_law_1545 ?_
                                          refine r_wiald3 h (by decide) (by decide) (hm 6 (by decide)) dL_law_1546 ?_
                                          refine r_goto (tgt := 1552) dL_law_1547 (by decide) ?_
                                          refine r_lo [0, 1, 2, 3, 4, 5, 6, 7, 8, 9, 10, 11, 12, 13, 14] (lo2 := [(0, .ref sb), (1, .ref a1), (2, .ref (ma 0)), (3, .ref (ma 1)), (4, .ref (ma 2)), (5, .ref (ma 3)), (6, .ref (ma 4)), (7, .ref (ma 5)), (8, .ref (ma 6)), (9, .ref (ma 7)), (10, .ref (ma 8)), (11, .ref (ma 9)), (12, .ref (ma 10)), (14, wi v14_97), (17, wi x17_171)]) rfl ?_
                                          exact hJ1552 (E_1528 6 (ix ((7 * t0_189) + 1))) E_1528 C26 q_1528
                                      refine r_if_eq (tgt := 1527) dL_law_1520 (by decide) ?_ ?_
                                      · refine ro_iconst (v := 0) dL_law_1527 rfl ?_
                                        refine r_lo [0, 1, 2, 3, 4, 5, 6, 7, 8, 9, 10, 11, 12, 13, 14, 15, 16] (lo2 := [(0, .ref sb), (1, .ref a1), (2, .ref (ma 0)), (3, .ref (ma 1)), (4, .ref (ma 2)), (5, .ref (ma 3)), (6, .ref (ma 4)), (7, .ref (ma 5)), (8, .ref (ma 6)), (9, .ref (ma 7)), (10, .ref (ma 8)), (11, .ref (ma 9)), (12, .ref (ma 10)), (14, wi v14_97), (17, wi x17_171), (18, wi t0_189), (19, wi t0_203)]) rfl ?_
                                        exact hJ1528 0 E_1513 C_1513 q_1513
                                      · refine ro_iconst (v := 1) dL_law_1523 rfl ?_
                                        refine r_goto (tgt := 1528) dL_law_1524 (by decide) ?_
                                        refine r_lo [0, 1, 2, 3, 4, 5, 6, 7, 8, 9, 10, 11, 12, 13, 14, 15, 16] (lo2 := [(0, .ref sb), (1, .ref a1), (2, .ref (ma 0)), (3, .ref (ma 1)), (4, .ref (ma 2)), (5, .ref (ma 3)), (6, .ref (ma 4)), (7, .ref (ma 5)), (8, .ref (ma 6)), (9, .ref (ma 7)), (10, .ref (ma 8)), (11, .ref (ma 9)), (12, .ref (ma 10)), (14, wi v14_97), (17, wi x17_171), (18, wi t0_189), (19, wi t0_203)]) rfl ?_
                                        exact hJ1528 1 E_1513 C_1513 q_1513
                                    refine r_if_eq (tgt := 1513) dL_law_1460 (by decide) ?_ ?_
                                    · refine r_lo [1, 2, 3, 4, 5, 6, 7, 8, 9, 10, 11, 12, 13, 14, 15, 16, 17, 0] (lo2 := [(0, .ref sb), (1, .ref a1), (2, .ref (ma 0)), (3, .ref (ma 1)), (4, .ref (ma 2)), (5, .ref (ma 3)), (6, .ref (ma 4)), (7, .ref (ma 5)), (8, .ref (ma 6)), (9, .ref (ma 7)), (10, .ref (ma 8)), (11, .ref (ma 9)), (12, .ref (ma 10)), (14, wi v14_97), (17, wi x17_171), (18, wi t0_189), (19, wi t0_203), (24, wi t0_1456)]) rfl ?_
                                      exact hJ1513 E_1456 C_1456 q_1456
                                    · refine r_aload (x := ma 6) dL_law_1463 rfl ?_
                                      refine r_bipush (v := 7) dL_law_1465 rfl ?_
                                      refine r_iload (x := t0_189) dL_law_1467 rfl ?_
                                      refine r_imul dL_law_1469 ?_
                                      refine r_wiald3 h (by decide) (by decide) (hm 6 (by decide)) dL_law_1470 ?_
                                      refine r_join (P := fun (J : Rw → Cd → (Nat → Nat) → Option (Int × S3)) => ∀ (E_1494 : Rw) (C_1494 : Cd) (q_1494 : (Nat → Nat)), RunO l Γ (kL T) 16 encI (em3 ma) 1494 [(0, .ref sb), (1, .ref a1), (2, .ref (ma 0)), (3, .ref (ma 1)), (4, .ref (ma 2)), (5, .ref (ma 3)), (6, .ref (ma 4)), (7, .ref (ma 5)), (8, .ref (ma 6)), (9, .ref (ma 7)), (10, .ref (ma 8)), (11, .ref (ma 9)), (12, .ref (ma 10)), (14, wi v14_97), (17, wi x17_171), (18, wi t0_189), (19, wi t0_203), (24, wi t0_1456)] [] (E_1494, C_1494, q_1494) (J E_1494 C_1494 q_1494)) ?_ (fun J1494 hJ1494 => ?_)
                                      · intro E_1494 C_1494 q_1494
                                        show RunO l Γ (kL T) 16 encI (em3 ma) 1494 [(0, .ref sb), (1, .ref a1), (2, .ref (ma 0)), (3, .ref (ma 1)), (4, .ref (ma 2)), (5, .ref (ma 3)), (6, .ref (ma 4)), (7, .ref (ma 5)), (8, .ref (ma 6)), (9, .ref (ma 7)), (10, .ref (ma 8)), (11, .ref (ma 9)), (12, .ref (ma 10)), (14, wi v14_97), (17, wi x17_171), (18, wi t0_189), (19, wi t0_203), (24, wi t0_1456)] [] (E_1494, C_1494, q_1494) (fW_law_1494 t0_189 J1513 E_1494 C_1494 q_1494)
                                        unfold fW_law_1494
                                        refine r_aload_n (x := ma 0) dL_law_1494 rfl rfl ?_
                                        refine r_aload_n (x := ma 1) dL_law_1495 rfl rfl ?_
                                        refine r_aload (x := ma 2) dL_law_1496 rfl ?_
                                        refine r_aload (x := ma 3) dL_law_1498 rfl ?_
                                        refine r_aload (x := ma 6) dL_law_1500 rfl ?_
                                        refine r_aload (x := ma 7) dL_law_1502 rfl ?_
                                        refine r_aload (x := ma 8) dL_law_1504 rfl ?_
                                        refine r_aload (x := ma 10) dL_law_1506 rfl ?_
                                        refine r_iload (x := t0_189) dL_law_1508 rfl ?_
                                        refine r_cs3v (k2 := k_L_rendered) (n := 9) (rest := []) htb kv_L_rendered (c_L_rendered h hm t0_189 _ _ _) (by decide) um_L_221 rfl (Nat.le_of_ble_eq_true rfl) dL_law_1510 rfl (fun r27 E28 C29 q30 => ?_)
                                        exact hJ1513 E28 C29 q30
                                      refine r_if_eq (tgt := 1494) dL_law_1471 (by decide) ?_ ?_
                                      · refine r_lo [1, 2, 3, 4, 5, 6, 7, 8, 9, 10, 11, 12, 13, 14, 15, 16, 17, 0] (lo2 := [(0, .ref sb), (1, .ref a1), (2, .ref (ma 0)), (3, .ref (ma 1)), (4, .ref (ma 2)), (5, .ref (ma 3)), (6, .ref (ma 4)), (7, .ref (ma 5)), (8, .ref (ma 6)), (9, .ref (ma 7)), (10, .ref (ma 8)), (11, .ref (ma 9)), (12, .ref (ma 10)), (14, wi v14_97), (17, wi x17_171), (18, wi t0_189), (19, wi t0_203), (24, wi t0_1456)]) rfl ?_
                                        exact hJ1494 E_1456 C_1456 q_1456
                                      · refine r_iload (x := t0_1456) dL_law_1474 rfl ?_
                                        refine r_if_ne (tgt := 1513) dL_law_1476 (by decide) ?_ ?_
                                        · refine r_lo [1, 2, 3, 4, 5, 6, 7, 8, 9, 10, 11, 12, 13, 14, 15, 16, 17, 0] (lo2 := [(0, .ref sb), (1, .ref a1), (2, .ref (ma 0)), (3, .ref (ma 1)), (4, .ref (ma 2)), (5, .ref (ma 3)), (6, .ref (ma 4)), (7, .ref (ma 5)), (8, .ref (ma 6)), (9, .ref (ma 7)), (10, .ref (ma 8)), (11, .ref (ma 9)), (12, .ref (ma 10)), (14, wi v14_97), (17, wi x17_171), (18, wi t0_189), (19, wi t0_203), (24, wi t0_1456)]) rfl ?_
                                          exact hJ1513 E_1456 C_1456 q_1456
                                        · refine r_aload_n (x := ma 1) dL_law_1479 rfl rfl ?_
                                          refine r_aload (x := ma 4) dL_law_1480 rfl ?_
                                          refine r_aload (x := ma 6) dL_law_1482 rfl ?_
                                          refine r_aload (x := ma 8) dL_law_1484 rfl ?_
                                          refine r_iload (x := t0_189) dL_law_1486 rfl ?_
                                          refine r_csi (J := fun (E_ : Rw) => (E_, C_1456, q_1456)) (k2 := k_L_isStale) (n := 5) (rest := []) (fun _ => rfl) htb kv_L_isStale (c_L_isStale (ad := adq ma q_1456) (K0 := C_1456) h (adq_hm hm) t0_189 _) (by decide) um_L_55 rfl (Nat.le_of_ble_eq_true rfl) dL_law_1488 rfl (fun r31 E32 => ?_)
                                          show RunO l Γ (kL T) 16 encI (em3 ma) 1491 [(24, wi t0_1456), (0, .ref sb), (1, .ref a1), (2, .ref (ma 0)), (3, .ref (ma 1)), (4, .ref (ma 2)), (5, .ref (ma 3)), (6, .ref (ma 4)), (7, .ref (ma 5)), (8, .ref (ma 6)), (9, .ref (ma 7)), (10, .ref (ma 8)), (11, .ref (ma 9)), (12, .ref (ma 10)), (14, wi v14_97), (17, wi x17_171), (18, wi t0_189), (19, wi t0_203)] [wi r31] (E32, C_1456, q_1456) _
                                          refine r_if_eq (tgt := 1513) dL_law_1491 (by decide) ?_ ?_
                                          · refine r_lo [1, 2, 3, 4, 5, 6, 7, 8, 9, 10, 11, 12, 13, 14, 15, 16, 17, 0] (lo2 := [(0, .ref sb), (1, .ref a1), (2, .ref (ma 0)), (3, .ref (ma 1)), (4, .ref (ma 2)), (5, .ref (ma 3)), (6, .ref (ma 4)), (7, .ref (ma 5)), (8, .ref (ma 6)), (9, .ref (ma 7)), (10, .ref (ma 8)), (11, .ref (ma 9)), (12, .ref (ma 10)), (14, wi v14_97), (17, wi x17_171), (18, wi t0_189), (19, wi t0_203), (24, wi t0_1456)]) rfl ?_
                                            exact hJ1513 E32 C_1456 q_1456
                                          · refine r_lo [1, 2, 3, 4, 5, 6, 7, 8, 9, 10, 11, 12, 13, 14, 15, 16, 17, 0] (lo2 := [(0, .ref sb), (1, .ref a1), (2, .ref (ma 0)), (3, .ref (ma 1)), (4, .ref (ma 2)), (5, .ref (ma 3)), (6, .ref (ma 4)), (7, .ref (ma 5)), (8, .ref (ma 6)), (9, .ref (ma 7)), (10, .ref (ma 8)), (11, .ref (ma 9)), (12, .ref (ma 10)), (14, wi v14_97), (17, wi x17_171), (18, wi t0_189), (19, wi t0_203), (24, wi t0_1456)]) rfl ?_
                                            exact hJ1494 E32 C_1456 q_1456
                                  refine r_if_ne (tgt := 1455) dL_law_1448 (by decide) ?_ ?_
                                  · refine ro_iconst (v := 0) dL_law_1455 rfl ?_
                                    refine r_lo [0, 1, 2, 3, 4, 5, 6, 7, 8, 9, 10, 11, 12, 13, 15, 16, 17] (lo2 := [(0, .ref sb), (1, .ref a1), (2, .ref (ma 0)), (3, .ref (ma 1)), (4, .ref (ma 2)), (5, .ref (ma 3)), (6, .ref (ma 4)), (7, .ref (ma 5)), (8, .ref (ma 6)), (9, .ref (ma 7)), (10, .ref (ma 8)), (11, .ref (ma 9)), (12, .ref (ma 10)), (14, wi v14_97), (17, wi x17_171), (18, wi t0_189), (19, wi t0_203)]) rfl ?_
                                    exact hJ1456 0 E_1273 C_1273 q_1273
                                  · refine ro_iconst (v := 1) dL_law_1451 rfl ?_
                                    refine r_goto (tgt := 1456) dL_law_1452 (by decide) ?_
                                    refine r_lo [0, 1, 2, 3, 4, 5, 6, 7, 8, 9, 10, 11, 12, 13, 15, 16, 17] (lo2 := [(0, .ref sb), (1, .ref a1), (2, .ref (ma 0)), (3, .ref (ma 1)), (4, .ref (ma 2)), (5, .ref (ma 3)), (6, .ref (ma 4)), (7, .ref (ma 5)), (8, .ref (ma 6)), (9, .ref (ma 7)), (10, .ref (ma 8)), (11, .ref (ma 9)), (12, .ref (ma 10)), (14, wi v14_97), (17, wi x17_171), (18, wi t0_189), (19, wi t0_203)]) rfl ?_
                                    exact hJ1456 1 E_1273 C_1273 q_1273
                              · refine ro_iconst (v := 1) dL_law_1341 rfl ?_
                                refine r_iload (x := x17_171) dL_law_1342 rfl ?_
                                refine ro_iconst (v := 4) dL_law_1344 rfl ?_
                                refine r_irem dL_law_1345 (by decide) ?_
                                refine r_iadd dL_law_1346 ?_
                                refine r_nm (fun x24_1347 => ?_)
                                refine r_istore (lo2 := [(24, wi x24_1347), (0, .ref sb), (1, .ref a1), (2, .ref (ma 0)), (3, .ref (ma 1)), (4, .ref (ma 2)), (5, .ref (ma 3)), (6, .ref (ma 4)), (7, .ref (ma 5)), (8, .ref (ma 6)), (9, .ref (ma 7)), (10, .ref (ma 8)), (11, .ref (ma 9)), (12, .ref (ma 10)), (14, wi v14_97), (16, wi t0_164), (17, wi x17_171), (18, wi t0_189), (19, wi t0_203), (20, wi r9), (23, wi x23_234)]) dL_law_1347 (by decide) rfl ?_
                                refine ro_iconst (v := 0) dL_law_1349 rfl ?_
                                refine r_istore (lo2 := [(25, wi 0), (24, wi x24_1347), (0, .ref sb), (1, .ref a1), (2, .ref (ma 0)), (3, .ref (ma 1)), (4, .ref (ma 2)), (5, .ref (ma 3)), (6, .ref (ma 4)), (7, .ref (ma 5)), (8, .ref (ma 6)), (9, .ref (ma 7)), (10, .ref (ma 8)), (11, .ref (ma 9)), (12, .ref (ma 10)), (14, wi v14_97), (16, wi t0_164), (17, wi x17_171), (18, wi t0_189), (19, wi t0_203), (20, wi r9), (23, wi x23_234)]) dL_law_1350 (by decide) rfl ?_
                                refine r_aload_n (x := ma 1) dL_law_1352 rfl rfl ?_
                                refine r_aload (x := ma 4) dL_law_1353 rfl ?_
                                refine r_aload (x := ma 6) dL_law_1355 rfl ?_
                                refine r_aload (x := ma 8) dL_law_1357 rfl ?_
                                refine r_csi (J := fun (E_ : Rw) => (E_, C_1273, q_1273)) (k2 := k_L_next) (n := 4) (rest := []) (fun _ => rfl) htb kv_L_next (c_L_next (ad := adq ma q_1273) (K0 := C_1273) h (adq_hm hm)  _) (by decide) um_L_217 rfl (Nat.le_of_ble_eq_true rfl) dL_law_1359 rfl (fun r33 E34 => ?_)
                                show RunO l Γ (kL T) 16 encI (em3 ma) 1362 [(25, wi 0), (24, wi x24_1347), (0, .ref sb), (1, .ref a1), (2, .ref (ma 0)), (3, .ref (ma 1)), (4, .ref (ma 2)), (5, .ref (ma 3)), (6, .ref (ma 4)), (7, .ref (ma 5)), (8, .ref (ma 6)), (9, .ref (ma 7)), (10, .ref (ma 8)), (11, .ref (ma 9)), (12, .ref (ma 10)), (14, wi v14_97), (16, wi t0_164), (17, wi x17_171), (18, wi t0_189), (19, wi t0_203), (20, wi r9), (23, wi x23_234)] [wi r33] (E34, C_1273, q_1273) _
                                refine r_istore (lo2 := [(26, wi r33), (25, wi 0), (24, wi x24_1347), (0, .ref sb), (1, .ref a1), (2, .ref (ma 0)), (3, .ref (ma 1)), (4, .ref (ma 2)), (5, .ref (ma 3)), (6, .ref (ma 4)), (7, .ref (ma 5)), (8, .ref (ma 6)), (9, .ref (ma 7)), (10, .ref (ma 8)), (11, .ref (ma 9)), (12, .ref (ma 10)), (14, wi v14_97), (16, wi t0_164), (17, wi x17_171), (18, wi t0_189), (19, wi t0_203), (20, wi r9), (23, wi x23_234)]) dL_law_1362 (by decide) rfl ?_
                                refine r_loop (P := fun (J : Int → Int → Rw → Cd → (Nat → Nat) → Option (Int × S3)) => ∀ (v25_1364 : Int) (v26_1364 : Int) (E_1364 : Rw) (C_1364 : Cd) (q_1364 : (Nat → Nat)), RunO l Γ (kL T) 16 encI (em3 ma) 1364 [(0, .ref sb), (1, .ref a1), (2, .ref (ma 0)), (3, .ref (ma 1)), (4, .ref (ma 2)), (5, .ref (ma 3)), (6, .ref (ma 4)), (7, .ref (ma 5)), (8, .ref (ma 6)), (9, .ref (ma 7)), (10, .ref (ma 8)), (11, .ref (ma 9)), (12, .ref (ma 10)), (14, wi v14_97), (17, wi x17_171), (24, wi x24_1347), (25, wi v25_1364), (26, wi v26_1364)] [] (E_1364, C_1364, q_1364) (J v25_1364 v26_1364 E_1364 C_1364 q_1364)) ?_ (fun L1364 hL1364 => ?_) (fun J1364 hJ1364 => ?_)
                                · intros; exact ro_none
                                · intro v25_1364 v26_1364 E_1364 C_1364 q_1364
                                  show RunO l Γ (kL T) 16 encI (em3 ma) 1364 [(0, .ref sb), (1, .ref a1), (2, .ref (ma 0)), (3, .ref (ma 1)), (4, .ref (ma 2)), (5, .ref (ma 3)), (6, .ref (ma 4)), (7, .ref (ma 5)), (8, .ref (ma 6)), (9, .ref (ma 7)), (10, .ref (ma 8)), (11, .ref (ma 9)), (12, .ref (ma 10)), (14, wi v14_97), (17, wi x17_171), (24, wi x24_1347), (25, wi v25_1364), (26, wi v26_1364)] [] (E_1364, C_1364, q_1364) (fW_law_1364 a1 J1788 x24_1347 L1364 v25_1364 v26_1364 E_1364 C_1364 q_1364)
                                  unfold fW_law_1364
                                  refine r_iload (x := v26_1364) dL_law_1364 rfl ?_
                                  refine r_join (P := fun (J : Rw → Cd → (Nat → Nat) → Option (Int × S3)) => ∀ (E_1413 : Rw) (C_1413 : Cd) (q_1413 : (Nat → Nat)), RunO l Γ (kL T) 16 encI (em3 ma) 1413 [(0, .ref sb), (1, .ref a1), (2, .ref (ma 0)), (3, .ref (ma 1)), (4, .ref (ma 2)), (5, .ref (ma 3)), (6, .ref (ma 4)), (7, .ref (ma 5)), (8, .ref (ma 6)), (9, .ref (ma 7)), (10, .ref (ma 8)), (11, .ref (ma 9)), (12, .ref (ma 10)), (14, wi v14_97), (17, wi x17_171), (24, wi x24_1347), (25, wi v25_1364)] [] (E_1413, C_1413, q_1413) (J E_1413 C_1413 q_1413)) ?_ (fun J1413 hJ1413 => ?_)
                                  · intro E_1413 C_1413 q_1413
                                    show RunO l Γ (kL T) 16 encI (em3 ma) 1413 [(0, .ref sb), (1, .ref a1), (2, .ref (ma 0)), (3, .ref (ma 1)), (4, .ref (ma 2)), (5, .ref (ma 3)), (6, .ref (ma 4)), (7, .ref (ma 5)), (8, .ref (ma 6)), (9, .ref (ma 7)), (10, .ref (ma 8)), (11, .ref (ma 9)), (12, .ref (ma 10)), (14, wi v14_97), (17, wi x17_171), (24, wi x24_1347), (25, wi v25_1364)] [] (E_1413, C_1413, q_1413) (fW_law_1413 a1 J1788 x24_1347 v25_1364 E_1413 C_1413 q_1413)
                                    unfold fW_law_1413
                                    refine r_aload_n (x := a1) dL_law_1413 rfl rfl ?_
                                    refine r_iload (x := x24_1347) dL_law_1414 rfl ?_
                                    refine r_cx1 (J := fun (C_ : Cd) => (E_1413, C_, q_1413)) (k2 := k_X11_work) (c := 14) (T := TX11) (N := 10) (n := 1) (rest := []) (fun _ => rfl) htb um_L_225 kv_X11_work hc_X11 (by decide) (c_X11_work hG _ _ _) (by decide) rfl (Nat.le_of_ble_eq_true rfl) dL_law_1416 rfl (fun r35 C36 => ?_)
                                    show RunO l Γ (kL T) 16 encI (em3 ma) 1419 [(0, .ref sb), (1, .ref a1), (2, .ref (ma 0)), (3, .ref (ma 1)), (4, .ref (ma 2)), (5, .ref (ma 3)), (6, .ref (ma 4)), (7, .ref (ma 5)), (8, .ref (ma 6)), (9, .ref (ma 7)), (10, .ref (ma 8)), (11, .ref (ma 9)), (12, .ref (ma 10)), (14, wi v14_97), (17, wi x17_171), (24, wi x24_1347), (25, wi v25_1364)] [wi r35] (E_1413, C36, q_1413) _
                                    refine r_iload (x := v25_1364) dL_law_1419 rfl ?_
                                    refine r_join (P := fun (J : Int → Rw → Cd → (Nat → Nat) → Option (Int × S3)) => ∀ (t0_1429 : Int) (E_1429 : Rw) (C_1429 : Cd) (q_1429 : (Nat → Nat)), RunO l Γ (kL T) 16 encI (em3 ma) 1429 [(0, .ref sb), (1, .ref a1), (2, .ref (ma 0)), (3, .ref (ma 1)), (4, .ref (ma 2)), (5, .ref (ma 3)), (6, .ref (ma 4)), (7, .ref (ma 5)), (8, .ref (ma 6)), (9, .ref (ma 7)), (10, .ref (ma 8)), (11, .ref (ma 9)), (12, .ref (ma 10)), (14, wi v14_97), (17, wi x17_171)] [wi t0_1429] (E_1429, C_1429, q_1429) (J t0_1429 E_1429 C_1429 q_1429)) ?_ (fun J1429 hJ1429 => ?_)
                                    · intro t0_1429 E_1429 C_1429 q_1429
                                      show RunO l Γ (kL T) 16 encI (em3 ma) 1429 [(0, .ref sb), (1, .ref a1), (2, .ref (ma 0)), (3, .ref (ma 1)), (4, .ref (ma 2)), (5, .ref (ma 3)), (6, .ref (ma 4)), (7, .ref (ma 5)), (8, .ref (ma 6)), (9, .ref (ma 7)), (10, .ref (ma 8)), (11, .ref (ma 9)), (12, .ref (ma 10)), (14, wi v14_97), (17, wi x17_171)] [wi t0_1429] (E_1429, C_1429, q_1429) (fW_law_1429 J1788 t0_1429 E_1429 C_1429 q_1429)
                                      unfold fW_law_1429
                                      refine r_istore (lo2 := [(13, wi t0_1429), (0, .ref sb), (1, .ref a1), (2, .ref (ma 0)), (3, .ref (ma 1)), (4, .ref (ma 2)), (5, .ref (ma 3)), (6, .ref (ma 4)), (7, .ref (ma 5)), (8, .ref (ma 6)), (9, .ref (ma 7)), (10, .ref (ma 8)), (11, .ref (ma 9)), (12, .ref (ma 10)), (14, wi v14_97), (17, wi x17_171)]) dL_law_1429 (by decide) rfl ?_
                                      refine r_goto (tgt := 1788) dL_law_1431 (by decide) ?_
                                      refine r_lo [1, 2, 3, 4, 5, 6, 7, 8, 9, 10, 11, 12, 13, 0, 14, 15] (lo2 := [(0, .ref sb), (1, .ref a1), (2, .ref (ma 0)), (3, .ref (ma 1)), (4, .ref (ma 2)), (5, .ref (ma 3)), (6, .ref (ma 4)), (7, .ref (ma 5)), (8, .ref (ma 6)), (9, .ref (ma 7)), (10, .ref (ma 8)), (11, .ref (ma 9)), (12, .ref (ma 10)), (13, wi t0_1429), (14, wi v14_97), (17, wi x17_171)]) rfl ?_
                                      exact hJ1788 t0_1429 E_1429 C_1429 q_1429
                                    refine r_icmp_ne (tgt := 1428) dL_law_1421 (by decide) ?_ ?_
                                    · refine ro_iconst (v := 0) dL_law_1428 rfl ?_
                                      refine r_lo [0, 1, 2, 3, 4, 5, 6, 7, 8, 9, 10, 11, 12, 13, 14] (lo2 := [(0, .ref sb), (1, .ref a1), (2, .ref (ma 0)), (3, .ref (ma 1)), (4, .ref (ma 2)), (5, .ref (ma 3)), (6, .ref (ma 4)), (7, .ref (ma 5)), (8, .ref (ma 6)), (9, .ref (ma 7)), (10, .ref (ma 8)), (11, .ref (ma 9)), (12, .ref (ma 10)), (14, wi v14_97), (17, wi x17_171)]) rfl ?_
                                      exact hJ1429 0 E_1413 C36 q_1413
                                    · refine ro_iconst (v := 1) dL_law_1424 rfl ?_
                                      refine r_goto (tgt := 1429) dL_law_1425 (by decide) ?_
                                      refine r_lo [0, 1, 2, 3, 4, 5, 6, 7, 8, 9, 10, 11, 12, 13, 14] (lo2 := [(0, .ref sb), (1, .ref a1), (2, .ref (ma 0)), (3, .ref (ma 1)), (4, .ref (ma 2)), (5, .ref (ma 3)), (6, .ref (ma 4)), (7, .ref (ma 5)), (8, .ref (ma 6)), (9, .ref (ma 7)), (10, .ref (ma 8)), (11, .ref (ma 9)), (12, .ref (ma 10)), (14, wi v14_97), (17, wi x17_171)]) rfl ?_
                                      exact hJ1429 1 E_1413 C36 q_1413
                                  refine r_if_lt (tgt := 1413) dL_law_1366 (by decide) ?_ ?_
                                  · refine r_lo [0, 1, 2, 3, 4, 5, 6, 7, 8, 9, 10, 11, 12, 13, 14, 15, 16] (lo2 := [(0, .ref sb), (1, .ref a1), (2, .ref (ma 0)), (3, .ref (ma 1)), (4, .ref (ma 2)), (5, .ref (ma 3)), (6, .ref (ma 4)), (7, .ref (ma 5)), (8, .ref (ma 6)), (9, .ref (ma 7)), (10, .ref (ma 8)), (11, .ref (ma 9)), (12, .ref (ma 10)), (14, wi v14_97), (17, wi x17_171), (24, wi x24_1347), (25, wi v25_1364)]) rfl ?_
                                    exact hJ1413 E_1364 C_1364 q_1364
                                  · refine r_iload (x := v25_1364) dL_law_1369 rfl ?_
                                    refine r_iload (x := x24_1347) dL_law_1371 rfl ?_
                                    refine r_icmp_ge (tgt := 1413) dL_law_1373 (by decide) ?_ ?_
                                    · refine r_lo [0, 1, 2, 3, 4, 5, 6, 7, 8, 9, 10, 11, 12, 13, 14, 15, 16] (lo2 := [(0, .ref sb), (1, .ref a1), (2, .ref (ma 0)), (3, .ref (ma 1)), (4, .ref (ma 2)), (5, .ref (ma 3)), (6, .ref (ma 4)), (7, .ref (ma 5)), (8, .ref (ma 6)), (9, .ref (ma 7)), (10, .ref (ma 8)), (11, .ref (ma 9)), (12, .ref (ma 10)), (14, wi v14_97), (17, wi x17_171), (24, wi x24_1347), (25, wi v25_1364)]) rfl ?_
                                      exact hJ1413 E_1364 C_1364 q_1364
                                    · refine r_aload_n (x := ma 0) dL_law_1376 rfl rfl ?_
                                      refine r_aload_n (x := ma 1) dL_law_1377 rfl rfl ?_
                                      refine r_aload (x := ma 2) dL_law_1378 rfl ?_
                                      refine r_aload (x := ma 3) dL_law_1380 rfl ?_
                                      refine r_aload (x := ma 6) dL_law_1382 rfl ?_
                                      refine r_aload (x := ma 7) dL_law_1384 rfl ?_
                                      refine r_aload (x := ma 8) dL_law_1386 rfl ?_
                                      refine r_aload (x := ma 10) dL_law_1388 rfl ?_
                                      refine r_iload (x := v26_1364) dL_law_1390 rfl ?_
                                      refine r_cs3v (k2 := k_L_rendered) (n := 9) (rest := []) htb kv_L_rendered (c_L_rendered h hm v26_1364 _ _ _) (by decide) um_L_221 rfl (Nat.le_of_ble_eq_true rfl) dL_law_1392 rfl (fun r37 E38 C39 q40 => ?_)
                                      refine r_iinc (x := v25_1364) (lo2 := [(25, wi (v25_1364 + 1)), (0, .ref sb), (1, .ref a1), (2, .ref (ma 0)), (3, .ref (ma 1)), (4, .ref (ma 2)), (5, .ref (ma 3)), (6, .ref (ma 4)), (7, .ref (ma 5)), (8, .ref (ma 6)), (9, .ref (ma 7)), (10, .ref (ma 8)), (11, .ref (ma 9)), (12, .ref (ma 10)), (14, wi v14_97), (17, wi x17_171), (24, wi x24_1347), (26, wi v26_1364)]) dL_law_1395 rfl (by decide) rfl ?_
                                      refine r_aload_n (x := ma 1) dL_law_1398 rfl rfl ?_
                                      refine r_aload (x := ma 4) dL_law_1399 rfl ?_
                                      refine r_aload (x := ma 6) dL_law_1401 rfl ?_
                                      refine r_aload (x := ma 8) dL_law_1403 rfl ?_
                                      refine r_csi (J := fun (E_ : Rw) => (E_, C39, q40)) (k2 := k_L_next) (n := 4) (rest := []) (fun _ => rfl) htb kv_L_next (c_L_next (ad := adq ma q40) (K0 := C39) h (adq_hm hm)  _) (by decide) um_L_217 rfl (Nat.le_of_ble_eq_true rfl) dL_law_1405 rfl (fun r41 E42 => ?_)
                                      show RunO l Γ (kL T) 16 encI (em3 ma) 1408 [(25, wi (v25_1364 + 1)), (0, .ref sb), (1, .ref a1), (2, .ref (ma 0)), (3, .ref (ma 1)), (4, .ref (ma 2)), (5, .ref (ma 3)), (6, .ref (ma 4)), (7, .ref (ma 5)), (8, .ref (ma 6)), (9, .ref (ma 7)), (10, .ref (ma 8)), (11, .ref (ma 9)), (12, .ref (ma 10)), (14, wi v14_97), (17, wi x17_171), (24, wi x24_1347), (26, wi v26_1364)] [wi r41] (E42, C39, q40) _
                                      refine r_istore (lo2 := [(26, wi r41), (25, wi (v25_1364 + 1)), (0, .ref sb), (1, .ref a1), (2, .ref (ma 0)), (3, .ref (ma 1)), (4, .ref (ma 2)), (5, .ref (ma 3)), (6, .ref (ma 4)), (7, .ref (ma 5)), (8, .ref (ma 6)), (9, .ref (ma 7)), (10, .ref (ma 8)), (11, .ref (ma 9)), (12, .ref (ma 10)), (14, wi v14_97), (17, wi x17_171), (24, wi x24_1347)]) dL_law_1408 (by decide) rfl ?_
                                      refine r_goto (tgt := 1364) dL_law_1410 (by decide) ?_
                                      refine r_lo [2, 3, 4, 5, 6, 7, 8, 9, 10, 11, 12, 13, 14, 15, 16, 17, 1, 0] (lo2 := [(0, .ref sb), (1, .ref a1), (2, .ref (ma 0)), (3, .ref (ma 1)), (4, .ref (ma 2)), (5, .ref (ma 3)), (6, .ref (ma 4)), (7, .ref (ma 5)), (8, .ref (ma 6)), (9, .ref (ma 7)), (10, .ref (ma 8)), (11, .ref (ma 9)), (12, .ref (ma 10)), (14, wi v14_97), (17, wi x17_171), (24, wi x24_1347), (25, wi (v25_1364 + 1)), (26, wi r41)]) rfl ?_
                                      exact hL1364 (v25_1364 + 1) r41 E42 C39 q40
                                refine r_lo [3, 4, 5, 6, 7, 8, 9, 10, 11, 12, 13, 14, 15, 16, 18, 2, 1, 0] (lo2 := [(0, .ref sb), (1, .ref a1), (2, .ref (ma 0)), (3, .ref (ma 1)), (4, .ref (ma 2)), (5, .ref (ma 3)), (6, .ref (ma 4)), (7, .ref (ma 5)), (8, .ref (ma 6)), (9, .ref (ma 7)), (10, .ref (ma 8)), (11, .ref (ma 9)), (12, .ref (ma 10)), (14, wi v14_97), (17, wi x17_171), (24, wi x24_1347), (25, wi 0), (26, wi r33)]) rfl ?_
                                exact hJ1364 0 r33 E34 C_1273 q_1273
                            · refine r_aload_n (x := a1) dL_law_1280 rfl rfl ?_
                              refine r_bipush (v := 6) dL_law_1281 rfl ?_
                              refine r_iload (x := t0_189) dL_law_1283 rfl ?_
                              refine ro_iconst (v := 0) dL_law_1285 rfl ?_
                              refine ro_iconst (v := 0) dL_law_1286 rfl ?_
                              refine r_csHi (J := fun (C_ : Cd) => (E_1273, C_, q_1273)) (k2 := k_L_does) (n := 5) (rest := []) (fun _ => rfl) kv_L_does (c_L_does hG hX a1 6 t0_189 0 0 _) (by decide) um_L_132 rfl (Nat.le_of_ble_eq_true rfl) dL_law_1287 rfl (fun r43 C44 => ?_)
                              show RunO l Γ (kL T) 16 encI (em3 ma) 1290 [(0, .ref sb), (1, .ref a1), (2, .ref (ma 0)), (3, .ref (ma 1)), (4, .ref (ma 2)), (5, .ref (ma 3)), (6, .ref (ma 4)), (7, .ref (ma 5)), (8, .ref (ma 6)), (9, .ref (ma 7)), (10, .ref (ma 8)), (11, .ref (ma 9)), (12, .ref (ma 10)), (14, wi v14_97), (16, wi t0_164), (17, wi x17_171), (18, wi t0_189), (19, wi t0_203), (20, wi r9), (23, wi x23_234)] [wi r43] (E_1273, C44, q_1273) _
                              refine r_iload (x := t0_203) dL_law_1290 rfl ?_
                              refine r_join (P := fun (J : Int → Rw → Cd → (Nat → Nat) → Option (Int × S3)) => ∀ (t0_1305 : Int) (E_1305 : Rw) (C_1305 : Cd) (q_1305 : (Nat → Nat)), RunO l Γ (kL T) 16 encI (em3 ma) 1305 [(0, .ref sb), (1, .ref a1), (2, .ref (ma 0)), (3, .ref (ma 1)), (4, .ref (ma 2)), (5, .ref (ma 3)), (6, .ref (ma 4)), (7, .ref (ma 5)), (8, .ref (ma 6)), (9, .ref (ma 7)), (10, .ref (ma 8)), (11, .ref (ma 9)), (12, .ref (ma 10)), (14, wi v14_97), (17, wi x17_171), (19, wi t0_203)] [wi t0_1305, wi r43] (E_1305, C_1305, q_1305) (J t0_1305 E_1305 C_1305 q_1305)) ?_ (fun J1305 hJ1305 => ?_)
                              · intro t0_1305 E_1305 C_1305 q_1305
                                show RunO l Γ (kL T) 16 encI (em3 ma) 1305 [(0, .ref sb), (1, .ref a1), (2, .ref (ma 0)), (3, .ref (ma 1)), (4, .ref (ma 2)), (5, .ref (ma 3)), (6, .ref (ma 4)), (7, .ref (ma 5)), (8, .ref (ma 6)), (9, .ref (ma 7)), (10, .ref (ma 8)), (11, .ref (ma 9)), (12, .ref (ma 10)), (14, wi v14_97), (17, wi x17_171), (19, wi t0_203)] [wi t0_1305, wi r43] (E_1305, C_1305, q_1305) (fW_law_1305 t0_203 J1788 r43 t0_1305 E_1305 C_1305 q_1305)
                                unfold fW_law_1305
                                refine r_join (P := fun (J : Int → Rw → Cd → (Nat → Nat) → Option (Int × S3)) => ∀ (t0_1313 : Int) (E_1313 : Rw) (C_1313 : Cd) (q_1313 : (Nat → Nat)), RunO l Γ (kL T) 16 encI (em3 ma) 1313 [(0, .ref sb), (1, .ref a1), (2, .ref (ma 0)), (3, .ref (ma 1)), (4, .ref (ma 2)), (5, .ref (ma 3)), (6, .ref (ma 4)), (7, .ref (ma 5)), (8, .ref (ma 6)), (9, .ref (ma 7)), (10, .ref (ma 8)), (11, .ref (ma 9)), (12, .ref (ma 10)), (14, wi v14_97), (17, wi x17_171), (19, wi t0_203)] [wi t0_1313] (E_1313, C_1313, q_1313) (J t0_1313 E_1313 C_1313 q_1313)) ?_ (fun J1313 hJ1313 => ?_)
                                · intro t0_1313 E_1313 C_1313 q_1313
                                  show RunO l Γ (kL T) 16 encI (em3 ma) 1313 [(0, .ref sb), (1, .ref a1), (2, .ref (ma 0)), (3, .ref (ma 1)), (4, .ref (ma 2)), (5, .ref (ma 3)), (6, .ref (ma 4)), (7, .ref (ma 5)), (8, .ref (ma 6)), (9, .ref (ma 7)), (10, .ref (ma 8)), (11, .ref (ma 9)), (12, .ref (ma 10)), (14, wi v14_97), (17, wi x17_171), (19, wi t0_203)] [wi t0_1313] (E_1313, C_1313, q_1313) (fW_law_1313 t0_203 J1788 t0_1313 E_1313 C_1313 q_1313)
                                  unfold fW_law_1313
                                  refine r_istore (lo2 := [(13, wi t0_1313), (0, .ref sb), (1, .ref a1), (2, .ref (ma 0)), (3, .ref (ma 1)), (4, .ref (ma 2)), (5, .ref (ma 3)), (6, .ref (ma 4)), (7, .ref (ma 5)), (8, .ref (ma 6)), (9, .ref (ma 7)), (10, .ref (ma 8)), (11, .ref (ma 9)), (12, .ref (ma 10)), (14, wi v14_97), (17, wi x17_171), (19, wi t0_203)]) dL_law_1313 (by decide) rfl ?_
                                  refine r_aload_n (x := ma 0) dL_law_1315 rfl rfl ?_
                                  refine ro_iconst (v := 2) dL_law_1316 rfl ?_
                                  refine r_dup2 dL_law_1317 rfl rfl ?_
                                  refine r_wiald3 h (by decide) (by decide) (hm 0 (by decide)) dL_law_1318 ?_
                                  refine r_iload (x := t0_203) dL_law_1319 rfl ?_
                                  refine r_join (P := fun (J : Int → Rw → Cd → (Nat → Nat) → Option (Int × S3)) => ∀ (t0_1329 : Int) (E_1329 : Rw) (C_1329 : Cd) (q_1329 : (Nat → Nat)), RunO l Γ (kL T) 16 encI (em3 ma) 1329 [(0, .ref sb), (1, .ref a1), (2, .ref (ma 0)), (3, .ref (ma 1)), (4, .ref (ma 2)), (5, .ref (ma 3)), (6, .ref (ma 4)), (7, .ref (ma 5)), (8, .ref (ma 6)), (9, .ref (ma 7)), (10, .ref (ma 8)), (11, .ref (ma 9)), (12, .ref (ma 10)), (13, wi t0_1313), (14, wi v14_97), (17, wi x17_171)] [wi t0_1329, wi (E_1313 0 (ix 2)), wi 2, .ref (ma 0)] (E_1329, C_1329, q_1329) (J t0_1329 E_1329 C_1329 q_1329)) ?_ (fun J1329 hJ1329 => ?_)
                                  · intro t0_1329 E_1329 C_1329 q_1329
                                    show RunO l Γ (kL T) 16 encI (em3 ma) 1329 [(0, .ref sb), (1, .ref a1), (2, .ref (ma 0)), (3, .ref (ma 1)), (4, .ref (ma 2)), (5, .ref (ma 3)), (6, .ref (ma 4)), (7, .ref (ma 5)), (8, .ref (ma 6)), (9, .ref (ma 7)), (10, .ref (ma 8)), (11, .ref (ma 9)), (12, .ref (ma 10)), (13, wi t0_1313), (14, wi v14_97), (17, wi x17_171)] [wi t0_1329, wi (E_1313 0 (ix 2)), wi 2, .ref (ma 0)] (E_1329, C_1329, q_1329) (fW_law_1329 J1788 t0_1313 E_1313 t0_1329 E_1329 C_1329 q_1329)
                                    unfold fW_law_1329
                                    refine r_iadd dL_law_1329 ?_
                                    refine r_wiast3 h (by decide) (by decide) (hm 0 (by decide)) dL_law_1330 (fun E45 => ?_)
                                    refine r_goto (tgt := 1788) dL_law_1331 (by decide) ?_
                                    exact hJ1788 t0_1313 E45 C_1329 q_1329
                                  refine r_if_eq (tgt := 1328) dL_law_1321 (by decide) ?_ ?_
                                  · refine ro_iconst (v := 0) dL_law_1328 rfl ?_
                                    refine r_lo [1, 2, 3, 4, 5, 6, 7, 8, 9, 10, 11, 12, 13, 0, 14, 15] (lo2 := [(0, .ref sb), (1, .ref a1), (2, .ref (ma 0)), (3, .ref (ma 1)), (4, .ref (ma 2)), (5, .ref (ma 3)), (6, .ref (ma 4)), (7, .ref (ma 5)), (8, .ref (ma 6)), (9, .ref (ma 7)), (10, .ref (ma 8)), (11, .ref (ma 9)), (12, .ref (ma 10)), (13, wi t0_1313), (14, wi v14_97), (17, wi x17_171)]) rfl ?_
                                    exact hJ1329 0 E_1313 C_1313 q_1313
                                  · refine ro_iconst (v := 1) dL_law_1324 rfl ?_
                                    refine r_goto (tgt := 1329) dL_law_1325 (by decide) ?_
                                    refine r_lo [1, 2, 3, 4, 5, 6, 7, 8, 9, 10, 11, 12, 13, 0, 14, 15] (lo2 := [(0, .ref sb), (1, .ref a1), (2, .ref (ma 0)), (3, .ref (ma 1)), (4, .ref (ma 2)), (5, .ref (ma 3)), (6, .ref (ma 4)), (7, .ref (ma 5)), (8, .ref (ma 6)), (9, .ref (ma 7)), (10, .ref (ma 8)), (11, .ref (ma 9)), (12, .ref (ma 10)), (13, wi t0_1313), (14, wi v14_97), (17, wi x17_171)]) rfl ?_
                                    exact hJ1329 1 E_1313 C_1313 q_1313
                                refine r_icmp_ne (tgt := 1312) dL_law_1305 (by decide) ?_ ?_
                                · refine ro_iconst (v := 0) dL_law_1312 rfl ?_
                                  exact hJ1313 0 E_1305 C_1305 q_1305
                                · refine ro_iconst (v := 1) dL_law_1308 rfl ?_
                                  refine r_goto (tgt := 1313) dL_law_1309 (by decide) ?_
                                  exact hJ1313 1 E_1305 C_1305 q_1305
                              refine r_if_eq (tgt := 1303) dL_law_1292 (by decide) ?_ ?_
                              · refine r_bipush (v := (-11)) dL_law_1303 rfl ?_
                                refine r_lo [0, 1, 2, 3, 4, 5, 6, 7, 8, 9, 10, 11, 12, 13, 15, 17] (lo2 := [(0, .ref sb), (1, .ref a1), (2, .ref (ma 0)), (3, .ref (ma 1)), (4, .ref (ma 2)), (5, .ref (ma 3)), (6, .ref (ma 4)), (7, .ref (ma 5)), (8, .ref (ma 6)), (9, .ref (ma 7)), (10, .ref (ma 8)), (11, .ref (ma 9)), (12, .ref (ma 10)), (14, wi v14_97), (17, wi x17_171), (19, wi t0_203)]) rfl ?_
                                exact hJ1305 (-11) E_1273 C44 q_1273
                              · refine r_aload_n (x := ma 0) dL_law_1295 rfl rfl ?_
                                refine ro_iconst (v := 2) dL_law_1296 rfl ?_
                                refine r_wiald3 h (by decide) (by decide) (hm 0 (by decide)) dL_law_1297 ?_
                                refine ro_iconst (v := 1) dL_law_1298 rfl ?_
                                refine r_iadd dL_law_1299 ?_
                                refine r_goto (tgt := 1305) dL_law_1300 (by decide) ?_
                                refine r_lo [0, 1, 2, 3, 4, 5, 6, 7, 8, 9, 10, 11, 12, 13, 15, 17] (lo2 := [(0, .ref sb), (1, .ref a1), (2, .ref (ma 0)), (3, .ref (ma 1)), (4, .ref (ma 2)), (5, .ref (ma 3)), (6, .ref (ma 4)), (7, .ref (ma 5)), (8, .ref (ma 6)), (9, .ref (ma 7)), (10, .ref (ma 8)), (11, .ref (ma 9)), (12, .ref (ma 10)), (14, wi v14_97), (17, wi x17_171), (19, wi t0_203)]) rfl ?_
                                exact hJ1305 ((E_1273 0 (ix 2)) + 1) E_1273 C44 q_1273
                          refine r_icmp_ne (tgt := 1273) dL_law_1235 (by decide) ?_ ?_
                          · exact hJ1273 E_1231 C_1231 q_1231
                          · refine r_aload_n (x := ma 0) dL_law_1238 rfl rfl ?_
                            refine ro_iconst (v := 0) dL_law_1239 rfl ?_
                            refine r_wiald3 h (by decide) (by decide) (hm 0 (by decide)) dL_law_1240 ?_
                            refine r_bipush (v := 24) dL_law_1241 rfl ?_
                            refine r_icmp_ge (tgt := 1273) dL_law_1243 (by decide) ?_ ?_
                            · exact hJ1273 E_1231 C_1231 q_1231
                            · refine r_aload_n (x := a1) dL_law_1246 rfl rfl ?_
                              refine r_aload_n (x := ma 0) dL_law_1247 rfl rfl ?_
                              refine r_aload_n (x := ma 1) dL_law_1248 rfl rfl ?_
                              refine r_aload (x := ma 2) dL_law_1249 rfl ?_
                              refine r_aload (x := ma 3) dL_law_1251 rfl ?_
                              refine r_aload (x := ma 4) dL_law_1253 rfl ?_
                              refine r_aload (x := ma 5) dL_law_1255 rfl ?_
                              refine r_aload (x := ma 6) dL_law_1257 rfl ?_
                              refine r_aload (x := ma 8) dL_law_1259 rfl ?_
                              refine r_iload (x := x17_171) dL_law_1261 rfl ?_
                              refine ro_iconst (v := 2) dL_law_1263 rfl ?_
                              refine r_irem dL_law_1264 (by decide) ?_
                              refine r_cs3i (k2 := k_L_isMoved) (n := 10) (rest := []) htb kv_L_isMoved (c_L_isMoved h hm hG hX a1 (remI x17_171 2) _ _ _) (by decide) um_L_213 rfl (Nat.le_of_ble_eq_true rfl) dL_law_1265 rfl (fun r46 E47 C48 q49 => ?_)
                              refine r_istore (lo2 := [(13, wi r46), (0, .ref sb), (1, .ref a1), (2, .ref (ma 0)), (3, .ref (ma 1)), (4, .ref (ma 2)), (5, .ref (ma 3)), (6, .ref (ma 4)), (7, .ref (ma 5)), (8, .ref (ma 6)), (9, .ref (ma 7)), (10, .ref (ma 8)), (11, .ref (ma 9)), (12, .ref (ma 10)), (14, wi v14_97), (16, wi t0_164), (17, wi x17_171), (18, wi t0_189), (19, wi t0_203), (20, wi r9), (23, wi x23_234)]) dL_law_1268 (by decide) rfl ?_
                              refine r_goto (tgt := 1788) dL_law_1270 (by decide) ?_
                              refine r_lo [1, 2, 3, 4, 5, 6, 7, 8, 9, 10, 11, 12, 13, 0, 14, 16] (lo2 := [(0, .ref sb), (1, .ref a1), (2, .ref (ma 0)), (3, .ref (ma 1)), (4, .ref (ma 2)), (5, .ref (ma 3)), (6, .ref (ma 4)), (7, .ref (ma 5)), (8, .ref (ma 6)), (9, .ref (ma 7)), (10, .ref (ma 8)), (11, .ref (ma 9)), (12, .ref (ma 10)), (13, wi r46), (14, wi v14_97), (17, wi x17_171)]) rfl ?_
                              exact hJ1788 r46 E47 C48 q49
                        refine r_icmp_ge (tgt := 1231) dL_law_1070 (by decide) ?_ ?_
                        · exact hJ1231 E_1066 C_1066 q_1066
                        · refine r_aload_n (x := ma 0) dL_law_1073 rfl rfl ?_
                          refine ro_iconst (v := 0) dL_law_1074 rfl ?_
                          refine r_wiald3 h (by decide) (by decide) (hm 0 (by decide)) dL_law_1075 ?_
                          refine r_bipush (v := 32) dL_law_1076 rfl ?_
                          refine r_icmp_ge (tgt := 1231) dL_law_1078 (by decide) ?_ ?_
                          · exact hJ1231 E_1066 C_1066 q_1066
                          · refine r_iload (x := t0_203) dL_law_1081 rfl ?_
                            refine r_join (P := fun (J : Int → Rw → Cd → (Nat → Nat) → Option (Int × S3)) => ∀ (t0_1098 : Int) (E_1098 : Rw) (C_1098 : Cd) (q_1098 : (Nat → Nat)), RunO l Γ (kL T) 16 encI (em3 ma) 1098 [(0, .ref sb), (1, .ref a1), (2, .ref (ma 0)), (3, .ref (ma 1)), (4, .ref (ma 2)), (5, .ref (ma 3)), (6, .ref (ma 4)), (7, .ref (ma 5)), (8, .ref (ma 6)), (9, .ref (ma 7)), (10, .ref (ma 8)), (11, .ref (ma 9)), (12, .ref (ma 10)), (14, wi v14_97), (17, wi x17_171), (18, wi t0_189), (19, wi t0_203), (23, wi x23_234)] [wi t0_1098] (E_1098, C_1098, q_1098) (J t0_1098 E_1098 C_1098 q_1098)) ?_ (fun J1098 hJ1098 => ?_)
                            · intro t0_1098 E_1098 C_1098 q_1098
                              show RunO l Γ (kL T) 16 encI (em3 ma) 1098 [(0, .ref sb), (1, .ref a1), (2, .ref (ma 0)), (3, .ref (ma 1)), (4, .ref (ma 2)), (5, .ref (ma 3)), (6, .ref (ma 4)), (7, .ref (ma 5)), (8, .ref (ma 6)), (9, .ref (ma 7)), (10, .ref (ma 8)), (11, .ref (ma 9)), (12, .ref (ma 10)), (14, wi v14_97), (17, wi x17_171), (18, wi t0_189), (19, wi t0_203), (23, wi x23_234)] [wi t0_1098] (E_1098, C_1098, q_1098) (fW_law_1098 a1 t0_189 t0_203 x23_234 J1788 t0_1098 E_1098 C_1098 q_1098)
                              unfold fW_law_1098
                              refine r_istore (lo2 := [(24, wi t0_1098), (0, .ref sb), (1, .ref a1), (2, .ref (ma 0)), (3, .ref (ma 1)), (4, .ref (ma 2)), (5, .ref (ma 3)), (6, .ref (ma 4)), (7, .ref (ma 5)), (8, .ref (ma 6)), (9, .ref (ma 7)), (10, .ref (ma 8)), (11, .ref (ma 9)), (12, .ref (ma 10)), (14, wi v14_97), (17, wi x17_171), (18, wi t0_189), (19, wi t0_203), (23, wi x23_234)]) dL_law_1098 (by decide) rfl ?_
                              refine r_aload_n (x := a1) dL_law_1100 rfl rfl ?_
                              refine ro_iconst (v := 4) dL_law_1101 rfl ?_
                              refine r_iload (x := t0_189) dL_law_1102 rfl ?_
                              refine r_iload (x := x23_234) dL_law_1104 rfl ?_
                              refine ro_iconst (v := 0) dL_law_1106 rfl ?_
                              refine r_csHi (J := fun (C_ : Cd) => (E_1098, C_, q_1098)) (k2 := k_L_does) (n := 5) (rest := []) (fun _ => rfl) kv_L_does (c_L_does hG hX a1 4 t0_189 x23_234 0 _) (by decide) um_L_132 rfl (Nat.le_of_ble_eq_true rfl) dL_law_1107 rfl (fun r50 C51 => ?_)
                              show RunO l Γ (kL T) 16 encI (em3 ma) 1110 [(24, wi t0_1098), (0, .ref sb), (1, .ref a1), (2, .ref (ma 0)), (3, .ref (ma 1)), (4, .ref (ma 2)), (5, .ref (ma 3)), (6, .ref (ma 4)), (7, .ref (ma 5)), (8, .ref (ma 6)), (9, .ref (ma 7)), (10, .ref (ma 8)), (11, .ref (ma 9)), (12, .ref (ma 10)), (14, wi v14_97), (17, wi x17_171), (18, wi t0_189), (19, wi t0_203), (23, wi x23_234)] [wi r50] (E_1098, C51, q_1098) _
                              refine r_iload (x := t0_203) dL_law_1110 rfl ?_
                              refine r_join (P := fun (J : Int → Rw → Cd → (Nat → Nat) → Option (Int × S3)) => ∀ (t0_1133 : Int) (E_1133 : Rw) (C_1133 : Cd) (q_1133 : (Nat → Nat)), RunO l Γ (kL T) 16 encI (em3 ma) 1133 [(0, .ref sb), (1, .ref a1), (2, .ref (ma 0)), (3, .ref (ma 1)), (4, .ref (ma 2)), (5, .ref (ma 3)), (6, .ref (ma 4)), (7, .ref (ma 5)), (8, .ref (ma 6)), (9, .ref (ma 7)), (10, .ref (ma 8)), (11, .ref (ma 9)), (12, .ref (ma 10)), (14, wi v14_97), (17, wi x17_171), (18, wi t0_189), (23, wi x23_234), (24, wi t0_1098)] [wi t0_1133, wi r50] (E_1133, C_1133, q_1133) (J t0_1133 E_1133 C_1133 q_1133)) ?_ (fun J1133 hJ1133 => ?_)
                              · intro t0_1133 E_1133 C_1133 q_1133
                                show RunO l Γ (kL T) 16 encI (em3 ma) 1133 [(0, .ref sb), (1, .ref a1), (2, .ref (ma 0)), (3, .ref (ma 1)), (4, .ref (ma 2)), (5, .ref (ma 3)), (6, .ref (ma 4)), (7, .ref (ma 5)), (8, .ref (ma 6)), (9, .ref (ma 7)), (10, .ref (ma 8)), (11, .ref (ma 9)), (12, .ref (ma 10)), (14, wi v14_97), (17, wi x17_171), (18, wi t0_189), (23, wi x23_234), (24, wi t0_1098)] [wi t0_1133, wi r50] (E_1133, C_1133, q_1133) (fW_law_1133 t0_189 x23_234 J1788 t0_1098 r50 t0_1133 E_1133 C_1133 q_1133)
                                unfold fW_law_1133
                                refine r_join (P := fun (J : Int → Rw → Cd → (Nat → Nat) → Option (Int × S3)) => ∀ (t0_1141 : Int) (E_1141 : Rw) (C_1141 : Cd) (q_1141 : (Nat → Nat)), RunO l Γ (kL T) 16 encI (em3 ma) 1141 [(0, .ref sb), (1, .ref a1), (2, .ref (ma 0)), (3, .ref (ma 1)), (4, .ref (ma 2)), (5, .ref (ma 3)), (6, .ref (ma 4)), (7, .ref (ma 5)), (8, .ref (ma 6)), (9, .ref (ma 7)), (10, .ref (ma 8)), (11, .ref (ma 9)), (12, .ref (ma 10)), (14, wi v14_97), (17, wi x17_171), (18, wi t0_189), (23, wi x23_234), (24, wi t0_1098)] [wi t0_1141] (E_1141, C_1141, q_1141) (J t0_1141 E_1141 C_1141 q_1141)) ?_ (fun J1141 hJ1141 => ?_)
                                · intro t0_1141 E_1141 C_1141 q_1141
                                  show RunO l Γ (kL T) 16 encI (em3 ma) 1141 [(0, .ref sb), (1, .ref a1), (2, .ref (ma 0)), (3, .ref (ma 1)), (4, .ref (ma 2)), (5, .ref (ma 3)), (6, .ref (ma 4)), (7, .ref (ma 5)), (8, .ref (ma 6)), (9, .ref (ma 7)), (10, .ref (ma 8)), (11, .ref (ma 9)), (12, .ref (ma 10)), (14, wi v14_97), (17, wi x17_171), (18, wi t0_189), (23, wi x23_234), (24, wi t0_1098)] [wi t0_1141] (E_1141, C_1141, q_1141) (fW_law_1141 t0_189 x23_234 J1788 t0_1098 t0_1141 E_1141 C_1141 q_1141)
                                  unfold fW_law_1141
                                  refine r_istore (lo2 := [(13, wi t0_1141), (0, .ref sb), (1, .ref a1), (2, .ref (ma 0)), (3, .ref (ma 1)), (4, .ref (ma 2)), (5, .ref (ma 3)), (6, .ref (ma 4)), (7, .ref (ma 5)), (8, .ref (ma 6)), (9, .ref (ma 7)), (10, .ref (ma 8)), (11, .ref (ma 9)), (12, .ref (ma 10)), (14, wi v14_97), (17, wi x17_171), (18, wi t0_189), (23, wi x23_234), (24, wi t0_1098)]) dL_law_1141 (by decide) rfl ?_
                                  refine r_iload (x := t0_1098) dL_law_1143 rfl ?_
                                  refine r_join (P := fun (J : Rw → Cd → (Nat → Nat) → Option (Int × S3)) => ∀ (E_1228 : Rw) (C_1228 : Cd) (q_1228 : (Nat → Nat)), RunO l Γ (kL T) 16 encI (em3 ma) 1228 [(0, .ref sb), (1, .ref a1), (2, .ref (ma 0)), (3, .ref (ma 1)), (4, .ref (ma 2)), (5, .ref (ma 3)), (6, .ref (ma 4)), (7, .ref (ma 5)), (8, .ref (ma 6)), (9, .ref (ma 7)), (10, .ref (ma 8)), (11, .ref (ma 9)), (12, .ref (ma 10)), (13, wi t0_1141), (14, wi v14_97), (17, wi x17_171)] [] (E_1228, C_1228, q_1228) (J E_1228 C_1228 q_1228)) ?_ (fun J1228 hJ1228 => ?_)
                                  · intro E_1228 C_1228 q_1228
                                    show RunO l Γ (kL T) 16 encI (em3 ma) 1228 [(0, .ref sb), (1, .ref a1), (2, .ref (ma 0)), (3, .ref (ma 1)), (4, .ref (ma 2)), (5, .ref (ma 3)), (6, .ref (ma 4)), (7, .ref (ma 5)), (8, .ref (ma 6)), (9, .ref (ma 7)), (10, .ref (ma 8)), (11, .ref (ma 9)), (12, .ref (ma 10)), (13, wi t0_1141), (14, wi v14_97), (17, wi x17_171)] [] (E_1228, C_1228, q_1228) (fW_law_1228 J1788 t0_1141 E_1228 C_1228 q_1228)
                                    unfold fW_law_1228
                                    refine r_goto (tgt := 1788) dL_law_1228 (by decide) ?_
                                    exact hJ1788 t0_1141 E_1228 C_1228 q_1228
                                  refine r_if_eq (tgt := 1228) dL_law_1145 (by decide) ?_ ?_
                                  · refine r_lo [1, 2, 3, 4, 5, 6, 7, 8, 9, 10, 11, 12, 13, 0, 14, 15] (lo2 := [(0, .ref sb), (1, .ref a1), (2, .ref (ma 0)), (3, .ref (ma 1)), (4, .ref (ma 2)), (5, .ref (ma 3)), (6, .ref (ma 4)), (7, .ref (ma 5)), (8, .ref (ma 6)), (9, .ref (ma 7)), (10, .ref (ma 8)), (11, .ref (ma 9)), (12, .ref (ma 10)), (13, wi t0_1141), (14, wi v14_97), (17, wi x17_171)]) rfl ?_
                                    exact hJ1228 E_1141 C_1141 q_1141
                                  · refine r_aload_n (x := ma 0) dL_law_1148 rfl rfl ?_
                                    refine r_aload (x := ma 6) dL_law_1149 rfl ?_
                                    refine r_aload (x := ma 8) dL_law_1151 rfl ?_
                                    refine r_iload (x := t0_189) dL_law_1153 rfl ?_
                                    refine ro_iconst (v := 0) dL_law_1155 rfl ?_
                                    refine r_csv (J := fun (E_ : Rw) => (E_, C_1141, q_1141)) (k2 := k_L_sets) (n := 5) (rest := []) (fun _ => rfl) htb kv_L_sets (c_L_sets (ad := adq ma q_1141) (K0 := C_1141) h (adq_hm hm) t0_189 0 _) (by decide) um_L_51 rfl (Nat.le_of_ble_eq_true rfl) dL_law_1156 rfl (fun r52 E53 => ?_)
                                    show RunO l Γ (kL T) 16 encI (em3 ma) 1159 [(13, wi t0_1141), (0, .ref sb), (1, .ref a1), (2, .ref (ma 0)), (3, .ref (ma 1)), (4, .ref (ma 2)), (5, .ref (ma 3)), (6, .ref (ma 4)), (7, .ref (ma 5)), (8, .ref (ma 6)), (9, .ref (ma 7)), (10, .ref (ma 8)), (11, .ref (ma 9)), (12, .ref (ma 10)), (14, wi v14_97), (17, wi x17_171), (18, wi t0_189), (23, wi x23_234), (24, wi t0_1098)] [] (E53, C_1141, q_1141) _
                                    refine r_aload (x := ma 6) dL_law_1159 rfl ?_
                                    refine r_bipush (v := 7) dL_law_1161 rfl ?_
                                    refine r_iload (x := t0_189) dL_law_1163 rfl ?_
                                    refine r_imul dL_law_1165 ?_
                                    refine ro_iconst (v := 0) dL_law_1166 rfl ?_
                                    refine r_wiast3 h (by decide) (by decide) (hm 6 (by decide)) dL_law_1167 (fun E54 => ?_)
                                    refine r_aload_n (x := ma 1) dL_law_1168 rfl rfl ?_
                                    refine r_iload (x := x23_234) dL_law_1169 rfl ?_
                                    refine r_aload_n (x := ma 1) dL_law_1171 rfl rfl ?_
                                    refine r_iload (x := t0_189) dL_law_1172 rfl ?_
                                    refine r_wiald3 h (by decide) (by decide) (hm 1 (by decide)) dL_law_1174 ?_
                                    refine r_wiast3 h (by decide) (by decide) (hm 1 (by decide)) dL_law_1175 (fun E55 => ?_)
                                    refine r_aload_n (x := ma 1) dL_law_1176 rfl rfl ?_
                                    refine r_iload (x := t0_189) dL_law_1177 rfl ?_
                                    refine r_aload_n (x := ma 0) dL_law_1179 rfl rfl ?_
                                    refine ro_iconst (v := 1) dL_law_1180 rfl ?_
                                    refine r_wiald3 h (by decide) (by decide) (hm 0 (by decide)) dL_law_1181 ?_
                                    refine ro_iconst (v := 1) dL_law_1182 rfl ?_
                                    refine r_iadd dL_law_1183 ?_
                                    refine r_wiast3 h (by decide) (by decide) (hm 1 (by decide)) dL_law_1184 (fun E56 => ?_)
                                    refine r_aload_n (x := ma 0) dL_law_1185 rfl rfl ?_
                                    refine ro_iconst (v := 2) dL_law_1186 rfl ?_
                                    refine r_dup2 dL_law_1187 rfl rfl ?_
                                    refine r_wiald3 h (by decide) (by decide) (hm 0 (by decide)) dL_law_1188 ?_
                                    refine ro_iconst (v := 1) dL_law_1189 rfl ?_
                                    refine r_iadd dL_law_1190 ?_
                                    refine r_wiast3 h (by decide) (by decide) (hm 0 (by decide)) dL_law_1191 (fun E57 => ?_)
                                    refine r_aload_n (x := ma 0) dL_law_1192 rfl rfl ?_
                                    refine r_aload (x := ma 2) dL_law_1193 rfl ?_
                                    refine r_aload (x := ma 3) dL_law_1195 rfl ?_
                                    refine r_aload_n (x := ma 0) dL_law_1197 rfl rfl ?_
                                    refine ro_iconst (v := 1) dL_law_1198 rfl ?_
                                    refine r_wiald3 h (by decide) (by decide) (hm 0 (by decide)) dL_law_1199 ?_
                                    refine r_aload_n (x := ma 0) dL_law_1200 rfl rfl ?_
                                    refine ro_iconst (v := 2) dL_law_1201 rfl ?_
                                    refine r_wiald3 h (by decide) (by decide) (hm 0 (by decide)) dL_law_1202 ?_
                                    refine r_ldc2 (v := 1024) uc_L_130 dL_law_1203 ?_
                                    refine r_bipush (v := 10) dL_law_1206 rfl ?_
                                    refine r_bipush (v := 16) dL_law_1208 rfl ?_
                                    refine r_iload (x := x23_234) dL_law_1210 rfl ?_
                                    refine r_imul dL_law_1212 ?_
                                    refine r_iadd dL_law_1213 ?_
                                    refine r_i2l dL_law_1214 ?_
                                    refine r_lor dL_law_1215 ?_
                                    refine r_csi (J := fun (E_ : Rw) => (E_, C_1141, q_1141)) (k2 := k_L_adds) (n := 6) (rest := []) (fun _ => rfl) htb kv_L_adds (c_L_adds (ad := adq ma q_1141) (K0 := C_1141) h (adq_hm hm) (E57 0 (ix 1)) (E57 0 (ix 2)) (lorI 1024 (w32 (10 + (16 * x23_234)))) _) (by decide) um_L_194 rfl (Nat.le_of_ble_eq_true rfl) dL_law_1216 rfl (fun r58 E59 => ?_)
                                    show RunO l Γ (kL T) 16 encI (em3 ma) 1219 [(13, wi t0_1141), (0, .ref sb), (1, .ref a1), (2, .ref (ma 0)), (3, .ref (ma 1)), (4, .ref (ma 2)), (5, .ref (ma 3)), (6, .ref (ma 4)), (7, .ref (ma 5)), (8, .ref (ma 6)), (9, .ref (ma 7)), (10, .ref (ma 8)), (11, .ref (ma 9)), (12, .ref (ma 10)), (14, wi v14_97), (17, wi x17_171), (18, wi t0_189), (23, wi x23_234), (24, wi t0_1098)] [wi r58] (E59, C_1141, q_1141) _
                                    refine r_istore (lo2 := [(25, wi r58), (13, wi t0_1141), (0, .ref sb), (1, .ref a1), (2, .ref (ma 0)), (3, .ref (ma 1)), (4, .ref (ma 2)), (5, .ref (ma 3)), (6, .ref (ma 4)), (7, .ref (ma 5)), (8, .ref (ma 6)), (9, .ref (ma 7)), (10, .ref (ma 8)), (11, .ref (ma 9)), (12, .ref (ma 10)), (14, wi v14_97), (17, wi x17_171), (18, wi t0_189), (23, wi x23_234), (24, wi t0_1098)]) dL_law_1219 (by decide) rfl ?_
                                    refine r_aload_n (x := ma 0) dL_law_1221 rfl rfl ?_
                                    refine ro_iconst (v := 1) dL_law_1222 rfl ?_
                                    refine r_dup2 dL_law_1223 rfl rfl ?_
                                    refine r_wiald3 h (by decide) (by decide) (hm 0 (by decide)) dL_law_1224 ?_
                                    refine ro_iconst (v := 1) dL_law_1225 rfl ?_
                                    refine r_iadd dL_law_1226 ?_
                                    refine r_wiast3 h (by decide) (by decide) (hm 0 (by decide)) dL_law_1227 (fun E60 => ?_)
                                    refine r_lo [2, 3, 4, 5, 6, 7, 8, 9, 10, 11, 12, 13, 14, 1, 15, 16] (lo2 := [(0, .ref sb), (1, .ref a1), (2, .ref (ma 0)), (3, .ref (ma 1)), (4, .ref (ma 2)), (5, .ref (ma 3)), (6, .ref (ma 4)), (7, .ref (ma 5)), (8, .ref (ma 6)), (9, .ref (ma 7)), (10, .ref (ma 8)), (11, .ref (ma 9)), (12, .ref (ma 10)), (13, wi t0_1141), (14, wi v14_97), (17, wi x17_171)]) rfl ?_
                                    exact hJ1228 E60 C_1141 q_1141
                                refine r_icmp_ne (tgt := 1140) dL_law_1133 (by decide) ?_ ?_
                                · refine ro_iconst (v := 0) dL_law_1140 rfl ?_
                                  exact hJ1141 0 E_1133 C_1133 q_1133
                                · refine ro_iconst (v := 1) dL_law_1136 rfl ?_
                                  refine r_goto (tgt := 1141) dL_law_1137 (by decide) ?_
                                  exact hJ1141 1 E_1133 C_1133 q_1133
                              refine r_if_ne (tgt := 1120) dL_law_1112 (by decide) ?_ ?_
                              · refine r_iload (x := t0_1098) dL_law_1120 rfl ?_
                                refine r_if_eq (tgt := 1131) dL_law_1122 (by decide) ?_ ?_
                                · refine r_bipush (v := (-13)) dL_law_1131 rfl ?_
                                  refine r_lo [1, 2, 3, 4, 5, 6, 7, 8, 9, 10, 11, 12, 13, 14, 15, 16, 18, 0] (lo2 := [(0, .ref sb), (1, .ref a1), (2, .ref (ma 0)), (3, .ref (ma 1)), (4, .ref (ma 2)), (5, .ref (ma 3)), (6, .ref (ma 4)), (7, .ref (ma 5)), (8, .ref (ma 6)), (9, .ref (ma 7)), (10, .ref (ma 8)), (11, .ref (ma 9)), (12, .ref (ma 10)), (14, wi v14_97), (17, wi x17_171), (18, wi t0_189), (23, wi x23_234), (24, wi t0_1098)]) rfl ?_
                                  exact hJ1133 (-13) E_1098 C51 q_1098
                                · refine r_aload_n (x := ma 0) dL_law_1125 rfl rfl ?_
                                  refine ro_iconst (v := 0) dL_law_1126 rfl ?_
                                  refine r_wiald3 h (by decide) (by decide) (hm 0 (by decide)) dL_law_1127 ?_
                                  refine r_goto (tgt := 1133) dL_law_1128 (by decide) ?_
                                  refine r_lo [1, 2, 3, 4, 5, 6, 7, 8, 9, 10, 11, 12, 13, 14, 15, 16, 18, 0] (lo2 := [(0, .ref sb), (1, .ref a1), (2, .ref (ma 0)), (3, .ref (ma 1)), (4, .ref (ma 2)), (5, .ref (ma 3)), (6, .ref (ma 4)), (7, .ref (ma 5)), (8, .ref (ma 6)), (9, .ref (ma 7)), (10, .ref (ma 8)), (11, .ref (ma 9)), (12, .ref (ma 10)), (14, wi v14_97), (17, wi x17_171), (18, wi t0_189), (23, wi x23_234), (24, wi t0_1098)]) rfl ?_
                                  exact hJ1133 (E_1098 0 (ix 0)) E_1098 C51 q_1098
                              · refine r_bipush (v := (-11)) dL_law_1115 rfl ?_
                                refine r_goto (tgt := 1133) dL_law_1117 (by decide) ?_
                                refine r_lo [1, 2, 3, 4, 5, 6, 7, 8, 9, 10, 11, 12, 13, 14, 15, 16, 18, 0] (lo2 := [(0, .ref sb), (1, .ref a1), (2, .ref (ma 0)), (3, .ref (ma 1)), (4, .ref (ma 2)), (5, .ref (ma 3)), (6, .ref (ma 4)), (7, .ref (ma 5)), (8, .ref (ma 6)), (9, .ref (ma 7)), (10, .ref (ma 8)), (11, .ref (ma 9)), (12, .ref (ma 10)), (14, wi v14_97), (17, wi x17_171), (18, wi t0_189), (23, wi x23_234), (24, wi t0_1098)]) rfl ?_
                                exact hJ1133 (-11) E_1098 C51 q_1098
                            refine r_join (P := fun (J : Rw → Cd → (Nat → Nat) → Option (Int × S3)) => ∀ (E_1097 : Rw) (C_1097 : Cd) (q_1097 : (Nat → Nat)), RunO l Γ (kL T) 16 encI (em3 ma) 1097 [(0, .ref sb), (1, .ref a1), (2, .ref (ma 0)), (3, .ref (ma 1)), (4, .ref (ma 2)), (5, .ref (ma 3)), (6, .ref (ma 4)), (7, .ref (ma 5)), (8, .ref (ma 6)), (9, .ref (ma 7)), (10, .ref (ma 8)), (11, .ref (ma 9)), (12, .ref (ma 10)), (14, wi v14_97), (17, wi x17_171), (18, wi t0_189), (19, wi t0_203), (23, wi x23_234)] [] (E_1097, C_1097, q_1097) (J E_1097 C_1097 q_1097)) ?_ (fun J1097 hJ1097 => ?_)
                            · intro E_1097 C_1097 q_1097
                              show RunO l Γ (kL T) 16 encI (em3 ma) 1097 [(0, .ref sb), (1, .ref a1), (2, .ref (ma 0)), (3, .ref (ma 1)), (4, .ref (ma 2)), (5, .ref (ma 3)), (6, .ref (ma 4)), (7, .ref (ma 5)), (8, .ref (ma 6)), (9, .ref (ma 7)), (10, .ref (ma 8)), (11, .ref (ma 9)), (12, .ref (ma 10)), (14, wi v14_97), (17, wi x17_171), (18, wi t0_189), (19, wi t0_203), (23, wi x23_234)] [] (E_1097, C_1097, q_1097) (fW_law_1097 J1098 E_1097 C_1097 q_1097)
                              unfold fW_law_1097
                              refine ro_iconst (v := 0) dL_law_1097 rfl ?_
                              exact hJ1098 0 E_1097 C_1097 q_1097
                            refine r_if_eq (tgt := 1097) dL_law_1083 (by decide) ?_ ?_
                            · refine r_lo [0, 1, 2, 3, 4, 5, 6, 7, 8, 9, 10, 11, 12, 13, 15, 16, 17, 19] (lo2 := [(0, .ref sb), (1, .ref a1), (2, .ref (ma 0)), (3, .ref (ma 1)), (4, .ref (ma 2)), (5, .ref (ma 3)), (6, .ref (ma 4)), (7, .ref (ma 5)), (8, .ref (ma 6)), (9, .ref (ma 7)), (10, .ref (ma 8)), (11, .ref (ma 9)), (12, .ref (ma 10)), (14, wi v14_97), (17, wi x17_171), (18, wi t0_189), (19, wi t0_203), (23, wi x23_234)]) rfl ?_
                              exact hJ1097 E_1066 C_1066 q_1066
                            · refine r_aload_n (x := ma 1) dL_law_1086 rfl rfl ?_
                              refine r_iload (x := x23_234) dL_law_1087 rfl ?_
                              refine r_wiald3 h (by decide) (by decide) (hm 1 (by decide)) dL_law_1089 ?_
                              refine r_if_ne (tgt := 1097) dL_law_1090 (by decide) ?_ ?_
                              · refine r_lo [0, 1, 2, 3, 4, 5, 6, 7, 8, 9, 10, 11, 12, 13, 15, 16, 17, 19] (lo2 := [(0, .ref sb), (1, .ref a1), (2, .ref (ma 0)), (3, .ref (ma 1)), (4, .ref (ma 2)), (5, .ref (ma 3)), (6, .ref (ma 4)), (7, .ref (ma 5)), (8, .ref (ma 6)), (9, .ref (ma 7)), (10, .ref (ma 8)), (11, .ref (ma 9)), (12, .ref (ma 10)), (14, wi v14_97), (17, wi x17_171), (18, wi t0_189), (19, wi t0_203), (23, wi x23_234)]) rfl ?_
                                exact hJ1097 E_1066 C_1066 q_1066
                              · refine ro_iconst (v := 1) dL_law_1093 rfl ?_
                                refine r_goto (tgt := 1098) dL_law_1094 (by decide) ?_
                                refine r_lo [0, 1, 2, 3, 4, 5, 6, 7, 8, 9, 10, 11, 12, 13, 15, 16, 17, 19] (lo2 := [(0, .ref sb), (1, .ref a1), (2, .ref (ma 0)), (3, .ref (ma 1)), (4, .ref (ma 2)), (5, .ref (ma 3)), (6, .ref (ma 4)), (7, .ref (ma 5)), (8, .ref (ma 6)), (9, .ref (ma 7)), (10, .ref (ma 8)), (11, .ref (ma 9)), (12, .ref (ma 10)), (14, wi v14_97), (17, wi x17_171), (18, wi t0_189), (19, wi t0_203), (23, wi x23_234)]) rfl ?_
                                exact hJ1098 1 E_1066 C_1066 q_1066
                      refine r_icmp_ne (tgt := 1066) dL_law_937 (by decide) ?_ ?_
                      · refine r_lo [0, 1, 2, 3, 4, 5, 6, 7, 8, 9, 10, 11, 12, 13, 14, 15, 16, 17, 18, 20] (lo2 := [(0, .ref sb), (1, .ref a1), (2, .ref (ma 0)), (3, .ref (ma 1)), (4, .ref (ma 2)), (5, .ref (ma 3)), (6, .ref (ma 4)), (7, .ref (ma 5)), (8, .ref (ma 6)), (9, .ref (ma 7)), (10, .ref (ma 8)), (11, .ref (ma 9)), (12, .ref (ma 10)), (14, wi v14_97), (16, wi t0_164), (17, wi x17_171), (18, wi t0_189), (19, wi t0_203), (20, wi r9), (23, wi x23_234)]) rfl ?_
                        exact hJ1066 E_933 C_933 q_933
                      · refine r_aload_n (x := ma 0) dL_law_940 rfl rfl ?_
                        refine ro_iconst (v := 0) dL_law_941 rfl ?_
                        refine r_wiald3 h (by decide) (by decide) (hm 0 (by decide)) dL_law_942 ?_
                        refine r_bipush (v := 32) dL_law_943 rfl ?_
                        refine r_icmp_ge (tgt := 1066) dL_law_945 (by decide) ?_ ?_
                        · refine r_lo [0, 1, 2, 3, 4, 5, 6, 7, 8, 9, 10, 11, 12, 13, 14, 15, 16, 17, 18, 20] (lo2 := [(0, .ref sb), (1, .ref a1), (2, .ref (ma 0)), (3, .ref (ma 1)), (4, .ref (ma 2)), (5, .ref (ma 3)), (6, .ref (ma 4)), (7, .ref (ma 5)), (8, .ref (ma 6)), (9, .ref (ma 7)), (10, .ref (ma 8)), (11, .ref (ma 9)), (12, .ref (ma 10)), (14, wi v14_97), (16, wi t0_164), (17, wi x17_171), (18, wi t0_189), (19, wi t0_203), (20, wi r9), (23, wi x23_234)]) rfl ?_
                          exact hJ1066 E_933 C_933 q_933
                        · refine r_iload (x := x17_171) dL_law_948 rfl ?_
                          refine r_bipush (v := 9) dL_law_950 rfl ?_
                          refine r_idiv dL_law_952 (by decide) ?_
                          refine r_aload_n (x := ma 0) dL_law_953 rfl rfl ?_
                          refine ro_iconst (v := 2) dL_law_954 rfl ?_
                          refine r_wiald3 h (by decide) (by decide) (hm 0 (by decide)) dL_law_955 ?_
                          refine ro_iconst (v := 2) dL_law_956 rfl ?_
                          refine r_iadd dL_law_957 ?_
                          refine r_iremT dL_law_958 ?_
                          refine r_nm (fun x24_959 => ?_)
                          refine r_istore (lo2 := [(24, wi x24_959), (0, .ref sb), (1, .ref a1), (2, .ref (ma 0)), (3, .ref (ma 1)), (4, .ref (ma 2)), (5, .ref (ma 3)), (6, .ref (ma 4)), (7, .ref (ma 5)), (8, .ref (ma 6)), (9, .ref (ma 7)), (10, .ref (ma 8)), (11, .ref (ma 9)), (12, .ref (ma 10)), (14, wi v14_97), (16, wi t0_164), (17, wi x17_171), (18, wi t0_189), (19, wi t0_203), (20, wi r9), (21, vl r11), (23, wi x23_234)]) dL_law_959 (by decide) rfl ?_
                          refine r_iload (x := t0_203) dL_law_961 rfl ?_
                          refine r_join (P := fun (J : Int → Rw → Cd → (Nat → Nat) → Option (Int × S3)) => ∀ (t0_984 : Int) (E_984 : Rw) (C_984 : Cd) (q_984 : (Nat → Nat)), RunO l Γ (kL T) 16 encI (em3 ma) 984 [(0, .ref sb), (1, .ref a1), (2, .ref (ma 0)), (3, .ref (ma 1)), (4, .ref (ma 2)), (5, .ref (ma 3)), (6, .ref (ma 4)), (7, .ref (ma 5)), (8, .ref (ma 6)), (9, .ref (ma 7)), (10, .ref (ma 8)), (11, .ref (ma 9)), (12, .ref (ma 10)), (14, wi v14_97), (17, wi x17_171), (18, wi t0_189), (19, wi t0_203), (21, vl r11), (24, wi x24_959)] [wi t0_984] (E_984, C_984, q_984) (J t0_984 E_984 C_984 q_984)) ?_ (fun J984 hJ984 => ?_)
                          · intro t0_984 E_984 C_984 q_984
                            show RunO l Γ (kL T) 16 encI (em3 ma) 984 [(0, .ref sb), (1, .ref a1), (2, .ref (ma 0)), (3, .ref (ma 1)), (4, .ref (ma 2)), (5, .ref (ma 3)), (6, .ref (ma 4)), (7, .ref (ma 5)), (8, .ref (ma 6)), (9, .ref (ma 7)), (10, .ref (ma 8)), (11, .ref (ma 9)), (12, .ref (ma 10)), (14, wi v14_97), (17, wi x17_171), (18, wi t0_189), (19, wi t0_203), (21, vl r11), (24, wi x24_959)] [wi t0_984] (E_984, C_984, q_984) (fW_law_984 a1 t0_189 t0_203 r11 J1788 x24_959 t0_984 E_984 C_984 q_984)
                            unfold fW_law_984
                            refine r_istore (lo2 := [(25, wi t0_984), (0, .ref sb), (1, .ref a1), (2, .ref (ma 0)), (3, .ref (ma 1)), (4, .ref (ma 2)), (5, .ref (ma 3)), (6, .ref (ma 4)), (7, .ref (ma 5)), (8, .ref (ma 6)), (9, .ref (ma 7)), (10, .ref (ma 8)), (11, .ref (ma 9)), (12, .ref (ma 10)), (14, wi v14_97), (17, wi x17_171), (18, wi t0_189), (19, wi t0_203), (21, vl r11), (24, wi x24_959)]) dL_law_984 (by decide) rfl ?_
                            refine r_aload_n (x := a1) dL_law_986 rfl rfl ?_
                            refine r_lload (x := r11) dL_law_987 rfl ?_
                            refine r_csi (J := fun (C_ : Cd) => (E_984, C_, q_984)) (k2 := k_L_drafts) (n := 2) (rest := []) (fun _ => rfl) htb kv_L_drafts (c_L_drafts hG hS a1 r11 _) (by decide) um_L_190 rfl (Nat.le_of_ble_eq_true rfl) dL_law_989 rfl (fun r61 C62 => ?_)
                            show RunO l Γ (kL T) 16 encI (em3 ma) 992 [(25, wi t0_984), (0, .ref sb), (1, .ref a1), (2, .ref (ma 0)), (3, .ref (ma 1)), (4, .ref (ma 2)), (5, .ref (ma 3)), (6, .ref (ma 4)), (7, .ref (ma 5)), (8, .ref (ma 6)), (9, .ref (ma 7)), (10, .ref (ma 8)), (11, .ref (ma 9)), (12, .ref (ma 10)), (14, wi v14_97), (17, wi x17_171), (18, wi t0_189), (19, wi t0_203), (21, vl r11), (24, wi x24_959)] [wi r61] (E_984, C62, q_984) _
                            refine r_join (P := fun (J : Int → Rw → Cd → (Nat → Nat) → Option (Int × S3)) => ∀ (t0_1036 : Int) (E_1036 : Rw) (C_1036 : Cd) (q_1036 : (Nat → Nat)), RunO l Γ (kL T) 16 encI (em3 ma) 1036 [(0, .ref sb), (1, .ref a1), (2, .ref (ma 0)), (3, .ref (ma 1)), (4, .ref (ma 2)), (5, .ref (ma 3)), (6, .ref (ma 4)), (7, .ref (ma 5)), (8, .ref (ma 6)), (9, .ref (ma 7)), (10, .ref (ma 8)), (11, .ref (ma 9)), (12, .ref (ma 10)), (14, wi v14_97), (17, wi x17_171), (18, wi t0_189), (21, vl r11), (24, wi x24_959), (25, wi t0_984)] [wi t0_1036] (E_1036, C_1036, q_1036) (J t0_1036 E_1036 C_1036 q_1036)) ?_ (fun J1036 hJ1036 => ?_)
                            · intro t0_1036 E_1036 C_1036 q_1036
                              show RunO l Γ (kL T) 16 encI (em3 ma) 1036 [(0, .ref sb), (1, .ref a1), (2, .ref (ma 0)), (3, .ref (ma 1)), (4, .ref (ma 2)), (5, .ref (ma 3)), (6, .ref (ma 4)), (7, .ref (ma 5)), (8, .ref (ma 6)), (9, .ref (ma 7)), (10, .ref (ma 8)), (11, .ref (ma 9)), (12, .ref (ma 10)), (14, wi v14_97), (17, wi x17_171), (18, wi t0_189), (21, vl r11), (24, wi x24_959), (25, wi t0_984)] [wi t0_1036] (E_1036, C_1036, q_1036) (fW_law_1036 t0_189 r11 J1788 x24_959 t0_984 t0_1036 E_1036 C_1036 q_1036)
                              unfold fW_law_1036
                              refine r_istore (lo2 := [(13, wi t0_1036), (0, .ref sb), (1, .ref a1), (2, .ref (ma 0)), (3, .ref (ma 1)), (4, .ref (ma 2)), (5, .ref (ma 3)), (6, .ref (ma 4)), (7, .ref (ma 5)), (8, .ref (ma 6)), (9, .ref (ma 7)), (10, .ref (ma 8)), (11, .ref (ma 9)), (12, .ref (ma 10)), (14, wi v14_97), (17, wi x17_171), (18, wi t0_189), (21, vl r11), (24, wi x24_959), (25, wi t0_984)]) dL_law_1036 (by decide) rfl ?_
                              refine r_iload (x := t0_984) dL_law_1038 rfl ?_
                              refine r_join (P := fun (J : Rw → Cd → (Nat → Nat) → Option (Int × S3)) => ∀ (E_1063 : Rw) (C_1063 : Cd) (q_1063 : (Nat → Nat)), RunO l Γ (kL T) 16 encI (em3 ma) 1063 [(0, .ref sb), (1, .ref a1), (2, .ref (ma 0)), (3, .ref (ma 1)), (4, .ref (ma 2)), (5, .ref (ma 3)), (6, .ref (ma 4)), (7, .ref (ma 5)), (8, .ref (ma 6)), (9, .ref (ma 7)), (10, .ref (ma 8)), (11, .ref (ma 9)), (12, .ref (ma 10)), (13, wi t0_1036), (14, wi v14_97), (17, wi x17_171)] [] (E_1063, C_1063, q_1063) (J E_1063 C_1063 q_1063)) ?_ (fun J1063 hJ1063 => ?_)
                              · intro E_1063 C_1063 q_1063
                                show RunO l Γ (kL T) 16 encI (em3 ma) 1063 [(0, .ref sb), (1, .ref a1), (2, .ref (ma 0)), (3, .ref (ma 1)), (4, .ref (ma 2)), (5, .ref (ma 3)), (6, .ref (ma 4)), (7, .ref (ma 5)), (8, .ref (ma 6)), (9, .ref (ma 7)), (10, .ref (ma 8)), (11, .ref (ma 9)), (12, .ref (ma 10)), (13, wi t0_1036), (14, wi v14_97), (17, wi x17_171)] [] (E_1063, C_1063, q_1063) (fW_law_1063 J1788 t0_1036 E_1063 C_1063 q_1063)
                                unfold fW_law_1063
                                refine r_goto (tgt := 1788) dL_law_1063 (by decide) ?_
                                exact hJ1788 t0_1036 E_1063 C_1063 q_1063
                              refine r_if_eq (tgt := 1063) dL_law_1040 (by decide) ?_ ?_
                              · refine r_lo [1, 2, 3, 4, 5, 6, 7, 8, 9, 10, 11, 12, 13, 0, 14, 15] (lo2 := [(0, .ref sb), (1, .ref a1), (2, .ref (ma 0)), (3, .ref (ma 1)), (4, .ref (ma 2)), (5, .ref (ma 3)), (6, .ref (ma 4)), (7, .ref (ma 5)), (8, .ref (ma 6)), (9, .ref (ma 7)), (10, .ref (ma 8)), (11, .ref (ma 9)), (12, .ref (ma 10)), (13, wi t0_1036), (14, wi v14_97), (17, wi x17_171)]) rfl ?_
                                exact hJ1063 E_1036 C_1036 q_1036
                              · refine r_aload_n (x := ma 0) dL_law_1043 rfl rfl ?_
                                refine r_aload (x := ma 2) dL_law_1044 rfl ?_
                                refine r_aload (x := ma 3) dL_law_1046 rfl ?_
                                refine r_aload_n (x := ma 1) dL_law_1048 rfl rfl ?_
                                refine r_iload (x := t0_189) dL_law_1049 rfl ?_
                                refine r_wiald3 h (by decide) (by decide) (hm 1 (by decide)) dL_law_1051 ?_
                                refine ro_iconst (v := 1) dL_law_1052 rfl ?_
                                refine r_isub dL_law_1053 ?_
                                refine r_iload (x := x24_959) dL_law_1054 rfl ?_
                                refine r_lload (x := r11) dL_law_1056 rfl ?_
                                refine r_csi (J := fun (E_ : Rw) => (E_, C_1036, q_1036)) (k2 := k_L_adds) (n := 6) (rest := []) (fun _ => rfl) htb kv_L_adds (c_L_adds (ad := adq ma q_1036) (K0 := C_1036) h (adq_hm hm) ((E_1036 1 (ix t0_189)) - 1) x24_959 r11 _) (by decide) um_L_194 rfl (Nat.le_of_ble_eq_true rfl) dL_law_1058 rfl (fun r63 E64 => ?_)
                                show RunO l Γ (kL T) 16 encI (em3 ma) 1061 [(13, wi t0_1036), (0, .ref sb), (1, .ref a1), (2, .ref (ma 0)), (3, .ref (ma 1)), (4, .ref (ma 2)), (5, .ref (ma 3)), (6, .ref (ma 4)), (7, .ref (ma 5)), (8, .ref (ma 6)), (9, .ref (ma 7)), (10, .ref (ma 8)), (11, .ref (ma 9)), (12, .ref (ma 10)), (14, wi v14_97), (17, wi x17_171), (18, wi t0_189), (21, vl r11), (24, wi x24_959), (25, wi t0_984)] [wi r63] (E64, C_1036, q_1036) _
                                refine r_istore (lo2 := [(26, wi r63), (13, wi t0_1036), (0, .ref sb), (1, .ref a1), (2, .ref (ma 0)), (3, .ref (ma 1)), (4, .ref (ma 2)), (5, .ref (ma 3)), (6, .ref (ma 4)), (7, .ref (ma 5)), (8, .ref (ma 6)), (9, .ref (ma 7)), (10, .ref (ma 8)), (11, .ref (ma 9)), (12, .ref (ma 10)), (14, wi v14_97), (17, wi x17_171), (18, wi t0_189), (21, vl r11), (24, wi x24_959), (25, wi t0_984)]) dL_law_1061 (by decide) rfl ?_
                                refine r_lo [2, 3, 4, 5, 6, 7, 8, 9, 10, 11, 12, 13, 14, 1, 15, 16] (lo2 := [(0, .ref sb), (1, .ref a1), (2, .ref (ma 0)), (3, .ref (ma 1)), (4, .ref (ma 2)), (5, .ref (ma 3)), (6, .ref (ma 4)), (7, .ref (ma 5)), (8, .ref (ma 6)), (9, .ref (ma 7)), (10, .ref (ma 8)), (11, .ref (ma 9)), (12, .ref (ma 10)), (13, wi t0_1036), (14, wi v14_97), (17, wi x17_171)]) rfl ?_
                                exact hJ1063 E64 C_1036 q_1036
                            refine r_join (P := fun (J : Rw → Cd → (Nat → Nat) → Option (Int × S3)) => ∀ (E_1035 : Rw) (C_1035 : Cd) (q_1035 : (Nat → Nat)), RunO l Γ (kL T) 16 encI (em3 ma) 1035 [(0, .ref sb), (1, .ref a1), (2, .ref (ma 0)), (3, .ref (ma 1)), (4, .ref (ma 2)), (5, .ref (ma 3)), (6, .ref (ma 4)), (7, .ref (ma 5)), (8, .ref (ma 6)), (9, .ref (ma 7)), (10, .ref (ma 8)), (11, .ref (ma 9)), (12, .ref (ma 10)), (14, wi v14_97), (17, wi x17_171), (18, wi t0_189), (21, vl r11), (24, wi x24_959), (25, wi t0_984)] [] (E_1035, C_1035, q_1035) (J E_1035 C_1035 q_1035)) ?_ (fun J1035 hJ1035 => ?_)
                            · intro E_1035 C_1035 q_1035
                              show RunO l Γ (kL T) 16 encI (em3 ma) 1035 [(0, .ref sb), (1, .ref a1), (2, .ref (ma 0)), (3, .ref (ma 1)), (4, .ref (ma 2)), (5, .ref (ma 3)), (6, .ref (ma 4)), (7, .ref (ma 5)), (8, .ref (ma 6)), (9, .ref (ma 7)), (10, .ref (ma 8)), (11, .ref (ma 9)), (12, .ref (ma 10)), (14, wi v14_97), (17, wi x17_171), (18, wi t0_189), (21, vl r11), (24, wi x24_959), (25, wi t0_984)] [] (E_1035, C_1035, q_1035) (fW_law_1035 J1036 E_1035 C_1035 q_1035)
                              unfold fW_law_1035
                              refine ro_iconst (v := 0) dL_law_1035 rfl ?_
                              exact hJ1036 0 E_1035 C_1035 q_1035
                            refine r_if_eq (tgt := 1035) dL_law_992 (by decide) ?_ ?_
                            · refine r_lo [1, 2, 3, 4, 5, 6, 7, 8, 9, 10, 11, 12, 13, 14, 15, 16, 18, 19, 0] (lo2 := [(0, .ref sb), (1, .ref a1), (2, .ref (ma 0)), (3, .ref (ma 1)), (4, .ref (ma 2)), (5, .ref (ma 3)), (6, .ref (ma 4)), (7, .ref (ma 5)), (8, .ref (ma 6)), (9, .ref (ma 7)), (10, .ref (ma 8)), (11, .ref (ma 9)), (12, .ref (ma 10)), (14, wi v14_97), (17, wi x17_171), (18, wi t0_189), (21, vl r11), (24, wi x24_959), (25, wi t0_984)]) rfl ?_
                              exact hJ1035 E_984 C62 q_984
                            · refine r_aload_n (x := a1) dL_law_995 rfl rfl ?_
                              refine ro_iconst (v := 3) dL_law_996 rfl ?_
                              refine r_iload (x := t0_189) dL_law_997 rfl ?_
                              refine r_iload (x := x24_959) dL_law_999 rfl ?_
                              refine ro_iconst (v := 0) dL_law_1001 rfl ?_
                              refine r_csHi (J := fun (C_ : Cd) => (E_984, C_, q_984)) (k2 := k_L_does) (n := 5) (rest := []) (fun _ => rfl) kv_L_does (c_L_does hG hX a1 3 t0_189 x24_959 0 _) (by decide) um_L_132 rfl (Nat.le_of_ble_eq_true rfl) dL_law_1002 rfl (fun r65 C66 => ?_)
                              show RunO l Γ (kL T) 16 encI (em3 ma) 1005 [(25, wi t0_984), (0, .ref sb), (1, .ref a1), (2, .ref (ma 0)), (3, .ref (ma 1)), (4, .ref (ma 2)), (5, .ref (ma 3)), (6, .ref (ma 4)), (7, .ref (ma 5)), (8, .ref (ma 6)), (9, .ref (ma 7)), (10, .ref (ma 8)), (11, .ref (ma 9)), (12, .ref (ma 10)), (14, wi v14_97), (17, wi x17_171), (18, wi t0_189), (19, wi t0_203), (21, vl r11), (24, wi x24_959)] [wi r65] (E_984, C66, q_984) _
                              refine r_iload (x := t0_203) dL_law_1005 rfl ?_
                              refine r_join (P := fun (J : Int → Rw → Cd → (Nat → Nat) → Option (Int × S3)) => ∀ (t0_1028 : Int) (E_1028 : Rw) (C_1028 : Cd) (q_1028 : (Nat → Nat)), RunO l Γ (kL T) 16 encI (em3 ma) 1028 [(0, .ref sb), (1, .ref a1), (2, .ref (ma 0)), (3, .ref (ma 1)), (4, .ref (ma 2)), (5, .ref (ma 3)), (6, .ref (ma 4)), (7, .ref (ma 5)), (8, .ref (ma 6)), (9, .ref (ma 7)), (10, .ref (ma 8)), (11, .ref (ma 9)), (12, .ref (ma 10)), (14, wi v14_97), (17, wi x17_171), (18, wi t0_189), (21, vl r11), (24, wi x24_959), (25, wi t0_984)] [wi t0_1028, wi r65] (E_1028, C_1028, q_1028) (J t0_1028 E_1028 C_1028 q_1028)) ?_ (fun J1028 hJ1028 => ?_)
                              · intro t0_1028 E_1028 C_1028 q_1028
                                show RunO l Γ (kL T) 16 encI (em3 ma) 1028 [(0, .ref sb), (1, .ref a1), (2, .ref (ma 0)), (3, .ref (ma 1)), (4, .ref (ma 2)), (5, .ref (ma 3)), (6, .ref (ma 4)), (7, .ref (ma 5)), (8, .ref (ma 6)), (9, .ref (ma 7)), (10, .ref (ma 8)), (11, .ref (ma 9)), (12, .ref (ma 10)), (14, wi v14_97), (17, wi x17_171), (18, wi t0_189), (21, vl r11), (24, wi x24_959), (25, wi t0_984)] [wi t0_1028, wi r65] (E_1028, C_1028, q_1028) (fW_law_1028 J1036 J1035 r65 t0_1028 E_1028 C_1028 q_1028)
                                unfold fW_law_1028
                                refine r_icmp_ne (tgt := 1035) dL_law_1028 (by decide) ?_ ?_
                                · exact hJ1035 E_1028 C_1028 q_1028
                                · refine ro_iconst (v := 1) dL_law_1031 rfl ?_
                                  refine r_goto (tgt := 1036) dL_law_1032 (by decide) ?_
                                  exact hJ1036 1 E_1028 C_1028 q_1028
                              refine r_if_ne (tgt := 1015) dL_law_1007 (by decide) ?_ ?_
                              · refine r_iload (x := t0_984) dL_law_1015 rfl ?_
                                refine r_if_eq (tgt := 1026) dL_law_1017 (by decide) ?_ ?_
                                · refine r_bipush (v := (-12)) dL_law_1026 rfl ?_
                                  refine r_lo [1, 2, 3, 4, 5, 6, 7, 8, 9, 10, 11, 12, 13, 14, 15, 16, 18, 19, 0] (lo2 := [(0, .ref sb), (1, .ref a1), (2, .ref (ma 0)), (3, .ref (ma 1)), (4, .ref (ma 2)), (5, .ref (ma 3)), (6, .ref (ma 4)), (7, .ref (ma 5)), (8, .ref (ma 6)), (9, .ref (ma 7)), (10, .ref (ma 8)), (11, .ref (ma 9)), (12, .ref (ma 10)), (14, wi v14_97), (17, wi x17_171), (18, wi t0_189), (21, vl r11), (24, wi x24_959), (25, wi t0_984)]) rfl ?_
                                  exact hJ1028 (-12) E_984 C66 q_984
                                · refine r_aload_n (x := ma 0) dL_law_1020 rfl rfl ?_
                                  refine ro_iconst (v := 0) dL_law_1021 rfl ?_
                                  refine r_wiald3 h (by decide) (by decide) (hm 0 (by decide)) dL_law_1022 ?_
                                  refine r_goto (tgt := 1028) dL_law_1023 (by decide) ?_
                                  refine r_lo [1, 2, 3, 4, 5, 6, 7, 8, 9, 10, 11, 12, 13, 14, 15, 16, 18, 19, 0] (lo2 := [(0, .ref sb), (1, .ref a1), (2, .ref (ma 0)), (3, .ref (ma 1)), (4, .ref (ma 2)), (5, .ref (ma 3)), (6, .ref (ma 4)), (7, .ref (ma 5)), (8, .ref (ma 6)), (9, .ref (ma 7)), (10, .ref (ma 8)), (11, .ref (ma 9)), (12, .ref (ma 10)), (14, wi v14_97), (17, wi x17_171), (18, wi t0_189), (21, vl r11), (24, wi x24_959), (25, wi t0_984)]) rfl ?_
                                  exact hJ1028 (E_984 0 (ix 0)) E_984 C66 q_984
                              · refine r_bipush (v := (-11)) dL_law_1010 rfl ?_
                                refine r_goto (tgt := 1028) dL_law_1012 (by decide) ?_
                                refine r_lo [1, 2, 3, 4, 5, 6, 7, 8, 9, 10, 11, 12, 13, 14, 15, 16, 18, 19, 0] (lo2 := [(0, .ref sb), (1, .ref a1), (2, .ref (ma 0)), (3, .ref (ma 1)), (4, .ref (ma 2)), (5, .ref (ma 3)), (6, .ref (ma 4)), (7, .ref (ma 5)), (8, .ref (ma 6)), (9, .ref (ma 7)), (10, .ref (ma 8)), (11, .ref (ma 9)), (12, .ref (ma 10)), (14, wi v14_97), (17, wi x17_171), (18, wi t0_189), (21, vl r11), (24, wi x24_959), (25, wi t0_984)]) rfl ?_
                                exact hJ1028 (-11) E_984 C66 q_984
                          refine r_join (P := fun (J : Rw → Cd → (Nat → Nat) → Option (Int × S3)) => ∀ (E_983 : Rw) (C_983 : Cd) (q_983 : (Nat → Nat)), RunO l Γ (kL T) 16 encI (em3 ma) 983 [(0, .ref sb), (1, .ref a1), (2, .ref (ma 0)), (3, .ref (ma 1)), (4, .ref (ma 2)), (5, .ref (ma 3)), (6, .ref (ma 4)), (7, .ref (ma 5)), (8, .ref (ma 6)), (9, .ref (ma 7)), (10, .ref (ma 8)), (11, .ref (ma 9)), (12, .ref (ma 10)), (14, wi v14_97), (17, wi x17_171), (18, wi t0_189), (19, wi t0_203), (21, vl r11), (24, wi x24_959)] [] (E_983, C_983, q_983) (J E_983 C_983 q_983)) ?_ (fun J983 hJ983 => ?_)
                          · intro E_983 C_983 q_983
                            show RunO l Γ (kL T) 16 encI (em3 ma) 983 [(0, .ref sb), (1, .ref a1), (2, .ref (ma 0)), (3, .ref (ma 1)), (4, .ref (ma 2)), (5, .ref (ma 3)), (6, .ref (ma 4)), (7, .ref (ma 5)), (8, .ref (ma 6)), (9, .ref (ma 7)), (10, .ref (ma 8)), (11, .ref (ma 9)), (12, .ref (ma 10)), (14, wi v14_97), (17, wi x17_171), (18, wi t0_189), (19, wi t0_203), (21, vl r11), (24, wi x24_959)] [] (E_983, C_983, q_983) (fW_law_983 J984 E_983 C_983 q_983)
                            unfold fW_law_983
                            refine ro_iconst (v := 0) dL_law_983 rfl ?_
                            exact hJ984 0 E_983 C_983 q_983
                          refine r_if_eq (tgt := 983) dL_law_963 (by decide) ?_ ?_
                          · refine r_lo [1, 2, 3, 4, 5, 6, 7, 8, 9, 10, 11, 12, 13, 14, 16, 17, 18, 20, 0] (lo2 := [(0, .ref sb), (1, .ref a1), (2, .ref (ma 0)), (3, .ref (ma 1)), (4, .ref (ma 2)), (5, .ref (ma 3)), (6, .ref (ma 4)), (7, .ref (ma 5)), (8, .ref (ma 6)), (9, .ref (ma 7)), (10, .ref (ma 8)), (11, .ref (ma 9)), (12, .ref (ma 10)), (14, wi v14_97), (17, wi x17_171), (18, wi t0_189), (19, wi t0_203), (21, vl r11), (24, wi x24_959)]) rfl ?_
                            exact hJ983 E_933 C_933 q_933
                          · refine r_iload (x := x24_959) dL_law_966 rfl ?_
                            refine r_if_le (tgt := 983) dL_law_968 (by decide) ?_ ?_
                            · refine r_lo [1, 2, 3, 4, 5, 6, 7, 8, 9, 10, 11, 12, 13, 14, 16, 17, 18, 20, 0] (lo2 := [(0, .ref sb), (1, .ref a1), (2, .ref (ma 0)), (3, .ref (ma 1)), (4, .ref (ma 2)), (5, .ref (ma 3)), (6, .ref (ma 4)), (7, .ref (ma 5)), (8, .ref (ma 6)), (9, .ref (ma 7)), (10, .ref (ma 8)), (11, .ref (ma 9)), (12, .ref (ma 10)), (14, wi v14_97), (17, wi x17_171), (18, wi t0_189), (19, wi t0_203), (21, vl r11), (24, wi x24_959)]) rfl ?_
                              exact hJ983 E_933 C_933 q_933
                            · refine r_iload (x := x24_959) dL_law_971 rfl ?_
                              refine r_aload_n (x := ma 0) dL_law_973 rfl rfl ?_
                              refine ro_iconst (v := 2) dL_law_974 rfl ?_
                              refine r_wiald3 h (by decide) (by decide) (hm 0 (by decide)) dL_law_975 ?_
                              refine r_icmp_gt (tgt := 983) dL_law_976 (by decide) ?_ ?_
                              · refine r_lo [1, 2, 3, 4, 5, 6, 7, 8, 9, 10, 11, 12, 13, 14, 16, 17, 18, 20, 0] (lo2 := [(0, .ref sb), (1, .ref a1), (2, .ref (ma 0)), (3, .ref (ma 1)), (4, .ref (ma 2)), (5, .ref (ma 3)), (6, .ref (ma 4)), (7, .ref (ma 5)), (8, .ref (ma 6)), (9, .ref (ma 7)), (10, .ref (ma 8)), (11, .ref (ma 9)), (12, .ref (ma 10)), (14, wi v14_97), (17, wi x17_171), (18, wi t0_189), (19, wi t0_203), (21, vl r11), (24, wi x24_959)]) rfl ?_
                                exact hJ983 E_933 C_933 q_933
                              · refine ro_iconst (v := 1) dL_law_979 rfl ?_
                                refine r_goto (tgt := 984) dL_law_980 (by decide) ?_
                                refine r_lo [1, 2, 3, 4, 5, 6, 7, 8, 9, 10, 11, 12, 13, 14, 16, 17, 18, 20, 0] (lo2 := [(0, .ref sb), (1, .ref a1), (2, .ref (ma 0)), (3, .ref (ma 1)), (4, .ref (ma 2)), (5, .ref (ma 3)), (6, .ref (ma 4)), (7, .ref (ma 5)), (8, .ref (ma 6)), (9, .ref (ma 7)), (10, .ref (ma 8)), (11, .ref (ma 9)), (12, .ref (ma 10)), (14, wi v14_97), (17, wi x17_171), (18, wi t0_189), (19, wi t0_203), (21, vl r11), (24, wi x24_959)]) rfl ?_
                                exact hJ984 1 E_933 C_933 q_933
                    refine r_icmp_ne (tgt := 933) dL_law_700 (by decide) ?_ ?_
                    · refine r_lo [0, 1, 2, 3, 4, 5, 6, 7, 8, 9, 10, 11, 12, 14, 15, 16, 17, 18, 19, 20, 21] (lo2 := [(0, .ref sb), (1, .ref a1), (2, .ref (ma 0)), (3, .ref (ma 1)), (4, .ref (ma 2)), (5, .ref (ma 3)), (6, .ref (ma 4)), (7, .ref (ma 5)), (8, .ref (ma 6)), (9, .ref (ma 7)), (10, .ref (ma 8)), (11, .ref (ma 9)), (12, .ref (ma 10)), (14, wi v14_97), (16, wi t0_164), (17, wi x17_171), (18, wi t0_189), (19, wi t0_203), (20, wi r9), (21, vl r11), (23, wi x23_234)]) rfl ?_
                      exact hJ933 E_696 C_696 q_696
                    · refine r_aload_n (x := ma 0) dL_law_703 rfl rfl ?_
                      refine ro_iconst (v := 0) dL_law_704 rfl ?_
                      refine r_wiald3 h (by decide) (by decide) (hm 0 (by decide)) dL_law_705 ?_
                      refine r_bipush (v := 32) dL_law_706 rfl ?_
                      refine r_icmp_ge (tgt := 933) dL_law_708 (by decide) ?_ ?_
                      · refine r_lo [0, 1, 2, 3, 4, 5, 6, 7, 8, 9, 10, 11, 12, 14, 15, 16, 17, 18, 19, 20, 21] (lo2 := [(0, .ref sb), (1, .ref a1), (2, .ref (ma 0)), (3, .ref (ma 1)), (4, .ref (ma 2)), (5, .ref (ma 3)), (6, .ref (ma 4)), (7, .ref (ma 5)), (8, .ref (ma 6)), (9, .ref (ma 7)), (10, .ref (ma 8)), (11, .ref (ma 9)), (12, .ref (ma 10)), (14, wi v14_97), (16, wi t0_164), (17, wi x17_171), (18, wi t0_189), (19, wi t0_203), (20, wi r9), (21, vl r11), (23, wi x23_234)]) rfl ?_
                        exact hJ933 E_696 C_696 q_696
                      · refine r_iload (x := x17_171) dL_law_711 rfl ?_
                        refine r_bipush (v := 9) dL_law_713 rfl ?_
                        refine r_idiv dL_law_715 (by decide) ?_
                        refine ro_iconst (v := 3) dL_law_716 rfl ?_
                        refine r_irem dL_law_717 (by decide) ?_
                        refine r_nm (fun x24_718 => ?_)
                        refine r_istore (lo2 := [(24, wi x24_718), (0, .ref sb), (1, .ref a1), (2, .ref (ma 0)), (3, .ref (ma 1)), (4, .ref (ma 2)), (5, .ref (ma 3)), (6, .ref (ma 4)), (7, .ref (ma 5)), (8, .ref (ma 6)), (9, .ref (ma 7)), (10, .ref (ma 8)), (11, .ref (ma 9)), (12, .ref (ma 10)), (13, wi v13_97), (14, wi v14_97), (16, wi t0_164), (17, wi x17_171), (18, wi t0_189), (19, wi t0_203), (20, wi r9), (21, vl r11), (23, wi x23_234)]) dL_law_718 (by decide) rfl ?_
                        refine r_aload_n (x := ma 0) dL_law_720 rfl rfl ?_
                        refine r_aload_n (x := ma 1) dL_law_721 rfl rfl ?_
                        refine r_aload (x := ma 2) dL_law_722 rfl ?_
                        refine r_iload (x := t0_189) dL_law_724 rfl ?_
                        refine r_iload (x := x24_718) dL_law_726 rfl ?_
                        refine r_csi (J := fun (E_ : Rw) => (E_, C_696, q_696)) (k2 := k_L_versionOf) (n := 5) (rest := []) (fun _ => rfl) htb kv_L_versionOf (c_L_versionOf (ad := adq ma q_696) (K0 := C_696) h (adq_hm hm) t0_189 x24_718 _) (by decide) um_L_139 rfl (Nat.le_of_ble_eq_true rfl) dL_law_728 rfl (fun r67 E68 => ?_)
                        show RunO l Γ (kL T) 16 encI (em3 ma) 731 [(24, wi x24_718), (0, .ref sb), (1, .ref a1), (2, .ref (ma 0)), (3, .ref (ma 1)), (4, .ref (ma 2)), (5, .ref (ma 3)), (6, .ref (ma 4)), (7, .ref (ma 5)), (8, .ref (ma 6)), (9, .ref (ma 7)), (10, .ref (ma 8)), (11, .ref (ma 9)), (12, .ref (ma 10)), (13, wi v13_97), (14, wi v14_97), (16, wi t0_164), (17, wi x17_171), (18, wi t0_189), (19, wi t0_203), (20, wi r9), (21, vl r11), (23, wi x23_234)] [wi r67] (E68, C_696, q_696) _
                        refine r_istore (lo2 := [(25, wi r67), (24, wi x24_718), (0, .ref sb), (1, .ref a1), (2, .ref (ma 0)), (3, .ref (ma 1)), (4, .ref (ma 2)), (5, .ref (ma 3)), (6, .ref (ma 4)), (7, .ref (ma 5)), (8, .ref (ma 6)), (9, .ref (ma 7)), (10, .ref (ma 8)), (11, .ref (ma 9)), (12, .ref (ma 10)), (13, wi v13_97), (14, wi v14_97), (16, wi t0_164), (17, wi x17_171), (18, wi t0_189), (19, wi t0_203), (20, wi r9), (21, vl r11), (23, wi x23_234)]) dL_law_731 (by decide) rfl ?_
                        refine r_iload (x := r67) dL_law_733 rfl ?_
                        refine r_join (P := fun (J : Int → Rw → Cd → (Nat → Nat) → Option (Int × S3)) => ∀ (t0_748 : Int) (E_748 : Rw) (C_748 : Cd) (q_748 : (Nat → Nat)), RunO l Γ (kL T) 16 encI (em3 ma) 748 [(0, .ref sb), (1, .ref a1), (2, .ref (ma 0)), (3, .ref (ma 1)), (4, .ref (ma 2)), (5, .ref (ma 3)), (6, .ref (ma 4)), (7, .ref (ma 5)), (8, .ref (ma 6)), (9, .ref (ma 7)), (10, .ref (ma 8)), (11, .ref (ma 9)), (12, .ref (ma 10)), (13, wi v13_97), (14, wi v14_97), (17, wi x17_171), (18, wi t0_189), (20, wi r9), (24, wi x24_718), (25, wi r67)] [wi t0_748] (E_748, C_748, q_748) (J t0_748 E_748 C_748 q_748)) ?_ (fun J748 hJ748 => ?_)
                        · intro t0_748 E_748 C_748 q_748
                          show RunO l Γ (kL T) 16 encI (em3 ma) 748 [(0, .ref sb), (1, .ref a1), (2, .ref (ma 0)), (3, .ref (ma 1)), (4, .ref (ma 2)), (5, .ref (ma 3)), (6, .ref (ma 4)), (7, .ref (ma 5)), (8, .ref (ma 6)), (9, .ref (ma 7)), (10, .ref (ma 8)), (11, .ref (ma 9)), (12, .ref (ma 10)), (13, wi v13_97), (14, wi v14_97), (17, wi x17_171), (18, wi t0_189), (20, wi r9), (24, wi x24_718), (25, wi r67)] [wi t0_748] (E_748, C_748, q_748) (fW_law_748 a1 v13_97 t0_189 r9 J1788 x24_718 r67 t0_748 E_748 C_748 q_748)
                          unfold fW_law_748
                          refine r_istore (lo2 := [(26, wi t0_748), (0, .ref sb), (1, .ref a1), (2, .ref (ma 0)), (3, .ref (ma 1)), (4, .ref (ma 2)), (5, .ref (ma 3)), (6, .ref (ma 4)), (7, .ref (ma 5)), (8, .ref (ma 6)), (9, .ref (ma 7)), (10, .ref (ma 8)), (11, .ref (ma 9)), (12, .ref (ma 10)), (13, wi v13_97), (14, wi v14_97), (17, wi x17_171), (18, wi t0_189), (20, wi r9), (24, wi x24_718), (25, wi r67)]) dL_law_748 (by decide) rfl ?_
                          refine r_iload (x := t0_748) dL_law_750 rfl ?_
                          refine r_join (P := fun (J : Int → Rw → Cd → (Nat → Nat) → Option (Int × S3)) => ∀ (t0_788 : Int) (E_788 : Rw) (C_788 : Cd) (q_788 : (Nat → Nat)), RunO l Γ (kL T) 16 encI (em3 ma) 788 [(0, .ref sb), (1, .ref a1), (2, .ref (ma 0)), (3, .ref (ma 1)), (4, .ref (ma 2)), (5, .ref (ma 3)), (6, .ref (ma 4)), (7, .ref (ma 5)), (8, .ref (ma 6)), (9, .ref (ma 7)), (10, .ref (ma 8)), (11, .ref (ma 9)), (12, .ref (ma 10)), (13, wi v13_97), (14, wi v14_97), (17, wi x17_171), (18, wi t0_189), (20, wi r9), (25, wi r67), (26, wi t0_748)] [vl t0_788] (E_788, C_788, q_788) (J t0_788 E_788 C_788 q_788)) ?_ (fun J788 hJ788 => ?_)
                          · intro t0_788 E_788 C_788 q_788
                            show RunO l Γ (kL T) 16 encI (em3 ma) 788 [(0, .ref sb), (1, .ref a1), (2, .ref (ma 0)), (3, .ref (ma 1)), (4, .ref (ma 2)), (5, .ref (ma 3)), (6, .ref (ma 4)), (7, .ref (ma 5)), (8, .ref (ma 6)), (9, .ref (ma 7)), (10, .ref (ma 8)), (11, .ref (ma 9)), (12, .ref (ma 10)), (13, wi v13_97), (14, wi v14_97), (17, wi x17_171), (18, wi t0_189), (20, wi r9), (25, wi r67), (26, wi t0_748)] [vl t0_788] (E_788, C_788, q_788) (fW_law_788 a1 v13_97 t0_189 r9 J1788 r67 t0_748 t0_788 E_788 C_788 q_788)
                            unfold fW_law_788
                            refine r_lstore (lo2 := [(27, vl t0_788), (0, .ref sb), (1, .ref a1), (2, .ref (ma 0)), (3, .ref (ma 1)), (4, .ref (ma 2)), (5, .ref (ma 3)), (6, .ref (ma 4)), (7, .ref (ma 5)), (8, .ref (ma 6)), (9, .ref (ma 7)), (10, .ref (ma 8)), (11, .ref (ma 9)), (12, .ref (ma 10)), (13, wi v13_97), (14, wi v14_97), (17, wi x17_171), (18, wi t0_189), (20, wi r9), (25, wi r67), (26, wi t0_748)]) dL_law_788 (by decide) rfl ?_
                            refine r_iload (x := t0_748) dL_law_790 rfl ?_
                            refine r_join (P := fun (J : Int → Rw → Cd → (Nat → Nat) → Option (Int × S3)) => ∀ (t0_826 : Int) (E_826 : Rw) (C_826 : Cd) (q_826 : (Nat → Nat)), RunO l Γ (kL T) 16 encI (em3 ma) 826 [(0, .ref sb), (1, .ref a1), (2, .ref (ma 0)), (3, .ref (ma 1)), (4, .ref (ma 2)), (5, .ref (ma 3)), (6, .ref (ma 4)), (7, .ref (ma 5)), (8, .ref (ma 6)), (9, .ref (ma 7)), (10, .ref (ma 8)), (11, .ref (ma 9)), (12, .ref (ma 10)), (13, wi v13_97), (14, wi v14_97), (17, wi x17_171), (18, wi t0_189), (25, wi r67), (26, wi t0_748), (27, vl t0_788)] [wi t0_826] (E_826, C_826, q_826) (J t0_826 E_826 C_826 q_826)) ?_ (fun J826 hJ826 => ?_)
                            · intro t0_826 E_826 C_826 q_826
                              show RunO l Γ (kL T) 16 encI (em3 ma) 826 [(0, .ref sb), (1, .ref a1), (2, .ref (ma 0)), (3, .ref (ma 1)), (4, .ref (ma 2)), (5, .ref (ma 3)), (6, .ref (ma 4)), (7, .ref (ma 5)), (8, .ref (ma 6)), (9, .ref (ma 7)), (10, .ref (ma 8)), (11, .ref (ma 9)), (12, .ref (ma 10)), (13, wi v13_97), (14, wi v14_97), (17, wi x17_171), (18, wi t0_189), (25, wi r67), (26, wi t0_748), (27, vl t0_788)] [wi t0_826] (E_826, C_826, q_826) (fW_law_826 a1 v13_97 t0_189 J1788 r67 t0_748 t0_788 t0_826 E_826 C_826 q_826)
                              unfold fW_law_826
                              refine r_istore (lo2 := [(29, wi t0_826), (0, .ref sb), (1, .ref a1), (2, .ref (ma 0)), (3, .ref (ma 1)), (4, .ref (ma 2)), (5, .ref (ma 3)), (6, .ref (ma 4)), (7, .ref (ma 5)), (8, .ref (ma 6)), (9, .ref (ma 7)), (10, .ref (ma 8)), (11, .ref (ma 9)), (12, .ref (ma 10)), (13, wi v13_97), (14, wi v14_97), (17, wi x17_171), (18, wi t0_189), (25, wi r67), (26, wi t0_748), (27, vl t0_788)]) dL_law_826 (by decide) rfl ?_
                              refine r_iload (x := t0_748) dL_law_828 rfl ?_
                              refine r_join (P := fun (J : Int → Rw → Cd → (Nat → Nat) → Option (Int × S3)) => ∀ (v13_930 : Int) (E_930 : Rw) (C_930 : Cd) (q_930 : (Nat → Nat)), RunO l Γ (kL T) 16 encI (em3 ma) 930 [(0, .ref sb), (1, .ref a1), (2, .ref (ma 0)), (3, .ref (ma 1)), (4, .ref (ma 2)), (5, .ref (ma 3)), (6, .ref (ma 4)), (7, .ref (ma 5)), (8, .ref (ma 6)), (9, .ref (ma 7)), (10, .ref (ma 8)), (11, .ref (ma 9)), (12, .ref (ma 10)), (13, wi v13_930), (14, wi v14_97), (17, wi x17_171)] [] (E_930, C_930, q_930) (J v13_930 E_930 C_930 q_930)) ?_ (fun J930 hJ930 => ?_)
                              · intro v13_930 E_930 C_930 q_930
                                show RunO l Γ (kL T) 16 encI (em3 ma) 930 [(0, .ref sb), (1, .ref a1), (2, .ref (ma 0)), (3, .ref (ma 1)), (4, .ref (ma 2)), (5, .ref (ma 3)), (6, .ref (ma 4)), (7, .ref (ma 5)), (8, .ref (ma 6)), (9, .ref (ma 7)), (10, .ref (ma 8)), (11, .ref (ma 9)), (12, .ref (ma 10)), (13, wi v13_930), (14, wi v14_97), (17, wi x17_171)] [] (E_930, C_930, q_930) (fW_law_930 J1788 v13_930 E_930 C_930 q_930)
                                unfold fW_law_930
                                refine r_goto (tgt := 1788) dL_law_930 (by decide) ?_
                                exact hJ1788 v13_930 E_930 C_930 q_930
                              refine r_join (P := fun (J : Rw → Cd → (Nat → Nat) → Option (Int × S3)) => ∀ (E_843 : Rw) (C_843 : Cd) (q_843 : (Nat → Nat)), RunO l Γ (kL T) 16 encI (em3 ma) 843 [(0, .ref sb), (1, .ref a1), (2, .ref (ma 0)), (3, .ref (ma 1)), (4, .ref (ma 2)), (5, .ref (ma 3)), (6, .ref (ma 4)), (7, .ref (ma 5)), (8, .ref (ma 6)), (9, .ref (ma 7)), (10, .ref (ma 8)), (11, .ref (ma 9)), (12, .ref (ma 10)), (14, wi v14_97), (17, wi x17_171), (18, wi t0_189), (25, wi r67), (26, wi t0_748), (27, vl t0_788), (29, wi t0_826)] [] (E_843, C_843, q_843) (J E_843 C_843 q_843)) ?_ (fun J843 hJ843 => ?_)
                              · intro E_843 C_843 q_843
                                show RunO l Γ (kL T) 16 encI (em3 ma) 843 [(0, .ref sb), (1, .ref a1), (2, .ref (ma 0)), (3, .ref (ma 1)), (4, .ref (ma 2)), (5, .ref (ma 3)), (6, .ref (ma 4)), (7, .ref (ma 5)), (8, .ref (ma 6)), (9, .ref (ma 7)), (10, .ref (ma 8)), (11, .ref (ma 9)), (12, .ref (ma 10)), (14, wi v14_97), (17, wi x17_171), (18, wi t0_189), (25, wi r67), (26, wi t0_748), (27, vl t0_788), (29, wi t0_826)] [] (E_843, C_843, q_843) (fW_law_843 a1 t0_189 r67 t0_748 t0_788 t0_826 J930 E_843 C_843 q_843)
                                unfold fW_law_843
                                refine r_aload_n (x := a1) dL_law_843 rfl rfl ?_
                                refine ro_iconst (v := 2) dL_law_844 rfl ?_
                                refine r_iload (x := t0_189) dL_law_845 rfl ?_
                                refine r_iload (x := r67) dL_law_847 rfl ?_
                                refine r_join (P := fun (J : Int → Rw → Cd → (Nat → Nat) → Option (Int × S3)) => ∀ (t0_860 : Int) (E_860 : Rw) (C_860 : Cd) (q_860 : (Nat → Nat)), RunO l Γ (kL T) 16 encI (em3 ma) 860 [(0, .ref sb), (1, .ref a1), (2, .ref (ma 0)), (3, .ref (ma 1)), (4, .ref (ma 2)), (5, .ref (ma 3)), (6, .ref (ma 4)), (7, .ref (ma 5)), (8, .ref (ma 6)), (9, .ref (ma 7)), (10, .ref (ma 8)), (11, .ref (ma 9)), (12, .ref (ma 10)), (14, wi v14_97), (17, wi x17_171), (18, wi t0_189), (26, wi t0_748), (27, vl t0_788), (29, wi t0_826)] [wi t0_860, wi t0_189, wi 2, .ref a1] (E_860, C_860, q_860) (J t0_860 E_860 C_860 q_860)) ?_ (fun J860 hJ860 => ?_)
                                · intro t0_860 E_860 C_860 q_860
                                  show RunO l Γ (kL T) 16 encI (em3 ma) 860 [(0, .ref sb), (1, .ref a1), (2, .ref (ma 0)), (3, .ref (ma 1)), (4, .ref (ma 2)), (5, .ref (ma 3)), (6, .ref (ma 4)), (7, .ref (ma 5)), (8, .ref (ma 6)), (9, .ref (ma 7)), (10, .ref (ma 8)), (11, .ref (ma 9)), (12, .ref (ma 10)), (14, wi v14_97), (17, wi x17_171), (18, wi t0_189), (26, wi t0_748), (27, vl t0_788), (29, wi t0_826)] [wi t0_860, wi t0_189, wi 2, .ref a1] (E_860, C_860, q_860) (fW_law_860 a1 t0_189 t0_748 t0_788 t0_826 J930 t0_860 E_860 C_860 q_860)
                                  unfold fW_law_860
                                  refine ro_iconst (v := 0) dL_law_860 rfl ?_
                                  refine r_csHi (J := fun (C_ : Cd) => (E_860, C_, q_860)) (k2 := k_L_does) (n := 5) (rest := []) (fun _ => rfl) kv_L_does (c_L_does hG hX a1 2 t0_189 t0_860 0 _) (by decide) um_L_132 rfl (Nat.le_of_ble_eq_true rfl) dL_law_861 rfl (fun r69 C70 => ?_)
                                  show RunO l Γ (kL T) 16 encI (em3 ma) 864 [(0, .ref sb), (1, .ref a1), (2, .ref (ma 0)), (3, .ref (ma 1)), (4, .ref (ma 2)), (5, .ref (ma 3)), (6, .ref (ma 4)), (7, .ref (ma 5)), (8, .ref (ma 6)), (9, .ref (ma 7)), (10, .ref (ma 8)), (11, .ref (ma 9)), (12, .ref (ma 10)), (14, wi v14_97), (17, wi x17_171), (18, wi t0_189), (26, wi t0_748), (27, vl t0_788), (29, wi t0_826)] [wi r69] (E_860, C70, q_860) _
                                  refine r_iload (x := t0_748) dL_law_864 rfl ?_
                                  refine r_join (P := fun (J : Int → Rw → Cd → (Nat → Nat) → Option (Int × S3)) => ∀ (t0_887 : Int) (E_887 : Rw) (C_887 : Cd) (q_887 : (Nat → Nat)), RunO l Γ (kL T) 16 encI (em3 ma) 887 [(0, .ref sb), (1, .ref a1), (2, .ref (ma 0)), (3, .ref (ma 1)), (4, .ref (ma 2)), (5, .ref (ma 3)), (6, .ref (ma 4)), (7, .ref (ma 5)), (8, .ref (ma 6)), (9, .ref (ma 7)), (10, .ref (ma 8)), (11, .ref (ma 9)), (12, .ref (ma 10)), (14, wi v14_97), (17, wi x17_171), (18, wi t0_189), (27, vl t0_788), (29, wi t0_826)] [wi t0_887, wi r69] (E_887, C_887, q_887) (J t0_887 E_887 C_887 q_887)) ?_ (fun J887 hJ887 => ?_)
                                  · intro t0_887 E_887 C_887 q_887
                                    show RunO l Γ (kL T) 16 encI (em3 ma) 887 [(0, .ref sb), (1, .ref a1), (2, .ref (ma 0)), (3, .ref (ma 1)), (4, .ref (ma 2)), (5, .ref (ma 3)), (6, .ref (ma 4)), (7, .ref (ma 5)), (8, .ref (ma 6)), (9, .ref (ma 7)), (10, .ref (ma 8)), (11, .ref (ma 9)), (12, .ref (ma 10)), (14, wi v14_97), (17, wi x17_171), (18, wi t0_189), (27, vl t0_788), (29, wi t0_826)] [wi t0_887, wi r69] (E_887, C_887, q_887) (fW_law_887 t0_189 t0_788 t0_826 J930 r69 t0_887 E_887 C_887 q_887)
                                    unfold fW_law_887
                                    refine r_join (P := fun (J : Int → Rw → Cd → (Nat → Nat) → Option (Int × S3)) => ∀ (t0_895 : Int) (E_895 : Rw) (C_895 : Cd) (q_895 : (Nat → Nat)), RunO l Γ (kL T) 16 encI (em3 ma) 895 [(0, .ref sb), (1, .ref a1), (2, .ref (ma 0)), (3, .ref (ma 1)), (4, .ref (ma 2)), (5, .ref (ma 3)), (6, .ref (ma 4)), (7, .ref (ma 5)), (8, .ref (ma 6)), (9, .ref (ma 7)), (10, .ref (ma 8)), (11, .ref (ma 9)), (12, .ref (ma 10)), (14, wi v14_97), (17, wi x17_171), (18, wi t0_189), (27, vl t0_788), (29, wi t0_826)] [wi t0_895] (E_895, C_895, q_895) (J t0_895 E_895 C_895 q_895)) ?_ (fun J895 hJ895 => ?_)
                                    · intro t0_895 E_895 C_895 q_895
                                      show RunO l Γ (kL T) 16 encI (em3 ma) 895 [(0, .ref sb), (1, .ref a1), (2, .ref (ma 0)), (3, .ref (ma 1)), (4, .ref (ma 2)), (5, .ref (ma 3)), (6, .ref (ma 4)), (7, .ref (ma 5)), (8, .ref (ma 6)), (9, .ref (ma 7)), (10, .ref (ma 8)), (11, .ref (ma 9)), (12, .ref (ma 10)), (14, wi v14_97), (17, wi x17_171), (18, wi t0_189), (27, vl t0_788), (29, wi t0_826)] [wi t0_895] (E_895, C_895, q_895) (fW_law_895 t0_189 t0_788 t0_826 J930 t0_895 E_895 C_895 q_895)
                                      unfold fW_law_895
                                      refine r_istore (lo2 := [(13, wi t0_895), (0, .ref sb), (1, .ref a1), (2, .ref (ma 0)), (3, .ref (ma 1)), (4, .ref (ma 2)), (5, .ref (ma 3)), (6, .ref (ma 4)), (7, .ref (ma 5)), (8, .ref (ma 6)), (9, .ref (ma 7)), (10, .ref (ma 8)), (11, .ref (ma 9)), (12, .ref (ma 10)), (14, wi v14_97), (17, wi x17_171), (18, wi t0_189), (27, vl t0_788), (29, wi t0_826)]) dL_law_895 (by decide) rfl ?_
                                      refine r_iload (x := t0_826) dL_law_897 rfl ?_
                                      refine r_if_eq (tgt := 930) dL_law_899 (by decide) ?_ ?_
                                      · refine r_lo [1, 2, 3, 4, 5, 6, 7, 8, 9, 10, 11, 12, 13, 0, 14, 15] (lo2 := [(0, .ref sb), (1, .ref a1), (2, .ref (ma 0)), (3, .ref (ma 1)), (4, .ref (ma 2)), (5, .ref (ma 3)), (6, .ref (ma 4)), (7, .ref (ma 5)), (8, .ref (ma 6)), (9, .ref (ma 7)), (10, .ref (ma 8)), (11, .ref (ma 9)), (12, .ref (ma 10)), (13, wi t0_895), (14, wi v14_97), (17, wi x17_171)]) rfl ?_
                                        exact hJ930 t0_895 E_895 C_895 q_895
                                      · refine r_aload_n (x := ma 0) dL_law_902 rfl rfl ?_
                                        refine ro_iconst (v := 2) dL_law_903 rfl ?_
                                        refine r_dup2 dL_law_904 rfl rfl ?_
                                        refine r_wiald3 h (by decide) (by decide) (hm 0 (by decide)) dL_law_905 ?_
                                        refine ro_iconst (v := 1) dL_law_906 rfl ?_
                                        refine r_iadd dL_law_907 ?_
                                        refine r_wiast3 h (by decide) (by decide) (hm 0 (by decide)) dL_law_908 (fun E71 => ?_)
                                        refine r_aload_n (x := ma 0) dL_law_909 rfl rfl ?_
                                        refine r_aload (x := ma 2) dL_law_910 rfl ?_
                                        refine r_aload (x := ma 3) dL_law_912 rfl ?_
                                        refine r_aload_n (x := ma 1) dL_law_914 rfl rfl ?_
                                        refine r_iload (x := t0_189) dL_law_915 rfl ?_
                                        refine r_wiald3 h (by decide) (by decide) (hm 1 (by decide)) dL_law_917 ?_
                                        refine ro_iconst (v := 1) dL_law_918 rfl ?_
                                        refine r_isub dL_law_919 ?_
                                        refine r_aload_n (x := ma 0) dL_law_920 rfl rfl ?_
                                        refine ro_iconst (v := 2) dL_law_921 rfl ?_
                                        refine r_wiald3 h (by decide) (by decide) (hm 0 (by decide)) dL_law_922 ?_
                                        refine r_lload (x := t0_788) dL_law_923 rfl ?_
                                        refine r_csi (J := fun (E_ : Rw) => (E_, C_895, q_895)) (k2 := k_L_adds) (n := 6) (rest := []) (fun _ => rfl) htb kv_L_adds (c_L_adds (ad := adq ma q_895) (K0 := C_895) h (adq_hm hm) ((E71 1 (ix t0_189)) - 1) (E71 0 (ix 2)) t0_788 _) (by decide) um_L_194 rfl (Nat.le_of_ble_eq_true rfl) dL_law_925 rfl (fun r72 E73 => ?_)
                                        show RunO l Γ (kL T) 16 encI (em3 ma) 928 [(13, wi t0_895), (0, .ref sb), (1, .ref a1), (2, .ref (ma 0)), (3, .ref (ma 1)), (4, .ref (ma 2)), (5, .ref (ma 3)), (6, .ref (ma 4)), (7, .ref (ma 5)), (8, .ref (ma 6)), (9, .ref (ma 7)), (10, .ref (ma 8)), (11, .ref (ma 9)), (12, .ref (ma 10)), (14, wi v14_97), (17, wi x17_171), (18, wi t0_189), (27, vl t0_788), (29, wi t0_826)] [wi r72] (E73, C_895, q_895) _
                                        refine r_istore (lo2 := [(30, wi r72), (13, wi t0_895), (0, .ref sb), (1, .ref a1), (2, .ref (ma 0)), (3, .ref (ma 1)), (4, .ref (ma 2)), (5, .ref (ma 3)), (6, .ref (ma 4)), (7, .ref (ma 5)), (8, .ref (ma 6)), (9, .ref (ma 7)), (10, .ref (ma 8)), (11, .ref (ma 9)), (12, .ref (ma 10)), (14, wi v14_97), (17, wi x17_171), (18, wi t0_189), (27, vl t0_788), (29, wi t0_826)]) dL_law_928 (by decide) rfl ?_
                                        refine r_lo [2, 3, 4, 5, 6, 7, 8, 9, 10, 11, 12, 13, 14, 1, 15, 16] (lo2 := [(0, .ref sb), (1, .ref a1), (2, .ref (ma 0)), (3, .ref (ma 1)), (4, .ref (ma 2)), (5, .ref (ma 3)), (6, .ref (ma 4)), (7, .ref (ma 5)), (8, .ref (ma 6)), (9, .ref (ma 7)), (10, .ref (ma 8)), (11, .ref (ma 9)), (12, .ref (ma 10)), (13, wi t0_895), (14, wi v14_97), (17, wi x17_171)]) rfl ?_
                                        exact hJ930 t0_895 E73 C_895 q_895
                                    refine r_icmp_ne (tgt := 894) dL_law_887 (by decide) ?_ ?_
                                    · refine ro_iconst (v := 0) dL_law_894 rfl ?_
                                      exact hJ895 0 E_887 C_887 q_887
                                    · refine ro_iconst (v := 1) dL_law_890 rfl ?_
                                      refine r_goto (tgt := 895) dL_law_891 (by decide) ?_
                                      exact hJ895 1 E_887 C_887 q_887
                                  refine r_if_ne (tgt := 874) dL_law_866 (by decide) ?_ ?_
                                  · refine r_iload (x := t0_826) dL_law_874 rfl ?_
                                    refine r_if_eq (tgt := 885) dL_law_876 (by decide) ?_ ?_
                                    · refine r_bipush (v := (-13)) dL_law_885 rfl ?_
                                      refine r_lo [0, 1, 2, 3, 4, 5, 6, 7, 8, 9, 10, 11, 12, 13, 14, 15, 17, 18] (lo2 := [(0, .ref sb), (1, .ref a1), (2, .ref (ma 0)), (3, .ref (ma 1)), (4, .ref (ma 2)), (5, .ref (ma 3)), (6, .ref (ma 4)), (7, .ref (ma 5)), (8, .ref (ma 6)), (9, .ref (ma 7)), (10, .ref (ma 8)), (11, .ref (ma 9)), (12, .ref (ma 10)), (14, wi v14_97), (17, wi x17_171), (18, wi t0_189), (27, vl t0_788), (29, wi t0_826)]) rfl ?_
                                      exact hJ887 (-13) E_860 C70 q_860
                                    · refine r_aload_n (x := ma 0) dL_law_879 rfl rfl ?_
                                      refine ro_iconst (v := 0) dL_law_880 rfl ?_
                                      refine r_wiald3 h (by decide) (by decide) (hm 0 (by decide)) dL_law_881 ?_
                                      refine r_goto (tgt := 887) dL_law_882 (by decide) ?_
                                      refine r_lo [0, 1, 2, 3, 4, 5, 6, 7, 8, 9, 10, 11, 12, 13, 14, 15, 17, 18] (lo2 := [(0, .ref sb), (1, .ref a1), (2, .ref (ma 0)), (3, .ref (ma 1)), (4, .ref (ma 2)), (5, .ref (ma 3)), (6, .ref (ma 4)), (7, .ref (ma 5)), (8, .ref (ma 6)), (9, .ref (ma 7)), (10, .ref (ma 8)), (11, .ref (ma 9)), (12, .ref (ma 10)), (14, wi v14_97), (17, wi x17_171), (18, wi t0_189), (27, vl t0_788), (29, wi t0_826)]) rfl ?_
                                      exact hJ887 (E_860 0 (ix 0)) E_860 C70 q_860
                                  · refine r_bipush (v := (-11)) dL_law_869 rfl ?_
                                    refine r_goto (tgt := 887) dL_law_871 (by decide) ?_
                                    refine r_lo [0, 1, 2, 3, 4, 5, 6, 7, 8, 9, 10, 11, 12, 13, 14, 15, 17, 18] (lo2 := [(0, .ref sb), (1, .ref a1), (2, .ref (ma 0)), (3, .ref (ma 1)), (4, .ref (ma 2)), (5, .ref (ma 3)), (6, .ref (ma 4)), (7, .ref (ma 5)), (8, .ref (ma 6)), (9, .ref (ma 7)), (10, .ref (ma 8)), (11, .ref (ma 9)), (12, .ref (ma 10)), (14, wi v14_97), (17, wi x17_171), (18, wi t0_189), (27, vl t0_788), (29, wi t0_826)]) rfl ?_
                                    exact hJ887 (-11) E_860 C70 q_860
                                refine r_if_ge (tgt := 858) dL_law_849 (by decide) ?_ ?_
                                · refine r_iload (x := r67) dL_law_858 rfl ?_
                                  refine r_lo [0, 1, 2, 3, 4, 5, 6, 7, 8, 9, 10, 11, 12, 13, 14, 15, 17, 18, 19] (lo2 := [(0, .ref sb), (1, .ref a1), (2, .ref (ma 0)), (3, .ref (ma 1)), (4, .ref (ma 2)), (5, .ref (ma 3)), (6, .ref (ma 4)), (7, .ref (ma 5)), (8, .ref (ma 6)), (9, .ref (ma 7)), (10, .ref (ma 8)), (11, .ref (ma 9)), (12, .ref (ma 10)), (14, wi v14_97), (17, wi x17_171), (18, wi t0_189), (26, wi t0_748), (27, vl t0_788), (29, wi t0_826)]) rfl ?_
                                  exact hJ860 r67 E_843 C_843 q_843
                                · refine r_aload_n (x := ma 0) dL_law_852 rfl rfl ?_
                                  refine ro_iconst (v := 0) dL_law_853 rfl ?_
                                  refine r_wiald3 h (by decide) (by decide) (hm 0 (by decide)) dL_law_854 ?_
                                  refine r_goto (tgt := 860) dL_law_855 (by decide) ?_
                                  refine r_lo [0, 1, 2, 3, 4, 5, 6, 7, 8, 9, 10, 11, 12, 13, 14, 15, 17, 18, 19] (lo2 := [(0, .ref sb), (1, .ref a1), (2, .ref (ma 0)), (3, .ref (ma 1)), (4, .ref (ma 2)), (5, .ref (ma 3)), (6, .ref (ma 4)), (7, .ref (ma 5)), (8, .ref (ma 6)), (9, .ref (ma 7)), (10, .ref (ma 8)), (11, .ref (ma 9)), (12, .ref (ma 10)), (14, wi v14_97), (17, wi x17_171), (18, wi t0_189), (26, wi t0_748), (27, vl t0_788), (29, wi t0_826)]) rfl ?_
                                  exact hJ860 (E_843 0 (ix 0)) E_843 C_843 q_843
                              refine r_if_eq (tgt := 843) dL_law_830 (by decide) ?_ ?_
                              · refine r_lo [1, 2, 3, 4, 5, 6, 7, 8, 9, 10, 11, 12, 13, 15, 16, 17, 18, 19, 20, 0] (lo2 := [(0, .ref sb), (1, .ref a1), (2, .ref (ma 0)), (3, .ref (ma 1)), (4, .ref (ma 2)), (5, .ref (ma 3)), (6, .ref (ma 4)), (7, .ref (ma 5)), (8, .ref (ma 6)), (9, .ref (ma 7)), (10, .ref (ma 8)), (11, .ref (ma 9)), (12, .ref (ma 10)), (14, wi v14_97), (17, wi x17_171), (18, wi t0_189), (25, wi r67), (26, wi t0_748), (27, vl t0_788), (29, wi t0_826)]) rfl ?_
                                exact hJ843 E_826 C_826 q_826
                              · refine r_lload (x := t0_788) dL_law_833 rfl ?_
                                refine r_csi (J := fun (_ : Unit) => (E_826, C_826, q_826)) (k2 := k_L_macros) (n := 1) (rest := []) (fun _ => rfl) htb kv_L_macros (c_L_macros (σ0 := _) t0_788) (by decide) um_L_7 rfl (Nat.le_of_ble_eq_true rfl) dL_law_835 rfl (fun r74 _ => ?_)
                                show RunO l Γ (kL T) 16 encI (em3 ma) 838 [(29, wi t0_826), (0, .ref sb), (1, .ref a1), (2, .ref (ma 0)), (3, .ref (ma 1)), (4, .ref (ma 2)), (5, .ref (ma 3)), (6, .ref (ma 4)), (7, .ref (ma 5)), (8, .ref (ma 6)), (9, .ref (ma 7)), (10, .ref (ma 8)), (11, .ref (ma 9)), (12, .ref (ma 10)), (13, wi v13_97), (14, wi v14_97), (17, wi x17_171), (18, wi t0_189), (25, wi r67), (26, wi t0_748), (27, vl t0_788)] [wi r74] (E_826, C_826, q_826) _
                                refine r_bipush (v := 6) dL_law_838 rfl ?_
                                refine r_icmp_ge (tgt := 930) dL_law_840 (by decide) ?_ ?_
                                · refine r_lo [1, 2, 3, 4, 5, 6, 7, 8, 9, 10, 11, 12, 13, 14, 15, 16] (lo2 := [(0, .ref sb), (1, .ref a1), (2, .ref (ma 0)), (3, .ref (ma 1)), (4, .ref (ma 2)), (5, .ref (ma 3)), (6, .ref (ma 4)), (7, .ref (ma 5)), (8, .ref (ma 6)), (9, .ref (ma 7)), (10, .ref (ma 8)), (11, .ref (ma 9)), (12, .ref (ma 10)), (13, wi v13_97), (14, wi v14_97), (17, wi x17_171)]) rfl ?_
                                  exact hJ930 v13_97 E_826 C_826 q_826
                                · refine r_lo [1, 2, 3, 4, 5, 6, 7, 8, 9, 10, 11, 12, 13, 15, 16, 17, 18, 19, 20, 0] (lo2 := [(0, .ref sb), (1, .ref a1), (2, .ref (ma 0)), (3, .ref (ma 1)), (4, .ref (ma 2)), (5, .ref (ma 3)), (6, .ref (ma 4)), (7, .ref (ma 5)), (8, .ref (ma 6)), (9, .ref (ma 7)), (10, .ref (ma 8)), (11, .ref (ma 9)), (12, .ref (ma 10)), (14, wi v14_97), (17, wi x17_171), (18, wi t0_189), (25, wi r67), (26, wi t0_748), (27, vl t0_788), (29, wi t0_826)]) rfl ?_
                                  exact hJ843 E_826 C_826 q_826
                            refine r_join (P := fun (J : Rw → Cd → (Nat → Nat) → Option (Int × S3)) => ∀ (E_825 : Rw) (C_825 : Cd) (q_825 : (Nat → Nat)), RunO l Γ (kL T) 16 encI (em3 ma) 825 [(0, .ref sb), (1, .ref a1), (2, .ref (ma 0)), (3, .ref (ma 1)), (4, .ref (ma 2)), (5, .ref (ma 3)), (6, .ref (ma 4)), (7, .ref (ma 5)), (8, .ref (ma 6)), (9, .ref (ma 7)), (10, .ref (ma 8)), (11, .ref (ma 9)), (12, .ref (ma 10)), (13, wi v13_97), (14, wi v14_97), (17, wi x17_171), (18, wi t0_189), (25, wi r67), (26, wi t0_748), (27, vl t0_788)] [] (E_825, C_825, q_825) (J E_825 C_825 q_825)) ?_ (fun J825 hJ825 => ?_)
                            · intro E_825 C_825 q_825
                              show RunO l Γ (kL T) 16 encI (em3 ma) 825 [(0, .ref sb), (1, .ref a1), (2, .ref (ma 0)), (3, .ref (ma 1)), (4, .ref (ma 2)), (5, .ref (ma 3)), (6, .ref (ma 4)), (7, .ref (ma 5)), (8, .ref (ma 6)), (9, .ref (ma 7)), (10, .ref (ma 8)), (11, .ref (ma 9)), (12, .ref (ma 10)), (13, wi v13_97), (14, wi v14_97), (17, wi x17_171), (18, wi t0_189), (25, wi r67), (26, wi t0_748), (27, vl t0_788)] [] (E_825, C_825, q_825) (fW_law_825 J826 E_825 C_825 q_825)
                              unfold fW_law_825
                              refine ro_iconst (v := 0) dL_law_825 rfl ?_
                              exact hJ826 0 E_825 C_825 q_825
                            refine r_if_eq (tgt := 825) dL_law_792 (by decide) ?_ ?_
                            · refine r_lo [1, 2, 3, 4, 5, 6, 7, 8, 9, 10, 11, 12, 13, 14, 15, 16, 17, 19, 20, 0] (lo2 := [(0, .ref sb), (1, .ref a1), (2, .ref (ma 0)), (3, .ref (ma 1)), (4, .ref (ma 2)), (5, .ref (ma 3)), (6, .ref (ma 4)), (7, .ref (ma 5)), (8, .ref (ma 6)), (9, .ref (ma 7)), (10, .ref (ma 8)), (11, .ref (ma 9)), (12, .ref (ma 10)), (13, wi v13_97), (14, wi v14_97), (17, wi x17_171), (18, wi t0_189), (25, wi r67), (26, wi t0_748), (27, vl t0_788)]) rfl ?_
                              exact hJ825 E_788 C_788 q_788
                            · refine r_lload (x := t0_788) dL_law_795 rfl ?_
                              refine r_lconst (x := 1) dL_law_797 rfl ?_
                              refine r_lcmp dL_law_798 ?_
                              refine r_if_le (tgt := 825) dL_law_799 (by decide) ?_ ?_
                              · refine r_lo [1, 2, 3, 4, 5, 6, 7, 8, 9, 10, 11, 12, 13, 14, 15, 16, 17, 19, 20, 0] (lo2 := [(0, .ref sb), (1, .ref a1), (2, .ref (ma 0)), (3, .ref (ma 1)), (4, .ref (ma 2)), (5, .ref (ma 3)), (6, .ref (ma 4)), (7, .ref (ma 5)), (8, .ref (ma 6)), (9, .ref (ma 7)), (10, .ref (ma 8)), (11, .ref (ma 9)), (12, .ref (ma 10)), (13, wi v13_97), (14, wi v14_97), (17, wi x17_171), (18, wi t0_189), (25, wi r67), (26, wi t0_748), (27, vl t0_788)]) rfl ?_
                                exact hJ825 E_788 C_788 q_788
                              · refine r_lload (x := t0_788) dL_law_802 rfl ?_
                                refine r_csi (J := fun (_ : Unit) => (E_788, C_788, q_788)) (k2 := k_L_isText) (n := 1) (rest := []) (fun _ => rfl) htb kv_L_isText (c_L_isText (σ0 := _) t0_788) (by decide) um_L_206 rfl (Nat.le_of_ble_eq_true rfl) dL_law_804 rfl (fun r75 _ => ?_)
                                show RunO l Γ (kL T) 16 encI (em3 ma) 807 [(27, vl t0_788), (0, .ref sb), (1, .ref a1), (2, .ref (ma 0)), (3, .ref (ma 1)), (4, .ref (ma 2)), (5, .ref (ma 3)), (6, .ref (ma 4)), (7, .ref (ma 5)), (8, .ref (ma 6)), (9, .ref (ma 7)), (10, .ref (ma 8)), (11, .ref (ma 9)), (12, .ref (ma 10)), (13, wi v13_97), (14, wi v14_97), (17, wi x17_171), (18, wi t0_189), (20, wi r9), (25, wi r67), (26, wi t0_748)] [wi r75] (E_788, C_788, q_788) _
                                refine r_if_eq (tgt := 825) dL_law_807 (by decide) ?_ ?_
                                · refine r_lo [1, 2, 3, 4, 5, 6, 7, 8, 9, 10, 11, 12, 13, 14, 15, 16, 17, 19, 20, 0] (lo2 := [(0, .ref sb), (1, .ref a1), (2, .ref (ma 0)), (3, .ref (ma 1)), (4, .ref (ma 2)), (5, .ref (ma 3)), (6, .ref (ma 4)), (7, .ref (ma 5)), (8, .ref (ma 6)), (9, .ref (ma 7)), (10, .ref (ma 8)), (11, .ref (ma 9)), (12, .ref (ma 10)), (13, wi v13_97), (14, wi v14_97), (17, wi x17_171), (18, wi t0_189), (25, wi r67), (26, wi t0_748), (27, vl t0_788)]) rfl ?_
                                  exact hJ825 E_788 C_788 q_788
                                · refine r_lload (x := t0_788) dL_law_810 rfl ?_
                                  refine r_aload (x := ma 3) dL_law_812 rfl ?_
                                  refine r_iload (x := r9) dL_law_814 rfl ?_
                                  refine r_wlald3 h (by decide) (by decide) (hm 3 (by decide)) dL_law_816 ?_
                                  refine r_lcmp dL_law_817 ?_
                                  refine r_if_eq (tgt := 825) dL_law_818 (by decide) ?_ ?_
                                  · refine r_lo [1, 2, 3, 4, 5, 6, 7, 8, 9, 10, 11, 12, 13, 14, 15, 16, 17, 19, 20, 0] (lo2 := [(0, .ref sb), (1, .ref a1), (2, .ref (ma 0)), (3, .ref (ma 1)), (4, .ref (ma 2)), (5, .ref (ma 3)), (6, .ref (ma 4)), (7, .ref (ma 5)), (8, .ref (ma 6)), (9, .ref (ma 7)), (10, .ref (ma 8)), (11, .ref (ma 9)), (12, .ref (ma 10)), (13, wi v13_97), (14, wi v14_97), (17, wi x17_171), (18, wi t0_189), (25, wi r67), (26, wi t0_748), (27, vl t0_788)]) rfl ?_
                                    exact hJ825 E_788 C_788 q_788
                                  · refine ro_iconst (v := 1) dL_law_821 rfl ?_
                                    refine r_goto (tgt := 826) dL_law_822 (by decide) ?_
                                    refine r_lo [1, 2, 3, 4, 5, 6, 7, 8, 9, 10, 11, 12, 13, 14, 15, 16, 17, 19, 20, 0] (lo2 := [(0, .ref sb), (1, .ref a1), (2, .ref (ma 0)), (3, .ref (ma 1)), (4, .ref (ma 2)), (5, .ref (ma 3)), (6, .ref (ma 4)), (7, .ref (ma 5)), (8, .ref (ma 6)), (9, .ref (ma 7)), (10, .ref (ma 8)), (11, .ref (ma 9)), (12, .ref (ma 10)), (13, wi v13_97), (14, wi v14_97), (17, wi x17_171), (18, wi t0_189), (25, wi r67), (26, wi t0_748), (27, vl t0_788)]) rfl ?_
                                    exact hJ826 1 E_788 C_788 q_788
                          refine r_if_eq (tgt := 787) dL_law_752 (by decide) ?_ ?_
                          · refine r_lconst (x := 0) dL_law_787 rfl ?_
                            refine r_lo [1, 2, 3, 4, 5, 6, 7, 8, 9, 10, 11, 12, 13, 14, 15, 16, 17, 18, 20, 0] (lo2 := [(0, .ref sb), (1, .ref a1), (2, .ref (ma 0)), (3, .ref (ma 1)), (4, .ref (ma 2)), (5, .ref (ma 3)), (6, .ref (ma 4)), (7, .ref (ma 5)), (8, .ref (ma 6)), (9, .ref (ma 7)), (10, .ref (ma 8)), (11, .ref (ma 9)), (12, .ref (ma 10)), (13, wi v13_97), (14, wi v14_97), (17, wi x17_171), (18, wi t0_189), (20, wi r9), (25, wi r67), (26, wi t0_748)]) rfl ?_
                            exact hJ788 0 E_748 C_748 q_748
                          · refine r_aload (x := ma 3) dL_law_755 rfl ?_
                            refine r_aload_n (x := ma 0) dL_law_757 rfl rfl ?_
                            refine r_aload_n (x := ma 1) dL_law_758 rfl rfl ?_
                            refine r_aload (x := ma 2) dL_law_759 rfl ?_
                            refine r_iload (x := t0_189) dL_law_761 rfl ?_
                            refine r_iload (x := x24_718) dL_law_763 rfl ?_
                            refine ro_iconst (v := 1) dL_law_765 rfl ?_
                            refine r_isub dL_law_766 ?_
                            refine r_csi (J := fun (E_ : Rw) => (E_, C_748, q_748)) (k2 := k_L_versionOf) (n := 5) (rest := [.ref (ma 3)]) (fun _ => rfl) htb kv_L_versionOf (c_L_versionOf (ad := adq ma q_748) (K0 := C_748) h (adq_hm hm) t0_189 (x24_718 - 1) _) (by decide) um_L_139 rfl (Nat.le_of_ble_eq_true rfl) dL_law_767 rfl (fun r76 E77 => ?_)
                            show RunO l Γ (kL T) 16 encI (em3 ma) 770 [(26, wi t0_748), (0, .ref sb), (1, .ref a1), (2, .ref (ma 0)), (3, .ref (ma 1)), (4, .ref (ma 2)), (5, .ref (ma 3)), (6, .ref (ma 4)), (7, .ref (ma 5)), (8, .ref (ma 6)), (9, .ref (ma 7)), (10, .ref (ma 8)), (11, .ref (ma 9)), (12, .ref (ma 10)), (13, wi v13_97), (14, wi v14_97), (17, wi x17_171), (18, wi t0_189), (20, wi r9), (24, wi x24_718), (25, wi r67)] [wi r76, .ref (ma 3)] (E77, C_748, q_748) _
                            refine r_wlald3 h (by decide) (by decide) (hm 3 (by decide)) dL_law_770 ?_
                            refine r_aload (x := ma 3) dL_law_771 rfl ?_
                            refine r_iload (x := r67) dL_law_773 rfl ?_
                            refine r_wlald3 h (by decide) (by decide) (hm 3 (by decide)) dL_law_775 ?_
                            refine r_aload (x := ma 3) dL_law_776 rfl ?_
                            refine r_iload (x := r9) dL_law_778 rfl ?_
                            refine r_wlald3 h (by decide) (by decide) (hm 3 (by decide)) dL_law_780 ?_
                            refine r_csj (J := fun (_ : Unit) => (E77, C_748, q_748)) (k2 := k_L_undone) (n := 3) (rest := []) (fun _ => rfl) htb kv_L_undone (c_L_undone (σ0 := _) (E77 3 (ix r76)) (E77 3 (ix r67)) (E77 3 (ix r9))) (by decide) um_L_210 rfl (Nat.le_of_ble_eq_true rfl) dL_law_781 rfl (fun r78 _ => ?_)
                            show RunO l Γ (kL T) 16 encI (em3 ma) 784 [(26, wi t0_748), (0, .ref sb), (1, .ref a1), (2, .ref (ma 0)), (3, .ref (ma 1)), (4, .ref (ma 2)), (5, .ref (ma 3)), (6, .ref (ma 4)), (7, .ref (ma 5)), (8, .ref (ma 6)), (9, .ref (ma 7)), (10, .ref (ma 8)), (11, .ref (ma 9)), (12, .ref (ma 10)), (13, wi v13_97), (14, wi v14_97), (17, wi x17_171), (18, wi t0_189), (20, wi r9), (24, wi x24_718), (25, wi r67)] [vl r78] (E77, C_748, q_748) _
                            refine r_goto (tgt := 788) dL_law_784 (by decide) ?_
                            refine r_lo [1, 2, 3, 4, 5, 6, 7, 8, 9, 10, 11, 12, 13, 14, 15, 16, 17, 18, 20, 0] (lo2 := [(0, .ref sb), (1, .ref a1), (2, .ref (ma 0)), (3, .ref (ma 1)), (4, .ref (ma 2)), (5, .ref (ma 3)), (6, .ref (ma 4)), (7, .ref (ma 5)), (8, .ref (ma 6)), (9, .ref (ma 7)), (10, .ref (ma 8)), (11, .ref (ma 9)), (12, .ref (ma 10)), (13, wi v13_97), (14, wi v14_97), (17, wi x17_171), (18, wi t0_189), (20, wi r9), (25, wi r67), (26, wi t0_748)]) rfl ?_
                            exact hJ788 r78 E77 C_748 q_748
                        refine r_join (P := fun (J : Rw → Cd → (Nat → Nat) → Option (Int × S3)) => ∀ (E_747 : Rw) (C_747 : Cd) (q_747 : (Nat → Nat)), RunO l Γ (kL T) 16 encI (em3 ma) 747 [(0, .ref sb), (1, .ref a1), (2, .ref (ma 0)), (3, .ref (ma 1)), (4, .ref (ma 2)), (5, .ref (ma 3)), (6, .ref (ma 4)), (7, .ref (ma 5)), (8, .ref (ma 6)), (9, .ref (ma 7)), (10, .ref (ma 8)), (11, .ref (ma 9)), (12, .ref (ma 10)), (13, wi v13_97), (14, wi v14_97), (17, wi x17_171), (18, wi t0_189), (20, wi r9), (24, wi x24_718), (25, wi r67)] [] (E_747, C_747, q_747) (J E_747 C_747 q_747)) ?_ (fun J747 hJ747 => ?_)
                        · intro E_747 C_747 q_747
                          show RunO l Γ (kL T) 16 encI (em3 ma) 747 [(0, .ref sb), (1, .ref a1), (2, .ref (ma 0)), (3, .ref (ma 1)), (4, .ref (ma 2)), (5, .ref (ma 3)), (6, .ref (ma 4)), (7, .ref (ma 5)), (8, .ref (ma 6)), (9, .ref (ma 7)), (10, .ref (ma 8)), (11, .ref (ma 9)), (12, .ref (ma 10)), (13, wi v13_97), (14, wi v14_97), (17, wi x17_171), (18, wi t0_189), (20, wi r9), (24, wi x24_718), (25, wi r67)] [] (E_747, C_747, q_747) (fW_law_747 J748 E_747 C_747 q_747)
                          unfold fW_law_747
                          refine ro_iconst (v := 0) dL_law_747 rfl ?_
                          exact hJ748 0 E_747 C_747 q_747
                        refine r_if_lt (tgt := 747) dL_law_735 (by decide) ?_ ?_
                        · refine r_lo [2, 3, 4, 5, 6, 7, 8, 9, 10, 11, 12, 13, 14, 15, 16, 18, 19, 21, 1, 0] (lo2 := [(0, .ref sb), (1, .ref a1), (2, .ref (ma 0)), (3, .ref (ma 1)), (4, .ref (ma 2)), (5, .ref (ma 3)), (6, .ref (ma 4)), (7, .ref (ma 5)), (8, .ref (ma 6)), (9, .ref (ma 7)), (10, .ref (ma 8)), (11, .ref (ma 9)), (12, .ref (ma 10)), (13, wi v13_97), (14, wi v14_97), (17, wi x17_171), (18, wi t0_189), (20, wi r9), (24, wi x24_718), (25, wi r67)]) rfl ?_
                          exact hJ747 E68 C_696 q_696
                        · refine r_iload (x := x24_718) dL_law_738 rfl ?_
                          refine r_if_le (tgt := 747) dL_law_740 (by decide) ?_ ?_
                          · refine r_lo [2, 3, 4, 5, 6, 7, 8, 9, 10, 11, 12, 13, 14, 15, 16, 18, 19, 21, 1, 0] (lo2 := [(0, .ref sb), (1, .ref a1), (2, .ref (ma 0)), (3, .ref (ma 1)), (4, .ref (ma 2)), (5, .ref (ma 3)), (6, .ref (ma 4)), (7, .ref (ma 5)), (8, .ref (ma 6)), (9, .ref (ma 7)), (10, .ref (ma 8)), (11, .ref (ma 9)), (12, .ref (ma 10)), (13, wi v13_97), (14, wi v14_97), (17, wi x17_171), (18, wi t0_189), (20, wi r9), (24, wi x24_718), (25, wi r67)]) rfl ?_
                            exact hJ747 E68 C_696 q_696
                          · refine ro_iconst (v := 1) dL_law_743 rfl ?_
                            refine r_goto (tgt := 748) dL_law_744 (by decide) ?_
                            refine r_lo [2, 3, 4, 5, 6, 7, 8, 9, 10, 11, 12, 13, 14, 15, 16, 18, 19, 21, 1, 0] (lo2 := [(0, .ref sb), (1, .ref a1), (2, .ref (ma 0)), (3, .ref (ma 1)), (4, .ref (ma 2)), (5, .ref (ma 3)), (6, .ref (ma 4)), (7, .ref (ma 5)), (8, .ref (ma 6)), (9, .ref (ma 7)), (10, .ref (ma 8)), (11, .ref (ma 9)), (12, .ref (ma 10)), (13, wi v13_97), (14, wi v14_97), (17, wi x17_171), (18, wi t0_189), (20, wi r9), (24, wi x24_718), (25, wi r67)]) rfl ?_
                            exact hJ748 1 E68 C_696 q_696
                  refine r_icmp_ge (tgt := 696) dL_law_356 (by decide) ?_ ?_
                  · exact hJ696 E_352 C_352 q_352
                  · refine r_aload_n (x := ma 0) dL_law_359 rfl rfl ?_
                    refine ro_iconst (v := 0) dL_law_360 rfl ?_
                    refine r_wiald3 h (by decide) (by decide) (hm 0 (by decide)) dL_law_361 ?_
                    refine r_bipush (v := 32) dL_law_362 rfl ?_
                    refine r_icmp_ge (tgt := 696) dL_law_364 (by decide) ?_ ?_
                    · exact hJ696 E_352 C_352 q_352
                    · refine r_iload (x := t0_203) dL_law_367 rfl ?_
                      refine r_join (P := fun (J : Int → Rw → Cd → (Nat → Nat) → Option (Int × S3)) => ∀ (t0_406 : Int) (E_406 : Rw) (C_406 : Cd) (q_406 : (Nat → Nat)), RunO l Γ (kL T) 16 encI (em3 ma) 406 [(0, .ref sb), (1, .ref a1), (2, .ref (ma 0)), (3, .ref (ma 1)), (4, .ref (ma 2)), (5, .ref (ma 3)), (6, .ref (ma 4)), (7, .ref (ma 5)), (8, .ref (ma 6)), (9, .ref (ma 7)), (10, .ref (ma 8)), (11, .ref (ma 9)), (12, .ref (ma 10)), (13, wi v13_97), (14, wi v14_97), (17, wi x17_171), (18, wi t0_189), (19, wi t0_203), (20, wi r9), (21, vl r11)] [wi t0_406] (E_406, C_406, q_406) (J t0_406 E_406 C_406 q_406)) ?_ (fun J406 hJ406 => ?_)
                      · intro t0_406 E_406 C_406 q_406
                        show RunO l Γ (kL T) 16 encI (em3 ma) 406 [(0, .ref sb), (1, .ref a1), (2, .ref (ma 0)), (3, .ref (ma 1)), (4, .ref (ma 2)), (5, .ref (ma 3)), (6, .ref (ma 4)), (7, .ref (ma 5)), (8, .ref (ma 6)), (9, .ref (ma 7)), (10, .ref (ma 8)), (11, .ref (ma 9)), (12, .ref (ma 10)), (13, wi v13_97), (14, wi v14_97), (17, wi x17_171), (18, wi t0_189), (19, wi t0_203), (20, wi r9), (21, vl r11)] [wi t0_406] (E_406, C_406, q_406) (fW_law_406 a1 v13_97 x17_171 t0_189 t0_203 r9 r11 J1788 t0_406 E_406 C_406 q_406)
                        unfold fW_law_406
                        refine r_istore (lo2 := [(24, wi t0_406), (0, .ref sb), (1, .ref a1), (2, .ref (ma 0)), (3, .ref (ma 1)), (4, .ref (ma 2)), (5, .ref (ma 3)), (6, .ref (ma 4)), (7, .ref (ma 5)), (8, .ref (ma 6)), (9, .ref (ma 7)), (10, .ref (ma 8)), (11, .ref (ma 9)), (12, .ref (ma 10)), (13, wi v13_97), (14, wi v14_97), (17, wi x17_171), (18, wi t0_189), (19, wi t0_203), (20, wi r9), (21, vl r11)]) dL_law_406 (by decide) rfl ?_
                        refine r_iload (x := t0_406) dL_law_408 rfl ?_
                        refine r_join (P := fun (J : Int → Rw → Cd → (Nat → Nat) → Option (Int × S3)) => ∀ (t0_420 : Int) (E_420 : Rw) (C_420 : Cd) (q_420 : (Nat → Nat)), RunO l Γ (kL T) 16 encI (em3 ma) 420 [(0, .ref sb), (1, .ref a1), (2, .ref (ma 0)), (3, .ref (ma 1)), (4, .ref (ma 2)), (5, .ref (ma 3)), (6, .ref (ma 4)), (7, .ref (ma 5)), (8, .ref (ma 6)), (9, .ref (ma 7)), (10, .ref (ma 8)), (11, .ref (ma 9)), (12, .ref (ma 10)), (13, wi v13_97), (14, wi v14_97), (17, wi x17_171), (18, wi t0_189), (19, wi t0_203), (20, wi r9), (21, vl r11)] [wi t0_420] (E_420, C_420, q_420) (J t0_420 E_420 C_420 q_420)) ?_ (fun J420 hJ420 => ?_)
                        · intro t0_420 E_420 C_420 q_420
                          show RunO l Γ (kL T) 16 encI (em3 ma) 420 [(0, .ref sb), (1, .ref a1), (2, .ref (ma 0)), (3, .ref (ma 1)), (4, .ref (ma 2)), (5, .ref (ma 3)), (6, .ref (ma 4)), (7, .ref (ma 5)), (8, .ref (ma 6)), (9, .ref (ma 7)), (10, .ref (ma 8)), (11, .ref (ma 9)), (12, .ref (ma 10)), (13, wi v13_97), (14, wi v14_97), (17, wi x17_171), (18, wi t0_189), (19, wi t0_203), (20, wi r9), (21, vl r11)] [wi t0_420] (E_420, C_420, q_420) (fW_law_420 a1 v13_97 x17_171 t0_189 t0_203 r9 r11 J1788 t0_420 E_420 C_420 q_420)
                          unfold fW_law_420
                          refine r_istore (lo2 := [(24, wi t0_420), (0, .ref sb), (1, .ref a1), (2, .ref (ma 0)), (3, .ref (ma 1)), (4, .ref (ma 2)), (5, .ref (ma 3)), (6, .ref (ma 4)), (7, .ref (ma 5)), (8, .ref (ma 6)), (9, .ref (ma 7)), (10, .ref (ma 8)), (11, .ref (ma 9)), (12, .ref (ma 10)), (13, wi v13_97), (14, wi v14_97), (17, wi x17_171), (18, wi t0_189), (19, wi t0_203), (20, wi r9), (21, vl r11)]) dL_law_420 (by decide) rfl ?_
                          refine r_iload (x := x17_171) dL_law_422 rfl ?_
                          refine ro_iconst (v := 5) dL_law_424 rfl ?_
                          refine r_idiv dL_law_425 (by decide) ?_
                          refine ro_iconst (v := 3) dL_law_426 rfl ?_
                          refine r_irem dL_law_427 (by decide) ?_
                          refine ro_iconst (v := 1) dL_law_428 rfl ?_
                          refine r_isub dL_law_429 ?_
                          refine r_nm (fun x25_430 => ?_)
                          refine r_istore (lo2 := [(25, wi x25_430), (24, wi t0_420), (0, .ref sb), (1, .ref a1), (2, .ref (ma 0)), (3, .ref (ma 1)), (4, .ref (ma 2)), (5, .ref (ma 3)), (6, .ref (ma 4)), (7, .ref (ma 5)), (8, .ref (ma 6)), (9, .ref (ma 7)), (10, .ref (ma 8)), (11, .ref (ma 9)), (12, .ref (ma 10)), (13, wi v13_97), (14, wi v14_97), (17, wi x17_171), (18, wi t0_189), (19, wi t0_203), (20, wi r9), (21, vl r11)]) dL_law_430 (by decide) rfl ?_
                          refine r_iload (x := x25_430) dL_law_432 rfl ?_
                          refine r_join (P := fun (J : Int → Rw → Cd → (Nat → Nat) → Option (Int × S3)) => ∀ (t0_450 : Int) (E_450 : Rw) (C_450 : Cd) (q_450 : (Nat → Nat)), RunO l Γ (kL T) 16 encI (em3 ma) 450 [(0, .ref sb), (1, .ref a1), (2, .ref (ma 0)), (3, .ref (ma 1)), (4, .ref (ma 2)), (5, .ref (ma 3)), (6, .ref (ma 4)), (7, .ref (ma 5)), (8, .ref (ma 6)), (9, .ref (ma 7)), (10, .ref (ma 8)), (11, .ref (ma 9)), (12, .ref (ma 10)), (13, wi v13_97), (14, wi v14_97), (17, wi x17_171), (18, wi t0_189), (19, wi t0_203), (20, wi r9), (24, wi t0_420), (25, wi x25_430)] [vl t0_450] (E_450, C_450, q_450) (J t0_450 E_450 C_450 q_450)) ?_ (fun J450 hJ450 => ?_)
                          · intro t0_450 E_450 C_450 q_450
                            show RunO l Γ (kL T) 16 encI (em3 ma) 450 [(0, .ref sb), (1, .ref a1), (2, .ref (ma 0)), (3, .ref (ma 1)), (4, .ref (ma 2)), (5, .ref (ma 3)), (6, .ref (ma 4)), (7, .ref (ma 5)), (8, .ref (ma 6)), (9, .ref (ma 7)), (10, .ref (ma 8)), (11, .ref (ma 9)), (12, .ref (ma 10)), (13, wi v13_97), (14, wi v14_97), (17, wi x17_171), (18, wi t0_189), (19, wi t0_203), (20, wi r9), (24, wi t0_420), (25, wi x25_430)] [vl t0_450] (E_450, C_450, q_450) (fW_law_450 a1 v13_97 t0_189 t0_203 r9 J1788 t0_420 x25_430 t0_450 E_450 C_450 q_450)
                            unfold fW_law_450
                            refine r_lstore (lo2 := [(26, vl t0_450), (0, .ref sb), (1, .ref a1), (2, .ref (ma 0)), (3, .ref (ma 1)), (4, .ref (ma 2)), (5, .ref (ma 3)), (6, .ref (ma 4)), (7, .ref (ma 5)), (8, .ref (ma 6)), (9, .ref (ma 7)), (10, .ref (ma 8)), (11, .ref (ma 9)), (12, .ref (ma 10)), (13, wi v13_97), (14, wi v14_97), (17, wi x17_171), (18, wi t0_189), (19, wi t0_203), (20, wi r9), (24, wi t0_420), (25, wi x25_430)]) dL_law_450 (by decide) rfl ?_
                            refine r_iload (x := t0_203) dL_law_452 rfl ?_
                            refine r_join (P := fun (J : Int → Rw → Cd → (Nat → Nat) → Option (Int × S3)) => ∀ (t0_475 : Int) (E_475 : Rw) (C_475 : Cd) (q_475 : (Nat → Nat)), RunO l Γ (kL T) 16 encI (em3 ma) 475 [(0, .ref sb), (1, .ref a1), (2, .ref (ma 0)), (3, .ref (ma 1)), (4, .ref (ma 2)), (5, .ref (ma 3)), (6, .ref (ma 4)), (7, .ref (ma 5)), (8, .ref (ma 6)), (9, .ref (ma 7)), (10, .ref (ma 8)), (11, .ref (ma 9)), (12, .ref (ma 10)), (13, wi v13_97), (14, wi v14_97), (17, wi x17_171), (18, wi t0_189), (20, wi r9), (24, wi t0_420), (25, wi x25_430), (26, vl t0_450)] [wi t0_475] (E_475, C_475, q_475) (J t0_475 E_475 C_475 q_475)) ?_ (fun J475 hJ475 => ?_)
                            · intro t0_475 E_475 C_475 q_475
                              show RunO l Γ (kL T) 16 encI (em3 ma) 475 [(0, .ref sb), (1, .ref a1), (2, .ref (ma 0)), (3, .ref (ma 1)), (4, .ref (ma 2)), (5, .ref (ma 3)), (6, .ref (ma 4)), (7, .ref (ma 5)), (8, .ref (ma 6)), (9, .ref (ma 7)), (10, .ref (ma 8)), (11, .ref (ma 9)), (12, .ref (ma 10)), (13, wi v13_97), (14, wi v14_97), (17, wi x17_171), (18, wi t0_189), (20, wi r9), (24, wi t0_420), (25, wi x25_430), (26, vl t0_450)] [wi t0_475] (E_475, C_475, q_475) (fW_law_475 a1 v13_97 t0_189 r9 J1788 t0_420 x25_430 t0_450 t0_475 E_475 C_475 q_475)
                              unfold fW_law_475
                              refine r_istore (lo2 := [(28, wi t0_475), (0, .ref sb), (1, .ref a1), (2, .ref (ma 0)), (3, .ref (ma 1)), (4, .ref (ma 2)), (5, .ref (ma 3)), (6, .ref (ma 4)), (7, .ref (ma 5)), (8, .ref (ma 6)), (9, .ref (ma 7)), (10, .ref (ma 8)), (11, .ref (ma 9)), (12, .ref (ma 10)), (13, wi v13_97), (14, wi v14_97), (17, wi x17_171), (18, wi t0_189), (20, wi r9), (24, wi t0_420), (25, wi x25_430), (26, vl t0_450)]) dL_law_475 (by decide) rfl ?_
                              refine r_iload (x := t0_475) dL_law_477 rfl ?_
                              refine r_join (P := fun (J : Int → Rw → Cd → (Nat → Nat) → Option (Int × S3)) => ∀ (t0_508 : Int) (E_508 : Rw) (C_508 : Cd) (q_508 : (Nat → Nat)), RunO l Γ (kL T) 16 encI (em3 ma) 508 [(0, .ref sb), (1, .ref a1), (2, .ref (ma 0)), (3, .ref (ma 1)), (4, .ref (ma 2)), (5, .ref (ma 3)), (6, .ref (ma 4)), (7, .ref (ma 5)), (8, .ref (ma 6)), (9, .ref (ma 7)), (10, .ref (ma 8)), (11, .ref (ma 9)), (12, .ref (ma 10)), (13, wi v13_97), (14, wi v14_97), (17, wi x17_171), (18, wi t0_189), (20, wi r9), (24, wi t0_420), (25, wi x25_430), (26, vl t0_450), (28, wi t0_475)] [vl t0_508] (E_508, C_508, q_508) (J t0_508 E_508 C_508 q_508)) ?_ (fun J508 hJ508 => ?_)
                              · intro t0_508 E_508 C_508 q_508
                                show RunO l Γ (kL T) 16 encI (em3 ma) 508 [(0, .ref sb), (1, .ref a1), (2, .ref (ma 0)), (3, .ref (ma 1)), (4, .ref (ma 2)), (5, .ref (ma 3)), (6, .ref (ma 4)), (7, .ref (ma 5)), (8, .ref (ma 6)), (9, .ref (ma 7)), (10, .ref (ma 8)), (11, .ref (ma 9)), (12, .ref (ma 10)), (13, wi v13_97), (14, wi v14_97), (17, wi x17_171), (18, wi t0_189), (20, wi r9), (24, wi t0_420), (25, wi x25_430), (26, vl t0_450), (28, wi t0_475)] [vl t0_508] (E_508, C_508, q_508) (fW_law_508 a1 v13_97 t0_189 r9 J1788 t0_420 x25_430 t0_450 t0_475 t0_508 E_508 C_508 q_508)
                                unfold fW_law_508
                                refine r_lstore (lo2 := [(29, vl t0_508), (0, .ref sb), (1, .ref a1), (2, .ref (ma 0)), (3, .ref (ma 1)), (4, .ref (ma 2)), (5, .ref (ma 3)), (6, .ref (ma 4)), (7, .ref (ma 5)), (8, .ref (ma 6)), (9, .ref (ma 7)), (10, .ref (ma 8)), (11, .ref (ma 9)), (12, .ref (ma 10)), (13, wi v13_97), (14, wi v14_97), (17, wi x17_171), (18, wi t0_189), (20, wi r9), (24, wi t0_420), (25, wi x25_430), (26, vl t0_450), (28, wi t0_475)]) dL_law_508 (by decide) rfl ?_
                                refine r_iload (x := t0_475) dL_law_510 rfl ?_
                                refine r_join (P := fun (J : Int → Rw → Cd → (Nat → Nat) → Option (Int × S3)) => ∀ (t0_542 : Int) (E_542 : Rw) (C_542 : Cd) (q_542 : (Nat → Nat)), RunO l Γ (kL T) 16 encI (em3 ma) 542 [(0, .ref sb), (1, .ref a1), (2, .ref (ma 0)), (3, .ref (ma 1)), (4, .ref (ma 2)), (5, .ref (ma 3)), (6, .ref (ma 4)), (7, .ref (ma 5)), (8, .ref (ma 6)), (9, .ref (ma 7)), (10, .ref (ma 8)), (11, .ref (ma 9)), (12, .ref (ma 10)), (13, wi v13_97), (14, wi v14_97), (17, wi x17_171), (18, wi t0_189), (20, wi r9), (24, wi t0_420), (25, wi x25_430), (26, vl t0_450), (28, wi t0_475), (29, vl t0_508)] [vl t0_542] (E_542, C_542, q_542) (J t0_542 E_542 C_542 q_542)) ?_ (fun J542 hJ542 => ?_)
                                · intro t0_542 E_542 C_542 q_542
                                  show RunO l Γ (kL T) 16 encI (em3 ma) 542 [(0, .ref sb), (1, .ref a1), (2, .ref (ma 0)), (3, .ref (ma 1)), (4, .ref (ma 2)), (5, .ref (ma 3)), (6, .ref (ma 4)), (7, .ref (ma 5)), (8, .ref (ma 6)), (9, .ref (ma 7)), (10, .ref (ma 8)), (11, .ref (ma 9)), (12, .ref (ma 10)), (13, wi v13_97), (14, wi v14_97), (17, wi x17_171), (18, wi t0_189), (20, wi r9), (24, wi t0_420), (25, wi x25_430), (26, vl t0_450), (28, wi t0_475), (29, vl t0_508)] [vl t0_542] (E_542, C_542, q_542) (fW_law_542 a1 v13_97 t0_189 r9 J1788 t0_420 x25_430 t0_450 t0_475 t0_508 t0_542 E_542 C_542 q_542)
                                  unfold fW_law_542
                                  refine r_lstore (lo2 := [(31, vl t0_542), (0, .ref sb), (1, .ref a1), (2, .ref (ma 0)), (3, .ref (ma 1)), (4, .ref (ma 2)), (5, .ref (ma 3)), (6, .ref (ma 4)), (7, .ref (ma 5)), (8, .ref (ma 6)), (9, .ref (ma 7)), (10, .ref (ma 8)), (11, .ref (ma 9)), (12, .ref (ma 10)), (13, wi v13_97), (14, wi v14_97), (17, wi x17_171), (18, wi t0_189), (20, wi r9), (24, wi t0_420), (25, wi x25_430), (26, vl t0_450), (28, wi t0_475), (29, vl t0_508)]) dL_law_542 (by decide) rfl ?_
                                  refine r_iload (x := t0_475) dL_law_544 rfl ?_
                                  refine r_join (P := fun (J : Int → Rw → Cd → (Nat → Nat) → Option (Int × S3)) => ∀ (t0_580 : Int) (E_580 : Rw) (C_580 : Cd) (q_580 : (Nat → Nat)), RunO l Γ (kL T) 16 encI (em3 ma) 580 [(0, .ref sb), (1, .ref a1), (2, .ref (ma 0)), (3, .ref (ma 1)), (4, .ref (ma 2)), (5, .ref (ma 3)), (6, .ref (ma 4)), (7, .ref (ma 5)), (8, .ref (ma 6)), (9, .ref (ma 7)), (10, .ref (ma 8)), (11, .ref (ma 9)), (12, .ref (ma 10)), (13, wi v13_97), (14, wi v14_97), (17, wi x17_171), (18, wi t0_189), (24, wi t0_420), (25, wi x25_430), (26, vl t0_450), (28, wi t0_475), (29, vl t0_508), (31, vl t0_542)] [wi t0_580] (E_580, C_580, q_580) (J t0_580 E_580 C_580 q_580)) ?_ (fun J580 hJ580 => ?_)
                                  · intro t0_580 E_580 C_580 q_580
                                    show RunO l Γ (kL T) 16 encI (em3 ma) 580 [(0, .ref sb), (1, .ref a1), (2, .ref (ma 0)), (3, .ref (ma 1)), (4, .ref (ma 2)), (5, .ref (ma 3)), (6, .ref (ma 4)), (7, .ref (ma 5)), (8, .ref (ma 6)), (9, .ref (ma 7)), (10, .ref (ma 8)), (11, .ref (ma 9)), (12, .ref (ma 10)), (13, wi v13_97), (14, wi v14_97), (17, wi x17_171), (18, wi t0_189), (24, wi t0_420), (25, wi x25_430), (26, vl t0_450), (28, wi t0_475), (29, vl t0_508), (31, vl t0_542)] [wi t0_580] (E_580, C_580, q_580) (fW_law_580 a1 v13_97 t0_189 J1788 t0_420 x25_430 t0_450 t0_475 t0_508 t0_542 t0_580 E_580 C_580 q_580)
                                    unfold fW_law_580
                                    refine r_istore (lo2 := [(33, wi t0_580), (0, .ref sb), (1, .ref a1), (2, .ref (ma 0)), (3, .ref (ma 1)), (4, .ref (ma 2)), (5, .ref (ma 3)), (6, .ref (ma 4)), (7, .ref (ma 5)), (8, .ref (ma 6)), (9, .ref (ma 7)), (10, .ref (ma 8)), (11, .ref (ma 9)), (12, .ref (ma 10)), (13, wi v13_97), (14, wi v14_97), (17, wi x17_171), (18, wi t0_189), (24, wi t0_420), (25, wi x25_430), (26, vl t0_450), (28, wi t0_475), (29, vl t0_508), (31, vl t0_542)]) dL_law_580 (by decide) rfl ?_
                                    refine r_iload (x := t0_475) dL_law_582 rfl ?_
                                    refine r_join (P := fun (J : Int → Rw → Cd → (Nat → Nat) → Option (Int × S3)) => ∀ (v13_693 : Int) (E_693 : Rw) (C_693 : Cd) (q_693 : (Nat → Nat)), RunO l Γ (kL T) 16 encI (em3 ma) 693 [(0, .ref sb), (1, .ref a1), (2, .ref (ma 0)), (3, .ref (ma 1)), (4, .ref (ma 2)), (5, .ref (ma 3)), (6, .ref (ma 4)), (7, .ref (ma 5)), (8, .ref (ma 6)), (9, .ref (ma 7)), (10, .ref (ma 8)), (11, .ref (ma 9)), (12, .ref (ma 10)), (13, wi v13_693), (14, wi v14_97), (17, wi x17_171)] [] (E_693, C_693, q_693) (J v13_693 E_693 C_693 q_693)) ?_ (fun J693 hJ693 => ?_)
                                    · intro v13_693 E_693 C_693 q_693
                                      show RunO l Γ (kL T) 16 encI (em3 ma) 693 [(0, .ref sb), (1, .ref a1), (2, .ref (ma 0)), (3, .ref (ma 1)), (4, .ref (ma 2)), (5, .ref (ma 3)), (6, .ref (ma 4)), (7, .ref (ma 5)), (8, .ref (ma 6)), (9, .ref (ma 7)), (10, .ref (ma 8)), (11, .ref (ma 9)), (12, .ref (ma 10)), (13, wi v13_693), (14, wi v14_97), (17, wi x17_171)] [] (E_693, C_693, q_693) (fW_law_693 J1788 v13_693 E_693 C_693 q_693)
                                      unfold fW_law_693
                                      refine r_goto (tgt := 1788) dL_law_693 (by decide) ?_
                                      exact hJ1788 v13_693 E_693 C_693 q_693
                                    refine r_join (P := fun (J : Rw → Cd → (Nat → Nat) → Option (Int × S3)) => ∀ (E_607 : Rw) (C_607 : Cd) (q_607 : (Nat → Nat)), RunO l Γ (kL T) 16 encI (em3 ma) 607 [(0, .ref sb), (1, .ref a1), (2, .ref (ma 0)), (3, .ref (ma 1)), (4, .ref (ma 2)), (5, .ref (ma 3)), (6, .ref (ma 4)), (7, .ref (ma 5)), (8, .ref (ma 6)), (9, .ref (ma 7)), (10, .ref (ma 8)), (11, .ref (ma 9)), (12, .ref (ma 10)), (14, wi v14_97), (17, wi x17_171), (18, wi t0_189), (24, wi t0_420), (25, wi x25_430), (26, vl t0_450), (28, wi t0_475), (31, vl t0_542), (33, wi t0_580)] [] (E_607, C_607, q_607) (J E_607 C_607 q_607)) ?_ (fun J607 hJ607 => ?_)
                                    · intro E_607 C_607 q_607
                                      show RunO l Γ (kL T) 16 encI (em3 ma) 607 [(0, .ref sb), (1, .ref a1), (2, .ref (ma 0)), (3, .ref (ma 1)), (4, .ref (ma 2)), (5, .ref (ma 3)), (6, .ref (ma 4)), (7, .ref (ma 5)), (8, .ref (ma 6)), (9, .ref (ma 7)), (10, .ref (ma 8)), (11, .ref (ma 9)), (12, .ref (ma 10)), (14, wi v14_97), (17, wi x17_171), (18, wi t0_189), (24, wi t0_420), (25, wi x25_430), (26, vl t0_450), (28, wi t0_475), (31, vl t0_542), (33, wi t0_580)] [] (E_607, C_607, q_607) (fW_law_607 a1 t0_189 t0_420 x25_430 t0_450 t0_475 t0_542 t0_580 J693 E_607 C_607 q_607)
                                      unfold fW_law_607
                                      refine r_aload_n (x := a1) dL_law_607 rfl rfl ?_
                                      refine r_lload (x := t0_450) dL_law_608 rfl ?_
                                      refine r_csi (J := fun (C_ : Cd) => (E_607, C_, q_607)) (k2 := k_L_drafts) (n := 2) (rest := []) (fun _ => rfl) htb kv_L_drafts (c_L_drafts hG hS a1 t0_450 _) (by decide) um_L_190 rfl (Nat.le_of_ble_eq_true rfl) dL_law_610 rfl (fun r79 C80 => ?_)
                                      show RunO l Γ (kL T) 16 encI (em3 ma) 613 [(0, .ref sb), (1, .ref a1), (2, .ref (ma 0)), (3, .ref (ma 1)), (4, .ref (ma 2)), (5, .ref (ma 3)), (6, .ref (ma 4)), (7, .ref (ma 5)), (8, .ref (ma 6)), (9, .ref (ma 7)), (10, .ref (ma 8)), (11, .ref (ma 9)), (12, .ref (ma 10)), (14, wi v14_97), (17, wi x17_171), (18, wi t0_189), (24, wi t0_420), (25, wi x25_430), (26, vl t0_450), (28, wi t0_475), (31, vl t0_542), (33, wi t0_580)] [wi r79] (E_607, C80, q_607) _
                                      refine r_join (P := fun (J : Int → Rw → Cd → (Nat → Nat) → Option (Int × S3)) => ∀ (t0_658 : Int) (E_658 : Rw) (C_658 : Cd) (q_658 : (Nat → Nat)), RunO l Γ (kL T) 16 encI (em3 ma) 658 [(0, .ref sb), (1, .ref a1), (2, .ref (ma 0)), (3, .ref (ma 1)), (4, .ref (ma 2)), (5, .ref (ma 3)), (6, .ref (ma 4)), (7, .ref (ma 5)), (8, .ref (ma 6)), (9, .ref (ma 7)), (10, .ref (ma 8)), (11, .ref (ma 9)), (12, .ref (ma 10)), (14, wi v14_97), (17, wi x17_171), (18, wi t0_189), (31, vl t0_542), (33, wi t0_580)] [wi t0_658] (E_658, C_658, q_658) (J t0_658 E_658 C_658 q_658)) ?_ (fun J658 hJ658 => ?_)
                                      · intro t0_658 E_658 C_658 q_658
                                        show RunO l Γ (kL T) 16 encI (em3 ma) 658 [(0, .ref sb), (1, .ref a1), (2, .ref (ma 0)), (3, .ref (ma 1)), (4, .ref (ma 2)), (5, .ref (ma 3)), (6, .ref (ma 4)), (7, .ref (ma 5)), (8, .ref (ma 6)), (9, .ref (ma 7)), (10, .ref (ma 8)), (11, .ref (ma 9)), (12, .ref (ma 10)), (14, wi v14_97), (17, wi x17_171), (18, wi t0_189), (31, vl t0_542), (33, wi t0_580)] [wi t0_658] (E_658, C_658, q_658) (fW_law_658 t0_189 t0_542 t0_580 J693 t0_658 E_658 C_658 q_658)
                                        unfold fW_law_658
                                        refine r_istore (lo2 := [(13, wi t0_658), (0, .ref sb), (1, .ref a1), (2, .ref (ma 0)), (3, .ref (ma 1)), (4, .ref (ma 2)), (5, .ref (ma 3)), (6, .ref (ma 4)), (7, .ref (ma 5)), (8, .ref (ma 6)), (9, .ref (ma 7)), (10, .ref (ma 8)), (11, .ref (ma 9)), (12, .ref (ma 10)), (14, wi v14_97), (17, wi x17_171), (18, wi t0_189), (31, vl t0_542), (33, wi t0_580)]) dL_law_658 (by decide) rfl ?_
                                        refine r_iload (x := t0_580) dL_law_660 rfl ?_
                                        refine r_if_eq (tgt := 693) dL_law_662 (by decide) ?_ ?_
                                        · refine r_lo [1, 2, 3, 4, 5, 6, 7, 8, 9, 10, 11, 12, 13, 0, 14, 15] (lo2 := [(0, .ref sb), (1, .ref a1), (2, .ref (ma 0)), (3, .ref (ma 1)), (4, .ref (ma 2)), (5, .ref (ma 3)), (6, .ref (ma 4)), (7, .ref (ma 5)), (8, .ref (ma 6)), (9, .ref (ma 7)), (10, .ref (ma 8)), (11, .ref (ma 9)), (12, .ref (ma 10)), (13, wi t0_658), (14, wi v14_97), (17, wi x17_171)]) rfl ?_
                                          exact hJ693 t0_658 E_658 C_658 q_658
                                        · refine r_aload_n (x := ma 0) dL_law_665 rfl rfl ?_
                                          refine ro_iconst (v := 2) dL_law_666 rfl ?_
                                          refine r_dup2 dL_law_667 rfl rfl ?_
                                          refine r_wiald3 h (by decide) (by decide) (hm 0 (by decide)) dL_law_668 ?_
                                          refine ro_iconst (v := 1) dL_law_669 rfl ?_
                                          refine r_iadd dL_law_670 ?_
                                          refine r_wiast3 h (by decide) (by decide) (hm 0 (by decide)) dL_law_671 (fun E81 => ?_)
                                          refine r_aload_n (x := ma 0) dL_law_672 rfl rfl ?_
                                          refine r_aload (x := ma 2) dL_law_673 rfl ?_
                                          refine r_aload (x := ma 3) dL_law_675 rfl ?_
                                          refine r_aload_n (x := ma 1) dL_law_677 rfl rfl ?_
                                          refine r_iload (x := t0_189) dL_law_678 rfl ?_
                                          refine r_wiald3 h (by decide) (by decide) (hm 1 (by decide)) dL_law_680 ?_
                                          refine ro_iconst (v := 1) dL_law_681 rfl ?_
                                          refine r_isub dL_law_682 ?_
                                          refine r_aload_n (x := ma 0) dL_law_683 rfl rfl ?_
                                          refine ro_iconst (v := 2) dL_law_684 rfl ?_
                                          refine r_wiald3 h (by decide) (by decide) (hm 0 (by decide)) dL_law_685 ?_
                                          refine r_lload (x := t0_542) dL_law_686 rfl ?_
                                          refine r_csi (J := fun (E_ : Rw) => (E_, C_658, q_658)) (k2 := k_L_adds) (n := 6) (rest := []) (fun _ => rfl) htb kv_L_adds (c_L_adds (ad := adq ma q_658) (K0 := C_658) h (adq_hm hm) ((E81 1 (ix t0_189)) - 1) (E81 0 (ix 2)) t0_542 _) (by decide) um_L_194 rfl (Nat.le_of_ble_eq_true rfl) dL_law_688 rfl (fun r82 E83 => ?_)
                                          show RunO l Γ (kL T) 16 encI (em3 ma) 691 [(13, wi t0_658), (0, .ref sb), (1, .ref a1), (2, .ref (ma 0)), (3, .ref (ma 1)), (4, .ref (ma 2)), (5, .ref (ma 3)), (6, .ref (ma 4)), (7, .ref (ma 5)), (8, .ref (ma 6)), (9, .ref (ma 7)), (10, .ref (ma 8)), (11, .ref (ma 9)), (12, .ref (ma 10)), (14, wi v14_97), (17, wi x17_171), (18, wi t0_189), (31, vl t0_542), (33, wi t0_580)] [wi r82] (E83, C_658, q_658) _
                                          refine r_istore (lo2 := [(34, wi r82), (13, wi t0_658), (0, .ref sb), (1, .ref a1), (2, .ref (ma 0)), (3, .ref (ma 1)), (4, .ref (ma 2)), (5, .ref (ma 3)), (6, .ref (ma 4)), (7, .ref (ma 5)), (8, .ref (ma 6)), (9, .ref (ma 7)), (10, .ref (ma 8)), (11, .ref (ma 9)), (12, .ref (ma 10)), (14, wi v14_97), (17, wi x17_171), (18, wi t0_189), (31, vl t0_542), (33, wi t0_580)]) dL_law_691 (by decide) rfl ?_
                                          refine r_lo [2, 3, 4, 5, 6, 7, 8, 9, 10, 11, 12, 13, 14, 1, 15, 16] (lo2 := [(0, .ref sb), (1, .ref a1), (2, .ref (ma 0)), (3, .ref (ma 1)), (4, .ref (ma 2)), (5, .ref (ma 3)), (6, .ref (ma 4)), (7, .ref (ma 5)), (8, .ref (ma 6)), (9, .ref (ma 7)), (10, .ref (ma 8)), (11, .ref (ma 9)), (12, .ref (ma 10)), (13, wi t0_658), (14, wi v14_97), (17, wi x17_171)]) rfl ?_
                                          exact hJ693 t0_658 E83 C_658 q_658
                                      refine r_join (P := fun (J : Rw → Cd → (Nat → Nat) → Option (Int × S3)) => ∀ (E_657 : Rw) (C_657 : Cd) (q_657 : (Nat → Nat)), RunO l Γ (kL T) 16 encI (em3 ma) 657 [(0, .ref sb), (1, .ref a1), (2, .ref (ma 0)), (3, .ref (ma 1)), (4, .ref (ma 2)), (5, .ref (ma 3)), (6, .ref (ma 4)), (7, .ref (ma 5)), (8, .ref (ma 6)), (9, .ref (ma 7)), (10, .ref (ma 8)), (11, .ref (ma 9)), (12, .ref (ma 10)), (14, wi v14_97), (17, wi x17_171), (18, wi t0_189), (31, vl t0_542), (33, wi t0_580)] [] (E_657, C_657, q_657) (J E_657 C_657 q_657)) ?_ (fun J657 hJ657 => ?_)
                                      · intro E_657 C_657 q_657
                                        show RunO l Γ (kL T) 16 encI (em3 ma) 657 [(0, .ref sb), (1, .ref a1), (2, .ref (ma 0)), (3, .ref (ma 1)), (4, .ref (ma 2)), (5, .ref (ma 3)), (6, .ref (ma 4)), (7, .ref (ma 5)), (8, .ref (ma 6)), (9, .ref (ma 7)), (10, .ref (ma 8)), (11, .ref (ma 9)), (12, .ref (ma 10)), (14, wi v14_97), (17, wi x17_171), (18, wi t0_189), (31, vl t0_542), (33, wi t0_580)] [] (E_657, C_657, q_657) (fW_law_657 J658 E_657 C_657 q_657)
                                        unfold fW_law_657
                                        refine ro_iconst (v := 0) dL_law_657 rfl ?_
                                        exact hJ658 0 E_657 C_657 q_657
                                      refine r_if_eq (tgt := 657) dL_law_613 (by decide) ?_ ?_
                                      · refine r_lo [0, 1, 2, 3, 4, 5, 6, 7, 8, 9, 10, 11, 12, 13, 14, 15, 20, 21] (lo2 := [(0, .ref sb), (1, .ref a1), (2, .ref (ma 0)), (3, .ref (ma 1)), (4, .ref (ma 2)), (5, .ref (ma 3)), (6, .ref (ma 4)), (7, .ref (ma 5)), (8, .ref (ma 6)), (9, .ref (ma 7)), (10, .ref (ma 8)), (11, .ref (ma 9)), (12, .ref (ma 10)), (14, wi v14_97), (17, wi x17_171), (18, wi t0_189), (31, vl t0_542), (33, wi t0_580)]) rfl ?_
                                        exact hJ657 E_607 C80 q_607
                                      · refine r_aload_n (x := a1) dL_law_616 rfl rfl ?_
                                        refine ro_iconst (v := 1) dL_law_617 rfl ?_
                                        refine r_iload (x := t0_189) dL_law_618 rfl ?_
                                        refine r_iload (x := t0_420) dL_law_620 rfl ?_
                                        refine r_iload (x := x25_430) dL_law_622 rfl ?_
                                        refine r_csHi (J := fun (C_ : Cd) => (E_607, C_, q_607)) (k2 := k_L_does) (n := 5) (rest := []) (fun _ => rfl) kv_L_does (c_L_does hG hX a1 1 t0_189 t0_420 x25_430 _) (by decide) um_L_132 rfl (Nat.le_of_ble_eq_true rfl) dL_law_624 rfl (fun r84 C85 => ?_)
                                        show RunO l Γ (kL T) 16 encI (em3 ma) 627 [(0, .ref sb), (1, .ref a1), (2, .ref (ma 0)), (3, .ref (ma 1)), (4, .ref (ma 2)), (5, .ref (ma 3)), (6, .ref (ma 4)), (7, .ref (ma 5)), (8, .ref (ma 6)), (9, .ref (ma 7)), (10, .ref (ma 8)), (11, .ref (ma 9)), (12, .ref (ma 10)), (14, wi v14_97), (17, wi x17_171), (18, wi t0_189), (24, wi t0_420), (25, wi x25_430), (26, vl t0_450), (28, wi t0_475), (31, vl t0_542), (33, wi t0_580)] [wi r84] (E_607, C85, q_607) _
                                        refine r_iload (x := t0_475) dL_law_627 rfl ?_
                                        refine r_join (P := fun (J : Int → Rw → Cd → (Nat → Nat) → Option (Int × S3)) => ∀ (t0_650 : Int) (E_650 : Rw) (C_650 : Cd) (q_650 : (Nat → Nat)), RunO l Γ (kL T) 16 encI (em3 ma) 650 [(0, .ref sb), (1, .ref a1), (2, .ref (ma 0)), (3, .ref (ma 1)), (4, .ref (ma 2)), (5, .ref (ma 3)), (6, .ref (ma 4)), (7, .ref (ma 5)), (8, .ref (ma 6)), (9, .ref (ma 7)), (10, .ref (ma 8)), (11, .ref (ma 9)), (12, .ref (ma 10)), (14, wi v14_97), (17, wi x17_171), (18, wi t0_189), (31, vl t0_542), (33, wi t0_580)] [wi t0_650, wi r84] (E_650, C_650, q_650) (J t0_650 E_650 C_650 q_650)) ?_ (fun J650 hJ650 => ?_)
                                        · intro t0_650 E_650 C_650 q_650
                                          show RunO l Γ (kL T) 16 encI (em3 ma) 650 [(0, .ref sb), (1, .ref a1), (2, .ref (ma 0)), (3, .ref (ma 1)), (4, .ref (ma 2)), (5, .ref (ma 3)), (6, .ref (ma 4)), (7, .ref (ma 5)), (8, .ref (ma 6)), (9, .ref (ma 7)), (10, .ref (ma 8)), (11, .ref (ma 9)), (12, .ref (ma 10)), (14, wi v14_97), (17, wi x17_171), (18, wi t0_189), (31, vl t0_542), (33, wi t0_580)] [wi t0_650, wi r84] (E_650, C_650, q_650) (fW_law_650 J658 J657 r84 t0_650 E_650 C_650 q_650)
                                          unfold fW_law_650
                                          refine r_icmp_ne (tgt := 657) dL_law_650 (by decide) ?_ ?_
                                          · exact hJ657 E_650 C_650 q_650
                                          · refine ro_iconst (v := 1) dL_law_653 rfl ?_
                                            refine r_goto (tgt := 658) dL_law_654 (by decide) ?_
                                            exact hJ658 1 E_650 C_650 q_650
                                        refine r_if_ne (tgt := 637) dL_law_629 (by decide) ?_ ?_
                                        · refine r_iload (x := t0_580) dL_law_637 rfl ?_
                                          refine r_if_eq (tgt := 648) dL_law_639 (by decide) ?_ ?_
                                          · refine r_bipush (v := (-13)) dL_law_648 rfl ?_
                                            refine r_lo [0, 1, 2, 3, 4, 5, 6, 7, 8, 9, 10, 11, 12, 13, 14, 15, 20, 21] (lo2 := [(0, .ref sb), (1, .ref a1), (2, .ref (ma 0)), (3, .ref (ma 1)), (4, .ref (ma 2)), (5, .ref (ma 3)), (6, .ref (ma 4)), (7, .ref (ma 5)), (8, .ref (ma 6)), (9, .ref (ma 7)), (10, .ref (ma 8)), (11, .ref (ma 9)), (12, .ref (ma 10)), (14, wi v14_97), (17, wi x17_171), (18, wi t0_189), (31, vl t0_542), (33, wi t0_580)]) rfl ?_
                                            exact hJ650 (-13) E_607 C85 q_607
                                          · refine r_aload_n (x := ma 0) dL_law_642 rfl rfl ?_
                                            refine ro_iconst (v := 0) dL_law_643 rfl ?_
                                            refine r_wiald3 h (by decide) (by decide) (hm 0 (by decide)) dL_law_644 ?_
                                            refine r_goto (tgt := 650) dL_law_645 (by decide) ?_
                                            refine r_lo [0, 1, 2, 3, 4, 5, 6, 7, 8, 9, 10, 11, 12, 13, 14, 15, 20, 21] (lo2 := [(0, .ref sb), (1, .ref a1), (2, .ref (ma 0)), (3, .ref (ma 1)), (4, .ref (ma 2)), (5, .ref (ma 3)), (6, .ref (ma 4)), (7, .ref (ma 5)), (8, .ref (ma 6)), (9, .ref (ma 7)), (10, .ref (ma 8)), (11, .ref (ma 9)), (12, .ref (ma 10)), (14, wi v14_97), (17, wi x17_171), (18, wi t0_189), (31, vl t0_542), (33, wi t0_580)]) rfl ?_
                                            exact hJ650 (E_607 0 (ix 0)) E_607 C85 q_607
                                        · refine r_bipush (v := (-11)) dL_law_632 rfl ?_
                                          refine r_goto (tgt := 650) dL_law_634 (by decide) ?_
                                          refine r_lo [0, 1, 2, 3, 4, 5, 6, 7, 8, 9, 10, 11, 12, 13, 14, 15, 20, 21] (lo2 := [(0, .ref sb), (1, .ref a1), (2, .ref (ma 0)), (3, .ref (ma 1)), (4, .ref (ma 2)), (5, .ref (ma 3)), (6, .ref (ma 4)), (7, .ref (ma 5)), (8, .ref (ma 6)), (9, .ref (ma 7)), (10, .ref (ma 8)), (11, .ref (ma 9)), (12, .ref (ma 10)), (14, wi v14_97), (17, wi x17_171), (18, wi t0_189), (31, vl t0_542), (33, wi t0_580)]) rfl ?_
                                          exact hJ650 (-11) E_607 C85 q_607
                                    refine r_if_eq (tgt := 607) dL_law_584 (by decide) ?_ ?_
                                    · refine r_lo [1, 2, 3, 4, 5, 6, 7, 8, 9, 10, 11, 12, 13, 15, 16, 17, 18, 19, 20, 21, 23, 0] (lo2 := [(0, .ref sb), (1, .ref a1), (2, .ref (ma 0)), (3, .ref (ma 1)), (4, .ref (ma 2)), (5, .ref (ma 3)), (6, .ref (ma 4)), (7, .ref (ma 5)), (8, .ref (ma 6)), (9, .ref (ma 7)), (10, .ref (ma 8)), (11, .ref (ma 9)), (12, .ref (ma 10)), (14, wi v14_97), (17, wi x17_171), (18, wi t0_189), (24, wi t0_420), (25, wi x25_430), (26, vl t0_450), (28, wi t0_475), (31, vl t0_542), (33, wi t0_580)]) rfl ?_
                                      exact hJ607 E_580 C_580 q_580
                                    · refine r_lload (x := t0_508) dL_law_587 rfl ?_
                                      refine r_csi (J := fun (_ : Unit) => (E_580, C_580, q_580)) (k2 := k_L_macros) (n := 1) (rest := []) (fun _ => rfl) htb kv_L_macros (c_L_macros (σ0 := _) t0_508) (by decide) um_L_7 rfl (Nat.le_of_ble_eq_true rfl) dL_law_589 rfl (fun r86 _ => ?_)
                                      show RunO l Γ (kL T) 16 encI (em3 ma) 592 [(33, wi t0_580), (0, .ref sb), (1, .ref a1), (2, .ref (ma 0)), (3, .ref (ma 1)), (4, .ref (ma 2)), (5, .ref (ma 3)), (6, .ref (ma 4)), (7, .ref (ma 5)), (8, .ref (ma 6)), (9, .ref (ma 7)), (10, .ref (ma 8)), (11, .ref (ma 9)), (12, .ref (ma 10)), (13, wi v13_97), (14, wi v14_97), (17, wi x17_171), (18, wi t0_189), (24, wi t0_420), (25, wi x25_430), (26, vl t0_450), (28, wi t0_475), (29, vl t0_508), (31, vl t0_542)] [wi r86] (E_580, C_580, q_580) _
                                      refine r_bipush (v := 6) dL_law_592 rfl ?_
                                      refine r_icmp_ge (tgt := 693) dL_law_594 (by decide) ?_ ?_
                                      · refine r_lo [1, 2, 3, 4, 5, 6, 7, 8, 9, 10, 11, 12, 13, 14, 15, 16] (lo2 := [(0, .ref sb), (1, .ref a1), (2, .ref (ma 0)), (3, .ref (ma 1)), (4, .ref (ma 2)), (5, .ref (ma 3)), (6, .ref (ma 4)), (7, .ref (ma 5)), (8, .ref (ma 6)), (9, .ref (ma 7)), (10, .ref (ma 8)), (11, .ref (ma 9)), (12, .ref (ma 10)), (13, wi v13_97), (14, wi v14_97), (17, wi x17_171)]) rfl ?_
                                        exact hJ693 v13_97 E_580 C_580 q_580
                                      · refine r_lload (x := t0_542) dL_law_597 rfl ?_
                                        refine r_csi (J := fun (_ : Unit) => (E_580, C_580, q_580)) (k2 := k_L_macros) (n := 1) (rest := []) (fun _ => rfl) htb kv_L_macros (c_L_macros (σ0 := _) t0_542) (by decide) um_L_7 rfl (Nat.le_of_ble_eq_true rfl) dL_law_599 rfl (fun r87 _ => ?_)
                                        show RunO l Γ (kL T) 16 encI (em3 ma) 602 [(33, wi t0_580), (0, .ref sb), (1, .ref a1), (2, .ref (ma 0)), (3, .ref (ma 1)), (4, .ref (ma 2)), (5, .ref (ma 3)), (6, .ref (ma 4)), (7, .ref (ma 5)), (8, .ref (ma 6)), (9, .ref (ma 7)), (10, .ref (ma 8)), (11, .ref (ma 9)), (12, .ref (ma 10)), (13, wi v13_97), (14, wi v14_97), (17, wi x17_171), (18, wi t0_189), (24, wi t0_420), (25, wi x25_430), (26, vl t0_450), (28, wi t0_475), (29, vl t0_508), (31, vl t0_542)] [wi r87] (E_580, C_580, q_580) _
                                        refine r_bipush (v := 6) dL_law_602 rfl ?_
                                        refine r_icmp_ge (tgt := 693) dL_law_604 (by decide) ?_ ?_
                                        · refine r_lo [1, 2, 3, 4, 5, 6, 7, 8, 9, 10, 11, 12, 13, 14, 15, 16] (lo2 := [(0, .ref sb), (1, .ref a1), (2, .ref (ma 0)), (3, .ref (ma 1)), (4, .ref (ma 2)), (5, .ref (ma 3)), (6, .ref (ma 4)), (7, .ref (ma 5)), (8, .ref (ma 6)), (9, .ref (ma 7)), (10, .ref (ma 8)), (11, .ref (ma 9)), (12, .ref (ma 10)), (13, wi v13_97), (14, wi v14_97), (17, wi x17_171)]) rfl ?_
                                          exact hJ693 v13_97 E_580 C_580 q_580
                                        · refine r_lo [1, 2, 3, 4, 5, 6, 7, 8, 9, 10, 11, 12, 13, 15, 16, 17, 18, 19, 20, 21, 23, 0] (lo2 := [(0, .ref sb), (1, .ref a1), (2, .ref (ma 0)), (3, .ref (ma 1)), (4, .ref (ma 2)), (5, .ref (ma 3)), (6, .ref (ma 4)), (7, .ref (ma 5)), (8, .ref (ma 6)), (9, .ref (ma 7)), (10, .ref (ma 8)), (11, .ref (ma 9)), (12, .ref (ma 10)), (14, wi v14_97), (17, wi x17_171), (18, wi t0_189), (24, wi t0_420), (25, wi x25_430), (26, vl t0_450), (28, wi t0_475), (31, vl t0_542), (33, wi t0_580)]) rfl ?_
                                          exact hJ607 E_580 C_580 q_580
                                  refine r_join (P := fun (J : Rw → Cd → (Nat → Nat) → Option (Int × S3)) => ∀ (E_579 : Rw) (C_579 : Cd) (q_579 : (Nat → Nat)), RunO l Γ (kL T) 16 encI (em3 ma) 579 [(0, .ref sb), (1, .ref a1), (2, .ref (ma 0)), (3, .ref (ma 1)), (4, .ref (ma 2)), (5, .ref (ma 3)), (6, .ref (ma 4)), (7, .ref (ma 5)), (8, .ref (ma 6)), (9, .ref (ma 7)), (10, .ref (ma 8)), (11, .ref (ma 9)), (12, .ref (ma 10)), (13, wi v13_97), (14, wi v14_97), (17, wi x17_171), (18, wi t0_189), (24, wi t0_420), (25, wi x25_430), (26, vl t0_450), (28, wi t0_475), (29, vl t0_508), (31, vl t0_542)] [] (E_579, C_579, q_579) (J E_579 C_579 q_579)) ?_ (fun J579 hJ579 => ?_)
                                  · intro E_579 C_579 q_579
                                    show RunO l Γ (kL T) 16 encI (em3 ma) 579 [(0, .ref sb), (1, .ref a1), (2, .ref (ma 0)), (3, .ref (ma 1)), (4, .ref (ma 2)), (5, .ref (ma 3)), (6, .ref (ma 4)), (7, .ref (ma 5)), (8, .ref (ma 6)), (9, .ref (ma 7)), (10, .ref (ma 8)), (11, .ref (ma 9)), (12, .ref (ma 10)), (13, wi v13_97), (14, wi v14_97), (17, wi x17_171), (18, wi t0_189), (24, wi t0_420), (25, wi x25_430), (26, vl t0_450), (28, wi t0_475), (29, vl t0_508), (31, vl t0_542)] [] (E_579, C_579, q_579) (fW_law_579 J580 E_579 C_579 q_579)
                                    unfold fW_law_579
                                    refine ro_iconst (v := 0) dL_law_579 rfl ?_
                                    exact hJ580 0 E_579 C_579 q_579
                                  refine r_if_eq (tgt := 579) dL_law_546 (by decide) ?_ ?_
                                  · refine r_lo [1, 2, 3, 4, 5, 6, 7, 8, 9, 10, 11, 12, 13, 14, 15, 16, 17, 19, 20, 21, 22, 23, 0] (lo2 := [(0, .ref sb), (1, .ref a1), (2, .ref (ma 0)), (3, .ref (ma 1)), (4, .ref (ma 2)), (5, .ref (ma 3)), (6, .ref (ma 4)), (7, .ref (ma 5)), (8, .ref (ma 6)), (9, .ref (ma 7)), (10, .ref (ma 8)), (11, .ref (ma 9)), (12, .ref (ma 10)), (13, wi v13_97), (14, wi v14_97), (17, wi x17_171), (18, wi t0_189), (24, wi t0_420), (25, wi x25_430), (26, vl t0_450), (28, wi t0_475), (29, vl t0_508), (31, vl t0_542)]) rfl ?_
                                    exact hJ579 E_542 C_542 q_542
                                  · refine r_lload (x := t0_542) dL_law_549 rfl ?_
                                    refine r_lconst (x := 1) dL_law_551 rfl ?_
                                    refine r_lcmp dL_law_552 ?_
                                    refine r_if_le (tgt := 579) dL_law_553 (by decide) ?_ ?_
                                    · refine r_lo [1, 2, 3, 4, 5, 6, 7, 8, 9, 10, 11, 12, 13, 14, 15, 16, 17, 19, 20, 21, 22, 23, 0] (lo2 := [(0, .ref sb), (1, .ref a1), (2, .ref (ma 0)), (3, .ref (ma 1)), (4, .ref (ma 2)), (5, .ref (ma 3)), (6, .ref (ma 4)), (7, .ref (ma 5)), (8, .ref (ma 6)), (9, .ref (ma 7)), (10, .ref (ma 8)), (11, .ref (ma 9)), (12, .ref (ma 10)), (13, wi v13_97), (14, wi v14_97), (17, wi x17_171), (18, wi t0_189), (24, wi t0_420), (25, wi x25_430), (26, vl t0_450), (28, wi t0_475), (29, vl t0_508), (31, vl t0_542)]) rfl ?_
                                      exact hJ579 E_542 C_542 q_542
                                    · refine r_lload (x := t0_542) dL_law_556 rfl ?_
                                      refine r_csi (J := fun (_ : Unit) => (E_542, C_542, q_542)) (k2 := k_L_isText) (n := 1) (rest := []) (fun _ => rfl) htb kv_L_isText (c_L_isText (σ0 := _) t0_542) (by decide) um_L_206 rfl (Nat.le_of_ble_eq_true rfl) dL_law_558 rfl (fun r88 _ => ?_)
                                      show RunO l Γ (kL T) 16 encI (em3 ma) 561 [(31, vl t0_542), (0, .ref sb), (1, .ref a1), (2, .ref (ma 0)), (3, .ref (ma 1)), (4, .ref (ma 2)), (5, .ref (ma 3)), (6, .ref (ma 4)), (7, .ref (ma 5)), (8, .ref (ma 6)), (9, .ref (ma 7)), (10, .ref (ma 8)), (11, .ref (ma 9)), (12, .ref (ma 10)), (13, wi v13_97), (14, wi v14_97), (17, wi x17_171), (18, wi t0_189), (20, wi r9), (24, wi t0_420), (25, wi x25_430), (26, vl t0_450), (28, wi t0_475), (29, vl t0_508)] [wi r88] (E_542, C_542, q_542) _
                                      refine r_if_eq (tgt := 579) dL_law_561 (by decide) ?_ ?_
                                      · refine r_lo [1, 2, 3, 4, 5, 6, 7, 8, 9, 10, 11, 12, 13, 14, 15, 16, 17, 19, 20, 21, 22, 23, 0] (lo2 := [(0, .ref sb), (1, .ref a1), (2, .ref (ma 0)), (3, .ref (ma 1)), (4, .ref (ma 2)), (5, .ref (ma 3)), (6, .ref (ma 4)), (7, .ref (ma 5)), (8, .ref (ma 6)), (9, .ref (ma 7)), (10, .ref (ma 8)), (11, .ref (ma 9)), (12, .ref (ma 10)), (13, wi v13_97), (14, wi v14_97), (17, wi x17_171), (18, wi t0_189), (24, wi t0_420), (25, wi x25_430), (26, vl t0_450), (28, wi t0_475), (29, vl t0_508), (31, vl t0_542)]) rfl ?_
                                        exact hJ579 E_542 C_542 q_542
                                      · refine r_lload (x := t0_542) dL_law_564 rfl ?_
                                        refine r_aload (x := ma 3) dL_law_566 rfl ?_
                                        refine r_iload (x := r9) dL_law_568 rfl ?_
                                        refine r_wlald3 h (by decide) (by decide) (hm 3 (by decide)) dL_law_570 ?_
                                        refine r_lcmp dL_law_571 ?_
                                        refine r_if_eq (tgt := 579) dL_law_572 (by decide) ?_ ?_
                                        · refine r_lo [1, 2, 3, 4, 5, 6, 7, 8, 9, 10, 11, 12, 13, 14, 15, 16, 17, 19, 20, 21, 22, 23, 0] (lo2 := [(0, .ref sb), (1, .ref a1), (2, .ref (ma 0)), (3, .ref (ma 1)), (4, .ref (ma 2)), (5, .ref (ma 3)), (6, .ref (ma 4)), (7, .ref (ma 5)), (8, .ref (ma 6)), (9, .ref (ma 7)), (10, .ref (ma 8)), (11, .ref (ma 9)), (12, .ref (ma 10)), (13, wi v13_97), (14, wi v14_97), (17, wi x17_171), (18, wi t0_189), (24, wi t0_420), (25, wi x25_430), (26, vl t0_450), (28, wi t0_475), (29, vl t0_508), (31, vl t0_542)]) rfl ?_
                                          exact hJ579 E_542 C_542 q_542
                                        · refine ro_iconst (v := 1) dL_law_575 rfl ?_
                                          refine r_goto (tgt := 580) dL_law_576 (by decide) ?_
                                          refine r_lo [1, 2, 3, 4, 5, 6, 7, 8, 9, 10, 11, 12, 13, 14, 15, 16, 17, 19, 20, 21, 22, 23, 0] (lo2 := [(0, .ref sb), (1, .ref a1), (2, .ref (ma 0)), (3, .ref (ma 1)), (4, .ref (ma 2)), (5, .ref (ma 3)), (6, .ref (ma 4)), (7, .ref (ma 5)), (8, .ref (ma 6)), (9, .ref (ma 7)), (10, .ref (ma 8)), (11, .ref (ma 9)), (12, .ref (ma 10)), (13, wi v13_97), (14, wi v14_97), (17, wi x17_171), (18, wi t0_189), (24, wi t0_420), (25, wi x25_430), (26, vl t0_450), (28, wi t0_475), (29, vl t0_508), (31, vl t0_542)]) rfl ?_
                                          exact hJ580 1 E_542 C_542 q_542
                                refine r_join (P := fun (J : Rw → Cd → (Nat → Nat) → Option (Int × S3)) => ∀ (E_522 : Rw) (C_522 : Cd) (q_522 : (Nat → Nat)), RunO l Γ (kL T) 16 encI (em3 ma) 522 [(0, .ref sb), (1, .ref a1), (2, .ref (ma 0)), (3, .ref (ma 1)), (4, .ref (ma 2)), (5, .ref (ma 3)), (6, .ref (ma 4)), (7, .ref (ma 5)), (8, .ref (ma 6)), (9, .ref (ma 7)), (10, .ref (ma 8)), (11, .ref (ma 9)), (12, .ref (ma 10)), (13, wi v13_97), (14, wi v14_97), (17, wi x17_171), (18, wi t0_189), (20, wi r9), (24, wi t0_420), (25, wi x25_430), (26, vl t0_450), (28, wi t0_475), (29, vl t0_508)] [] (E_522, C_522, q_522) (J E_522 C_522 q_522)) ?_ (fun J522 hJ522 => ?_)
                                · intro E_522 C_522 q_522
                                  show RunO l Γ (kL T) 16 encI (em3 ma) 522 [(0, .ref sb), (1, .ref a1), (2, .ref (ma 0)), (3, .ref (ma 1)), (4, .ref (ma 2)), (5, .ref (ma 3)), (6, .ref (ma 4)), (7, .ref (ma 5)), (8, .ref (ma 6)), (9, .ref (ma 7)), (10, .ref (ma 8)), (11, .ref (ma 9)), (12, .ref (ma 10)), (13, wi v13_97), (14, wi v14_97), (17, wi x17_171), (18, wi t0_189), (20, wi r9), (24, wi t0_420), (25, wi x25_430), (26, vl t0_450), (28, wi t0_475), (29, vl t0_508)] [] (E_522, C_522, q_522) (fW_law_522 t0_508 J542 E_522 C_522 q_522)
                                  unfold fW_law_522
                                  refine r_lload (x := t0_508) dL_law_522 rfl ?_
                                  refine r_goto (tgt := 542) dL_law_524 (by decide) ?_
                                  exact hJ542 t0_508 E_522 C_522 q_522
                                refine r_if_eq (tgt := 522) dL_law_512 (by decide) ?_ ?_
                                · refine r_lo [1, 2, 3, 4, 5, 6, 7, 8, 9, 10, 11, 12, 13, 14, 15, 16, 17, 18, 19, 20, 21, 22, 0] (lo2 := [(0, .ref sb), (1, .ref a1), (2, .ref (ma 0)), (3, .ref (ma 1)), (4, .ref (ma 2)), (5, .ref (ma 3)), (6, .ref (ma 4)), (7, .ref (ma 5)), (8, .ref (ma 6)), (9, .ref (ma 7)), (10, .ref (ma 8)), (11, .ref (ma 9)), (12, .ref (ma 10)), (13, wi v13_97), (14, wi v14_97), (17, wi x17_171), (18, wi t0_189), (20, wi r9), (24, wi t0_420), (25, wi x25_430), (26, vl t0_450), (28, wi t0_475), (29, vl t0_508)]) rfl ?_
                                  exact hJ522 E_508 C_508 q_508
                                · refine r_iload (x := t0_420) dL_law_515 rfl ?_
                                  refine r_iload (x := r9) dL_law_517 rfl ?_
                                  refine r_icmp_ne (tgt := 527) dL_law_519 (by decide) ?_ ?_
                                  · refine r_lload (x := t0_508) dL_law_527 rfl ?_
                                    refine r_aload (x := ma 3) dL_law_529 rfl ?_
                                    refine r_iload (x := t0_420) dL_law_531 rfl ?_
                                    refine r_wlald3 h (by decide) (by decide) (hm 3 (by decide)) dL_law_533 ?_
                                    refine r_aload (x := ma 3) dL_law_534 rfl ?_
                                    refine r_iload (x := r9) dL_law_536 rfl ?_
                                    refine r_wlald3 h (by decide) (by decide) (hm 3 (by decide)) dL_law_538 ?_
                                    refine r_csj (J := fun (_ : Unit) => (E_508, C_508, q_508)) (k2 := k_L_merged) (n := 3) (rest := []) (fun _ => rfl) htb kv_L_merged (c_L_merged (σ0 := _) t0_508 (E_508 3 (ix t0_420)) (E_508 3 (ix r9))) (by decide) um_L_202 rfl (Nat.le_of_ble_eq_true rfl) dL_law_539 rfl (fun r89 _ => ?_)
                                    show RunO l Γ (kL T) 16 encI (em3 ma) 542 [(29, vl t0_508), (0, .ref sb), (1, .ref a1), (2, .ref (ma 0)), (3, .ref (ma 1)), (4, .ref (ma 2)), (5, .ref (ma 3)), (6, .ref (ma 4)), (7, .ref (ma 5)), (8, .ref (ma 6)), (9, .ref (ma 7)), (10, .ref (ma 8)), (11, .ref (ma 9)), (12, .ref (ma 10)), (13, wi v13_97), (14, wi v14_97), (17, wi x17_171), (18, wi t0_189), (20, wi r9), (24, wi t0_420), (25, wi x25_430), (26, vl t0_450), (28, wi t0_475)] [vl r89] (E_508, C_508, q_508) _
                                    refine r_lo [1, 2, 3, 4, 5, 6, 7, 8, 9, 10, 11, 12, 13, 14, 15, 16, 17, 18, 19, 20, 21, 22, 0] (lo2 := [(0, .ref sb), (1, .ref a1), (2, .ref (ma 0)), (3, .ref (ma 1)), (4, .ref (ma 2)), (5, .ref (ma 3)), (6, .ref (ma 4)), (7, .ref (ma 5)), (8, .ref (ma 6)), (9, .ref (ma 7)), (10, .ref (ma 8)), (11, .ref (ma 9)), (12, .ref (ma 10)), (13, wi v13_97), (14, wi v14_97), (17, wi x17_171), (18, wi t0_189), (20, wi r9), (24, wi t0_420), (25, wi x25_430), (26, vl t0_450), (28, wi t0_475), (29, vl t0_508)]) rfl ?_
                                    exact hJ542 r89 E_508 C_508 q_508
                                  · refine r_lo [1, 2, 3, 4, 5, 6, 7, 8, 9, 10, 11, 12, 13, 14, 15, 16, 17, 18, 19, 20, 21, 22, 0] (lo2 := [(0, .ref sb), (1, .ref a1), (2, .ref (ma 0)), (3, .ref (ma 1)), (4, .ref (ma 2)), (5, .ref (ma 3)), (6, .ref (ma 4)), (7, .ref (ma 5)), (8, .ref (ma 6)), (9, .ref (ma 7)), (10, .ref (ma 8)), (11, .ref (ma 9)), (12, .ref (ma 10)), (13, wi v13_97), (14, wi v14_97), (17, wi x17_171), (18, wi t0_189), (20, wi r9), (24, wi t0_420), (25, wi x25_430), (26, vl t0_450), (28, wi t0_475), (29, vl t0_508)]) rfl ?_
                                    exact hJ522 E_508 C_508 q_508
                              refine r_if_ne (tgt := 486) dL_law_479 (by decide) ?_ ?_
                              · refine r_iload (x := x25_430) dL_law_486 rfl ?_
                                refine r_if_ge (tgt := 496) dL_law_488 (by decide) ?_ ?_
                                · refine r_aload (x := ma 3) dL_law_496 rfl ?_
                                  refine r_iload (x := t0_420) dL_law_498 rfl ?_
                                  refine r_wlald3 h (by decide) (by decide) (hm 3 (by decide)) dL_law_500 ?_
                                  refine r_iload (x := x25_430) dL_law_501 rfl ?_
                                  refine r_lload (x := t0_450) dL_law_503 rfl ?_
                                  refine r_csj (J := fun (_ : Unit) => (E_475, C_475, q_475)) (k2 := k_L_with) (n := 3) (rest := []) (fun _ => rfl) htb kv_L_with (c_L_with (σ0 := _) (E_475 3 (ix t0_420)) x25_430 t0_450) (by decide) um_L_198 rfl (Nat.le_of_ble_eq_true rfl) dL_law_505 rfl (fun r90 _ => ?_)
                                  show RunO l Γ (kL T) 16 encI (em3 ma) 508 [(28, wi t0_475), (0, .ref sb), (1, .ref a1), (2, .ref (ma 0)), (3, .ref (ma 1)), (4, .ref (ma 2)), (5, .ref (ma 3)), (6, .ref (ma 4)), (7, .ref (ma 5)), (8, .ref (ma 6)), (9, .ref (ma 7)), (10, .ref (ma 8)), (11, .ref (ma 9)), (12, .ref (ma 10)), (13, wi v13_97), (14, wi v14_97), (17, wi x17_171), (18, wi t0_189), (20, wi r9), (24, wi t0_420), (25, wi x25_430), (26, vl t0_450)] [vl r90] (E_475, C_475, q_475) _
                                  refine r_lo [1, 2, 3, 4, 5, 6, 7, 8, 9, 10, 11, 12, 13, 14, 15, 16, 17, 18, 19, 20, 21, 0] (lo2 := [(0, .ref sb), (1, .ref a1), (2, .ref (ma 0)), (3, .ref (ma 1)), (4, .ref (ma 2)), (5, .ref (ma 3)), (6, .ref (ma 4)), (7, .ref (ma 5)), (8, .ref (ma 6)), (9, .ref (ma 7)), (10, .ref (ma 8)), (11, .ref (ma 9)), (12, .ref (ma 10)), (13, wi v13_97), (14, wi v14_97), (17, wi x17_171), (18, wi t0_189), (20, wi r9), (24, wi t0_420), (25, wi x25_430), (26, vl t0_450), (28, wi t0_475)]) rfl ?_
                                  exact hJ508 r90 E_475 C_475 q_475
                                · refine r_lload (x := t0_450) dL_law_491 rfl ?_
                                  refine r_goto (tgt := 508) dL_law_493 (by decide) ?_
                                  refine r_lo [1, 2, 3, 4, 5, 6, 7, 8, 9, 10, 11, 12, 13, 14, 15, 16, 17, 18, 19, 20, 21, 0] (lo2 := [(0, .ref sb), (1, .ref a1), (2, .ref (ma 0)), (3, .ref (ma 1)), (4, .ref (ma 2)), (5, .ref (ma 3)), (6, .ref (ma 4)), (7, .ref (ma 5)), (8, .ref (ma 6)), (9, .ref (ma 7)), (10, .ref (ma 8)), (11, .ref (ma 9)), (12, .ref (ma 10)), (13, wi v13_97), (14, wi v14_97), (17, wi x17_171), (18, wi t0_189), (20, wi r9), (24, wi t0_420), (25, wi x25_430), (26, vl t0_450), (28, wi t0_475)]) rfl ?_
                                  exact hJ508 t0_450 E_475 C_475 q_475
                              · refine r_lconst (x := 1) dL_law_482 rfl ?_
                                refine r_goto (tgt := 508) dL_law_483 (by decide) ?_
                                refine r_lo [1, 2, 3, 4, 5, 6, 7, 8, 9, 10, 11, 12, 13, 14, 15, 16, 17, 18, 19, 20, 21, 0] (lo2 := [(0, .ref sb), (1, .ref a1), (2, .ref (ma 0)), (3, .ref (ma 1)), (4, .ref (ma 2)), (5, .ref (ma 3)), (6, .ref (ma 4)), (7, .ref (ma 5)), (8, .ref (ma 6)), (9, .ref (ma 7)), (10, .ref (ma 8)), (11, .ref (ma 9)), (12, .ref (ma 10)), (13, wi v13_97), (14, wi v14_97), (17, wi x17_171), (18, wi t0_189), (20, wi r9), (24, wi t0_420), (25, wi x25_430), (26, vl t0_450), (28, wi t0_475)]) rfl ?_
                                exact hJ508 1 E_475 C_475 q_475
                            refine r_join (P := fun (J : Rw → Cd → (Nat → Nat) → Option (Int × S3)) => ∀ (E_474 : Rw) (C_474 : Cd) (q_474 : (Nat → Nat)), RunO l Γ (kL T) 16 encI (em3 ma) 474 [(0, .ref sb), (1, .ref a1), (2, .ref (ma 0)), (3, .ref (ma 1)), (4, .ref (ma 2)), (5, .ref (ma 3)), (6, .ref (ma 4)), (7, .ref (ma 5)), (8, .ref (ma 6)), (9, .ref (ma 7)), (10, .ref (ma 8)), (11, .ref (ma 9)), (12, .ref (ma 10)), (13, wi v13_97), (14, wi v14_97), (17, wi x17_171), (18, wi t0_189), (20, wi r9), (24, wi t0_420), (25, wi x25_430), (26, vl t0_450)] [] (E_474, C_474, q_474) (J E_474 C_474 q_474)) ?_ (fun J474 hJ474 => ?_)
                            · intro E_474 C_474 q_474
                              show RunO l Γ (kL T) 16 encI (em3 ma) 474 [(0, .ref sb), (1, .ref a1), (2, .ref (ma 0)), (3, .ref (ma 1)), (4, .ref (ma 2)), (5, .ref (ma 3)), (6, .ref (ma 4)), (7, .ref (ma 5)), (8, .ref (ma 6)), (9, .ref (ma 7)), (10, .ref (ma 8)), (11, .ref (ma 9)), (12, .ref (ma 10)), (13, wi v13_97), (14, wi v14_97), (17, wi x17_171), (18, wi t0_189), (20, wi r9), (24, wi t0_420), (25, wi x25_430), (26, vl t0_450)] [] (E_474, C_474, q_474) (fW_law_474 J475 E_474 C_474 q_474)
                              unfold fW_law_474
                              refine ro_iconst (v := 0) dL_law_474 rfl ?_
                              exact hJ475 0 E_474 C_474 q_474
                            refine r_if_eq (tgt := 474) dL_law_454 (by decide) ?_ ?_
                            · refine r_lo [1, 2, 3, 4, 5, 6, 7, 8, 9, 10, 11, 12, 13, 14, 15, 16, 17, 19, 20, 21, 0] (lo2 := [(0, .ref sb), (1, .ref a1), (2, .ref (ma 0)), (3, .ref (ma 1)), (4, .ref (ma 2)), (5, .ref (ma 3)), (6, .ref (ma 4)), (7, .ref (ma 5)), (8, .ref (ma 6)), (9, .ref (ma 7)), (10, .ref (ma 8)), (11, .ref (ma 9)), (12, .ref (ma 10)), (13, wi v13_97), (14, wi v14_97), (17, wi x17_171), (18, wi t0_189), (20, wi r9), (24, wi t0_420), (25, wi x25_430), (26, vl t0_450)]) rfl ?_
                              exact hJ474 E_450 C_450 q_450
                            · refine r_iload (x := x25_430) dL_law_457 rfl ?_
                              refine r_aload (x := ma 3) dL_law_459 rfl ?_
                              refine r_iload (x := t0_420) dL_law_461 rfl ?_
                              refine r_wlald3 h (by decide) (by decide) (hm 3 (by decide)) dL_law_463 ?_
                              refine r_csi (J := fun (_ : Unit) => (E_450, C_450, q_450)) (k2 := k_L_sections) (n := 1) (rest := [wi x25_430]) (fun _ => rfl) htb kv_L_sections (c_L_sections (σ0 := _) (E_450 3 (ix t0_420))) (by decide) um_L_119 rfl (Nat.le_of_ble_eq_true rfl) dL_law_464 rfl (fun r91 _ => ?_)
                              show RunO l Γ (kL T) 16 encI (em3 ma) 467 [(26, vl t0_450), (0, .ref sb), (1, .ref a1), (2, .ref (ma 0)), (3, .ref (ma 1)), (4, .ref (ma 2)), (5, .ref (ma 3)), (6, .ref (ma 4)), (7, .ref (ma 5)), (8, .ref (ma 6)), (9, .ref (ma 7)), (10, .ref (ma 8)), (11, .ref (ma 9)), (12, .ref (ma 10)), (13, wi v13_97), (14, wi v14_97), (17, wi x17_171), (18, wi t0_189), (19, wi t0_203), (20, wi r9), (24, wi t0_420), (25, wi x25_430)] [wi r91, wi x25_430] (E_450, C_450, q_450) _
                              refine r_icmp_ge (tgt := 474) dL_law_467 (by decide) ?_ ?_
                              · refine r_lo [1, 2, 3, 4, 5, 6, 7, 8, 9, 10, 11, 12, 13, 14, 15, 16, 17, 19, 20, 21, 0] (lo2 := [(0, .ref sb), (1, .ref a1), (2, .ref (ma 0)), (3, .ref (ma 1)), (4, .ref (ma 2)), (5, .ref (ma 3)), (6, .ref (ma 4)), (7, .ref (ma 5)), (8, .ref (ma 6)), (9, .ref (ma 7)), (10, .ref (ma 8)), (11, .ref (ma 9)), (12, .ref (ma 10)), (13, wi v13_97), (14, wi v14_97), (17, wi x17_171), (18, wi t0_189), (20, wi r9), (24, wi t0_420), (25, wi x25_430), (26, vl t0_450)]) rfl ?_
                                exact hJ474 E_450 C_450 q_450
                              · refine ro_iconst (v := 1) dL_law_470 rfl ?_
                                refine r_goto (tgt := 475) dL_law_471 (by decide) ?_
                                refine r_lo [1, 2, 3, 4, 5, 6, 7, 8, 9, 10, 11, 12, 13, 14, 15, 16, 17, 19, 20, 21, 0] (lo2 := [(0, .ref sb), (1, .ref a1), (2, .ref (ma 0)), (3, .ref (ma 1)), (4, .ref (ma 2)), (5, .ref (ma 3)), (6, .ref (ma 4)), (7, .ref (ma 5)), (8, .ref (ma 6)), (9, .ref (ma 7)), (10, .ref (ma 8)), (11, .ref (ma 9)), (12, .ref (ma 10)), (13, wi v13_97), (14, wi v14_97), (17, wi x17_171), (18, wi t0_189), (20, wi r9), (24, wi t0_420), (25, wi x25_430), (26, vl t0_450)]) rfl ?_
                                exact hJ475 1 E_450 C_450 q_450
                          refine r_join (P := fun (J : Rw → Cd → (Nat → Nat) → Option (Int × S3)) => ∀ (E_444 : Rw) (C_444 : Cd) (q_444 : (Nat → Nat)), RunO l Γ (kL T) 16 encI (em3 ma) 444 [(0, .ref sb), (1, .ref a1), (2, .ref (ma 0)), (3, .ref (ma 1)), (4, .ref (ma 2)), (5, .ref (ma 3)), (6, .ref (ma 4)), (7, .ref (ma 5)), (8, .ref (ma 6)), (9, .ref (ma 7)), (10, .ref (ma 8)), (11, .ref (ma 9)), (12, .ref (ma 10)), (13, wi v13_97), (14, wi v14_97), (17, wi x17_171), (18, wi t0_189), (19, wi t0_203), (20, wi r9), (21, vl r11), (24, wi t0_420), (25, wi x25_430)] [] (E_444, C_444, q_444) (J E_444 C_444 q_444)) ?_ (fun J444 hJ444 => ?_)
                          · intro E_444 C_444 q_444
                            show RunO l Γ (kL T) 16 encI (em3 ma) 444 [(0, .ref sb), (1, .ref a1), (2, .ref (ma 0)), (3, .ref (ma 1)), (4, .ref (ma 2)), (5, .ref (ma 3)), (6, .ref (ma 4)), (7, .ref (ma 5)), (8, .ref (ma 6)), (9, .ref (ma 7)), (10, .ref (ma 8)), (11, .ref (ma 9)), (12, .ref (ma 10)), (13, wi v13_97), (14, wi v14_97), (17, wi x17_171), (18, wi t0_189), (19, wi t0_203), (20, wi r9), (21, vl r11), (24, wi t0_420), (25, wi x25_430)] [] (E_444, C_444, q_444) (fW_law_444 r11 J450 E_444 C_444 q_444)
                            unfold fW_law_444
                            refine r_lload (x := r11) dL_law_444 rfl ?_
                            refine r_goto (tgt := 450) dL_law_446 (by decide) ?_
                            refine r_lo [0, 1, 2, 3, 4, 5, 6, 7, 8, 9, 10, 11, 12, 13, 14, 15, 16, 17, 18, 20, 21] (lo2 := [(0, .ref sb), (1, .ref a1), (2, .ref (ma 0)), (3, .ref (ma 1)), (4, .ref (ma 2)), (5, .ref (ma 3)), (6, .ref (ma 4)), (7, .ref (ma 5)), (8, .ref (ma 6)), (9, .ref (ma 7)), (10, .ref (ma 8)), (11, .ref (ma 9)), (12, .ref (ma 10)), (13, wi v13_97), (14, wi v14_97), (17, wi x17_171), (18, wi t0_189), (19, wi t0_203), (20, wi r9), (24, wi t0_420), (25, wi x25_430)]) rfl ?_
                            exact hJ450 r11 E_444 C_444 q_444
                          refine r_if_lt (tgt := 444) dL_law_434 (by decide) ?_ ?_
                          · refine r_lo [2, 3, 4, 5, 6, 7, 8, 9, 10, 11, 12, 13, 14, 15, 16, 17, 18, 19, 20, 21, 1, 0] (lo2 := [(0, .ref sb), (1, .ref a1), (2, .ref (ma 0)), (3, .ref (ma 1)), (4, .ref (ma 2)), (5, .ref (ma 3)), (6, .ref (ma 4)), (7, .ref (ma 5)), (8, .ref (ma 6)), (9, .ref (ma 7)), (10, .ref (ma 8)), (11, .ref (ma 9)), (12, .ref (ma 10)), (13, wi v13_97), (14, wi v14_97), (17, wi x17_171), (18, wi t0_189), (19, wi t0_203), (20, wi r9), (21, vl r11), (24, wi t0_420), (25, wi x25_430)]) rfl ?_
                            exact hJ444 E_420 C_420 q_420
                          · refine r_iload (x := x17_171) dL_law_437 rfl ?_
                            refine ro_iconst (v := 4) dL_law_439 rfl ?_
                            refine r_irem dL_law_440 (by decide) ?_
                            refine r_if_le (tgt := 449) dL_law_441 (by decide) ?_ ?_
                            · refine r_lconst (x := 1) dL_law_449 rfl ?_
                              refine r_lo [2, 3, 4, 5, 6, 7, 8, 9, 10, 11, 12, 13, 14, 15, 16, 17, 18, 19, 20, 1, 0] (lo2 := [(0, .ref sb), (1, .ref a1), (2, .ref (ma 0)), (3, .ref (ma 1)), (4, .ref (ma 2)), (5, .ref (ma 3)), (6, .ref (ma 4)), (7, .ref (ma 5)), (8, .ref (ma 6)), (9, .ref (ma 7)), (10, .ref (ma 8)), (11, .ref (ma 9)), (12, .ref (ma 10)), (13, wi v13_97), (14, wi v14_97), (17, wi x17_171), (18, wi t0_189), (19, wi t0_203), (20, wi r9), (24, wi t0_420), (25, wi x25_430)]) rfl ?_
                              exact hJ450 1 E_420 C_420 q_420
                            · refine r_lo [2, 3, 4, 5, 6, 7, 8, 9, 10, 11, 12, 13, 14, 15, 16, 17, 18, 19, 20, 21, 1, 0] (lo2 := [(0, .ref sb), (1, .ref a1), (2, .ref (ma 0)), (3, .ref (ma 1)), (4, .ref (ma 2)), (5, .ref (ma 3)), (6, .ref (ma 4)), (7, .ref (ma 5)), (8, .ref (ma 6)), (9, .ref (ma 7)), (10, .ref (ma 8)), (11, .ref (ma 9)), (12, .ref (ma 10)), (13, wi v13_97), (14, wi v14_97), (17, wi x17_171), (18, wi t0_189), (19, wi t0_203), (20, wi r9), (21, vl r11), (24, wi t0_420), (25, wi x25_430)]) rfl ?_
                              exact hJ444 E_420 C_420 q_420
                        refine r_if_ge (tgt := 418) dL_law_410 (by decide) ?_ ?_
                        · refine r_iload (x := t0_406) dL_law_418 rfl ?_
                          refine r_lo [1, 2, 3, 4, 5, 6, 7, 8, 9, 10, 11, 12, 13, 14, 15, 16, 17, 18, 19, 20] (lo2 := [(0, .ref sb), (1, .ref a1), (2, .ref (ma 0)), (3, .ref (ma 1)), (4, .ref (ma 2)), (5, .ref (ma 3)), (6, .ref (ma 4)), (7, .ref (ma 5)), (8, .ref (ma 6)), (9, .ref (ma 7)), (10, .ref (ma 8)), (11, .ref (ma 9)), (12, .ref (ma 10)), (13, wi v13_97), (14, wi v14_97), (17, wi x17_171), (18, wi t0_189), (19, wi t0_203), (20, wi r9), (21, vl r11)]) rfl ?_
                          exact hJ420 t0_406 E_406 C_406 q_406
                        · refine r_iload (x := r9) dL_law_413 rfl ?_
                          refine r_goto (tgt := 420) dL_law_415 (by decide) ?_
                          refine r_lo [1, 2, 3, 4, 5, 6, 7, 8, 9, 10, 11, 12, 13, 14, 15, 16, 17, 18, 19, 20] (lo2 := [(0, .ref sb), (1, .ref a1), (2, .ref (ma 0)), (3, .ref (ma 1)), (4, .ref (ma 2)), (5, .ref (ma 3)), (6, .ref (ma 4)), (7, .ref (ma 5)), (8, .ref (ma 6)), (9, .ref (ma 7)), (10, .ref (ma 8)), (11, .ref (ma 9)), (12, .ref (ma 10)), (13, wi v13_97), (14, wi v14_97), (17, wi x17_171), (18, wi t0_189), (19, wi t0_203), (20, wi r9), (21, vl r11)]) rfl ?_
                          exact hJ420 r9 E_406 C_406 q_406
                      refine r_if_eq (tgt := 405) dL_law_369 (by decide) ?_ ?_
                      · refine ro_iconst (v := 0) dL_law_405 rfl ?_
                        refine r_lo [0, 1, 2, 3, 4, 5, 6, 7, 8, 9, 10, 11, 12, 13, 14, 16, 17, 18, 19, 20] (lo2 := [(0, .ref sb), (1, .ref a1), (2, .ref (ma 0)), (3, .ref (ma 1)), (4, .ref (ma 2)), (5, .ref (ma 3)), (6, .ref (ma 4)), (7, .ref (ma 5)), (8, .ref (ma 6)), (9, .ref (ma 7)), (10, .ref (ma 8)), (11, .ref (ma 9)), (12, .ref (ma 10)), (13, wi v13_97), (14, wi v14_97), (17, wi x17_171), (18, wi t0_189), (19, wi t0_203), (20, wi r9), (21, vl r11)]) rfl ?_
                        exact hJ406 0 E_352 C_352 q_352
                      · refine r_aload_n (x := ma 0) dL_law_372 rfl rfl ?_
                        refine r_aload_n (x := ma 1) dL_law_373 rfl rfl ?_
                        refine r_aload (x := ma 2) dL_law_374 rfl ?_
                        refine r_iload (x := t0_189) dL_law_376 rfl ?_
                        refine r_iload (x := x17_171) dL_law_378 rfl ?_
                        refine r_bipush (v := 9) dL_law_380 rfl ?_
                        refine r_idiv dL_law_382 (by decide) ?_
                        refine ro_iconst (v := 3) dL_law_383 rfl ?_
                        refine r_irem dL_law_384 (by decide) ?_
                        refine r_join (P := fun (J : Int → Rw → Cd → (Nat → Nat) → Option (Int × S3)) => ∀ (t0_399 : Int) (E_399 : Rw) (C_399 : Cd) (q_399 : (Nat → Nat)), RunO l Γ (kL T) 16 encI (em3 ma) 399 [(0, .ref sb), (1, .ref a1), (2, .ref (ma 0)), (3, .ref (ma 1)), (4, .ref (ma 2)), (5, .ref (ma 3)), (6, .ref (ma 4)), (7, .ref (ma 5)), (8, .ref (ma 6)), (9, .ref (ma 7)), (10, .ref (ma 8)), (11, .ref (ma 9)), (12, .ref (ma 10)), (13, wi v13_97), (14, wi v14_97), (17, wi x17_171), (18, wi t0_189), (19, wi t0_203), (20, wi r9), (21, vl r11)] [wi t0_399, wi t0_189, .ref (ma 2), .ref (ma 1), .ref (ma 0)] (E_399, C_399, q_399) (J t0_399 E_399 C_399 q_399)) ?_ (fun J399 hJ399 => ?_)
                        · intro t0_399 E_399 C_399 q_399
                          show RunO l Γ (kL T) 16 encI (em3 ma) 399 [(0, .ref sb), (1, .ref a1), (2, .ref (ma 0)), (3, .ref (ma 1)), (4, .ref (ma 2)), (5, .ref (ma 3)), (6, .ref (ma 4)), (7, .ref (ma 5)), (8, .ref (ma 6)), (9, .ref (ma 7)), (10, .ref (ma 8)), (11, .ref (ma 9)), (12, .ref (ma 10)), (13, wi v13_97), (14, wi v14_97), (17, wi x17_171), (18, wi t0_189), (19, wi t0_203), (20, wi r9), (21, vl r11)] [wi t0_399, wi t0_189, .ref (ma 2), .ref (ma 1), .ref (ma 0)] (E_399, C_399, q_399) (fW_law_399 t0_189 J406 t0_399 E_399 C_399 q_399)
                          unfold fW_law_399
                          refine r_csi (J := fun (E_ : Rw) => (E_, C_399, q_399)) (k2 := k_L_versionOf) (n := 5) (rest := []) (fun _ => rfl) htb kv_L_versionOf (c_L_versionOf (ad := adq ma q_399) (K0 := C_399) h (adq_hm hm) t0_189 t0_399 _) (by decide) um_L_139 rfl (Nat.le_of_ble_eq_true rfl) dL_law_399 rfl (fun r92 E93 => ?_)
                          show RunO l Γ (kL T) 16 encI (em3 ma) 402 [(0, .ref sb), (1, .ref a1), (2, .ref (ma 0)), (3, .ref (ma 1)), (4, .ref (ma 2)), (5, .ref (ma 3)), (6, .ref (ma 4)), (7, .ref (ma 5)), (8, .ref (ma 6)), (9, .ref (ma 7)), (10, .ref (ma 8)), (11, .ref (ma 9)), (12, .ref (ma 10)), (13, wi v13_97), (14, wi v14_97), (17, wi x17_171), (18, wi t0_189), (19, wi t0_203), (20, wi r9), (21, vl r11)] [wi r92] (E93, C_399, q_399) _
                          refine r_goto (tgt := 406) dL_law_402 (by decide) ?_
                          exact hJ406 r92 E93 C_399 q_399
                        refine r_if_le (tgt := 392) dL_law_385 (by decide) ?_ ?_
                        · refine r_iload (x := x17_171) dL_law_392 rfl ?_
                          refine r_bipush (v := 27) dL_law_394 rfl ?_
                          refine r_idiv dL_law_396 (by decide) ?_
                          refine ro_iconst (v := 4) dL_law_397 rfl ?_
                          refine r_irem dL_law_398 (by decide) ?_
                          refine r_lo [0, 1, 2, 3, 4, 5, 6, 7, 8, 9, 10, 11, 12, 13, 14, 16, 17, 18, 19, 20] (lo2 := [(0, .ref sb), (1, .ref a1), (2, .ref (ma 0)), (3, .ref (ma 1)), (4, .ref (ma 2)), (5, .ref (ma 3)), (6, .ref (ma 4)), (7, .ref (ma 5)), (8, .ref (ma 6)), (9, .ref (ma 7)), (10, .ref (ma 8)), (11, .ref (ma 9)), (12, .ref (ma 10)), (13, wi v13_97), (14, wi v14_97), (17, wi x17_171), (18, wi t0_189), (19, wi t0_203), (20, wi r9), (21, vl r11)]) rfl ?_
                          exact hJ399 (remI (divI x17_171 27) 4) E_352 C_352 q_352
                        · refine ro_iconst (v := 0) dL_law_388 rfl ?_
                          refine r_goto (tgt := 399) dL_law_389 (by decide) ?_
                          refine r_lo [0, 1, 2, 3, 4, 5, 6, 7, 8, 9, 10, 11, 12, 13, 14, 16, 17, 18, 19, 20] (lo2 := [(0, .ref sb), (1, .ref a1), (2, .ref (ma 0)), (3, .ref (ma 1)), (4, .ref (ma 2)), (5, .ref (ma 3)), (6, .ref (ma 4)), (7, .ref (ma 5)), (8, .ref (ma 6)), (9, .ref (ma 7)), (10, .ref (ma 8)), (11, .ref (ma 9)), (12, .ref (ma 10)), (13, wi v13_97), (14, wi v14_97), (17, wi x17_171), (18, wi t0_189), (19, wi t0_203), (20, wi r9), (21, vl r11)]) rfl ?_
                          exact hJ399 0 E_352 C_352 q_352
                refine r_icmp_ge (tgt := 352) dL_law_239 (by decide) ?_ ?_
                · refine r_lo [4, 5, 6, 7, 8, 9, 10, 11, 12, 13, 14, 15, 16, 17, 18, 19, 20, 21, 3, 2, 1, 0] (lo2 := [(0, .ref sb), (1, .ref a1), (2, .ref (ma 0)), (3, .ref (ma 1)), (4, .ref (ma 2)), (5, .ref (ma 3)), (6, .ref (ma 4)), (7, .ref (ma 5)), (8, .ref (ma 6)), (9, .ref (ma 7)), (10, .ref (ma 8)), (11, .ref (ma 9)), (12, .ref (ma 10)), (13, wi v13_97), (14, wi v14_97), (16, wi t0_164), (17, wi x17_171), (18, wi t0_189), (19, wi t0_203), (20, wi r9), (21, vl r11), (23, wi x23_234)]) rfl ?_
                  exact hJ352 E10 C_203 q_203
                · refine r_aload_n (x := ma 0) dL_law_242 rfl rfl ?_
                  refine ro_iconst (v := 0) dL_law_243 rfl ?_
                  refine r_wiald3 h (by decide) (by decide) (hm 0 (by decide)) dL_law_244 ?_
                  refine r_bipush (v := 32) dL_law_245 rfl ?_
                  refine r_icmp_ge (tgt := 352) dL_law_247 (by decide) ?_ ?_
                  · refine r_lo [4, 5, 6, 7, 8, 9, 10, 11, 12, 13, 14, 15, 16, 17, 18, 19, 20, 21, 3, 2, 1, 0] (lo2 := [(0, .ref sb), (1, .ref a1), (2, .ref (ma 0)), (3, .ref (ma 1)), (4, .ref (ma 2)), (5, .ref (ma 3)), (6, .ref (ma 4)), (7, .ref (ma 5)), (8, .ref (ma 6)), (9, .ref (ma 7)), (10, .ref (ma 8)), (11, .ref (ma 9)), (12, .ref (ma 10)), (13, wi v13_97), (14, wi v14_97), (16, wi t0_164), (17, wi x17_171), (18, wi t0_189), (19, wi t0_203), (20, wi r9), (21, vl r11), (23, wi x23_234)]) rfl ?_
                    exact hJ352 E10 C_203 q_203
                  · refine r_iload (x := t0_203) dL_law_250 rfl ?_
                    refine r_join (P := fun (J : Int → Rw → Cd → (Nat → Nat) → Option (Int × S3)) => ∀ (t0_260 : Int) (E_260 : Rw) (C_260 : Cd) (q_260 : (Nat → Nat)), RunO l Γ (kL T) 16 encI (em3 ma) 260 [(0, .ref sb), (1, .ref a1), (2, .ref (ma 0)), (3, .ref (ma 1)), (4, .ref (ma 2)), (5, .ref (ma 3)), (6, .ref (ma 4)), (7, .ref (ma 5)), (8, .ref (ma 6)), (9, .ref (ma 7)), (10, .ref (ma 8)), (11, .ref (ma 9)), (12, .ref (ma 10)), (14, wi v14_97), (17, wi x17_171), (18, wi t0_189), (21, vl r11)] [wi t0_260] (E_260, C_260, q_260) (J t0_260 E_260 C_260 q_260)) ?_ (fun J260 hJ260 => ?_)
                    · intro t0_260 E_260 C_260 q_260
                      show RunO l Γ (kL T) 16 encI (em3 ma) 260 [(0, .ref sb), (1, .ref a1), (2, .ref (ma 0)), (3, .ref (ma 1)), (4, .ref (ma 2)), (5, .ref (ma 3)), (6, .ref (ma 4)), (7, .ref (ma 5)), (8, .ref (ma 6)), (9, .ref (ma 7)), (10, .ref (ma 8)), (11, .ref (ma 9)), (12, .ref (ma 10)), (14, wi v14_97), (17, wi x17_171), (18, wi t0_189), (21, vl r11)] [wi t0_260] (E_260, C_260, q_260) (fW_law_260 a1 t0_189 r11 J1788 t0_260 E_260 C_260 q_260)
                      unfold fW_law_260
                      refine r_istore (lo2 := [(24, wi t0_260), (0, .ref sb), (1, .ref a1), (2, .ref (ma 0)), (3, .ref (ma 1)), (4, .ref (ma 2)), (5, .ref (ma 3)), (6, .ref (ma 4)), (7, .ref (ma 5)), (8, .ref (ma 6)), (9, .ref (ma 7)), (10, .ref (ma 8)), (11, .ref (ma 9)), (12, .ref (ma 10)), (14, wi v14_97), (17, wi x17_171), (18, wi t0_189), (21, vl r11)]) dL_law_260 (by decide) rfl ?_
                      refine r_aload_n (x := a1) dL_law_262 rfl rfl ?_
                      refine r_lload (x := r11) dL_law_263 rfl ?_
                      refine r_csi (J := fun (C_ : Cd) => (E_260, C_, q_260)) (k2 := k_L_drafts) (n := 2) (rest := []) (fun _ => rfl) htb kv_L_drafts (c_L_drafts hG hS a1 r11 _) (by decide) um_L_190 rfl (Nat.le_of_ble_eq_true rfl) dL_law_265 rfl (fun r94 C95 => ?_)
                      show RunO l Γ (kL T) 16 encI (em3 ma) 268 [(24, wi t0_260), (0, .ref sb), (1, .ref a1), (2, .ref (ma 0)), (3, .ref (ma 1)), (4, .ref (ma 2)), (5, .ref (ma 3)), (6, .ref (ma 4)), (7, .ref (ma 5)), (8, .ref (ma 6)), (9, .ref (ma 7)), (10, .ref (ma 8)), (11, .ref (ma 9)), (12, .ref (ma 10)), (14, wi v14_97), (17, wi x17_171), (18, wi t0_189), (21, vl r11)] [wi r94] (E_260, C95, q_260) _
                      refine r_join (P := fun (J : Int → Rw → Cd → (Nat → Nat) → Option (Int × S3)) => ∀ (t0_301 : Int) (E_301 : Rw) (C_301 : Cd) (q_301 : (Nat → Nat)), RunO l Γ (kL T) 16 encI (em3 ma) 301 [(0, .ref sb), (1, .ref a1), (2, .ref (ma 0)), (3, .ref (ma 1)), (4, .ref (ma 2)), (5, .ref (ma 3)), (6, .ref (ma 4)), (7, .ref (ma 5)), (8, .ref (ma 6)), (9, .ref (ma 7)), (10, .ref (ma 8)), (11, .ref (ma 9)), (12, .ref (ma 10)), (14, wi v14_97), (17, wi x17_171), (18, wi t0_189), (21, vl r11), (24, wi t0_260)] [wi t0_301] (E_301, C_301, q_301) (J t0_301 E_301 C_301 q_301)) ?_ (fun J301 hJ301 => ?_)
                      · intro t0_301 E_301 C_301 q_301
                        show RunO l Γ (kL T) 16 encI (em3 ma) 301 [(0, .ref sb), (1, .ref a1), (2, .ref (ma 0)), (3, .ref (ma 1)), (4, .ref (ma 2)), (5, .ref (ma 3)), (6, .ref (ma 4)), (7, .ref (ma 5)), (8, .ref (ma 6)), (9, .ref (ma 7)), (10, .ref (ma 8)), (11, .ref (ma 9)), (12, .ref (ma 10)), (14, wi v14_97), (17, wi x17_171), (18, wi t0_189), (21, vl r11), (24, wi t0_260)] [wi t0_301] (E_301, C_301, q_301) (fW_law_301 t0_189 r11 J1788 t0_260 t0_301 E_301 C_301 q_301)
                        unfold fW_law_301
                        refine r_istore (lo2 := [(13, wi t0_301), (0, .ref sb), (1, .ref a1), (2, .ref (ma 0)), (3, .ref (ma 1)), (4, .ref (ma 2)), (5, .ref (ma 3)), (6, .ref (ma 4)), (7, .ref (ma 5)), (8, .ref (ma 6)), (9, .ref (ma 7)), (10, .ref (ma 8)), (11, .ref (ma 9)), (12, .ref (ma 10)), (14, wi v14_97), (17, wi x17_171), (18, wi t0_189), (21, vl r11), (24, wi t0_260)]) dL_law_301 (by decide) rfl ?_
                        refine r_iload (x := t0_260) dL_law_303 rfl ?_
                        refine r_join (P := fun (J : Rw → Cd → (Nat → Nat) → Option (Int × S3)) => ∀ (E_349 : Rw) (C_349 : Cd) (q_349 : (Nat → Nat)), RunO l Γ (kL T) 16 encI (em3 ma) 349 [(0, .ref sb), (1, .ref a1), (2, .ref (ma 0)), (3, .ref (ma 1)), (4, .ref (ma 2)), (5, .ref (ma 3)), (6, .ref (ma 4)), (7, .ref (ma 5)), (8, .ref (ma 6)), (9, .ref (ma 7)), (10, .ref (ma 8)), (11, .ref (ma 9)), (12, .ref (ma 10)), (13, wi t0_301), (14, wi v14_97), (17, wi x17_171)] [] (E_349, C_349, q_349) (J E_349 C_349 q_349)) ?_ (fun J349 hJ349 => ?_)
                        · intro E_349 C_349 q_349
                          show RunO l Γ (kL T) 16 encI (em3 ma) 349 [(0, .ref sb), (1, .ref a1), (2, .ref (ma 0)), (3, .ref (ma 1)), (4, .ref (ma 2)), (5, .ref (ma 3)), (6, .ref (ma 4)), (7, .ref (ma 5)), (8, .ref (ma 6)), (9, .ref (ma 7)), (10, .ref (ma 8)), (11, .ref (ma 9)), (12, .ref (ma 10)), (13, wi t0_301), (14, wi v14_97), (17, wi x17_171)] [] (E_349, C_349, q_349) (fW_law_349 J1788 t0_301 E_349 C_349 q_349)
                          unfold fW_law_349
                          refine r_goto (tgt := 1788) dL_law_349 (by decide) ?_
                          exact hJ1788 t0_301 E_349 C_349 q_349
                        refine r_if_eq (tgt := 349) dL_law_305 (by decide) ?_ ?_
                        · refine r_lo [1, 2, 3, 4, 5, 6, 7, 8, 9, 10, 11, 12, 13, 0, 14, 15] (lo2 := [(0, .ref sb), (1, .ref a1), (2, .ref (ma 0)), (3, .ref (ma 1)), (4, .ref (ma 2)), (5, .ref (ma 3)), (6, .ref (ma 4)), (7, .ref (ma 5)), (8, .ref (ma 6)), (9, .ref (ma 7)), (10, .ref (ma 8)), (11, .ref (ma 9)), (12, .ref (ma 10)), (13, wi t0_301), (14, wi v14_97), (17, wi x17_171)]) rfl ?_
                          exact hJ349 E_301 C_301 q_301
                        · refine r_aload_n (x := ma 1) dL_law_308 rfl rfl ?_
                          refine r_iload (x := t0_189) dL_law_309 rfl ?_
                          refine r_aload_n (x := ma 0) dL_law_311 rfl rfl ?_
                          refine ro_iconst (v := 1) dL_law_312 rfl ?_
                          refine r_wiald3 h (by decide) (by decide) (hm 0 (by decide)) dL_law_313 ?_
                          refine ro_iconst (v := 1) dL_law_314 rfl ?_
                          refine r_iadd dL_law_315 ?_
                          refine r_wiast3 h (by decide) (by decide) (hm 1 (by decide)) dL_law_316 (fun E96 => ?_)
                          refine r_aload_n (x := ma 0) dL_law_317 rfl rfl ?_
                          refine ro_iconst (v := 2) dL_law_318 rfl ?_
                          refine r_dup2 dL_law_319 rfl rfl ?_
                          refine r_wiald3 h (by decide) (by decide) (hm 0 (by decide)) dL_law_320 ?_
                          refine ro_iconst (v := 1) dL_law_321 rfl ?_
                          refine r_iadd dL_law_322 ?_
                          refine r_wiast3 h (by decide) (by decide) (hm 0 (by decide)) dL_law_323 (fun E97 => ?_)
                          refine r_aload_n (x := ma 0) dL_law_324 rfl rfl ?_
                          refine r_aload (x := ma 2) dL_law_325 rfl ?_
                          refine r_aload (x := ma 3) dL_law_327 rfl ?_
                          refine r_aload_n (x := ma 0) dL_law_329 rfl rfl ?_
                          refine ro_iconst (v := 1) dL_law_330 rfl ?_
                          refine r_wiald3 h (by decide) (by decide) (hm 0 (by decide)) dL_law_331 ?_
                          refine r_aload_n (x := ma 0) dL_law_332 rfl rfl ?_
                          refine ro_iconst (v := 2) dL_law_333 rfl ?_
                          refine r_wiald3 h (by decide) (by decide) (hm 0 (by decide)) dL_law_334 ?_
                          refine r_lload (x := r11) dL_law_335 rfl ?_
                          refine r_csi (J := fun (E_ : Rw) => (E_, C_301, q_301)) (k2 := k_L_adds) (n := 6) (rest := []) (fun _ => rfl) htb kv_L_adds (c_L_adds (ad := adq ma q_301) (K0 := C_301) h (adq_hm hm) (E97 0 (ix 1)) (E97 0 (ix 2)) r11 _) (by decide) um_L_194 rfl (Nat.le_of_ble_eq_true rfl) dL_law_337 rfl (fun r98 E99 => ?_)
                          show RunO l Γ (kL T) 16 encI (em3 ma) 340 [(13, wi t0_301), (0, .ref sb), (1, .ref a1), (2, .ref (ma 0)), (3, .ref (ma 1)), (4, .ref (ma 2)), (5, .ref (ma 3)), (6, .ref (ma 4)), (7, .ref (ma 5)), (8, .ref (ma 6)), (9, .ref (ma 7)), (10, .ref (ma 8)), (11, .ref (ma 9)), (12, .ref (ma 10)), (14, wi v14_97), (17, wi x17_171), (18, wi t0_189), (21, vl r11), (24, wi t0_260)] [wi r98] (E99, C_301, q_301) _
                          refine r_istore (lo2 := [(25, wi r98), (13, wi t0_301), (0, .ref sb), (1, .ref a1), (2, .ref (ma 0)), (3, .ref (ma 1)), (4, .ref (ma 2)), (5, .ref (ma 3)), (6, .ref (ma 4)), (7, .ref (ma 5)), (8, .ref (ma 6)), (9, .ref (ma 7)), (10, .ref (ma 8)), (11, .ref (ma 9)), (12, .ref (ma 10)), (14, wi v14_97), (17, wi x17_171), (18, wi t0_189), (21, vl r11), (24, wi t0_260)]) dL_law_340 (by decide) rfl ?_
                          refine r_aload_n (x := ma 0) dL_law_342 rfl rfl ?_
                          refine ro_iconst (v := 1) dL_law_343 rfl ?_
                          refine r_dup2 dL_law_344 rfl rfl ?_
                          refine r_wiald3 h (by decide) (by decide) (hm 0 (by decide)) dL_law_345 ?_
                          refine ro_iconst (v := 1) dL_law_346 rfl ?_
                          refine r_iadd dL_law_347 ?_
                          refine r_wiast3 h (by decide) (by decide) (hm 0 (by decide)) dL_law_348 (fun E100 => ?_)
                          refine r_lo [2, 3, 4, 5, 6, 7, 8, 9, 10, 11, 12, 13, 14, 1, 15, 16] (lo2 := [(0, .ref sb), (1, .ref a1), (2, .ref (ma 0)), (3, .ref (ma 1)), (4, .ref (ma 2)), (5, .ref (ma 3)), (6, .ref (ma 4)), (7, .ref (ma 5)), (8, .ref (ma 6)), (9, .ref (ma 7)), (10, .ref (ma 8)), (11, .ref (ma 9)), (12, .ref (ma 10)), (13, wi t0_301), (14, wi v14_97), (17, wi x17_171)]) rfl ?_
                          exact hJ349 E100 C_301 q_301
                      refine r_join (P := fun (J : Rw → Cd → (Nat → Nat) → Option (Int × S3)) => ∀ (E_300 : Rw) (C_300 : Cd) (q_300 : (Nat → Nat)), RunO l Γ (kL T) 16 encI (em3 ma) 300 [(0, .ref sb), (1, .ref a1), (2, .ref (ma 0)), (3, .ref (ma 1)), (4, .ref (ma 2)), (5, .ref (ma 3)), (6, .ref (ma 4)), (7, .ref (ma 5)), (8, .ref (ma 6)), (9, .ref (ma 7)), (10, .ref (ma 8)), (11, .ref (ma 9)), (12, .ref (ma 10)), (14, wi v14_97), (17, wi x17_171), (18, wi t0_189), (21, vl r11), (24, wi t0_260)] [] (E_300, C_300, q_300) (J E_300 C_300 q_300)) ?_ (fun J300 hJ300 => ?_)
                      · intro E_300 C_300 q_300
                        show RunO l Γ (kL T) 16 encI (em3 ma) 300 [(0, .ref sb), (1, .ref a1), (2, .ref (ma 0)), (3, .ref (ma 1)), (4, .ref (ma 2)), (5, .ref (ma 3)), (6, .ref (ma 4)), (7, .ref (ma 5)), (8, .ref (ma 6)), (9, .ref (ma 7)), (10, .ref (ma 8)), (11, .ref (ma 9)), (12, .ref (ma 10)), (14, wi v14_97), (17, wi x17_171), (18, wi t0_189), (21, vl r11), (24, wi t0_260)] [] (E_300, C_300, q_300) (fW_law_300 J301 E_300 C_300 q_300)
                        unfold fW_law_300
                        refine ro_iconst (v := 0) dL_law_300 rfl ?_
                        exact hJ301 0 E_300 C_300 q_300
                      refine r_if_eq (tgt := 300) dL_law_268 (by decide) ?_ ?_
                      · refine r_lo [1, 2, 3, 4, 5, 6, 7, 8, 9, 10, 11, 12, 13, 14, 15, 16, 17, 0] (lo2 := [(0, .ref sb), (1, .ref a1), (2, .ref (ma 0)), (3, .ref (ma 1)), (4, .ref (ma 2)), (5, .ref (ma 3)), (6, .ref (ma 4)), (7, .ref (ma 5)), (8, .ref (ma 6)), (9, .ref (ma 7)), (10, .ref (ma 8)), (11, .ref (ma 9)), (12, .ref (ma 10)), (14, wi v14_97), (17, wi x17_171), (18, wi t0_189), (21, vl r11), (24, wi t0_260)]) rfl ?_
                        exact hJ300 E_260 C95 q_260
                      · refine r_aload_n (x := a1) dL_law_271 rfl rfl ?_
                        refine ro_iconst (v := 0) dL_law_272 rfl ?_
                        refine r_iload (x := t0_189) dL_law_273 rfl ?_
                        refine ro_iconst (v := 0) dL_law_275 rfl ?_
                        refine ro_iconst (v := 0) dL_law_276 rfl ?_
                        refine r_csHi (J := fun (C_ : Cd) => (E_260, C_, q_260)) (k2 := k_L_does) (n := 5) (rest := []) (fun _ => rfl) kv_L_does (c_L_does hG hX a1 0 t0_189 0 0 _) (by decide) um_L_132 rfl (Nat.le_of_ble_eq_true rfl) dL_law_277 rfl (fun r101 C102 => ?_)
                        show RunO l Γ (kL T) 16 encI (em3 ma) 280 [(24, wi t0_260), (0, .ref sb), (1, .ref a1), (2, .ref (ma 0)), (3, .ref (ma 1)), (4, .ref (ma 2)), (5, .ref (ma 3)), (6, .ref (ma 4)), (7, .ref (ma 5)), (8, .ref (ma 6)), (9, .ref (ma 7)), (10, .ref (ma 8)), (11, .ref (ma 9)), (12, .ref (ma 10)), (14, wi v14_97), (17, wi x17_171), (18, wi t0_189), (21, vl r11)] [wi r101] (E_260, C102, q_260) _
                        refine r_iload (x := t0_260) dL_law_280 rfl ?_
                        refine r_join (P := fun (J : Int → Rw → Cd → (Nat → Nat) → Option (Int × S3)) => ∀ (t0_293 : Int) (E_293 : Rw) (C_293 : Cd) (q_293 : (Nat → Nat)), RunO l Γ (kL T) 16 encI (em3 ma) 293 [(0, .ref sb), (1, .ref a1), (2, .ref (ma 0)), (3, .ref (ma 1)), (4, .ref (ma 2)), (5, .ref (ma 3)), (6, .ref (ma 4)), (7, .ref (ma 5)), (8, .ref (ma 6)), (9, .ref (ma 7)), (10, .ref (ma 8)), (11, .ref (ma 9)), (12, .ref (ma 10)), (14, wi v14_97), (17, wi x17_171), (18, wi t0_189), (21, vl r11), (24, wi t0_260)] [wi t0_293, wi r101] (E_293, C_293, q_293) (J t0_293 E_293 C_293 q_293)) ?_ (fun J293 hJ293 => ?_)
                        · intro t0_293 E_293 C_293 q_293
                          show RunO l Γ (kL T) 16 encI (em3 ma) 293 [(0, .ref sb), (1, .ref a1), (2, .ref (ma 0)), (3, .ref (ma 1)), (4, .ref (ma 2)), (5, .ref (ma 3)), (6, .ref (ma 4)), (7, .ref (ma 5)), (8, .ref (ma 6)), (9, .ref (ma 7)), (10, .ref (ma 8)), (11, .ref (ma 9)), (12, .ref (ma 10)), (14, wi v14_97), (17, wi x17_171), (18, wi t0_189), (21, vl r11), (24, wi t0_260)] [wi t0_293, wi r101] (E_293, C_293, q_293) (fW_law_293 J301 J300 r101 t0_293 E_293 C_293 q_293)
                          unfold fW_law_293
                          refine r_icmp_ne (tgt := 300) dL_law_293 (by decide) ?_ ?_
                          · exact hJ300 E_293 C_293 q_293
                          · refine ro_iconst (v := 1) dL_law_296 rfl ?_
                            refine r_goto (tgt := 301) dL_law_297 (by decide) ?_
                            exact hJ301 1 E_293 C_293 q_293
                        refine r_if_eq (tgt := 291) dL_law_282 (by decide) ?_ ?_
                        · refine r_bipush (v := (-13)) dL_law_291 rfl ?_
                          refine r_lo [1, 2, 3, 4, 5, 6, 7, 8, 9, 10, 11, 12, 13, 14, 15, 16, 17, 0] (lo2 := [(0, .ref sb), (1, .ref a1), (2, .ref (ma 0)), (3, .ref (ma 1)), (4, .ref (ma 2)), (5, .ref (ma 3)), (6, .ref (ma 4)), (7, .ref (ma 5)), (8, .ref (ma 6)), (9, .ref (ma 7)), (10, .ref (ma 8)), (11, .ref (ma 9)), (12, .ref (ma 10)), (14, wi v14_97), (17, wi x17_171), (18, wi t0_189), (21, vl r11), (24, wi t0_260)]) rfl ?_
                          exact hJ293 (-13) E_260 C102 q_260
                        · refine r_aload_n (x := ma 0) dL_law_285 rfl rfl ?_
                          refine ro_iconst (v := 0) dL_law_286 rfl ?_
                          refine r_wiald3 h (by decide) (by decide) (hm 0 (by decide)) dL_law_287 ?_
                          refine r_goto (tgt := 293) dL_law_288 (by decide) ?_
                          refine r_lo [1, 2, 3, 4, 5, 6, 7, 8, 9, 10, 11, 12, 13, 14, 15, 16, 17, 0] (lo2 := [(0, .ref sb), (1, .ref a1), (2, .ref (ma 0)), (3, .ref (ma 1)), (4, .ref (ma 2)), (5, .ref (ma 3)), (6, .ref (ma 4)), (7, .ref (ma 5)), (8, .ref (ma 6)), (9, .ref (ma 7)), (10, .ref (ma 8)), (11, .ref (ma 9)), (12, .ref (ma 10)), (14, wi v14_97), (17, wi x17_171), (18, wi t0_189), (21, vl r11), (24, wi t0_260)]) rfl ?_
                          exact hJ293 (E_260 0 (ix 0)) E_260 C102 q_260
                    refine r_if_ne (tgt := 259) dL_law_252 (by decide) ?_ ?_
                    · refine ro_iconst (v := 0) dL_law_259 rfl ?_
                      refine r_lo [4, 5, 6, 7, 8, 9, 10, 11, 12, 13, 14, 15, 16, 18, 20, 21, 1] (lo2 := [(0, .ref sb), (1, .ref a1), (2, .ref (ma 0)), (3, .ref (ma 1)), (4, .ref (ma 2)), (5, .ref (ma 3)), (6, .ref (ma 4)), (7, .ref (ma 5)), (8, .ref (ma 6)), (9, .ref (ma 7)), (10, .ref (ma 8)), (11, .ref (ma 9)), (12, .ref (ma 10)), (14, wi v14_97), (17, wi x17_171), (18, wi t0_189), (21, vl r11)]) rfl ?_
                      exact hJ260 0 E10 C_203 q_203
                    · refine ro_iconst (v := 1) dL_law_255 rfl ?_
                      refine r_goto (tgt := 260) dL_law_256 (by decide) ?_
                      refine r_lo [4, 5, 6, 7, 8, 9, 10, 11, 12, 13, 14, 15, 16, 18, 20, 21, 1] (lo2 := [(0, .ref sb), (1, .ref a1), (2, .ref (ma 0)), (3, .ref (ma 1)), (4, .ref (ma 2)), (5, .ref (ma 3)), (6, .ref (ma 4)), (7, .ref (ma 5)), (8, .ref (ma 6)), (9, .ref (ma 7)), (10, .ref (ma 8)), (11, .ref (ma 9)), (12, .ref (ma 10)), (14, wi v14_97), (17, wi x17_171), (18, wi t0_189), (21, vl r11)]) rfl ?_
                      exact hJ260 1 E10 C_203 q_203
              refine r_if_le (tgt := 202) dL_law_195 (by decide) ?_ ?_
              · refine ro_iconst (v := 0) dL_law_202 rfl ?_
                refine r_lo [1, 2, 3, 4, 5, 6, 7, 8, 9, 10, 11, 12, 13, 14, 15, 16, 17, 0] (lo2 := [(0, .ref sb), (1, .ref a1), (2, .ref (ma 0)), (3, .ref (ma 1)), (4, .ref (ma 2)), (5, .ref (ma 3)), (6, .ref (ma 4)), (7, .ref (ma 5)), (8, .ref (ma 6)), (9, .ref (ma 7)), (10, .ref (ma 8)), (11, .ref (ma 9)), (12, .ref (ma 10)), (13, wi v13_97), (14, wi v14_97), (16, wi t0_164), (17, wi x17_171), (18, wi t0_189)]) rfl ?_
                exact hJ203 0 E_189 C_189 q_189
              · refine ro_iconst (v := 1) dL_law_198 rfl ?_
                refine r_goto (tgt := 203) dL_law_199 (by decide) ?_
                refine r_lo [1, 2, 3, 4, 5, 6, 7, 8, 9, 10, 11, 12, 13, 14, 15, 16, 17, 0] (lo2 := [(0, .ref sb), (1, .ref a1), (2, .ref (ma 0)), (3, .ref (ma 1)), (4, .ref (ma 2)), (5, .ref (ma 3)), (6, .ref (ma 4)), (7, .ref (ma 5)), (8, .ref (ma 6)), (9, .ref (ma 7)), (10, .ref (ma 8)), (11, .ref (ma 9)), (12, .ref (ma 10)), (13, wi v13_97), (14, wi v14_97), (16, wi t0_164), (17, wi x17_171), (18, wi t0_189)]) rfl ?_
                exact hJ203 1 E_189 C_189 q_189
            refine r_icmp_ge (tgt := 184) dL_law_176 (by decide) ?_ ?_
            · refine r_iload (x := x17_171) dL_law_184 rfl ?_
              refine r_bipush (v := 8) dL_law_186 rfl ?_
              refine r_irem dL_law_188 (by decide) ?_
              refine r_lo [2, 3, 4, 5, 6, 7, 8, 9, 10, 11, 12, 13, 14, 15, 16, 1, 0] (lo2 := [(0, .ref sb), (1, .ref a1), (2, .ref (ma 0)), (3, .ref (ma 1)), (4, .ref (ma 2)), (5, .ref (ma 3)), (6, .ref (ma 4)), (7, .ref (ma 5)), (8, .ref (ma 6)), (9, .ref (ma 7)), (10, .ref (ma 8)), (11, .ref (ma 9)), (12, .ref (ma 10)), (13, wi v13_97), (14, wi v14_97), (16, wi t0_164), (17, wi x17_171)]) rfl ?_
              exact hJ189 (remI x17_171 8) E_164 C_164 q_164
            · refine r_iload (x := v14_97) dL_law_179 rfl ?_
              refine r_goto (tgt := 189) dL_law_181 (by decide) ?_
              refine r_lo [2, 3, 4, 5, 6, 7, 8, 9, 10, 11, 12, 13, 14, 15, 16, 1, 0] (lo2 := [(0, .ref sb), (1, .ref a1), (2, .ref (ma 0)), (3, .ref (ma 1)), (4, .ref (ma 2)), (5, .ref (ma 3)), (6, .ref (ma 4)), (7, .ref (ma 5)), (8, .ref (ma 6)), (9, .ref (ma 7)), (10, .ref (ma 8)), (11, .ref (ma 9)), (12, .ref (ma 10)), (13, wi v13_97), (14, wi v14_97), (16, wi t0_164), (17, wi x17_171)]) rfl ?_
              exact hJ189 v14_97 E_164 C_164 q_164
          refine r_icmp_ge (tgt := 159) dL_law_152 (by decide) ?_ ?_
          · refine r_iload (x := t0_147) dL_law_159 rfl ?_
            refine r_bipush (v := 26) dL_law_161 rfl ?_
            refine r_irem dL_law_163 (by decide) ?_
            refine r_lo [1, 2, 3, 4, 5, 6, 7, 8, 9, 10, 11, 12, 13, 14, 15, 0] (lo2 := [(0, .ref sb), (1, .ref a1), (2, .ref (ma 0)), (3, .ref (ma 1)), (4, .ref (ma 2)), (5, .ref (ma 3)), (6, .ref (ma 4)), (7, .ref (ma 5)), (8, .ref (ma 6)), (9, .ref (ma 7)), (10, .ref (ma 8)), (11, .ref (ma 9)), (12, .ref (ma 10)), (13, wi v13_97), (14, wi v14_97), (15, wi t0_147)]) rfl ?_
            exact hJ164 (remI t0_147 26) E_147 C_147 q_147
          · refine ro_iconst (v := 0) dL_law_155 rfl ?_
            refine r_goto (tgt := 164) dL_law_156 (by decide) ?_
            refine r_lo [1, 2, 3, 4, 5, 6, 7, 8, 9, 10, 11, 12, 13, 14, 15, 0] (lo2 := [(0, .ref sb), (1, .ref a1), (2, .ref (ma 0)), (3, .ref (ma 1)), (4, .ref (ma 2)), (5, .ref (ma 3)), (6, .ref (ma 4)), (7, .ref (ma 5)), (8, .ref (ma 6)), (9, .ref (ma 7)), (10, .ref (ma 8)), (11, .ref (ma 9)), (12, .ref (ma 10)), (13, wi v13_97), (14, wi v14_97), (15, wi t0_147)]) rfl ?_
            exact hJ164 0 E_147 C_147 q_147
        refine r_icmp_ge (tgt := 126) dL_law_113 (by decide) ?_ ?_
        · refine r_ldc (v := 42019) uc_L_185 dL_law_126 ?_
          refine r_iload (x := v14_97) dL_law_128 rfl ?_
          refine r_imul dL_law_130 ?_
          refine r_iload (x := v14_97) dL_law_131 rfl ?_
          refine r_imul dL_law_133 ?_
          refine r_sipush (v := 8017) dL_law_134 rfl ?_
          refine r_iload (x := v14_97) dL_law_137 rfl ?_
          refine r_imul dL_law_139 ?_
          refine r_iadd dL_law_140 ?_
          refine r_bipush (v := 71) dL_law_141 rfl ?_
          refine r_iadd dL_law_143 ?_
          refine r_ldc (v := 2147483647) uc_L_184 dL_law_144 ?_
          refine r_iand dL_law_146 ?_
          exact hJ147 (andI ((((42019 * v14_97) * v14_97) + (8017 * v14_97)) + 71) 2147483647) E_97 C_97 q_97
        · refine r_aload_n (x := sb) dL_law_116 rfl rfl ?_
          refine r_iload (x := v14_97) dL_law_117 rfl ?_
          refine ro_if (fun hx103 => ?_) (fun _ => ro_none)
          refine r_xld hxs hx103 dL_law_119 ?_
          refine r_ldc (v := 2147483647) uc_L_184 dL_law_120 ?_
          refine r_iand dL_law_122 ?_
          refine r_goto (tgt := 147) dL_law_123 (by decide) ?_
          exact hJ147 (andI ((xs (ix v14_97)).toInt) 2147483647) E_97 C_97 q_97
  refine r_lo [2, 3, 4, 5, 6, 7, 8, 9, 10, 11, 12, 13, 14, 1, 0] (lo2 := [(0, .ref sb), (1, .ref a1), (2, .ref (ma 0)), (3, .ref (ma 1)), (4, .ref (ma 2)), (5, .ref (ma 3)), (6, .ref (ma 4)), (7, .ref (ma 5)), (8, .ref (ma 6)), (9, .ref (ma 7)), (10, .ref (ma 8)), (11, .ref (ma 9)), (12, .ref (ma 10)), (13, wi r1), (14, wi 0)]) rfl ?_
  exact hJ97 r1 0 E2 C3 q4
