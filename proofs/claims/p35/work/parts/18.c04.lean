def k_X3_versionAtIndex : Kd := (yX3_versionAtIndex, cX3_versionAtIndex, 2, some (.object "Weaveword$Version"), [])
theorem kv_X3_versionAtIndex : KV k_X3_versionAtIndex 1 := ⟨uw_mem 1025 (by decide +kernel) rfl, uw_mem 111 (by decide +kernel) rfl, uw_mem 1024 (by decide +kernel) rfl, uw_mem 67 (by decide +kernel) rfl, ⟨by decide +kernel, by decide +kernel⟩, by decide +kernel, by decide +kernel⟩
set_option maxHeartbeats 8000000 in
set_option maxRecDepth 100000 in
theorem c_X3_versionAtIndex {l : Launch} {Γ : Cx} {M0 : Md} (hG : GK Γ l) (a0 : Nat) (a1 : Int) (C : Cd) : Ct l Γ k_X3_versionAtIndex 5 encR (emC M0) [.ref a0, wi a1] C (fX3_versionAtIndex a0 a1 C) := by
  refine ct_of (by decide +kernel) rfl (Nat.le_of_ble_eq_true rfl) ?_
  refine r_lo [0, 1] (lo2 := [(0, .ref a0), (1, wi a1)]) rfl ?_
  unfold fX3_versionAtIndex
  refine r_iload_n (x := a1) dX3_versionAtIndex_0 rfl rfl ?_
  refine r_join (P := fun (J : Option Nat → Cd → Option (Option Nat × Cd)) => ∀ (t0_30 : Option Nat) (C_30 : Cd), RunO l Γ k_X3_versionAtIndex 5 encR (emC M0) 30 [] [va_rf t0_30] C_30 (J t0_30 C_30)) ?_ (fun J30 hJ30 => ?_)
  · intro t0_30 C_30
    exact r_aret (x := t0_30) rfl (Or.inl ⟨_, rfl⟩) dX3_versionAtIndex_30
  refine r_join (P := fun (J : Cd → Option (Option Nat × Cd)) => ∀  (C_29 : Cd), RunO l Γ k_X3_versionAtIndex 5 encR (emC M0) 29 [] [] C_29 (J C_29)) ?_ (fun J29 hJ29 => ?_)
  · intro C_29
    refine r_null dX3_versionAtIndex_29 ?_
    exact hJ30 none C_29
  refine r_if_lt (tgt := 29) dX3_versionAtIndex_1 (by decide) ?_ ?_
  · refine r_lo [] (lo2 := []) rfl ?_
    exact hJ29  C
  · refine r_iload_n (x := a1) dX3_versionAtIndex_4 rfl rfl ?_
    refine r_aload_n (x := a0) dX3_versionAtIndex_5 rfl rfl ?_
    refine r_cgetR (c := 6) (kk := 0) hc_X3 rfl (by decide) inU_X3 (by decide) uf_X3_12 rfl (by decide) dX3_versionAtIndex_6 (fun z1 => ?_)
    refine r_dref (fun p2 hp2 => ?_)
    subst hp2
    refine r_ccVi (c := 2) (k2 := k_AL_size) (n := 0) (rest := [wi a1]) um_X3_30 rfl kv_AL_size hc_Jx4a65c (by decide) (c_AL_size hG _ _) (by decide) rfl (Nat.le_of_ble_eq_true rfl) dX3_versionAtIndex_9 rfl (fun r4 C3 => ?_)
    refine r_icmp_ge (tgt := 29) dX3_versionAtIndex_12 (by decide) ?_ ?_
    · refine r_lo [] (lo2 := []) rfl ?_
      exact hJ29  C3
    · refine r_aload_n (x := a0) dX3_versionAtIndex_15 rfl rfl ?_
      refine r_cgetR (c := 6) (kk := 0) hc_X3 rfl (by decide) inU_X3 (by decide) uf_X3_12 rfl (by decide) dX3_versionAtIndex_16 (fun z5 => ?_)
      refine r_iload_n (x := a1) dX3_versionAtIndex_19 rfl rfl ?_
      refine r_dref (fun p6 hp6 => ?_)
      subst hp6
      refine r_ccVr (c := 2) (k2 := k_AL_get) (n := 1) (rest := []) um_X3_34 rfl kv_AL_get hc_Jx4a65c (by decide) (c_AL_get hG _ _ _) (by decide) rfl (Nat.le_of_ble_eq_true rfl) dX3_versionAtIndex_20 rfl (fun r8 C7 => ?_)
      refine r_castq (c := 13) hc_X10 (by decide) uk_X3_38 dX3_versionAtIndex_23 ?_
      refine r_goto (tgt := 30) dX3_versionAtIndex_26 (by decide) ?_
      refine r_lo [] (lo2 := []) rfl ?_
      exact hJ30 r8 C7
def k_X4_take : Kd := (yX4_take, cX4_take, 2, none, [])
theorem kv_X4_take : KV k_X4_take 1 := ⟨uw_mem 726 (by decide +kernel) rfl, uw_mem 97 (by decide +kernel) rfl, uw_mem 725 (by decide +kernel) rfl, uw_mem 48 (by decide +kernel) rfl, ⟨by decide +kernel, by decide +kernel⟩, by decide +kernel, by decide +kernel⟩
set_option maxHeartbeats 8000000 in
set_option maxRecDepth 100000 in
theorem c_X4_take {l : Launch} {Γ : Cx} {M0 : Md} (hG : GK Γ l) (a0 : Nat) (a1 : Option Nat) (C : Cd) : Ct l Γ k_X4_take 3 encV (emC M0) [.ref a0, va_rf a1] C (fX4_take a0 a1 C) := by
  refine ct_of (by decide +kernel) rfl (by cases a1 <;> exact Nat.le_of_ble_eq_true rfl) ?_
  refine r_lo [0, 1] (lo2 := [(0, .ref a0), (1, va_rf a1)]) (by cases a1 <;> rfl) ?_
  unfold fX4_take
  refine r_aload_n (x := a0) dX4_take_0 rfl rfl ?_
  refine r_cgetR (c := 7) (kk := 0) hc_X4 rfl (by decide) inU_X4 (by decide) uf_X4_10 rfl (by decide) dX4_take_1 (fun z1 => ?_)
  refine r_dref (fun p2 hp2 => ?_)
  subst hp2
  refine r_ccVNv (c := 8) (k2 := k_X5_clear) (n := 0) (rest := []) hG um_X4_39 rfl kv_X5_clear hc_X5 (by decide) (c_X5_clear hG _ _) (by decide) rfl (Nat.le_of_ble_eq_true rfl) dX4_take_4 rfl (fun r4 C3 => ?_)
  refine r_aload_n (x := a0) dX4_take_7 rfl rfl ?_
  refine r_cgetR (c := 7) (kk := 0) hc_X4 rfl (by decide) inU_X4 (by decide) uf_X4_10 rfl (by decide) dX4_take_8 (fun z5 => ?_)
  refine r_aloadq_n (x := a1) dX4_take_11 rfl rfl ?_
  refine r_dref (fun p6 hp6 => ?_)
  subst hp6
  refine r_cgetR (c := 7) (kk := 0) hc_X4 rfl (by decide) inU_X4 (by decide) uf_X4_10 rfl (by decide) dX4_take_12 (fun z7 => ?_)
  refine r_dref (fun p8 hp8 => ?_)
  subst hp8
  refine r_ccVNv (c := 8) (k2 := k_X5_addAll) (n := 1) (rest := []) hG um_X4_42 rfl kv_X5_addAll hc_X5 (by decide) (c_X5_addAll hG _ _ _) (by decide) rfl (Nat.le_of_ble_eq_true rfl) dX4_take_15 rfl (fun r10 C9 => ?_)
  refine r_aload_n (x := a0) dX4_take_18 rfl rfl ?_
  refine ro_iconst (v := 1) dX4_take_19 rfl ?_
  refine r_cputI (c := 7) (kk := 1) hc_X4 rfl (by decide) inU_X4 (by decide) uf_X4_16 rfl tyX4 tyX4_ok nmX4 (fty := .boolean) (by decide) rfl rfl rfl rfl dX4_take_20 (fun C11 _ _ => ?_)
  refine r_aload_n (x := a0) dX4_take_23 rfl rfl ?_
  refine ro_iconst (v := 0) dX4_take_24 rfl ?_
  refine r_cputI (c := 7) (kk := 2) hc_X4 rfl (by decide) inU_X4 (by decide) uf_X4_20 rfl tyX4 tyX4_ok nmX4 (fty := .boolean) (by decide) rfl rfl rfl rfl dX4_take_25 (fun C12 _ _ => ?_)
  refine r_aload_n (x := a0) dX4_take_28 rfl rfl ?_
  refine r_aload_n (x := p6) dX4_take_29 rfl rfl ?_
  refine r_cgetI (c := 7) (kk := 3) hc_X4 rfl (by decide) inU_X4 (by decide) uf_X4_23 rfl (by decide) dX4_take_30 ?_
  refine r_cputI (c := 7) (kk := 3) hc_X4 rfl (by decide) inU_X4 (by decide) uf_X4_23 rfl tyX4 tyX4_ok nmX4 (fty := .int) (by decide) rfl rfl rfl rfl dX4_take_33 (fun C13 _ _ => ?_)
  refine r_aload_n (x := a0) dX4_take_36 rfl rfl ?_
  refine r_aload_n (x := p6) dX4_take_37 rfl rfl ?_
  refine r_cgetI (c := 7) (kk := 4) hc_X4 rfl (by decide) inU_X4 (by decide) uf_X4_27 rfl (by decide) dX4_take_38 ?_
  refine r_cputI (c := 7) (kk := 4) hc_X4 rfl (by decide) inU_X4 (by decide) uf_X4_27 rfl tyX4 tyX4_ok nmX4 (fty := .int) (by decide) rfl rfl rfl rfl dX4_take_41 (fun C14 _ _ => ?_)
  refine r_aload_n (x := a0) dX4_take_44 rfl rfl ?_
  refine r_aload_n (x := p6) dX4_take_45 rfl rfl ?_
  refine r_cgetI (c := 7) (kk := 5) hc_X4 rfl (by decide) inU_X4 (by decide) uf_X4_30 rfl (by decide) dX4_take_46 ?_
  refine r_cputI (c := 7) (kk := 5) hc_X4 rfl (by decide) inU_X4 (by decide) uf_X4_30 rfl tyX4 tyX4_ok nmX4 (fty := .int) (by decide) rfl rfl rfl rfl dX4_take_49 (fun C15 _ _ => ?_)
  refine r_aload_n (x := a0) dX4_take_52 rfl rfl ?_
  refine r_aload_n (x := p6) dX4_take_53 rfl rfl ?_
  refine r_cgetI (c := 7) (kk := 6) hc_X4 rfl (by decide) inU_X4 (by decide) uf_X4_33 rfl (by decide) dX4_take_54 ?_
  refine r_cputI (c := 7) (kk := 6) hc_X4 rfl (by decide) inU_X4 (by decide) uf_X4_33 rfl tyX4 tyX4_ok nmX4 (fty := .int) (by decide) rfl rfl rfl rfl dX4_take_57 (fun C16 _ _ => ?_)
  refine r_aload_n (x := a0) dX4_take_60 rfl rfl ?_
  refine r_aload_n (x := p6) dX4_take_61 rfl rfl ?_
  refine r_cgetI (c := 7) (kk := 7) hc_X4 rfl (by decide) inU_X4 (by decide) uf_X4_36 rfl (by decide) dX4_take_62 ?_
  refine r_cputI (c := 7) (kk := 7) hc_X4 rfl (by decide) inU_X4 (by decide) uf_X4_36 rfl tyX4 tyX4_ok nmX4 (fty := .int) (by decide) rfl rfl rfl rfl dX4_take_65 (fun C17 _ _ => ?_)
  exact r_vret rfl dX4_take_68
def k_X8_add : Kd := (yX8_add, cX8_add, 2, none, [])
theorem kv_X8_add : KV k_X8_add 1 := ⟨uw_mem 848 (by decide +kernel) rfl, uw_mem 102 (by decide +kernel) rfl, uw_mem 847 (by decide +kernel) rfl, uw_mem 58 (by decide +kernel) rfl, ⟨by decide +kernel, by decide +kernel⟩, by decide +kernel, by decide +kernel⟩
set_option maxHeartbeats 8000000 in
set_option maxRecDepth 100000 in
theorem c_X8_add {l : Launch} {Γ : Cx} {M0 : Md} (hG : GK Γ l) (a0 : Nat) (a1 : Int) (C : Cd) : Ct l Γ k_X8_add 1 encV (emC M0) [.ref a0, wi a1] C (fX8_add a0 a1 C) := by
  refine ct_of (by decide +kernel) rfl (Nat.le_of_ble_eq_true rfl) ?_
  refine r_lo [0, 1] (lo2 := [(0, .ref a0), (1, wi a1)]) rfl ?_
  unfold fX8_add
  refine r_aload_n (x := a0) dX8_add_0 rfl rfl ?_
  refine r_cgetI (c := 11) (kk := 2) hc_X8 rfl (by decide) inU_X8 (by decide) uf_X8_9 rfl (by decide) dX8_add_1 ?_
  refine r_aload_n (x := a0) dX8_add_4 rfl rfl ?_
  refine r_cgetR (c := 11) (kk := 0) hc_X8 rfl (by decide) inU_X8 (by decide) uf_X8_15 rfl (by decide) dX8_add_5 (fun z1 => ?_)
  refine r_dref (fun p2 hp2 => ?_)
  subst hp2
  refine r_calen (t := 100) rfl (by decide) dX8_add_8 ?_
  refine r_join (P := fun (J : Cd → Option (Unit × Cd)) => ∀  (C_32 : Cd), RunO l Γ k_X8_add 1 encV (emC M0) 32 [] [] C_32 (J C_32)) ?_ (fun J32 hJ32 => ?_)
  · intro C_32
    exact r_vret rfl dX8_add_32
  refine r_icmp_ge (tgt := 32) dX8_add_9 (by decide) ?_ ?_
  · refine r_lo [] (lo2 := []) rfl ?_
    exact hJ32  C
  · refine r_aload_n (x := a0) dX8_add_12 rfl rfl ?_
    refine r_cgetR (c := 11) (kk := 0) hc_X8 rfl (by decide) inU_X8 (by decide) uf_X8_15 rfl (by decide) dX8_add_13 (fun z3 => ?_)
    refine r_aload_n (x := a0) dX8_add_16 rfl rfl ?_
    refine r_cgetI (c := 11) (kk := 2) hc_X8 rfl (by decide) inU_X8 (by decide) uf_X8_9 rfl (by decide) dX8_add_17 ?_
    refine r_iload_n (x := a1) dX8_add_20 rfl rfl ?_
    refine r_dref (fun p4 hp4 => ?_)
    subst hp4
    refine r_ciast dX8_add_21 (fun C5 _ _ => ?_)
    refine r_aload_n (x := a0) dX8_add_22 rfl rfl ?_
    refine r_dup dX8_add_23 rfl ?_
    refine r_cgetI (c := 11) (kk := 2) hc_X8 rfl (by decide) inU_X8 (by decide) uf_X8_9 rfl (by decide) dX8_add_24 ?_
    refine ro_iconst (v := 1) dX8_add_27 rfl ?_
    refine r_iadd dX8_add_28 ?_
    refine r_cputI (c := 11) (kk := 2) hc_X8 rfl (by decide) inU_X8 (by decide) uf_X8_9 rfl tyX8 tyX8_ok nmX8 (fty := .int) (by decide) rfl rfl rfl rfl dX8_add_29 (fun C6 _ _ => ?_)
    refine r_lo [] (lo2 := []) rfl ?_
    exact hJ32  C6
def k_X8_sectionStart : Kd := (yX8_sectionStart, cX8_sectionStart, 4, some .int, [])
theorem kv_X8_sectionStart : KV k_X8_sectionStart 1 := ⟨uw_mem 1039 (by decide +kernel) rfl, uw_mem 102 (by decide +kernel) rfl, uw_mem 1038 (by decide +kernel) rfl, uw_mem 70 (by decide +kernel) rfl, ⟨by decide +kernel, by decide +kernel⟩, by decide +kernel, by decide +kernel⟩
set_option maxHeartbeats 8000000 in
set_option maxRecDepth 100000 in
theorem c_X8_sectionStart {l : Launch} {Γ : Cx} {M0 : Md} (hG : GK Γ l) (a0 : Nat) (a1 : Int) (C : Cd) : Ct l Γ k_X8_sectionStart 2 encI (emC M0) [.ref a0, wi a1] C (fX8_sectionStart a0 a1 C) := by
  refine ct_of (by decide +kernel) rfl (Nat.le_of_ble_eq_true rfl) ?_
  refine r_lo [0, 1] (lo2 := [(0, .ref a0), (1, wi a1)]) rfl ?_
  unfold fX8_sectionStart
  refine r_iload_n (x := a1) dX8_sectionStart_0 rfl rfl ?_
  refine r_if_gt (tgt := 6) dX8_sectionStart_1 (by decide) ?_ ?_
  · refine ro_iconst (v := 0) dX8_sectionStart_6 rfl ?_
    refine r_istore_n (lo2 := [(2, wi 0), (0, .ref a0), (1, wi a1)]) dX8_sectionStart_7 rfl (by decide) rfl ?_
    refine ro_iconst (v := 0) dX8_sectionStart_8 rfl ?_
    refine r_istore_n (lo2 := [(3, wi 0), (2, wi 0), (0, .ref a0), (1, wi a1)]) dX8_sectionStart_9 rfl (by decide) rfl ?_
    refine r_loop (P := fun (J : Int → Int → Cd → Option (Int × Cd)) => ∀ (v2_10 : Int) (v3_10 : Int) (C_10 : Cd), RunO l Γ k_X8_sectionStart 2 encI (emC M0) 10 [(0, .ref a0), (1, wi a1), (2, wi v2_10), (3, wi v3_10)] [] C_10 (J v2_10 v3_10 C_10)) ?_ (fun L10 hL10 => ?_) (fun J10 hJ10 => ?_)
    · intros; exact ro_none
    · intro v2_10 v3_10 C_10
      refine r_iload_n (x := v3_10) dX8_sectionStart_10 rfl rfl ?_
      refine r_aload_n (x := a0) dX8_sectionStart_11 rfl rfl ?_
      refine r_cgetI (c := 11) (kk := 2) hc_X8 rfl (by decide) inU_X8 (by decide) uf_X8_9 rfl (by decide) dX8_sectionStart_12 ?_
      refine r_icmp_ge (tgt := 44) dX8_sectionStart_15 (by decide) ?_ ?_
      · refine r_aload_n (x := a0) dX8_sectionStart_44 rfl rfl ?_
        refine r_cgetI (c := 11) (kk := 2) hc_X8 rfl (by decide) inU_X8 (by decide) uf_X8_9 rfl (by decide) dX8_sectionStart_45 ?_
        exact r_iret rfl dX8_sectionStart_48
      · refine r_aload_n (x := a0) dX8_sectionStart_18 rfl rfl ?_
        refine r_iload_n (x := v3_10) dX8_sectionStart_19 rfl rfl ?_
        refine r_ccVi (c := 11) (k2 := k_X8_kindAt) (n := 1) (rest := []) um_X8_22 rfl kv_X8_kindAt hc_X8 (by decide) (c_X8_kindAt hG _ _ _) (by decide) rfl (Nat.le_of_ble_eq_true rfl) dX8_sectionStart_20 rfl (fun r2 C1 => ?_)
        refine r_bipush (v := 13) dX8_sectionStart_23 rfl ?_
        refine r_join (P := fun (J : Int → Cd → Option (Int × Cd)) => ∀ (v2_38 : Int) (C_38 : Cd), RunO l Γ k_X8_sectionStart 2 encI (emC M0) 38 [(0, .ref a0), (1, wi a1), (2, wi v2_38), (3, wi v3_10)] [] C_38 (J v2_38 C_38)) ?_ (fun J38 hJ38 => ?_)
        · intro v2_38 C_38
          refine r_iinc (x := v3_10) (lo2 := [(3, wi (v3_10 + 1)), (0, .ref a0), (1, wi a1), (2, wi v2_38)]) dX8_sectionStart_38 rfl (by decide) rfl ?_
          refine r_goto (tgt := 10) dX8_sectionStart_41 (by decide) ?_
          refine r_lo [1, 2, 3, 0] (lo2 := [(0, .ref a0), (1, wi a1), (2, wi v2_38), (3, wi (v3_10 + 1))]) rfl ?_
          exact hL10 v2_38 (v3_10 + 1) C_38
        refine r_icmp_ne (tgt := 38) dX8_sectionStart_25 (by decide) ?_ ?_
        · exact hJ38 v2_10 C1
        · refine r_iinc (x := v2_10) (lo2 := [(2, wi (v2_10 + 1)), (0, .ref a0), (1, wi a1), (3, wi v3_10)]) dX8_sectionStart_28 rfl (by decide) rfl ?_
          refine r_iload_n (x := v2_10 + 1) dX8_sectionStart_31 rfl rfl ?_
          refine r_iload_n (x := a1) dX8_sectionStart_32 rfl rfl ?_
          refine r_icmp_ne (tgt := 38) dX8_sectionStart_33 (by decide) ?_ ?_
          · refine r_lo [1, 2, 0, 3] (lo2 := [(0, .ref a0), (1, wi a1), (2, wi (v2_10 + 1)), (3, wi v3_10)]) rfl ?_
            exact hJ38 (v2_10 + 1) C1
          · refine r_iload_n (x := v3_10) dX8_sectionStart_36 rfl rfl ?_
            exact r_iret rfl dX8_sectionStart_37
    refine r_lo [2, 3, 1, 0] (lo2 := [(0, .ref a0), (1, wi a1), (2, wi 0), (3, wi 0)]) rfl ?_
    exact hJ10 0 0 C
  · refine ro_iconst (v := 0) dX8_sectionStart_4 rfl ?_
    exact r_iret rfl dX8_sectionStart_5
def k_X8_codeAt : Kd := (yX8_codeAt, cX8_codeAt, 2, some .int, [])
theorem kv_X8_codeAt : KV k_X8_codeAt 1 := ⟨uw_mem 844 (by decide +kernel) rfl, uw_mem 102 (by decide +kernel) rfl, uw_mem 843 (by decide +kernel) rfl, uw_mem 57 (by decide +kernel) rfl, ⟨by decide +kernel, by decide +kernel⟩, by decide +kernel, by decide +kernel⟩
set_option maxHeartbeats 8000000 in
set_option maxRecDepth 100000 in
theorem c_X8_codeAt {l : Launch} {Γ : Cx} {M0 : Md} (hG : GK Γ l) (a0 : Nat) (a1 : Int) (C : Cd) : Ct l Γ k_X8_codeAt 1 encI (emC M0) [.ref a0, wi a1] C (fX8_codeAt a0 a1 C) := by
  refine ct_of (by decide +kernel) rfl (Nat.le_of_ble_eq_true rfl) ?_
  refine r_lo [0, 1] (lo2 := [(0, .ref a0), (1, wi a1)]) rfl ?_
  unfold fX8_codeAt
  refine r_iload_n (x := a1) dX8_codeAt_0 rfl rfl ?_
  refine r_join (P := fun (J : Int → Cd → Option (Int × Cd)) => ∀ (t0_22 : Int) (C_22 : Cd), RunO l Γ k_X8_codeAt 1 encI (emC M0) 22 [] [wi t0_22] C_22 (J t0_22 C_22)) ?_ (fun J22 hJ22 => ?_)
  · intro t0_22 C_22
    exact r_iret rfl dX8_codeAt_22
  refine r_join (P := fun (J : Cd → Option (Int × Cd)) => ∀  (C_21 : Cd), RunO l Γ k_X8_codeAt 1 encI (emC M0) 21 [] [] C_21 (J C_21)) ?_ (fun J21 hJ21 => ?_)
  · intro C_21
    refine ro_iconst (v := (-1)) dX8_codeAt_21 rfl ?_
    exact hJ22 (-1) C_21
  refine r_if_lt (tgt := 21) dX8_codeAt_1 (by decide) ?_ ?_
  · refine r_lo [] (lo2 := []) rfl ?_
    exact hJ21  C
  · refine r_iload_n (x := a1) dX8_codeAt_4 rfl rfl ?_
    refine r_aload_n (x := a0) dX8_codeAt_5 rfl rfl ?_
    refine r_cgetI (c := 11) (kk := 2) hc_X8 rfl (by decide) inU_X8 (by decide) uf_X8_9 rfl (by decide) dX8_codeAt_6 ?_
    refine r_icmp_ge (tgt := 21) dX8_codeAt_9 (by decide) ?_ ?_
    · refine r_lo [] (lo2 := []) rfl ?_
      exact hJ21  C
    · refine r_aload_n (x := a0) dX8_codeAt_12 rfl rfl ?_
      refine r_cgetR (c := 11) (kk := 0) hc_X8 rfl (by decide) inU_X8 (by decide) uf_X8_15 rfl (by decide) dX8_codeAt_13 (fun z1 => ?_)
      refine r_iload_n (x := a1) dX8_codeAt_16 rfl rfl ?_
      refine r_dref (fun p2 hp2 => ?_)
      subst hp2
      refine r_ciald dX8_codeAt_17 ?_
      refine r_goto (tgt := 22) dX8_codeAt_18 (by decide) ?_
      refine r_lo [] (lo2 := []) rfl ?_
      exact hJ22 (cE C p2 (ix a1)) C
def k_X8_addStretch : Kd := (yX8_addStretch, cX8_addStretch, 5, none, [])
theorem kv_X8_addStretch : KV k_X8_addStretch 3 := ⟨uw_mem 840 (by decide +kernel) rfl, uw_mem 102 (by decide +kernel) rfl, uw_mem 839 (by decide +kernel) rfl, uw_mem 56 (by decide +kernel) rfl, ⟨by decide +kernel, by decide +kernel⟩, by decide +kernel, by decide +kernel⟩
set_option maxHeartbeats 8000000 in
set_option maxRecDepth 100000 in
theorem c_X8_addStretch {l : Launch} {Γ : Cx} {M0 : Md} (hG : GK Γ l) (a0 : Nat) (a1 : Option Nat) (a2 : Int) (a3 : Int) (C : Cd) : Ct l Γ k_X8_addStretch 2 encV (emC M0) [.ref a0, va_rf a1, wi a2, wi a3] C (fX8_addStretch a0 a1 a2 a3 C) := by
  refine ct_of (by decide +kernel) rfl (by cases a1 <;> exact Nat.le_of_ble_eq_true rfl) ?_
  refine r_lo [0, 1, 2, 3] (lo2 := [(0, .ref a0), (1, va_rf a1), (2, wi a2), (3, wi a3)]) (by cases a1 <;> rfl) ?_
  unfold fX8_addStretch
  refine r_iload_n (x := a2) dX8_addStretch_0 rfl rfl ?_
  refine r_istore (lo2 := [(4, wi a2), (0, .ref a0), (1, va_rf a1), (2, wi a2), (3, wi a3)]) dX8_addStretch_1 (by decide) rfl ?_
  refine r_loop (P := fun (J : Int → Cd → Option (Unit × Cd)) => ∀ (v4_3 : Int) (C_3 : Cd), RunO l Γ k_X8_addStretch 2 encV (emC M0) 3 [(0, .ref a0), (1, va_rf a1), (3, wi a3), (4, wi v4_3)] [] C_3 (J v4_3 C_3)) ?_ (fun L3 hL3 => ?_) (fun J3 hJ3 => ?_)
  · intros; exact ro_none
  · intro v4_3 C_3
    refine r_iload (x := v4_3) dX8_addStretch_3 rfl ?_
    refine r_iload_n (x := a3) dX8_addStretch_5 rfl rfl ?_
    refine r_icmp_ge (tgt := 25) dX8_addStretch_6 (by decide) ?_ ?_
    · exact r_vret rfl dX8_addStretch_25
    · refine r_aload_n (x := a0) dX8_addStretch_9 rfl rfl ?_
      refine r_aloadq_n (x := a1) dX8_addStretch_10 rfl rfl ?_
      refine r_iload (x := v4_3) dX8_addStretch_11 rfl ?_
      refine r_dref (fun p1 hp1 => ?_)
      subst hp1
      refine r_ccVi (c := 11) (k2 := k_X8_codeAt) (n := 1) (rest := [.ref a0]) um_X8_26 rfl kv_X8_codeAt hc_X8 (by decide) (c_X8_codeAt hG _ _ _) (by decide) rfl (Nat.le_of_ble_eq_true rfl) dX8_addStretch_13 rfl (fun r3 C2 => ?_)
      refine r_ccVv (c := 11) (k2 := k_X8_add) (n := 1) (rest := []) um_X8_29 rfl kv_X8_add hc_X8 (by decide) (c_X8_add hG _ _ _) (by decide) rfl (Nat.le_of_ble_eq_true rfl) dX8_addStretch_16 rfl (fun r5 C4 => ?_)
      refine r_iinc (x := v4_3) (lo2 := [(4, wi (v4_3 + 1)), (0, .ref a0), (1, .ref p1), (3, wi a3)]) dX8_addStretch_19 rfl (by decide) rfl ?_
      refine r_goto (tgt := 3) dX8_addStretch_22 (by decide) ?_
      refine r_lo [1, 2, 3, 0] (lo2 := [(0, .ref a0), (1, .ref p1), (3, wi a3), (4, wi (v4_3 + 1))]) rfl ?_
      exact hL3 (v4_3 + 1) C4
  refine r_lo [1, 2, 4, 0] (lo2 := [(0, .ref a0), (1, va_rf a1), (3, wi a3), (4, wi a2)]) rfl ?_
  exact hJ3 a2 C
def k_X8_addSection : Kd := (yX8_addSection, cX8_addSection, 3, none, [])
theorem kv_X8_addSection : KV k_X8_addSection 2 := ⟨uw_mem 1052 (by decide +kernel) rfl, uw_mem 102 (by decide +kernel) rfl, uw_mem 1051 (by decide +kernel) rfl, uw_mem 73 (by decide +kernel) rfl, ⟨by decide +kernel, by decide +kernel⟩, by decide +kernel, by decide +kernel⟩
set_option maxHeartbeats 8000000 in
set_option maxRecDepth 100000 in
theorem c_X8_addSection {l : Launch} {Γ : Cx} {M0 : Md} (hG : GK Γ l) (a0 : Nat) (a1 : Option Nat) (a2 : Int) (C : Cd) : Ct l Γ k_X8_addSection 3 encV (emC M0) [.ref a0, va_rf a1, wi a2] C (fX8_addSection a0 a1 a2 C) := by
  refine ct_of (by decide +kernel) rfl (by cases a1 <;> exact Nat.le_of_ble_eq_true rfl) ?_
  refine r_lo [0, 1, 2] (lo2 := [(0, .ref a0), (1, va_rf a1), (2, wi a2)]) (by cases a1 <;> rfl) ?_
  unfold fX8_addSection
  refine r_aload_n (x := a0) dX8_addSection_0 rfl rfl ?_
  refine r_aloadq_n (x := a1) dX8_addSection_1 rfl rfl ?_
  refine r_aloadq_n (x := a1) dX8_addSection_2 rfl rfl ?_
  refine r_iload_n (x := a2) dX8_addSection_3 rfl rfl ?_
  refine r_dref (fun p1 hp1 => ?_)
  subst hp1
  refine r_ccVi (c := 11) (k2 := k_X8_sectionStart) (n := 1) (rest := [.ref p1, .ref a0]) um_X8_33 rfl kv_X8_sectionStart hc_X8 (by decide) (c_X8_sectionStart hG _ _ _) (by decide) rfl (Nat.le_of_ble_eq_true rfl) dX8_addSection_4 rfl (fun r3 C2 => ?_)
  refine r_aload_n (x := p1) dX8_addSection_7 rfl rfl ?_
  refine r_iload_n (x := a2) dX8_addSection_8 rfl rfl ?_
  refine ro_iconst (v := 1) dX8_addSection_9 rfl ?_
  refine r_iadd dX8_addSection_10 ?_
  refine r_ccVi (c := 11) (k2 := k_X8_sectionStart) (n := 1) (rest := [wi r3, .ref p1, .ref a0]) um_X8_33 rfl kv_X8_sectionStart hc_X8 (by decide) (c_X8_sectionStart hG _ _ _) (by decide) rfl (Nat.le_of_ble_eq_true rfl) dX8_addSection_11 rfl (fun r5 C4 => ?_)
  refine r_ccVv (c := 11) (k2 := k_X8_addStretch) (n := 3) (rest := []) um_X8_36 rfl kv_X8_addStretch hc_X8 (by decide) (c_X8_addStretch hG _ _ _ _ _) (by decide) rfl (Nat.le_of_ble_eq_true rfl) dX8_addSection_14 rfl (fun r7 C6 => ?_)
  exact r_vret rfl dX8_addSection_17
def k_X8_clear : Kd := (yX8_clear, cX8_clear, 1, none, [])
theorem kv_X8_clear : KV k_X8_clear 0 := ⟨uw_mem 989 (by decide +kernel) rfl, uw_mem 102 (by decide +kernel) rfl, uw_mem 988 (by decide +kernel) rfl, uw_mem 64 (by decide +kernel) rfl, ⟨by decide +kernel, by decide +kernel⟩, by decide +kernel, by decide +kernel⟩
set_option maxHeartbeats 8000000 in
set_option maxRecDepth 100000 in
theorem c_X8_clear {l : Launch} {Γ : Cx} {M0 : Md} (hG : GK Γ l) (a0 : Nat) (C : Cd) : Ct l Γ k_X8_clear 1 encV (emC M0) [.ref a0] C (fX8_clear a0 C) := by
  refine ct_of (by decide +kernel) rfl (Nat.le_of_ble_eq_true rfl) ?_
  refine r_lo [0] (lo2 := [(0, .ref a0)]) rfl ?_
  unfold fX8_clear
  refine r_aload_n (x := a0) dX8_clear_0 rfl rfl ?_
  refine ro_iconst (v := 0) dX8_clear_1 rfl ?_
  refine r_cputI (c := 11) (kk := 2) hc_X8 rfl (by decide) inU_X8 (by decide) uf_X8_9 rfl tyX8 tyX8_ok nmX8 (fty := .int) (by decide) rfl rfl rfl rfl dX8_clear_2 (fun C1 _ _ => ?_)
  exact r_vret rfl dX8_clear_5
def k_X8_opens : Kd := (yX8_opens, cX8_opens, 1, some .boolean, [])
theorem kv_X8_opens : KS k_X8_opens 1 := ⟨uw_mem 800 (by decide +kernel) rfl, uw_mem 102 (by decide +kernel) rfl, uw_mem 799 (by decide +kernel) rfl, ⟨by decide +kernel, by decide +kernel⟩, by decide +kernel, by decide +kernel⟩
set_option maxHeartbeats 8000000 in
set_option maxRecDepth 100000 in
theorem c_X8_opens {l : Launch} {Γ : Cx} {M0 : Md} (hG : GK Γ l) (a0 : Int) (C : Cd) : Ct l Γ k_X8_opens 1 encI (emC M0) [wi a0] C (fX8_opens a0 C) := by
  refine ct_of (by decide +kernel) rfl (Nat.le_of_ble_eq_true rfl) ?_
  refine r_lo [0] (lo2 := [(0, wi a0)]) rfl ?_
  unfold fX8_opens
  refine r_iload_n (x := a0) dX8_opens_0 rfl rfl ?_
  refine ro_iconst (v := 2) dX8_opens_1 rfl ?_
  refine r_join (P := fun (J : Int → Cd → Option (Int × Cd)) => ∀ (t0_38 : Int) (C_38 : Cd), RunO l Γ k_X8_opens 1 encI (emC M0) 38 [] [wi t0_38] C_38 (J t0_38 C_38)) ?_ (fun J38 hJ38 => ?_)
  · intro t0_38 C_38
    exact r_zret rfl dX8_opens_38
  refine r_join (P := fun (J : Cd → Option (Int × Cd)) => ∀  (C_33 : Cd), RunO l Γ k_X8_opens 1 encI (emC M0) 33 [] [] C_33 (J C_33)) ?_ (fun J33 hJ33 => ?_)
  · intro C_33
    refine ro_iconst (v := 1) dX8_opens_33 rfl ?_
    refine r_goto (tgt := 38) dX8_opens_34 (by decide) ?_
    exact hJ38 1 C_33
  refine r_icmp_eq (tgt := 33) dX8_opens_2 (by decide) ?_ ?_
  · refine r_lo [] (lo2 := []) rfl ?_
    exact hJ33  C
  · refine r_iload_n (x := a0) dX8_opens_5 rfl rfl ?_
    refine ro_iconst (v := 3) dX8_opens_6 rfl ?_
    refine r_icmp_eq (tgt := 33) dX8_opens_7 (by decide) ?_ ?_
    · refine r_lo [] (lo2 := []) rfl ?_
      exact hJ33  C
    · refine r_iload_n (x := a0) dX8_opens_10 rfl rfl ?_
      refine ro_iconst (v := 4) dX8_opens_11 rfl ?_
      refine r_icmp_eq (tgt := 33) dX8_opens_12 (by decide) ?_ ?_
      · refine r_lo [] (lo2 := []) rfl ?_
        exact hJ33  C
      · refine r_iload_n (x := a0) dX8_opens_15 rfl rfl ?_
        refine r_bipush (v := 8) dX8_opens_16 rfl ?_
        refine r_icmp_eq (tgt := 33) dX8_opens_18 (by decide) ?_ ?_
        · refine r_lo [] (lo2 := []) rfl ?_
          exact hJ33  C
        · refine r_iload_n (x := a0) dX8_opens_21 rfl rfl ?_
          refine r_bipush (v := 9) dX8_opens_22 rfl ?_
          refine r_icmp_eq (tgt := 33) dX8_opens_24 (by decide) ?_ ?_
          · refine r_lo [] (lo2 := []) rfl ?_
            exact hJ33  C
          · refine r_iload_n (x := a0) dX8_opens_27 rfl rfl ?_
            refine r_bipush (v := 10) dX8_opens_28 rfl ?_
            refine r_icmp_ne (tgt := 37) dX8_opens_30 (by decide) ?_ ?_
            · refine ro_iconst (v := 0) dX8_opens_37 rfl ?_
              refine r_lo [] (lo2 := []) rfl ?_
              exact hJ38 0 C
            · refine r_lo [] (lo2 := []) rfl ?_
              exact hJ33  C
def k_X8_findEnd : Kd := (yX8_findEnd, cX8_findEnd, 6, some .int, [])
theorem kv_X8_findEnd : KV k_X8_findEnd 1 := ⟨uw_mem 852 (by decide +kernel) rfl, uw_mem 102 (by decide +kernel) rfl, uw_mem 851 (by decide +kernel) rfl, uw_mem 59 (by decide +kernel) rfl, ⟨by decide +kernel, by decide +kernel⟩, by decide +kernel, by decide +kernel⟩
set_option maxHeartbeats 8000000 in
set_option maxRecDepth 100000 in
theorem c_X8_findEnd {l : Launch} {Γ : Cx} {M0 : Md} (hG : GK Γ l) (a0 : Nat) (a1 : Int) (C : Cd) : Ct l Γ k_X8_findEnd 3 encI (emC M0) [.ref a0, wi a1] C (fX8_findEnd a0 a1 C) := by
  refine ct_of (by decide +kernel) rfl (Nat.le_of_ble_eq_true rfl) ?_
  refine r_lo [0, 1] (lo2 := [(0, .ref a0), (1, wi a1)]) rfl ?_
  unfold fX8_findEnd
  refine r_aload_n (x := a0) dX8_findEnd_0 rfl rfl ?_
  refine r_iload_n (x := a1) dX8_findEnd_1 rfl rfl ?_
  refine r_ccVi (c := 11) (k2 := k_X8_startsPart) (n := 1) (rest := []) um_X8_53 rfl kv_X8_startsPart hc_X8 (by decide) (c_X8_startsPart hG _ _ _) (by decide) rfl (Nat.le_of_ble_eq_true rfl) dX8_findEnd_2 rfl (fun r2 C1 => ?_)
  refine r_istore_n (lo2 := [(2, wi r2), (0, .ref a0), (1, wi a1)]) dX8_findEnd_5 rfl (by decide) rfl ?_
  refine ro_iconst (v := 0) dX8_findEnd_6 rfl ?_
  refine r_istore_n (lo2 := [(3, wi 0), (2, wi r2), (0, .ref a0), (1, wi a1)]) dX8_findEnd_7 rfl (by decide) rfl ?_
  refine r_iload_n (x := a1) dX8_findEnd_8 rfl rfl ?_
  refine ro_iconst (v := 1) dX8_findEnd_9 rfl ?_
  refine r_iadd dX8_findEnd_10 ?_
  refine r_nm (fun x4_11 => ?_)
  refine r_istore (lo2 := [(4, wi x4_11), (3, wi 0), (2, wi r2), (0, .ref a0), (1, wi a1)]) dX8_findEnd_11 (by decide) rfl ?_
  refine r_loop (P := fun (J : Int → Int → Cd → Option (Int × Cd)) => ∀ (v3_13 : Int) (v4_13 : Int) (C_13 : Cd), RunO l Γ k_X8_findEnd 3 encI (emC M0) 13 [(0, .ref a0), (2, wi r2), (3, wi v3_13), (4, wi v4_13)] [] C_13 (J v3_13 v4_13 C_13)) ?_ (fun L13 hL13 => ?_) (fun J13 hJ13 => ?_)
  · intros; exact ro_none
  · intro v3_13 v4_13 C_13
    refine r_iload (x := v4_13) dX8_findEnd_13 rfl ?_
    refine r_aload_n (x := a0) dX8_findEnd_15 rfl rfl ?_
    refine r_cgetI (c := 11) (kk := 2) hc_X8 rfl (by decide) inU_X8 (by decide) uf_X8_9 rfl (by decide) dX8_findEnd_16 ?_
    refine r_icmp_ge (tgt := 87) dX8_findEnd_19 (by decide) ?_ ?_
    · refine r_aload_n (x := a0) dX8_findEnd_87 rfl rfl ?_
      refine r_cgetI (c := 11) (kk := 2) hc_X8 rfl (by decide) inU_X8 (by decide) uf_X8_9 rfl (by decide) dX8_findEnd_88 ?_
      exact r_iret rfl dX8_findEnd_91
    · refine r_aload_n (x := a0) dX8_findEnd_22 rfl rfl ?_
      refine r_iload (x := v4_13) dX8_findEnd_23 rfl ?_
      refine r_ccVi (c := 11) (k2 := k_X8_kindAt) (n := 1) (rest := []) um_X8_22 rfl kv_X8_kindAt hc_X8 (by decide) (c_X8_kindAt hG _ _ _) (by decide) rfl (Nat.le_of_ble_eq_true rfl) dX8_findEnd_25 rfl (fun r4 C3 => ?_)
      refine r_istore (lo2 := [(5, wi r4), (0, .ref a0), (2, wi r2), (3, wi v3_13), (4, wi v4_13)]) dX8_findEnd_28 (by decide) rfl ?_
      refine r_iload_n (x := v3_13) dX8_findEnd_30 rfl rfl ?_
      refine r_join (P := fun (J : Cd → Option (Int × Cd)) => ∀  (C_57 : Cd), RunO l Γ k_X8_findEnd 3 encI (emC M0) 57 [(0, .ref a0), (2, wi r2), (3, wi v3_13), (4, wi v4_13), (5, wi r4)] [] C_57 (J C_57)) ?_ (fun J57 hJ57 => ?_)
      · intro C_57
        refine r_iload (x := r4) dX8_findEnd_57 rfl ?_
        refine r_ccSi (k2 := k_X8_opens) (n := 1) (rest := []) um_X8_40 rfl kv_X8_opens (c_X8_opens hG _ _) (by decide) rfl (Nat.le_of_ble_eq_true rfl) dX8_findEnd_59 rfl (fun r6 C5 => ?_)
        refine r_join (P := fun (J : Int → Cd → Option (Int × Cd)) => ∀ (v3_81 : Int) (C_81 : Cd), RunO l Γ k_X8_findEnd 3 encI (emC M0) 81 [(0, .ref a0), (2, wi r2), (3, wi v3_81), (4, wi v4_13)] [] C_81 (J v3_81 C_81)) ?_ (fun J81 hJ81 => ?_)
        · intro v3_81 C_81
          refine r_iinc (x := v4_13) (lo2 := [(4, wi (v4_13 + 1)), (0, .ref a0), (2, wi r2), (3, wi v3_81)]) dX8_findEnd_81 rfl (by decide) rfl ?_
          refine r_goto (tgt := 13) dX8_findEnd_84 (by decide) ?_
          refine r_lo [1, 2, 3, 0] (lo2 := [(0, .ref a0), (2, wi r2), (3, wi v3_81), (4, wi (v4_13 + 1))]) rfl ?_
          exact hL13 v3_81 (v4_13 + 1) C_81
        refine r_if_eq (tgt := 71) dX8_findEnd_62 (by decide) ?_ ?_
        · refine r_iload (x := r4) dX8_findEnd_71 rfl ?_
          refine r_bipush (v := 7) dX8_findEnd_73 rfl ?_
          refine r_icmp_ne (tgt := 81) dX8_findEnd_75 (by decide) ?_ ?_
          · refine r_lo [0, 1, 2, 3] (lo2 := [(0, .ref a0), (2, wi r2), (3, wi v3_13), (4, wi v4_13)]) rfl ?_
            exact hJ81 v3_13 C5
          · refine r_iinc (x := v3_13) (lo2 := [(3, wi (v3_13 + (-1))), (0, .ref a0), (2, wi r2), (4, wi v4_13), (5, wi r4)]) dX8_findEnd_78 rfl (by decide) rfl ?_
            refine r_lo [1, 2, 0, 3] (lo2 := [(0, .ref a0), (2, wi r2), (3, wi (v3_13 + (-1))), (4, wi v4_13)]) rfl ?_
            exact hJ81 (v3_13 + (-1)) C5
        · refine r_iinc (x := v3_13) (lo2 := [(3, wi (v3_13 + 1)), (0, .ref a0), (2, wi r2), (4, wi v4_13), (5, wi r4)]) dX8_findEnd_65 rfl (by decide) rfl ?_
          refine r_goto (tgt := 81) dX8_findEnd_68 (by decide) ?_
          refine r_lo [1, 2, 0, 3] (lo2 := [(0, .ref a0), (2, wi r2), (3, wi (v3_13 + 1)), (4, wi v4_13)]) rfl ?_
          exact hJ81 (v3_13 + 1) C5
      refine r_if_ne (tgt := 57) dX8_findEnd_31 (by decide) ?_ ?_
      · refine r_lo [1, 2, 3, 4, 0] (lo2 := [(0, .ref a0), (2, wi r2), (3, wi v3_13), (4, wi v4_13), (5, wi r4)]) rfl ?_
        exact hJ57  C3
      · refine r_iload (x := r4) dX8_findEnd_34 rfl ?_
        refine r_bipush (v := 7) dX8_findEnd_36 rfl ?_
        refine r_join (P := fun (J : Cd → Option (Int × Cd)) => ∀  (C_54 : Cd), RunO l Γ k_X8_findEnd 3 encI (emC M0) 54 [(4, wi v4_13)] [] C_54 (J C_54)) ?_ (fun J54 hJ54 => ?_)
        · intro C_54
          refine r_iload (x := v4_13) dX8_findEnd_54 rfl ?_
          exact r_iret rfl dX8_findEnd_56
        refine r_icmp_eq (tgt := 54) dX8_findEnd_38 (by decide) ?_ ?_
        · refine r_lo [4] (lo2 := [(4, wi v4_13)]) rfl ?_
          exact hJ54  C3
        · refine r_iload_n (x := r2) dX8_findEnd_41 rfl rfl ?_
          refine r_if_eq (tgt := 57) dX8_findEnd_42 (by decide) ?_ ?_
          · refine r_lo [1, 2, 3, 4, 0] (lo2 := [(0, .ref a0), (2, wi r2), (3, wi v3_13), (4, wi v4_13), (5, wi r4)]) rfl ?_
            exact hJ57  C3
          · refine r_aload_n (x := a0) dX8_findEnd_45 rfl rfl ?_
            refine r_iload (x := v4_13) dX8_findEnd_46 rfl ?_
            refine r_ccVi (c := 11) (k2 := k_X8_startsPart) (n := 1) (rest := []) um_X8_53 rfl kv_X8_startsPart hc_X8 (by decide) (c_X8_startsPart hG _ _ _) (by decide) rfl (Nat.le_of_ble_eq_true rfl) dX8_findEnd_48 rfl (fun r8 C7 => ?_)
            refine r_if_eq (tgt := 57) dX8_findEnd_51 (by decide) ?_ ?_
            · refine r_lo [1, 2, 3, 4, 0] (lo2 := [(0, .ref a0), (2, wi r2), (3, wi v3_13), (4, wi v4_13), (5, wi r4)]) rfl ?_
              exact hJ57  C7
            · refine r_lo [4] (lo2 := [(4, wi v4_13)]) rfl ?_
              exact hJ54  C7
  refine r_lo [3, 2, 1, 0] (lo2 := [(0, .ref a0), (2, wi r2), (3, wi 0), (4, wi x4_11)]) rfl ?_
  exact hJ13 0 x4_11 C1
def k_X8_fits : Kd := (yX8_fits, cX8_fits, 5, some .boolean, [])
theorem kv_X8_fits : KV k_X8_fits 3 := ⟨uw_mem 804 (by decide +kernel) rfl, uw_mem 102 (by decide +kernel) rfl, uw_mem 803 (by decide +kernel) rfl, uw_mem 52 (by decide +kernel) rfl, ⟨by decide +kernel, by decide +kernel⟩, by decide +kernel, by decide +kernel⟩
set_option maxHeartbeats 8000000 in
set_option maxRecDepth 100000 in
theorem c_X8_fits {l : Launch} {Γ : Cx} {M0 : Md} (hG : GK Γ l) (a0 : Nat) (a1 : Int) (a2 : Int) (a3 : Int) (C : Cd) : Ct l Γ k_X8_fits 1 encI (emC M0) [.ref a0, wi a1, wi a2, wi a3] C (fX8_fits a0 a1 a2 a3 C) := by
  refine ct_of (by decide +kernel) rfl (Nat.le_of_ble_eq_true rfl) ?_
  refine r_lo [0, 1, 2, 3] (lo2 := [(0, .ref a0), (1, wi a1), (2, wi a2), (3, wi a3)]) rfl ?_
  unfold fX8_fits
  refine r_iload_n (x := a2) dX8_fits_0 rfl rfl ?_
  refine r_bipush (v := 10) dX8_fits_1 rfl ?_
  refine r_icmp_ne (tgt := 22) dX8_fits_3 (by decide) ?_ ?_
  · refine r_iload_n (x := a2) dX8_fits_22 rfl rfl ?_
    refine ro_iconst (v := 2) dX8_fits_23 rfl ?_
    refine r_join (P := fun (J : Int → Cd → Option (Int × Cd)) => ∀ (t0_37 : Int) (C_37 : Cd), RunO l Γ k_X8_fits 1 encI (emC M0) 37 [(0, .ref a0), (1, wi a1), (2, wi a2), (3, wi a3)] [wi t0_37] C_37 (J t0_37 C_37)) ?_ (fun J37 hJ37 => ?_)
    · intro t0_37 C_37
      refine r_istore (lo2 := [(4, wi t0_37), (0, .ref a0), (1, wi a1), (2, wi a2), (3, wi a3)]) dX8_fits_37 (by decide) rfl ?_
      refine r_iload_n (x := a1) dX8_fits_39 rfl rfl ?_
      refine r_join (P := fun (J : Cd → Option (Int × Cd)) => ∀  (C_142 : Cd), RunO l Γ k_X8_fits 1 encI (emC M0) 142 [(3, wi a3), (4, wi t0_37)] [] C_142 (J C_142)) ?_ (fun J142 hJ142 => ?_)
      · intro C_142
        refine r_iload (x := t0_37) dX8_fits_142 rfl ?_
        refine r_join (P := fun (J : Int → Cd → Option (Int × Cd)) => ∀ (t0_156 : Int) (C_156 : Cd), RunO l Γ k_X8_fits 1 encI (emC M0) 156 [] [wi t0_156] C_156 (J t0_156 C_156)) ?_ (fun J156 hJ156 => ?_)
        · intro t0_156 C_156
          exact r_zret rfl dX8_fits_156
        refine r_join (P := fun (J : Cd → Option (Int × Cd)) => ∀  (C_151 : Cd), RunO l Γ k_X8_fits 1 encI (emC M0) 151 [] [] C_151 (J C_151)) ?_ (fun J151 hJ151 => ?_)
        · intro C_151
          refine ro_iconst (v := 1) dX8_fits_151 rfl ?_
          refine r_goto (tgt := 156) dX8_fits_152 (by decide) ?_
          exact hJ156 1 C_151
        refine r_if_eq (tgt := 151) dX8_fits_144 (by decide) ?_ ?_
        · refine r_lo [] (lo2 := []) rfl ?_
          exact hJ151  C_142
        · refine r_iload_n (x := a3) dX8_fits_147 rfl rfl ?_
          refine r_if_ne (tgt := 155) dX8_fits_148 (by decide) ?_ ?_
          · refine ro_iconst (v := 0) dX8_fits_155 rfl ?_
            refine r_lo [] (lo2 := []) rfl ?_
            exact hJ156 0 C_142
          · refine r_lo [] (lo2 := []) rfl ?_
            exact hJ151  C_142
      refine r_tswC (v := 5) (off := 52) (tgt := 92) dX8_fits_40 (by decide) (by decide) rfl (by decide) ?_ (fun n5 => ?_)
      · refine r_iload (x := t0_37) dX8_fits_92 rfl ?_
        exact r_zret rfl dX8_fits_94
      refine r_tswC (v := 6) (off := 55) (tgt := 95) dX8_fits_40 (by decide) (by decide) rfl (by decide) ?_ (fun n6 => ?_)
      · refine r_iload_n (x := a2) dX8_fits_95 rfl rfl ?_
        refine ro_iconst (v := 2) dX8_fits_96 rfl ?_
        refine r_join (P := fun (J : Int → Cd → Option (Int × Cd)) => ∀ (t0_105 : Int) (C_105 : Cd), RunO l Γ k_X8_fits 1 encI (emC M0) 105 [] [wi t0_105] C_105 (J t0_105 C_105)) ?_ (fun J105 hJ105 => ?_)
        · intro t0_105 C_105
          exact r_zret rfl dX8_fits_105
        refine r_icmp_ne (tgt := 104) dX8_fits_97 (by decide) ?_ ?_
        · refine ro_iconst (v := 0) dX8_fits_104 rfl ?_
          refine r_lo [] (lo2 := []) rfl ?_
          exact hJ105 0 C_37
        · refine ro_iconst (v := 1) dX8_fits_100 rfl ?_
          refine r_goto (tgt := 105) dX8_fits_101 (by decide) ?_
          refine r_lo [] (lo2 := []) rfl ?_
          exact hJ105 1 C_37
      refine r_tswC (v := 7) (off := 66) (tgt := 106) dX8_fits_40 (by decide) (by decide) rfl (by decide) ?_ (fun n7 => ?_)
      · refine r_iload_n (x := a2) dX8_fits_106 rfl rfl ?_
        refine ro_iconst (v := (-1)) dX8_fits_107 rfl ?_
        refine r_join (P := fun (J : Int → Cd → Option (Int × Cd)) => ∀ (t0_116 : Int) (C_116 : Cd), RunO l Γ k_X8_fits 1 encI (emC M0) 116 [] [wi t0_116] C_116 (J t0_116 C_116)) ?_ (fun J116 hJ116 => ?_)
        · intro t0_116 C_116
          exact r_zret rfl dX8_fits_116
        refine r_icmp_eq (tgt := 115) dX8_fits_108 (by decide) ?_ ?_
        · refine ro_iconst (v := 0) dX8_fits_115 rfl ?_
          refine r_lo [] (lo2 := []) rfl ?_
          exact hJ116 0 C_37
        · refine ro_iconst (v := 1) dX8_fits_111 rfl ?_
          refine r_goto (tgt := 116) dX8_fits_112 (by decide) ?_
          refine r_lo [] (lo2 := []) rfl ?_
          exact hJ116 1 C_37
      refine r_tswC (v := 8) (off := 102) (tgt := 142) dX8_fits_40 (by decide) (by decide) rfl (by decide) ?_ (fun n8 => ?_)
      · refine r_lo [4, 0] (lo2 := [(3, wi a3), (4, wi t0_37)]) rfl ?_
        exact hJ142  C_37
      refine r_tswC (v := 9) (off := 102) (tgt := 142) dX8_fits_40 (by decide) (by decide) rfl (by decide) ?_ (fun n9 => ?_)
      · refine r_lo [4, 0] (lo2 := [(3, wi a3), (4, wi t0_37)]) rfl ?_
        exact hJ142  C_37
      refine r_tswC (v := 10) (off := 102) (tgt := 142) dX8_fits_40 (by decide) (by decide) rfl (by decide) ?_ (fun n10 => ?_)
      · refine r_lo [4, 0] (lo2 := [(3, wi a3), (4, wi t0_37)]) rfl ?_
        exact hJ142  C_37
      refine r_tswC (v := 11) (off := 102) (tgt := 142) dX8_fits_40 (by decide) (by decide) rfl (by decide) ?_ (fun n11 => ?_)
      · refine r_lo [4, 0] (lo2 := [(3, wi a3), (4, wi t0_37)]) rfl ?_
        exact hJ142  C_37
      refine r_tswC (v := 12) (off := 88) (tgt := 128) dX8_fits_40 (by decide) (by decide) rfl (by decide) ?_ (fun n12 => ?_)
      · refine r_aload_n (x := a0) dX8_fits_128 rfl rfl ?_
        refine r_cgetI (c := 11) (kk := 2) hc_X8 rfl (by decide) inU_X8 (by decide) uf_X8_9 rfl (by decide) dX8_fits_129 ?_
        refine ro_iconst (v := 1) dX8_fits_132 rfl ?_
        refine r_join (P := fun (J : Int → Cd → Option (Int × Cd)) => ∀ (t0_141 : Int) (C_141 : Cd), RunO l Γ k_X8_fits 1 encI (emC M0) 141 [] [wi t0_141] C_141 (J t0_141 C_141)) ?_ (fun J141 hJ141 => ?_)
        · intro t0_141 C_141
          exact r_zret rfl dX8_fits_141
        refine r_icmp_ne (tgt := 140) dX8_fits_133 (by decide) ?_ ?_
        · refine ro_iconst (v := 0) dX8_fits_140 rfl ?_
          refine r_lo [] (lo2 := []) rfl ?_
          exact hJ141 0 C_37
        · refine ro_iconst (v := 1) dX8_fits_136 rfl ?_
          refine r_goto (tgt := 141) dX8_fits_137 (by decide) ?_
          refine r_lo [] (lo2 := []) rfl ?_
          exact hJ141 1 C_37
      refine r_tswC (v := 13) (off := 77) (tgt := 117) dX8_fits_40 (by decide) (by decide) rfl (by decide) ?_ (fun n13 => ?_)
      · refine r_iload_n (x := a2) dX8_fits_117 rfl rfl ?_
        refine ro_iconst (v := (-1)) dX8_fits_118 rfl ?_
        refine r_join (P := fun (J : Int → Cd → Option (Int × Cd)) => ∀ (t0_127 : Int) (C_127 : Cd), RunO l Γ k_X8_fits 1 encI (emC M0) 127 [] [wi t0_127] C_127 (J t0_127 C_127)) ?_ (fun J127 hJ127 => ?_)
        · intro t0_127 C_127
          exact r_zret rfl dX8_fits_127
        refine r_icmp_ne (tgt := 126) dX8_fits_119 (by decide) ?_ ?_
        · refine ro_iconst (v := 0) dX8_fits_126 rfl ?_
          refine r_lo [] (lo2 := []) rfl ?_
          exact hJ127 0 C_37
        · refine ro_iconst (v := 1) dX8_fits_122 rfl ?_
          refine r_goto (tgt := 127) dX8_fits_123 (by decide) ?_
          refine r_lo [] (lo2 := []) rfl ?_
          exact hJ127 1 C_37
      refine r_tswD (tgt := 142) dX8_fits_40 (by omega) (by decide) ?_
      refine r_lo [4, 0] (lo2 := [(3, wi a3), (4, wi t0_37)]) rfl ?_
      exact hJ142  C_37
    refine r_join (P := fun (J : Cd → Option (Int × Cd)) => ∀  (C_32 : Cd), RunO l Γ k_X8_fits 1 encI (emC M0) 32 [(0, .ref a0), (1, wi a1), (2, wi a2), (3, wi a3)] [] C_32 (J C_32)) ?_ (fun J32 hJ32 => ?_)
    · intro C_32
      refine ro_iconst (v := 1) dX8_fits_32 rfl ?_
      refine r_goto (tgt := 37) dX8_fits_33 (by decide) ?_
      exact hJ37 1 C_32
    refine r_icmp_eq (tgt := 32) dX8_fits_24 (by decide) ?_ ?_
    · exact hJ32  C
    · refine r_iload_n (x := a2) dX8_fits_27 rfl rfl ?_
      refine ro_iconst (v := 4) dX8_fits_28 rfl ?_
      refine r_icmp_ne (tgt := 36) dX8_fits_29 (by decide) ?_ ?_
      · refine ro_iconst (v := 0) dX8_fits_36 rfl ?_
        exact hJ37 0 C
      · exact hJ32  C
  · refine r_iload_n (x := a1) dX8_fits_6 rfl rfl ?_
    refine r_join (P := fun (J : Int → Cd → Option (Int × Cd)) => ∀ (t0_21 : Int) (C_21 : Cd), RunO l Γ k_X8_fits 1 encI (emC M0) 21 [] [wi t0_21] C_21 (J t0_21 C_21)) ?_ (fun J21 hJ21 => ?_)
    · intro t0_21 C_21
      exact r_zret rfl dX8_fits_21
    refine r_join (P := fun (J : Cd → Option (Int × Cd)) => ∀  (C_16 : Cd), RunO l Γ k_X8_fits 1 encI (emC M0) 16 [] [] C_16 (J C_16)) ?_ (fun J16 hJ16 => ?_)
    · intro C_16
      refine ro_iconst (v := 1) dX8_fits_16 rfl ?_
      refine r_goto (tgt := 21) dX8_fits_17 (by decide) ?_
      exact hJ21 1 C_16
    refine r_if_eq (tgt := 16) dX8_fits_7 (by decide) ?_ ?_
    · refine r_lo [] (lo2 := []) rfl ?_
      exact hJ16  C
    · refine r_iload_n (x := a1) dX8_fits_10 rfl rfl ?_
      refine r_bipush (v := 7) dX8_fits_11 rfl ?_
      refine r_icmp_ne (tgt := 20) dX8_fits_13 (by decide) ?_ ?_
      · refine ro_iconst (v := 0) dX8_fits_20 rfl ?_
        refine r_lo [] (lo2 := []) rfl ?_
        exact hJ21 0 C
      · refine r_lo [] (lo2 := []) rfl ?_
        exact hJ16  C
def k_X8_init : Kd := (yX8_init, cX8_init, 2, none, [])
theorem kv_X8_init : KI k_X8_init 1 := ⟨uw_mem 375 (by decide +kernel) rfl, uw_mem 102 (by decide +kernel) rfl, uw_mem 374 (by decide +kernel) rfl, ⟨rfl, rfl⟩, ⟨by decide +kernel, by decide +kernel⟩, by decide +kernel, by decide +kernel⟩
set_option maxHeartbeats 8000000 in
set_option maxRecDepth 100000 in
theorem c_X8_init {l : Launch} {Γ : Cx} {M0 : Md} (hG : GK Γ l) (a0 : Nat) (a1 : Int) (C : Cd) : Ct l Γ k_X8_init 1 encV (emC M0) [.ref a0, wi a1] C (fX8_init a0 a1 C) := by
  refine ct_of (by decide +kernel) rfl (Nat.le_of_ble_eq_true rfl) ?_
  refine r_lo [0, 1] (lo2 := [(0, .ref a0), (1, wi a1)]) rfl ?_
  unfold fX8_init
  refine r_aload_n (x := a0) dX8_init_0 rfl rfl ?_
  refine r_objInit (by decide) uo_X8_3 uoi uoc (Nat.le_of_ble_eq_true rfl) dX8_init_1 ?_
  refine r_aload_n (x := a0) dX8_init_4 rfl rfl ?_
  refine ro_iconst (v := 0) dX8_init_5 rfl ?_
  refine r_cputI (c := 11) (kk := 2) hc_X8 rfl (by decide) inU_X8 (by decide) uf_X8_9 rfl tyX8 tyX8_ok nmX8 (fty := .int) (by decide) rfl rfl rfl rfl dX8_init_6 (fun C1 _ _ => ?_)
  refine r_aload_n (x := a0) dX8_init_9 rfl rfl ?_
  refine r_iload_n (x := a1) dX8_init_10 rfl rfl ?_
  refine r_join (P := fun (J : Int → Cd → Option (Unit × Cd)) => ∀ (t0_19 : Int) (C_19 : Cd), RunO l Γ k_X8_init 1 encV (emC M0) 19 [(0, .ref a0)] [wi t0_19, .ref a0] C_19 (J t0_19 C_19)) ?_ (fun J19 hJ19 => ?_)
  · intro t0_19 C_19
    refine r_cnewAI ua_I dX8_init_19 (fun C2 _ => ?_)
    refine r_cputRF (c := 11) (kk := 0) hc_X8 rfl (by decide) inU_X8 (by decide) uf_X8_15 rfl tyX8 tyX8_ok nmX8 (x := (some (csz C_19))) (fty := tyX8 0) (by decide) rfl rfl rfl (by decide +kernel) ⟨"", Or.inr ⟨_, rfl⟩⟩ dX8_init_21 (fun C3 _ _ => ?_)
    refine r_aload_n (x := a0) dX8_init_24 rfl rfl ?_
    refine r_aload_n (x := a0) dX8_init_25 rfl rfl ?_
    refine r_cgetR (c := 11) (kk := 0) hc_X8 rfl (by decide) inU_X8 (by decide) uf_X8_15 rfl (by decide) dX8_init_26 (fun z4 => ?_)
    refine r_dref (fun p5 hp5 => ?_)
    subst hp5
    refine r_calen (t := 100) rfl (by decide) dX8_init_29 ?_
    refine r_cnewAI ua_I dX8_init_30 (fun C6 _ => ?_)
    refine r_cputRF (c := 11) (kk := 1) hc_X8 rfl (by decide) inU_X8 (by decide) uf_X8_19 rfl tyX8 tyX8_ok nmX8 (x := (some (csz C3))) (fty := tyX8 1) (by decide) rfl rfl rfl (by decide +kernel) ⟨"", Or.inr ⟨_, rfl⟩⟩ dX8_init_32 (fun C7 _ _ => ?_)
    exact r_vret rfl dX8_init_35
  refine r_if_ge (tgt := 18) dX8_init_11 (by decide) ?_ ?_
  · refine r_iload_n (x := a1) dX8_init_18 rfl rfl ?_
    refine r_lo [0] (lo2 := [(0, .ref a0)]) rfl ?_
    exact hJ19 a1 C1
  · refine ro_iconst (v := 0) dX8_init_14 rfl ?_
    refine r_goto (tgt := 19) dX8_init_15 (by decide) ?_
    refine r_lo [0] (lo2 := [(0, .ref a0)]) rfl ?_
    exact hJ19 0 C1
def k_X8_isText : Kd := (yX8_isText, cX8_isText, 6, some .boolean, [])
theorem kv_X8_isText : KV k_X8_isText 0 := ⟨uw_mem 797 (by decide +kernel) rfl, uw_mem 102 (by decide +kernel) rfl, uw_mem 796 (by decide +kernel) rfl, uw_mem 51 (by decide +kernel) rfl, ⟨by decide +kernel, by decide +kernel⟩, by decide +kernel, by decide +kernel⟩
set_option maxHeartbeats 8000000 in
set_option maxRecDepth 100000 in
theorem c_X8_isText {l : Launch} {Γ : Cx} {M0 : Md} (hG : GK Γ l) (a0 : Nat) (C : Cd) : Ct l Γ k_X8_isText 2 encI (emC M0) [.ref a0] C (fX8_isText a0 C) := by
  refine ct_of (by decide +kernel) rfl (Nat.le_of_ble_eq_true rfl) ?_
  refine r_lo [0] (lo2 := [(0, .ref a0)]) rfl ?_
  unfold fX8_isText
  refine r_aload_n (x := a0) dX8_isText_0 rfl rfl ?_
  refine r_cgetI (c := 11) (kk := 2) hc_X8 rfl (by decide) inU_X8 (by decide) uf_X8_9 rfl (by decide) dX8_isText_1 ?_
  refine ro_iconst (v := 1) dX8_isText_4 rfl ?_
  refine r_join (P := fun (J : Cd → Option (Int × Cd)) => ∀  (C_17 : Cd), RunO l Γ k_X8_isText 2 encI (emC M0) 17 [] [] C_17 (J C_17)) ?_ (fun J17 hJ17 => ?_)
  · intro C_17
    refine ro_iconst (v := 0) dX8_isText_17 rfl ?_
    exact r_zret0 (by first | exact Or.inl rfl | exact Or.inr rfl) rfl dX8_isText_18
  refine r_icmp_lt (tgt := 17) dX8_isText_5 (by decide) ?_ ?_
  · refine r_lo [] (lo2 := []) rfl ?_
    exact hJ17  C
  · refine r_aload_n (x := a0) dX8_isText_8 rfl rfl ?_
    refine r_cgetI (c := 11) (kk := 2) hc_X8 rfl (by decide) inU_X8 (by decide) uf_X8_9 rfl (by decide) dX8_isText_9 ?_
    refine r_bipush (v := 30) dX8_isText_12 rfl ?_
    refine r_icmp_le (tgt := 19) dX8_isText_14 (by decide) ?_ ?_
    · refine r_bipush (v := 31) dX8_isText_19 rfl ?_
      refine r_cnewAI ua_I dX8_isText_21 (fun C1 _ => ?_)
      refine r_astore_n (lo2 := [(1, .ref (csz C)), (0, .ref a0)]) dX8_isText_23 rfl (by decide) rfl ?_
      refine r_aload_n (x := (csz C)) dX8_isText_24 rfl rfl ?_
      refine ro_iconst (v := 0) dX8_isText_25 rfl ?_
      refine ro_iconst (v := (-1)) dX8_isText_26 rfl ?_
      refine r_ciast dX8_isText_27 (fun C2 _ _ => ?_)
      refine ro_iconst (v := 0) dX8_isText_28 rfl ?_
      refine r_istore_n (lo2 := [(2, wi 0), (1, .ref (csz C)), (0, .ref a0)]) dX8_isText_29 rfl (by decide) rfl ?_
      refine ro_iconst (v := 0) dX8_isText_30 rfl ?_
      refine r_istore_n (lo2 := [(3, wi 0), (2, wi 0), (1, .ref (csz C)), (0, .ref a0)]) dX8_isText_31 rfl (by decide) rfl ?_
      refine r_loop (P := fun (J : Int → Int → Cd → Option (Int × Cd)) => ∀ (v2_32 : Int) (v3_32 : Int) (C_32 : Cd), RunO l Γ k_X8_isText 2 encI (emC M0) 32 [(0, .ref a0), (1, .ref (csz C)), (2, wi v2_32), (3, wi v3_32)] [] C_32 (J v2_32 v3_32 C_32)) ?_ (fun L32 hL32 => ?_) (fun J32 hJ32 => ?_)
      · intros; exact ro_none
      · intro v2_32 v3_32 C_32
        refine r_iload_n (x := v3_32) dX8_isText_32 rfl rfl ?_
        refine r_aload_n (x := a0) dX8_isText_33 rfl rfl ?_
        refine r_cgetI (c := 11) (kk := 2) hc_X8 rfl (by decide) inU_X8 (by decide) uf_X8_9 rfl (by decide) dX8_isText_34 ?_
        refine r_icmp_ge (tgt := 132) dX8_isText_37 (by decide) ?_ ?_
        · refine r_iload_n (x := v2_32) dX8_isText_132 rfl rfl ?_
          refine r_join (P := fun (J : Int → Cd → Option (Int × Cd)) => ∀ (t0_141 : Int) (C_141 : Cd), RunO l Γ k_X8_isText 2 encI (emC M0) 141 [] [wi t0_141] C_141 (J t0_141 C_141)) ?_ (fun J141 hJ141 => ?_)
          · intro t0_141 C_141
            exact r_zret rfl dX8_isText_141
          refine r_if_ne (tgt := 140) dX8_isText_133 (by decide) ?_ ?_
          · refine ro_iconst (v := 0) dX8_isText_140 rfl ?_
            refine r_lo [] (lo2 := []) rfl ?_
            exact hJ141 0 C_32
          · refine ro_iconst (v := 1) dX8_isText_136 rfl ?_
            refine r_goto (tgt := 141) dX8_isText_137 (by decide) ?_
            refine r_lo [] (lo2 := []) rfl ?_
            exact hJ141 1 C_32
        · refine r_aload_n (x := a0) dX8_isText_40 rfl rfl ?_
          refine r_iload_n (x := v3_32) dX8_isText_41 rfl rfl ?_
          refine r_ccVi (c := 11) (k2 := k_X8_kindAt) (n := 1) (rest := []) um_X8_22 rfl kv_X8_kindAt hc_X8 (by decide) (c_X8_kindAt hG _ _ _) (by decide) rfl (Nat.le_of_ble_eq_true rfl) dX8_isText_42 rfl (fun r4 C3 => ?_)
          refine r_istore (lo2 := [(4, wi r4), (0, .ref a0), (1, .ref (csz C)), (2, wi v2_32), (3, wi v3_32)]) dX8_isText_45 (by decide) rfl ?_
          refine r_iload_n (x := v3_32) dX8_isText_47 rfl rfl ?_
          refine r_join (P := fun (J : Int → Cd → Option (Int × Cd)) => ∀ (t0_69 : Int) (C_69 : Cd), RunO l Γ k_X8_isText 2 encI (emC M0) 69 [(0, .ref a0), (1, .ref (csz C)), (2, wi v2_32), (3, wi v3_32), (4, wi r4)] [wi t0_69] C_69 (J t0_69 C_69)) ?_ (fun J69 hJ69 => ?_)
          · intro t0_69 C_69
            refine r_istore (lo2 := [(5, wi t0_69), (0, .ref a0), (1, .ref (csz C)), (2, wi v2_32), (3, wi v3_32), (4, wi r4)]) dX8_isText_69 (by decide) rfl ?_
            refine r_aload_n (x := a0) dX8_isText_71 rfl rfl ?_
            refine r_iload (x := r4) dX8_isText_72 rfl ?_
            refine r_aload_n (x := (csz C)) dX8_isText_74 rfl rfl ?_
            refine r_iload_n (x := v2_32) dX8_isText_75 rfl rfl ?_
            refine r_ciald dX8_isText_76 ?_
            refine r_iload (x := t0_69) dX8_isText_77 rfl ?_
            refine r_ccVi (c := 11) (k2 := k_X8_fits) (n := 3) (rest := []) um_X8_44 rfl kv_X8_fits hc_X8 (by decide) (c_X8_fits hG _ _ _ _ _) (by decide) rfl (Nat.le_of_ble_eq_true rfl) dX8_isText_79 rfl (fun r6 C5 => ?_)
            refine r_if_ne (tgt := 87) dX8_isText_82 (by decide) ?_ ?_
            · refine r_iload (x := r4) dX8_isText_87 rfl ?_
              refine r_ccSi (k2 := k_X8_opens) (n := 1) (rest := []) um_X8_40 rfl kv_X8_opens (c_X8_opens hG _ _) (by decide) rfl (Nat.le_of_ble_eq_true rfl) dX8_isText_89 rfl (fun r8 C7 => ?_)
              refine r_join (P := fun (J : Int → Cd → Option (Int × Cd)) => ∀ (v2_126 : Int) (C_126 : Cd), RunO l Γ k_X8_isText 2 encI (emC M0) 126 [(0, .ref a0), (1, .ref (csz C)), (2, wi v2_126), (3, wi v3_32)] [] C_126 (J v2_126 C_126)) ?_ (fun J126 hJ126 => ?_)
              · intro v2_126 C_126
                refine r_iinc (x := v3_32) (lo2 := [(3, wi (v3_32 + 1)), (0, .ref a0), (1, .ref (csz C)), (2, wi v2_126)]) dX8_isText_126 rfl (by decide) rfl ?_
                refine r_goto (tgt := 32) dX8_isText_129 (by decide) ?_
                refine r_lo [1, 2, 3, 0] (lo2 := [(0, .ref a0), (1, .ref (csz C)), (2, wi v2_126), (3, wi (v3_32 + 1))]) rfl ?_
                exact hL32 v2_126 (v3_32 + 1) C_126
              refine r_join (P := fun (J : Cd → Option (Int × Cd)) => ∀  (C_112 : Cd), RunO l Γ k_X8_isText 2 encI (emC M0) 112 [(0, .ref a0), (1, .ref (csz C)), (2, wi v2_32), (3, wi v3_32), (4, wi r4)] [] C_112 (J C_112)) ?_ (fun J112 hJ112 => ?_)
              · intro C_112
                refine r_iload (x := r4) dX8_isText_112 rfl ?_
                refine r_bipush (v := 7) dX8_isText_114 rfl ?_
                refine r_icmp_ne (tgt := 126) dX8_isText_116 (by decide) ?_ ?_
                · refine r_lo [0, 1, 2, 3] (lo2 := [(0, .ref a0), (1, .ref (csz C)), (2, wi v2_32), (3, wi v3_32)]) rfl ?_
                  exact hJ126 v2_32 C_112
                · refine r_iload_n (x := v2_32) dX8_isText_119 rfl rfl ?_
                  refine r_if_le (tgt := 126) dX8_isText_120 (by decide) ?_ ?_
                  · refine r_lo [0, 1, 2, 3] (lo2 := [(0, .ref a0), (1, .ref (csz C)), (2, wi v2_32), (3, wi v3_32)]) rfl ?_
                    exact hJ126 v2_32 C_112
                  · refine r_iinc (x := v2_32) (lo2 := [(2, wi (v2_32 + (-1))), (0, .ref a0), (1, .ref (csz C)), (3, wi v3_32), (4, wi r4)]) dX8_isText_123 rfl (by decide) rfl ?_
                    refine r_lo [1, 2, 0, 3] (lo2 := [(0, .ref a0), (1, .ref (csz C)), (2, wi (v2_32 + (-1))), (3, wi v3_32)]) rfl ?_
                    exact hJ126 (v2_32 + (-1)) C_112
              refine r_if_eq (tgt := 112) dX8_isText_92 (by decide) ?_ ?_
              · refine r_lo [1, 2, 3, 4, 5] (lo2 := [(0, .ref a0), (1, .ref (csz C)), (2, wi v2_32), (3, wi v3_32), (4, wi r4)]) rfl ?_
                exact hJ112  C7
              · refine r_iload_n (x := v2_32) dX8_isText_95 rfl rfl ?_
                refine r_bipush (v := 30) dX8_isText_96 rfl ?_
                refine r_icmp_ge (tgt := 112) dX8_isText_98 (by decide) ?_ ?_
                · refine r_lo [1, 2, 3, 4, 5] (lo2 := [(0, .ref a0), (1, .ref (csz C)), (2, wi v2_32), (3, wi v3_32), (4, wi r4)]) rfl ?_
                  exact hJ112  C7
                · refine r_iinc (x := v2_32) (lo2 := [(2, wi (v2_32 + 1)), (5, wi t0_69), (0, .ref a0), (1, .ref (csz C)), (3, wi v3_32), (4, wi r4)]) dX8_isText_101 rfl (by decide) rfl ?_
                  refine r_aload_n (x := (csz C)) dX8_isText_104 rfl rfl ?_
                  refine r_iload_n (x := v2_32 + 1) dX8_isText_105 rfl rfl ?_
                  refine r_iload (x := r4) dX8_isText_106 rfl ?_
                  refine r_ciast dX8_isText_108 (fun C9 _ _ => ?_)
                  refine r_goto (tgt := 126) dX8_isText_109 (by decide) ?_
                  refine r_lo [2, 3, 0, 4] (lo2 := [(0, .ref a0), (1, .ref (csz C)), (2, wi (v2_32 + 1)), (3, wi v3_32)]) rfl ?_
                  exact hJ126 (v2_32 + 1) C9
            · refine ro_iconst (v := 0) dX8_isText_85 rfl ?_
              exact r_zret0 (by first | exact Or.inl rfl | exact Or.inr rfl) rfl dX8_isText_86
          refine r_join (P := fun (J : Cd → Option (Int × Cd)) => ∀  (C_68 : Cd), RunO l Γ k_X8_isText 2 encI (emC M0) 68 [(0, .ref a0), (1, .ref (csz C)), (2, wi v2_32), (3, wi v3_32), (4, wi r4)] [] C_68 (J C_68)) ?_ (fun J68 hJ68 => ?_)
          · intro C_68
            refine ro_iconst (v := 0) dX8_isText_68 rfl ?_
            exact hJ69 0 C_68
          refine r_if_le (tgt := 68) dX8_isText_48 (by decide) ?_ ?_
          · refine r_lo [1, 2, 3, 4, 0] (lo2 := [(0, .ref a0), (1, .ref (csz C)), (2, wi v2_32), (3, wi v3_32), (4, wi r4)]) rfl ?_
            exact hJ68  C3
          · refine r_aload_n (x := a0) dX8_isText_51 rfl rfl ?_
            refine r_iload_n (x := v3_32) dX8_isText_52 rfl rfl ?_
            refine ro_iconst (v := 1) dX8_isText_53 rfl ?_
            refine r_isub dX8_isText_54 ?_
            refine r_ccVi (c := 11) (k2 := k_X8_kindAt) (n := 1) (rest := []) um_X8_22 rfl kv_X8_kindAt hc_X8 (by decide) (c_X8_kindAt hG _ _ _) (by decide) rfl (Nat.le_of_ble_eq_true rfl) dX8_isText_55 rfl (fun r11 C10 => ?_)
            refine r_ccSi (k2 := k_X8_opens) (n := 1) (rest := []) um_X8_40 rfl kv_X8_opens (c_X8_opens hG _ _) (by decide) rfl (Nat.le_of_ble_eq_true rfl) dX8_isText_58 rfl (fun r13 C12 => ?_)
            refine r_if_eq (tgt := 68) dX8_isText_61 (by decide) ?_ ?_
            · refine r_lo [1, 2, 3, 4, 0] (lo2 := [(0, .ref a0), (1, .ref (csz C)), (2, wi v2_32), (3, wi v3_32), (4, wi r4)]) rfl ?_
              exact hJ68  C12
            · refine ro_iconst (v := 1) dX8_isText_64 rfl ?_
              refine r_goto (tgt := 69) dX8_isText_65 (by decide) ?_
              refine r_lo [1, 2, 3, 4, 0] (lo2 := [(0, .ref a0), (1, .ref (csz C)), (2, wi v2_32), (3, wi v3_32), (4, wi r4)]) rfl ?_
              exact hJ69 1 C12
      refine r_lo [3, 2, 1, 0] (lo2 := [(0, .ref a0), (1, .ref (csz C)), (2, wi 0), (3, wi 0)]) rfl ?_
      exact hJ32 0 0 C2
    · refine r_lo [] (lo2 := []) rfl ?_
      exact hJ17  C
def k_X8_leadsInto : Kd := (yX8_leadsInto, cX8_leadsInto, 4, some .boolean, [])
theorem kv_X8_leadsInto : KV k_X8_leadsInto 2 := ⟨uw_mem 1359 (by decide +kernel) rfl, uw_mem 102 (by decide +kernel) rfl, uw_mem 1358 (by decide +kernel) rfl, uw_mem 84 (by decide +kernel) rfl, ⟨by decide +kernel, by decide +kernel⟩, by decide +kernel, by decide +kernel⟩
set_option maxHeartbeats 8000000 in
set_option maxRecDepth 100000 in
theorem c_X8_leadsInto {l : Launch} {Γ : Cx} {M0 : Md} (hG : GK Γ l) (a0 : Nat) (a1 : Int) (a2 : Int) (C : Cd) : Ct l Γ k_X8_leadsInto 2 encI (emC M0) [.ref a0, wi a1, wi a2] C (fX8_leadsInto a0 a1 a2 C) := by
  refine ct_of (by decide +kernel) rfl (Nat.le_of_ble_eq_true rfl) ?_
  refine r_lo [0, 1, 2] (lo2 := [(0, .ref a0), (1, wi a1), (2, wi a2)]) rfl ?_
  unfold fX8_leadsInto
  refine r_aload_n (x := a0) dX8_leadsInto_0 rfl rfl ?_
  refine r_iload_n (x := a1) dX8_leadsInto_1 rfl rfl ?_
  refine r_ccVi (c := 11) (k2 := k_X8_kindAt) (n := 1) (rest := []) um_X8_22 rfl kv_X8_kindAt hc_X8 (by decide) (c_X8_kindAt hG _ _ _) (by decide) rfl (Nat.le_of_ble_eq_true rfl) dX8_leadsInto_2 rfl (fun r2 C1 => ?_)
  refine r_istore_n (lo2 := [(3, wi r2), (0, .ref a0), (1, wi a1), (2, wi a2)]) dX8_leadsInto_5 rfl (by decide) rfl ?_
  refine r_iload_n (x := r2) dX8_leadsInto_6 rfl rfl ?_
  refine ro_iconst (v := 1) dX8_leadsInto_7 rfl ?_
  refine r_join (P := fun (J : Int → Cd → Option (Int × Cd)) => ∀ (t0_39 : Int) (C_39 : Cd), RunO l Γ k_X8_leadsInto 2 encI (emC M0) 39 [] [wi t0_39] C_39 (J t0_39 C_39)) ?_ (fun J39 hJ39 => ?_)
  · intro t0_39 C_39
    exact r_zret rfl dX8_leadsInto_39
  refine r_join (P := fun (J : Cd → Option (Int × Cd)) => ∀  (C_38 : Cd), RunO l Γ k_X8_leadsInto 2 encI (emC M0) 38 [] [] C_38 (J C_38)) ?_ (fun J38 hJ38 => ?_)
  · intro C_38
    refine ro_iconst (v := 0) dX8_leadsInto_38 rfl ?_
    exact hJ39 0 C_38
  refine r_join (P := fun (J : Cd → Option (Int × Cd)) => ∀  (C_22 : Cd), RunO l Γ k_X8_leadsInto 2 encI (emC M0) 22 [(0, .ref a0), (1, wi a1), (2, wi a2)] [] C_22 (J C_22)) ?_ (fun J22 hJ22 => ?_)
  · intro C_22
    refine r_iload_n (x := a2) dX8_leadsInto_22 rfl rfl ?_
    refine r_aload_n (x := a0) dX8_leadsInto_23 rfl rfl ?_
    refine r_iload_n (x := a1) dX8_leadsInto_24 rfl rfl ?_
    refine r_ccVi (c := 11) (k2 := k_X8_valueAt) (n := 1) (rest := [wi a2]) um_X8_56 rfl kv_X8_valueAt hc_X8 (by decide) (c_X8_valueAt hG _ _ _) (by decide) rfl (Nat.le_of_ble_eq_true rfl) dX8_leadsInto_25 rfl (fun r4 C3 => ?_)
    refine r_ccSNi (k2 := k_X11_has) (n := 2) (rest := []) hG um_X8_59 rfl kv_X11_has (c_X11_has hG _ _ _) (by decide) rfl (Nat.le_of_ble_eq_true rfl) dX8_leadsInto_28 rfl (fun r6 C5 => ?_)
    refine r_if_eq (tgt := 38) dX8_leadsInto_31 (by decide) ?_ ?_
    · refine r_lo [] (lo2 := []) rfl ?_
      exact hJ38  C5
    · refine ro_iconst (v := 1) dX8_leadsInto_34 rfl ?_
      refine r_goto (tgt := 39) dX8_leadsInto_35 (by decide) ?_
      refine r_lo [] (lo2 := []) rfl ?_
      exact hJ39 1 C5
  refine r_icmp_eq (tgt := 22) dX8_leadsInto_8 (by decide) ?_ ?_
  · refine r_lo [1, 2, 3] (lo2 := [(0, .ref a0), (1, wi a1), (2, wi a2)]) rfl ?_
    exact hJ22  C1
  · refine r_iload_n (x := r2) dX8_leadsInto_11 rfl rfl ?_
    refine ro_iconst (v := 2) dX8_leadsInto_12 rfl ?_
    refine r_icmp_eq (tgt := 22) dX8_leadsInto_13 (by decide) ?_ ?_
    · refine r_lo [1, 2, 3] (lo2 := [(0, .ref a0), (1, wi a1), (2, wi a2)]) rfl ?_
      exact hJ22  C1
    · refine r_iload_n (x := r2) dX8_leadsInto_16 rfl rfl ?_
      refine r_bipush (v := 12) dX8_leadsInto_17 rfl ?_
      refine r_icmp_ne (tgt := 38) dX8_leadsInto_19 (by decide) ?_ ?_
      · refine r_lo [] (lo2 := []) rfl ?_
        exact hJ38  C1
      · refine r_lo [1, 2, 3] (lo2 := [(0, .ref a0), (1, wi a1), (2, wi a2)]) rfl ?_
        exact hJ22  C1
def k_X8_leadsInto_ : Kd := (yX8_leadsInto_, cX8_leadsInto_, 3, some .boolean, [])
theorem kv_X8_leadsInto_ : KV k_X8_leadsInto_ 1 := ⟨uw_mem 1355 (by decide +kernel) rfl, uw_mem 102 (by decide +kernel) rfl, uw_mem 1354 (by decide +kernel) rfl, uw_mem 83 (by decide +kernel) rfl, ⟨by decide +kernel, by decide +kernel⟩, by decide +kernel, by decide +kernel⟩
set_option maxHeartbeats 8000000 in
set_option maxRecDepth 100000 in
theorem c_X8_leadsInto_ {l : Launch} {Γ : Cx} {M0 : Md} (hG : GK Γ l) (a0 : Nat) (a1 : Int) (C : Cd) : Ct l Γ k_X8_leadsInto_ 3 encI (emC M0) [.ref a0, wi a1] C (fX8_leadsInto_ a0 a1 C) := by
  refine ct_of (by decide +kernel) rfl (Nat.le_of_ble_eq_true rfl) ?_
  refine r_lo [0, 1] (lo2 := [(0, .ref a0), (1, wi a1)]) rfl ?_
  unfold fX8_leadsInto_
  refine ro_iconst (v := 0) dX8_leadsInto__0 rfl ?_
  refine r_istore_n (lo2 := [(2, wi 0), (0, .ref a0), (1, wi a1)]) dX8_leadsInto__1 rfl (by decide) rfl ?_
  refine r_loop (P := fun (J : Int → Cd → Option (Int × Cd)) => ∀ (v2_2 : Int) (C_2 : Cd), RunO l Γ k_X8_leadsInto_ 3 encI (emC M0) 2 [(0, .ref a0), (1, wi a1), (2, wi v2_2)] [] C_2 (J v2_2 C_2)) ?_ (fun L2 hL2 => ?_) (fun J2 hJ2 => ?_)
  · intros; exact ro_none
  · intro v2_2 C_2
    refine r_iload_n (x := v2_2) dX8_leadsInto__2 rfl rfl ?_
    refine r_aload_n (x := a0) dX8_leadsInto__3 rfl rfl ?_
    refine r_cgetI (c := 11) (kk := 2) hc_X8 rfl (by decide) inU_X8 (by decide) uf_X8_9 rfl (by decide) dX8_leadsInto__4 ?_
    refine r_icmp_ge (tgt := 27) dX8_leadsInto__7 (by decide) ?_ ?_
    · refine ro_iconst (v := 0) dX8_leadsInto__27 rfl ?_
      exact r_zret0 (by first | exact Or.inl rfl | exact Or.inr rfl) rfl dX8_leadsInto__28
    · refine r_aload_n (x := a0) dX8_leadsInto__10 rfl rfl ?_
      refine r_iload_n (x := v2_2) dX8_leadsInto__11 rfl rfl ?_
      refine r_iload_n (x := a1) dX8_leadsInto__12 rfl rfl ?_
      refine r_ccVi (c := 11) (k2 := k_X8_leadsInto) (n := 2) (rest := []) um_X8_63 rfl kv_X8_leadsInto hc_X8 (by decide) (c_X8_leadsInto hG _ _ _ _) (by decide) rfl (Nat.le_of_ble_eq_true rfl) dX8_leadsInto__13 rfl (fun r2 C1 => ?_)
      refine r_if_eq (tgt := 21) dX8_leadsInto__16 (by decide) ?_ ?_
      · refine r_iinc (x := v2_2) (lo2 := [(2, wi (v2_2 + 1)), (0, .ref a0), (1, wi a1)]) dX8_leadsInto__21 rfl (by decide) rfl ?_
        refine r_goto (tgt := 2) dX8_leadsInto__24 (by decide) ?_
        refine r_lo [1, 2, 0] (lo2 := [(0, .ref a0), (1, wi a1), (2, wi (v2_2 + 1))]) rfl ?_
        exact hL2 (v2_2 + 1) C1
      · refine ro_iconst (v := 1) dX8_leadsInto__19 rfl ?_
        exact r_zret0 (by first | exact Or.inl rfl | exact Or.inr rfl) rfl dX8_leadsInto__20
  refine r_lo [1, 2, 0] (lo2 := [(0, .ref a0), (1, wi a1), (2, wi 0)]) rfl ?_
  exact hJ2 0 C
