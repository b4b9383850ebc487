def k_X0_init : Kd := (yX0_init, cX0_init, 4, none, [])
theorem kv_X0_init : KI k_X0_init 3 := ⟨uw_mem 1380 (by decide +kernel) rfl, uw_mem 127 (by decide +kernel) rfl, uw_mem 1379 (by decide +kernel) rfl, ⟨rfl, rfl⟩, ⟨by decide +kernel, by decide +kernel⟩, by decide +kernel, by decide +kernel⟩
set_option maxHeartbeats 8000000 in
set_option maxRecDepth 100000 in
theorem c_X0_init {l : Launch} {Γ : Cx} {M0 : Md} (hG : GK Γ l) (a0 : Nat) (a1 : Int) (a2 : Option Nat) (a3 : Option Nat) (C : Cd) : Ct l Γ k_X0_init 1 encV (emC M0) [.ref a0, wi a1, va_rf a2, va_rf a3] C (fX0_init a0 a1 a2 a3 C) := by
  refine ct_of (by decide +kernel) rfl (by cases a2 <;> cases a3 <;> exact Nat.le_of_ble_eq_true rfl) ?_
  refine r_lo [0, 1, 2, 3] (lo2 := [(0, .ref a0), (1, wi a1), (2, va_rf a2), (3, va_rf a3)]) (by cases a2 <;> cases a3 <;> rfl) ?_
  unfold fX0_init
  refine r_aload_n (x := a0) dX0_init_0 rfl rfl ?_
  refine r_objInit (by decide) uo_X0_1 uoi uoc (Nat.le_of_ble_eq_true rfl) dX0_init_1 ?_
  refine r_aload_n (x := a0) dX0_init_4 rfl rfl ?_
  refine r_iload_n (x := a1) dX0_init_5 rfl rfl ?_
  refine r_cputIF (c := 3) (kk := 0) hc_X0 rfl (by decide) inU_X0 (by decide) uf_X0_7 rfl tyX0 tyX0_ok nmX0 (fty := .int) (by decide) rfl rfl rfl rfl rfl rfl dX0_init_6 (fun C1 _ _ => ?_)
  refine r_aload_n (x := a0) dX0_init_9 rfl rfl ?_
  refine r_aloadq_n (x := a2) dX0_init_10 rfl rfl ?_
  refine r_cputRF (c := 3) (kk := 1) hc_X0 rfl (by decide) inU_X0 (by decide) uf_X0_13 rfl tyX0 tyX0_ok nmX0 (x := a2) (fty := .object "Weaveword$Text") (by decide) rfl rfl rfl (by decide +kernel) ⟨_, Or.inl rfl⟩ dX0_init_11 (fun C2 _ _ => ?_)
  refine r_aload_n (x := a0) dX0_init_14 rfl rfl ?_
  refine r_aloadq_n (x := a3) dX0_init_15 rfl rfl ?_
  refine r_cputRF (c := 3) (kk := 2) hc_X0 rfl (by decide) inU_X0 (by decide) uf_X0_17 rfl tyX0 tyX0_ok nmX0 (x := a3) (fty := .object "Weaveword$Approval") (by decide) rfl rfl rfl (by decide +kernel) ⟨_, Or.inl rfl⟩ dX0_init_16 (fun C3 _ _ => ?_)
  exact r_vret rfl dX0_init_19
def k_X1_combined : Kd := (yX1_combined, cX1_combined, 4, some .int, [])
theorem kv_X1_combined : KV k_X1_combined 3 := ⟨uw_mem 698 (by decide +kernel) rfl, uw_mem 95 (by decide +kernel) rfl, uw_mem 697 (by decide +kernel) rfl, uw_mem 42 (by decide +kernel) rfl, ⟨by decide +kernel, by decide +kernel⟩, by decide +kernel, by decide +kernel⟩
set_option maxHeartbeats 8000000 in
set_option maxRecDepth 100000 in
theorem c_X1_combined {l : Launch} {Γ : Cx} {M0 : Md} (hG : GK Γ l) (a0 : Nat) (a1 : Int) (a2 : Int) (a3 : Int) (C : Cd) : Ct l Γ k_X1_combined 1 encI (emC M0) [.ref a0, wi a1, wi a2, wi a3] C (fX1_combined a0 a1 a2 a3 C) := by
  refine ct_of (by decide +kernel) rfl (Nat.le_of_ble_eq_true rfl) ?_
  refine r_lo [0, 1, 2, 3] (lo2 := [(0, .ref a0), (1, wi a1), (2, wi a2), (3, wi a3)]) rfl ?_
  unfold fX1_combined
  refine r_iload_n (x := a1) dX1_combined_0 rfl rfl ?_
  refine r_tswC (v := 2) (off := 27) (tgt := 28) dX1_combined_1 (by decide) (by decide) rfl (by decide) ?_ (fun n2 => ?_)
  · refine r_iload_n (x := a2) dX1_combined_28 rfl rfl ?_
    refine r_iload_n (x := a3) dX1_combined_29 rfl rfl ?_
    refine r_iadd dX1_combined_30 ?_
    refine r_sipush (v := 1000) dX1_combined_31 rfl ?_
    refine r_irem dX1_combined_34 (by decide) ?_
    exact r_iret rfl dX1_combined_35
  refine r_tswC (v := 3) (off := 35) (tgt := 36) dX1_combined_1 (by decide) (by decide) rfl (by decide) ?_ (fun n3 => ?_)
  · refine r_iload_n (x := a2) dX1_combined_36 rfl rfl ?_
    refine r_iload_n (x := a3) dX1_combined_37 rfl rfl ?_
    refine r_isub dX1_combined_38 ?_
    refine r_sipush (v := 1000) dX1_combined_39 rfl ?_
    refine r_iadd dX1_combined_42 ?_
    refine r_sipush (v := 1000) dX1_combined_43 rfl ?_
    refine r_irem dX1_combined_46 (by decide) ?_
    exact r_iret rfl dX1_combined_47
  refine r_tswC (v := 4) (off := 47) (tgt := 48) dX1_combined_1 (by decide) (by decide) rfl (by decide) ?_ (fun n4 => ?_)
  · refine r_iload_n (x := a2) dX1_combined_48 rfl rfl ?_
    refine r_iload_n (x := a3) dX1_combined_49 rfl rfl ?_
    refine r_imul dX1_combined_50 ?_
    refine r_sipush (v := 1000) dX1_combined_51 rfl ?_
    refine r_irem dX1_combined_54 (by decide) ?_
    exact r_iret rfl dX1_combined_55
  refine r_tswD (tgt := 56) dX1_combined_1 (by omega) (by decide) ?_
  refine r_iload_n (x := a2) dX1_combined_56 rfl rfl ?_
  refine r_iload_n (x := a3) dX1_combined_57 rfl rfl ?_
  refine r_join (P := fun (J : Int → Cd → Option (Int × Cd)) => ∀ (t0_66 : Int) (C_66 : Cd), RunO l Γ k_X1_combined 1 encI (emC M0) 66 [] [wi t0_66] C_66 (J t0_66 C_66)) ?_ (fun J66 hJ66 => ?_)
  · intro t0_66 C_66
    exact r_iret rfl dX1_combined_66
  refine r_icmp_ge (tgt := 65) dX1_combined_58 (by decide) ?_ ?_
  · refine ro_iconst (v := 0) dX1_combined_65 rfl ?_
    refine r_lo [] (lo2 := []) rfl ?_
    exact hJ66 0 C
  · refine ro_iconst (v := 1) dX1_combined_61 rfl ?_
    refine r_goto (tgt := 66) dX1_combined_62 (by decide) ?_
    refine r_lo [] (lo2 := []) rfl ?_
    exact hJ66 1 C
def k_X11_has : Kd := (yX11_has, cX11_has, 2, some .boolean, [])
theorem kv_X11_has : KS k_X11_has 2 := ⟨uw_mem 659 (by decide +kernel) rfl, uw_mem 94 (by decide +kernel) rfl, uw_mem 658 (by decide +kernel) rfl, ⟨by decide +kernel, by decide +kernel⟩, by decide +kernel, by decide +kernel⟩
set_option maxHeartbeats 8000000 in
set_option maxRecDepth 100000 in
theorem c_X11_has {l : Launch} {Γ : Cx} {M0 : Md} (hG : GK Γ l) (a0 : Int) (a1 : Int) (C : Cd) : Ct l Γ k_X11_has 1 encI (emC M0) [wi a0, wi a1] C (fX11_has a0 a1 C) := by
  refine ct_of (by decide +kernel) rfl (Nat.le_of_ble_eq_true rfl) ?_
  refine r_lo [0, 1] (lo2 := [(0, wi a0), (1, wi a1)]) rfl ?_
  unfold fX11_has
  refine r_iload_n (x := a0) dX11_has_0 rfl rfl ?_
  refine r_iload_n (x := a1) dX11_has_1 rfl rfl ?_
  refine r_ishr dX11_has_2 ?_
  refine ro_iconst (v := 1) dX11_has_3 rfl ?_
  refine r_iand dX11_has_4 ?_
  refine r_join (P := fun (J : Int → Cd → Option (Int × Cd)) => ∀ (t0_13 : Int) (C_13 : Cd), RunO l Γ k_X11_has 1 encI (emC M0) 13 [] [wi t0_13] C_13 (J t0_13 C_13)) ?_ (fun J13 hJ13 => ?_)
  · intro t0_13 C_13
    exact r_zret rfl dX11_has_13
  refine r_if_eq (tgt := 12) dX11_has_5 (by decide) ?_ ?_
  · refine ro_iconst (v := 0) dX11_has_12 rfl ?_
    refine r_lo [] (lo2 := []) rfl ?_
    exact hJ13 0 C
  · refine ro_iconst (v := 1) dX11_has_8 rfl ?_
    refine r_goto (tgt := 13) dX11_has_9 (by decide) ?_
    refine r_lo [] (lo2 := []) rfl ?_
    exact hJ13 1 C
def k_X11_membersOf : Kd := (yX11_membersOf, cX11_membersOf, 4, some .int, [])
theorem kv_X11_membersOf : KS k_X11_membersOf 2 := ⟨uw_mem 656 (by decide +kernel) rfl, uw_mem 94 (by decide +kernel) rfl, uw_mem 655 (by decide +kernel) rfl, ⟨by decide +kernel, by decide +kernel⟩, by decide +kernel, by decide +kernel⟩
set_option maxHeartbeats 8000000 in
set_option maxRecDepth 100000 in
theorem c_X11_membersOf {l : Launch} {Γ : Cx} {M0 : Md} (hG : GK Γ l) (a0 : Option Nat) (a1 : Int) (C : Cd) : Ct l Γ k_X11_membersOf 2 encI (emC M0) [va_rf a0, wi a1] C (fX11_membersOf a0 a1 C) := by
  refine ct_of (by decide +kernel) rfl (by cases a0 <;> exact Nat.le_of_ble_eq_true rfl) ?_
  refine r_lo [0, 1] (lo2 := [(0, va_rf a0), (1, wi a1)]) (by cases a0 <;> rfl) ?_
  unfold fX11_membersOf
  refine ro_iconst (v := 0) dX11_membersOf_0 rfl ?_
  refine r_istore_n (lo2 := [(2, wi 0), (0, va_rf a0), (1, wi a1)]) dX11_membersOf_1 rfl (by decide) rfl ?_
  refine ro_iconst (v := 0) dX11_membersOf_2 rfl ?_
  refine r_istore_n (lo2 := [(3, wi 0), (2, wi 0), (0, va_rf a0), (1, wi a1)]) dX11_membersOf_3 rfl (by decide) rfl ?_
  refine r_loop (P := fun (J : Int → Int → Cd → Option (Int × Cd)) => ∀ (v2_4 : Int) (v3_4 : Int) (C_4 : Cd), RunO l Γ k_X11_membersOf 2 encI (emC M0) 4 [(0, va_rf a0), (1, wi a1), (2, wi v2_4), (3, wi v3_4)] [] C_4 (J v2_4 v3_4 C_4)) ?_ (fun L4 hL4 => ?_) (fun J4 hJ4 => ?_)
  · intros; exact ro_none
  · intro v2_4 v3_4 C_4
    refine r_iload_n (x := v3_4) dX11_membersOf_4 rfl rfl ?_
    refine r_aloadq_n (x := a0) dX11_membersOf_5 rfl rfl ?_
    refine r_dref (fun p1 hp1 => ?_)
    subst hp1
    refine r_calen (t := 102) rfl (by decide) dX11_membersOf_6 ?_
    refine r_icmp_ge (tgt := 38) dX11_membersOf_7 (by decide) ?_ ?_
    · refine r_iload_n (x := v2_4) dX11_membersOf_38 rfl rfl ?_
      exact r_iret rfl dX11_membersOf_39
    · refine r_aload_n (x := p1) dX11_membersOf_10 rfl rfl ?_
      refine r_iload_n (x := v3_4) dX11_membersOf_11 rfl rfl ?_
      refine r_caald (t := 102) rfl (by decide) (by decide) dX11_membersOf_12 (fun z2 => ?_)
      refine r_dref (fun p3 hp3 => ?_)
      subst hp3
      refine r_cgetRN (c := 12) (kk := 0) hc_X9 rfl (by decide) inU_X9 (by decide) hG uf_X11_260 rfl (by decide) dX11_membersOf_13 (fun z4 => ?_)
      refine r_dref (fun p5 hp5 => ?_)
      subst hp5
      refine r_cgetIN (c := 7) (kk := 4) hc_X4 rfl (by decide) inU_X4 (by decide) hG uf_X11_382 rfl (by decide) dX11_membersOf_16 ?_
      refine r_iload_n (x := a1) dX11_membersOf_19 rfl rfl ?_
      refine r_ccSi (k2 := k_X11_has) (n := 2) (rest := []) um_X11_198 rfl kv_X11_has (c_X11_has hG _ _ _) (by decide) rfl (Nat.le_of_ble_eq_true rfl) dX11_membersOf_20 rfl (fun r7 C6 => ?_)
      refine r_join (P := fun (J : Int → Cd → Option (Int × Cd)) => ∀ (v2_32 : Int) (C_32 : Cd), RunO l Γ k_X11_membersOf 2 encI (emC M0) 32 [(0, .ref p1), (1, wi a1), (2, wi v2_32), (3, wi v3_4)] [] C_32 (J v2_32 C_32)) ?_ (fun J32 hJ32 => ?_)
      · intro v2_32 C_32
        refine r_iinc (x := v3_4) (lo2 := [(3, wi (v3_4 + 1)), (0, .ref p1), (1, wi a1), (2, wi v2_32)]) dX11_membersOf_32 rfl (by decide) rfl ?_
        refine r_goto (tgt := 4) dX11_membersOf_35 (by decide) ?_
        refine r_lo [1, 2, 3, 0] (lo2 := [(0, .ref p1), (1, wi a1), (2, wi v2_32), (3, wi (v3_4 + 1))]) rfl ?_
        exact hL4 v2_32 (v3_4 + 1) C_32
      refine r_if_eq (tgt := 32) dX11_membersOf_23 (by decide) ?_ ?_
      · exact hJ32 v2_4 C6
      · refine r_iload_n (x := v2_4) dX11_membersOf_26 rfl rfl ?_
        refine ro_iconst (v := 1) dX11_membersOf_27 rfl ?_
        refine r_iload_n (x := v3_4) dX11_membersOf_28 rfl rfl ?_
        refine r_ishl dX11_membersOf_29 ?_
        refine r_ior dX11_membersOf_30 ?_
        refine r_nm (fun x2_31 => ?_)
        refine r_istore_n (lo2 := [(2, wi x2_31), (0, .ref p1), (1, wi a1), (3, wi v3_4)]) dX11_membersOf_31 rfl (by decide) rfl ?_
        refine r_lo [1, 2, 0, 3] (lo2 := [(0, .ref p1), (1, wi a1), (2, wi x2_31), (3, wi v3_4)]) rfl ?_
        exact hJ32 x2_31 C6
  refine r_lo [2, 3, 1, 0] (lo2 := [(0, va_rf a0), (1, wi a1), (2, wi 0), (3, wi 0)]) rfl ?_
  exact hJ4 0 0 C
def k_X1_countedMembers : Kd := (yX1_countedMembers, cX1_countedMembers, 2, some .int, [])
theorem kv_X1_countedMembers : KV k_X1_countedMembers 1 := ⟨uw_mem 653 (by decide +kernel) rfl, uw_mem 95 (by decide +kernel) rfl, uw_mem 652 (by decide +kernel) rfl, uw_mem 34 (by decide +kernel) rfl, ⟨by decide +kernel, by decide +kernel⟩, by decide +kernel, by decide +kernel⟩
set_option maxHeartbeats 8000000 in
set_option maxRecDepth 100000 in
theorem c_X1_countedMembers {l : Launch} {Γ : Cx} {M0 : Md} (hG : GK Γ l) (a0 : Nat) (a1 : Int) (C : Cd) : Ct l Γ k_X1_countedMembers 3 encI (emC M0) [.ref a0, wi a1] C (fX1_countedMembers a0 a1 C) := by
  refine ct_of (by decide +kernel) rfl (Nat.le_of_ble_eq_true rfl) ?_
  refine r_lo [0, 1] (lo2 := [(0, .ref a0), (1, wi a1)]) rfl ?_
  unfold fX1_countedMembers
  refine r_iload_n (x := a1) dX1_countedMembers_0 rfl rfl ?_
  refine r_join (P := fun (J : Cd → Option (Int × Cd)) => ∀  (C_10 : Cd), RunO l Γ k_X1_countedMembers 3 encI (emC M0) 10 [] [] C_10 (J C_10)) ?_ (fun J10 hJ10 => ?_)
  · intro C_10
    refine ro_iconst (v := 0) dX1_countedMembers_10 rfl ?_
    exact r_iret rfl dX1_countedMembers_11
  refine r_if_lt (tgt := 10) dX1_countedMembers_1 (by decide) ?_ ?_
  · refine r_lo [] (lo2 := []) rfl ?_
    exact hJ10  C
  · refine r_iload_n (x := a1) dX1_countedMembers_4 rfl rfl ?_
    refine r_bipush (v := 8) dX1_countedMembers_5 rfl ?_
    refine r_icmp_lt (tgt := 12) dX1_countedMembers_7 (by decide) ?_ ?_
    · refine r_aload_n (x := a0) dX1_countedMembers_12 rfl rfl ?_
      refine r_cgetR (c := 4) (kk := 7) hc_X1 rfl (by decide) inU_X1 (by decide) uf_X1_52 rfl (by decide) dX1_countedMembers_13 (fun z1 => ?_)
      refine r_dref (fun p2 hp2 => ?_)
      subst hp2
      refine r_dup dX1_countedMembers_16 rfl ?_
      refine r_cgetIN (c := 7) (kk := 6) hc_X4 rfl (by decide) inU_X4 (by decide) hG uf_X1_268 rfl (by decide) dX1_countedMembers_17 ?_
      refine ro_iconst (v := 1) dX1_countedMembers_20 rfl ?_
      refine r_iload_n (x := a1) dX1_countedMembers_21 rfl rfl ?_
      refine r_ishl dX1_countedMembers_22 ?_
      refine r_ior dX1_countedMembers_23 ?_
      refine r_cputIN (c := 7) (kk := 6) hc_X4 rfl (by decide) inU_X4 (by decide) hG uf_X1_268 rfl tyX4 tyX4_ok nmX4 (fty := .int) (by decide) rfl rfl rfl rfl dX1_countedMembers_24 (fun C3 _ _ => ?_)
      refine r_aload_n (x := a0) dX1_countedMembers_27 rfl rfl ?_
      refine r_cgetR (c := 4) (kk := 0) hc_X1 rfl (by decide) inU_X1 (by decide) uf_X1_11 rfl (by decide) dX1_countedMembers_28 (fun z4 => ?_)
      refine r_iload_n (x := a1) dX1_countedMembers_31 rfl rfl ?_
      refine r_ccSNi (k2 := k_X11_membersOf) (n := 2) (rest := []) hG um_X1_271 rfl kv_X11_membersOf (c_X11_membersOf hG _ _ _) (by decide) rfl (Nat.le_of_ble_eq_true rfl) dX1_countedMembers_32 rfl (fun r6 C5 => ?_)
      exact r_iret rfl dX1_countedMembers_35
    · refine r_lo [] (lo2 := []) rfl ?_
      exact hJ10  C
def k_X5_clear : Kd := (yX5_clear, cX5_clear, 1, none, [])
theorem kv_X5_clear : KV k_X5_clear 0 := ⟨uw_mem 540 (by decide +kernel) rfl, uw_mem 96 (by decide +kernel) rfl, uw_mem 539 (by decide +kernel) rfl, uw_mem 7 (by decide +kernel) rfl, ⟨by decide +kernel, by decide +kernel⟩, by decide +kernel, by decide +kernel⟩
set_option maxHeartbeats 8000000 in
set_option maxRecDepth 100000 in
theorem c_X5_clear {l : Launch} {Γ : Cx} {M0 : Md} (hG : GK Γ l) (a0 : Nat) (C : Cd) : Ct l Γ k_X5_clear 1 encV (emC M0) [.ref a0] C (fX5_clear a0 C) := by
  refine ct_of (by decide +kernel) rfl (Nat.le_of_ble_eq_true rfl) ?_
  refine r_lo [0] (lo2 := [(0, .ref a0)]) rfl ?_
  unfold fX5_clear
  refine r_aload_n (x := a0) dX5_clear_0 rfl rfl ?_
  refine ro_iconst (v := 0) dX5_clear_1 rfl ?_
  refine r_cputI (c := 8) (kk := 1) hc_X5 rfl (by decide) inU_X5 (by decide) uf_X5_15 rfl tyX5 tyX5_ok nmX5 (fty := .int) (by decide) rfl rfl rfl rfl dX5_clear_2 (fun C1 _ _ => ?_)
  refine r_aload_n (x := a0) dX5_clear_5 rfl rfl ?_
  refine ro_iconst (v := 0) dX5_clear_6 rfl ?_
  refine r_cputI (c := 8) (kk := 2) hc_X5 rfl (by decide) inU_X5 (by decide) uf_X5_19 rfl tyX5 tyX5_ok nmX5 (fty := .int) (by decide) rfl rfl rfl rfl dX5_clear_7 (fun C2 _ _ => ?_)
  exact r_vret rfl dX5_clear_10
def k_X4_clear : Kd := (yX4_clear, cX4_clear, 1, none, [])
theorem kv_X4_clear : KV k_X4_clear 0 := ⟨uw_mem 536 (by decide +kernel) rfl, uw_mem 97 (by decide +kernel) rfl, uw_mem 535 (by decide +kernel) rfl, uw_mem 6 (by decide +kernel) rfl, ⟨by decide +kernel, by decide +kernel⟩, by decide +kernel, by decide +kernel⟩
set_option maxHeartbeats 8000000 in
set_option maxRecDepth 100000 in
theorem c_X4_clear {l : Launch} {Γ : Cx} {M0 : Md} (hG : GK Γ l) (a0 : Nat) (C : Cd) : Ct l Γ k_X4_clear 2 encV (emC M0) [.ref a0] C (fX4_clear a0 C) := by
  refine ct_of (by decide +kernel) rfl (Nat.le_of_ble_eq_true rfl) ?_
  refine r_lo [0] (lo2 := [(0, .ref a0)]) rfl ?_
  unfold fX4_clear
  refine r_aload_n (x := a0) dX4_clear_0 rfl rfl ?_
  refine r_cgetR (c := 7) (kk := 0) hc_X4 rfl (by decide) inU_X4 (by decide) uf_X4_10 rfl (by decide) dX4_clear_1 (fun z1 => ?_)
  refine r_dref (fun p2 hp2 => ?_)
  subst hp2
  refine r_ccVNv (c := 8) (k2 := k_X5_clear) (n := 0) (rest := []) hG um_X4_39 rfl kv_X5_clear hc_X5 (by decide) (c_X5_clear hG _ _) (by decide) rfl (Nat.le_of_ble_eq_true rfl) dX4_clear_4 rfl (fun r4 C3 => ?_)
  refine r_aload_n (x := a0) dX4_clear_7 rfl rfl ?_
  refine ro_iconst (v := 0) dX4_clear_8 rfl ?_
  refine r_cputI (c := 7) (kk := 1) hc_X4 rfl (by decide) inU_X4 (by decide) uf_X4_16 rfl tyX4 tyX4_ok nmX4 (fty := .boolean) (by decide) rfl rfl rfl rfl dX4_clear_9 (fun C5 _ _ => ?_)
  refine r_aload_n (x := a0) dX4_clear_12 rfl rfl ?_
  refine ro_iconst (v := 0) dX4_clear_13 rfl ?_
  refine r_cputI (c := 7) (kk := 2) hc_X4 rfl (by decide) inU_X4 (by decide) uf_X4_20 rfl tyX4 tyX4_ok nmX4 (fty := .boolean) (by decide) rfl rfl rfl rfl dX4_clear_14 (fun C6 _ _ => ?_)
  refine r_aload_n (x := a0) dX4_clear_17 rfl rfl ?_
  refine ro_iconst (v := 0) dX4_clear_18 rfl ?_
  refine r_cputI (c := 7) (kk := 3) hc_X4 rfl (by decide) inU_X4 (by decide) uf_X4_23 rfl tyX4 tyX4_ok nmX4 (fty := .int) (by decide) rfl rfl rfl rfl dX4_clear_19 (fun C7 _ _ => ?_)
  refine r_aload_n (x := a0) dX4_clear_22 rfl rfl ?_
  refine ro_iconst (v := 0) dX4_clear_23 rfl ?_
  refine r_cputI (c := 7) (kk := 4) hc_X4 rfl (by decide) inU_X4 (by decide) uf_X4_27 rfl tyX4 tyX4_ok nmX4 (fty := .int) (by decide) rfl rfl rfl rfl dX4_clear_24 (fun C8 _ _ => ?_)
  refine r_aload_n (x := a0) dX4_clear_27 rfl rfl ?_
  refine ro_iconst (v := 0) dX4_clear_28 rfl ?_
  refine r_cputI (c := 7) (kk := 5) hc_X4 rfl (by decide) inU_X4 (by decide) uf_X4_30 rfl tyX4 tyX4_ok nmX4 (fty := .int) (by decide) rfl rfl rfl rfl dX4_clear_29 (fun C9 _ _ => ?_)
  refine r_aload_n (x := a0) dX4_clear_32 rfl rfl ?_
  refine ro_iconst (v := 0) dX4_clear_33 rfl ?_
  refine r_cputI (c := 7) (kk := 6) hc_X4 rfl (by decide) inU_X4 (by decide) uf_X4_33 rfl tyX4 tyX4_ok nmX4 (fty := .int) (by decide) rfl rfl rfl rfl dX4_clear_34 (fun C10 _ _ => ?_)
  refine r_aload_n (x := a0) dX4_clear_37 rfl rfl ?_
  refine ro_iconst (v := 0) dX4_clear_38 rfl ?_
  refine r_cputI (c := 7) (kk := 7) hc_X4 rfl (by decide) inU_X4 (by decide) uf_X4_36 rfl tyX4 tyX4_ok nmX4 (fty := .int) (by decide) rfl rfl rfl rfl dX4_clear_39 (fun C11 _ _ => ?_)
  exact r_vret rfl dX4_clear_42
def k_X2_begin : Kd := (yX2_begin, cX2_begin, 5, none, [])
theorem kv_X2_begin : KV k_X2_begin 3 := ⟨uw_mem 548 (by decide +kernel) rfl, uw_mem 100 (by decide +kernel) rfl, uw_mem 547 (by decide +kernel) rfl, uw_mem 9 (by decide +kernel) rfl, ⟨by decide +kernel, by decide +kernel⟩, by decide +kernel, by decide +kernel⟩
set_option maxHeartbeats 8000000 in
set_option maxRecDepth 100000 in
theorem c_X2_begin {l : Launch} {Γ : Cx} {M0 : Md} (hG : GK Γ l) (a0 : Nat) (a1 : Int) (a2 : Option Nat) (a3 : Option Nat) (C : Cd) : Ct l Γ k_X2_begin 1 encV (emC M0) [.ref a0, wi a1, va_rf a2, va_rf a3] C (fX2_begin a0 a1 a2 a3 C) := by
  refine ct_of (by decide +kernel) rfl (by cases a2 <;> cases a3 <;> exact Nat.le_of_ble_eq_true rfl) ?_
  refine r_lo [0, 1, 2, 3] (lo2 := [(0, .ref a0), (1, wi a1), (2, va_rf a2), (3, va_rf a3)]) (by cases a2 <;> cases a3 <;> rfl) ?_
  unfold fX2_begin
  refine r_aload_n (x := a0) dX2_begin_0 rfl rfl ?_
  refine r_iload_n (x := a1) dX2_begin_1 rfl rfl ?_
  refine r_cputI (c := 5) (kk := 5) hc_X2 rfl (by decide) inU_X2 (by decide) uf_X2_33 rfl tyX2 tyX2_ok nmX2 (fty := .int) (by decide) rfl rfl rfl rfl dX2_begin_2 (fun C1 _ _ => ?_)
  refine r_aload_n (x := a0) dX2_begin_5 rfl rfl ?_
  refine r_aloadq_n (x := a2) dX2_begin_6 rfl rfl ?_
  refine r_cputR (c := 5) (kk := 4) hc_X2 rfl (by decide) inU_X2 (by decide) uf_X2_29 rfl tyX2 tyX2_ok nmX2 (x := a2) (fty := .object "Weaveword$Text") (by decide) rfl (by decide +kernel) ⟨_, Or.inl rfl⟩ dX2_begin_7 (fun C2 _ _ => ?_)
  refine r_aload_n (x := a0) dX2_begin_10 rfl rfl ?_
  refine r_aloadq_n (x := a3) dX2_begin_11 rfl rfl ?_
  refine r_cputR (c := 5) (kk := 3) hc_X2 rfl (by decide) inU_X2 (by decide) uf_X2_25 rfl tyX2 tyX2_ok nmX2 (x := a3) (fty := .object "Weaveword$Frame") (by decide) rfl (by decide +kernel) ⟨_, Or.inl rfl⟩ dX2_begin_12 (fun C3 _ _ => ?_)
  refine r_aload_n (x := a0) dX2_begin_15 rfl rfl ?_
  refine r_aloadq_n (x := a3) dX2_begin_16 rfl rfl ?_
  refine r_join (P := fun (J : Int → Cd → Option (Unit × Cd)) => ∀ (t0_30 : Int) (C_30 : Cd), RunO l Γ k_X2_begin 1 encV (emC M0) 30 [(0, .ref a0)] [wi t0_30, .ref a0] C_30 (J t0_30 C_30)) ?_ (fun J30 hJ30 => ?_)
  · intro t0_30 C_30
    refine r_cputI (c := 5) (kk := 6) hc_X2 rfl (by decide) inU_X2 (by decide) uf_X2_37 rfl tyX2 tyX2_ok nmX2 (fty := .int) (by decide) rfl rfl rfl rfl dX2_begin_30 (fun C4 _ _ => ?_)
    refine ro_iconst (v := 0) dX2_begin_33 rfl ?_
    refine r_istore (lo2 := [(4, wi 0), (0, .ref a0)]) dX2_begin_34 (by decide) rfl ?_
    refine r_loop (P := fun (J : Int → Cd → Option (Unit × Cd)) => ∀ (v4_36 : Int) (C_36 : Cd), RunO l Γ k_X2_begin 1 encV (emC M0) 36 [(0, .ref a0), (4, wi v4_36)] [] C_36 (J v4_36 C_36)) ?_ (fun L36 hL36 => ?_) (fun J36 hJ36 => ?_)
    · intros; exact ro_none
    · intro v4_36 C_36
      refine r_iload (x := v4_36) dX2_begin_36 rfl ?_
      refine r_aload_n (x := a0) dX2_begin_38 rfl rfl ?_
      refine r_cgetR (c := 5) (kk := 0) hc_X2 rfl (by decide) inU_X2 (by decide) uf_X2_9 rfl (by decide) dX2_begin_39 (fun z5 => ?_)
      refine r_dref (fun p6 hp6 => ?_)
      subst hp6
      refine r_calen (t := 100) rfl (by decide) dX2_begin_42 ?_
      refine r_icmp_ge (tgt := 60) dX2_begin_43 (by decide) ?_ ?_
      · refine ro_iconst (v := 0) dX2_begin_60 rfl ?_
        refine r_istore (lo2 := [(4, wi 0), (0, .ref a0)]) dX2_begin_61 (by decide) rfl ?_
        refine r_loop (P := fun (J : Int → Cd → Option (Unit × Cd)) => ∀ (v4_63 : Int) (C_63 : Cd), RunO l Γ k_X2_begin 1 encV (emC M0) 63 [(0, .ref a0), (4, wi v4_63)] [] C_63 (J v4_63 C_63)) ?_ (fun L63 hL63 => ?_) (fun J63 hJ63 => ?_)
        · intros; exact ro_none
        · intro v4_63 C_63
          refine r_iload (x := v4_63) dX2_begin_63 rfl ?_
          refine r_aload_n (x := a0) dX2_begin_65 rfl rfl ?_
          refine r_cgetR (c := 5) (kk := 2) hc_X2 rfl (by decide) inU_X2 (by decide) uf_X2_21 rfl (by decide) dX2_begin_66 (fun z7 => ?_)
          refine r_dref (fun p8 hp8 => ?_)
          subst hp8
          refine r_calen (t := 101) rfl (by decide) dX2_begin_69 ?_
          refine r_icmp_ge (tgt := 87) dX2_begin_70 (by decide) ?_ ?_
          · exact r_vret rfl dX2_begin_87
          · refine r_aload_n (x := a0) dX2_begin_73 rfl rfl ?_
            refine r_cgetR (c := 5) (kk := 2) hc_X2 rfl (by decide) inU_X2 (by decide) uf_X2_21 rfl (by decide) dX2_begin_74 (fun z9 => ?_)
            refine r_iload (x := v4_63) dX2_begin_77 rfl ?_
            refine ro_iconst (v := 0) dX2_begin_79 rfl ?_
            refine r_dref (fun p10 hp10 => ?_)
            subst hp10
            refine r_czast (by first | exact Or.inl rfl | exact Or.inr rfl) dX2_begin_80 (fun C11 _ _ => ?_)
            refine r_iinc (x := v4_63) (lo2 := [(4, wi (v4_63 + 1)), (0, .ref a0)]) dX2_begin_81 rfl (by decide) rfl ?_
            refine r_goto (tgt := 63) dX2_begin_84 (by decide) ?_
            refine r_lo [1, 0] (lo2 := [(0, .ref a0), (4, wi (v4_63 + 1))]) rfl ?_
            exact hL63 (v4_63 + 1) C11
        refine r_lo [1, 0] (lo2 := [(0, .ref a0), (4, wi 0)]) rfl ?_
        exact hJ63 0 C_36
      · refine r_aload_n (x := a0) dX2_begin_46 rfl rfl ?_
        refine r_cgetR (c := 5) (kk := 0) hc_X2 rfl (by decide) inU_X2 (by decide) uf_X2_9 rfl (by decide) dX2_begin_47 (fun z12 => ?_)
        refine r_iload (x := v4_36) dX2_begin_50 rfl ?_
        refine ro_iconst (v := (-1)) dX2_begin_52 rfl ?_
        refine r_dref (fun p13 hp13 => ?_)
        subst hp13
        refine r_ciast dX2_begin_53 (fun C14 _ _ => ?_)
        refine r_iinc (x := v4_36) (lo2 := [(4, wi (v4_36 + 1)), (0, .ref a0)]) dX2_begin_54 rfl (by decide) rfl ?_
        refine r_goto (tgt := 36) dX2_begin_57 (by decide) ?_
        refine r_lo [1, 0] (lo2 := [(0, .ref a0), (4, wi (v4_36 + 1))]) rfl ?_
        exact hL36 (v4_36 + 1) C14
    refine r_lo [1, 0] (lo2 := [(0, .ref a0), (4, wi 0)]) rfl ?_
    exact hJ36 0 C4
  refine r_opt (fun hn => ?_) (fun p15 hp15 => ?_)
  · subst hn
    refine r_ifnonnullN dX2_begin_17 ?_
    refine ro_iconst (v := 0) dX2_begin_20 rfl ?_
    refine r_goto (tgt := 30) dX2_begin_21 (by decide) ?_
    refine r_lo [0] (lo2 := [(0, .ref a0)]) rfl ?_
    exact hJ30 0 C3
  · subst hp15
    refine r_ifnonnullS (a := p15) (tgt := 24) dX2_begin_17 (by decide) ?_
    refine r_aload_n (x := p15) dX2_begin_24 rfl rfl ?_
    refine r_cgetI (c := 5) (kk := 6) hc_X2 rfl (by decide) inU_X2 (by decide) uf_X2_37 rfl (by decide) dX2_begin_25 ?_
    refine ro_iconst (v := 1) dX2_begin_28 rfl ?_
    refine r_iadd dX2_begin_29 ?_
    refine r_lo [0] (lo2 := [(0, .ref a0)]) rfl ?_
    exact hJ30 ((cI C3 506 p15) + 1) C3
def k_X1_openRun : Kd := (yX1_openRun, cX1_openRun, 6, none, [])
theorem kv_X1_openRun : KV k_X1_openRun 4 := ⟨uw_mem 552 (by decide +kernel) rfl, uw_mem 95 (by decide +kernel) rfl, uw_mem 551 (by decide +kernel) rfl, uw_mem 10 (by decide +kernel) rfl, ⟨by decide +kernel, by decide +kernel⟩, by decide +kernel, by decide +kernel⟩
set_option maxHeartbeats 8000000 in
set_option maxRecDepth 100000 in
theorem c_X1_openRun {l : Launch} {Γ : Cx} {M0 : Md} (hG : GK Γ l) (a0 : Nat) (a1 : Option Nat) (a2 : Int) (a3 : Int) (a4 : Option Nat) (C : Cd) : Ct l Γ k_X1_openRun 1 encV (emC M0) [.ref a0, va_rf a1, wi a2, wi a3, va_rf a4] C (fX1_openRun a0 a1 a2 a3 a4 C) := by
  refine ct_of (by decide +kernel) rfl (by cases a1 <;> cases a4 <;> exact Nat.le_of_ble_eq_true rfl) ?_
  refine r_lo [0, 1, 2, 3, 4] (lo2 := [(0, .ref a0), (1, va_rf a1), (2, wi a2), (3, wi a3), (4, va_rf a4)]) (by cases a1 <;> cases a4 <;> rfl) ?_
  unfold fX1_openRun
  refine r_aload_n (x := a0) dX1_openRun_0 rfl rfl ?_
  refine r_cgetI (c := 4) (kk := 9) hc_X1 rfl (by decide) inU_X1 (by decide) uf_X1_60 rfl (by decide) dX1_openRun_1 ?_
  refine r_aload_n (x := a0) dX1_openRun_4 rfl rfl ?_
  refine r_cgetR (c := 4) (kk := 3) hc_X1 rfl (by decide) inU_X1 (by decide) uf_X1_31 rfl (by decide) dX1_openRun_5 (fun z1 => ?_)
  refine r_dref (fun p2 hp2 => ?_)
  subst hp2
  refine r_calen (t := 105) rfl (by decide) dX1_openRun_8 ?_
  refine r_join (P := fun (J : Cd → Option (Unit × Cd)) => ∀  (C_58 : Cd), RunO l Γ k_X1_openRun 1 encV (emC M0) 58 [] [] C_58 (J C_58)) ?_ (fun J58 hJ58 => ?_)
  · intro C_58
    exact r_vret rfl dX1_openRun_58
  refine r_icmp_ge (tgt := 58) dX1_openRun_9 (by decide) ?_ ?_
  · refine r_lo [] (lo2 := []) rfl ?_
    exact hJ58  C
  · refine r_aload_n (x := a0) dX1_openRun_12 rfl rfl ?_
    refine r_cgetR (c := 4) (kk := 3) hc_X1 rfl (by decide) inU_X1 (by decide) uf_X1_31 rfl (by decide) dX1_openRun_13 (fun z3 => ?_)
    refine r_aload_n (x := a0) dX1_openRun_16 rfl rfl ?_
    refine r_cgetI (c := 4) (kk := 9) hc_X1 rfl (by decide) inU_X1 (by decide) uf_X1_60 rfl (by decide) dX1_openRun_17 ?_
    refine r_dref (fun p4 hp4 => ?_)
    subst hp4
    refine r_caald (t := 105) rfl (by decide) (by decide) dX1_openRun_20 (fun z5 => ?_)
    refine r_astoreq (lo2 := [(5, va_rf z5), (0, .ref a0), (1, va_rf a1), (2, wi a2), (3, wi a3), (4, va_rf a4)]) dX1_openRun_21 (by decide) (by cases a4 <;> rfl) ?_
    refine r_aload_n (x := a0) dX1_openRun_23 rfl rfl ?_
    refine r_dup dX1_openRun_24 rfl ?_
    refine r_cgetI (c := 4) (kk := 9) hc_X1 rfl (by decide) inU_X1 (by decide) uf_X1_60 rfl (by decide) dX1_openRun_25 ?_
    refine ro_iconst (v := 1) dX1_openRun_28 rfl ?_
    refine r_iadd dX1_openRun_29 ?_
    refine r_cputI (c := 4) (kk := 9) hc_X1 rfl (by decide) inU_X1 (by decide) uf_X1_60 rfl tyX1 tyX1_ok nmX1 (fty := .int) (by decide) rfl rfl rfl rfl dX1_openRun_30 (fun C6 _ _ => ?_)
    refine r_aloadq (x := z5) dX1_openRun_33 rfl ?_
    refine r_aloadq_n (x := a1) dX1_openRun_35 rfl rfl ?_
    refine r_dref (fun p7 hp7 => ?_)
    subst hp7
    refine r_cputRN (c := 9) (kk := 0) hc_X6 rfl (by decide) inU_X6 (by decide) hG uf_X1_116 rfl tyX6 tyX6_ok nmX6 (x := a1) (fty := .object "Weaveword$Frame") (by decide) rfl (by decide +kernel) ⟨_, Or.inl rfl⟩ dX1_openRun_36 (fun C8 _ _ => ?_)
    refine r_aload (x := p7) dX1_openRun_39 rfl ?_
    refine r_iload_n (x := a2) dX1_openRun_41 rfl rfl ?_
    refine r_cputIN (c := 9) (kk := 2) hc_X6 rfl (by decide) inU_X6 (by decide) hG uf_X1_93 rfl tyX6 tyX6_ok nmX6 (fty := .int) (by decide) rfl rfl rfl rfl dX1_openRun_42 (fun C9 _ _ => ?_)
    refine r_aload (x := p7) dX1_openRun_45 rfl ?_
    refine r_iload_n (x := a3) dX1_openRun_47 rfl rfl ?_
    refine r_cputIN (c := 9) (kk := 3) hc_X6 rfl (by decide) inU_X6 (by decide) hG uf_X1_96 rfl tyX6 tyX6_ok nmX6 (fty := .int) (by decide) rfl rfl rfl rfl dX1_openRun_48 (fun C10 _ _ => ?_)
    refine r_aload (x := p7) dX1_openRun_51 rfl ?_
    refine r_aloadq (x := a4) dX1_openRun_53 rfl ?_
    refine r_cputRN (c := 9) (kk := 1) hc_X6 rfl (by decide) inU_X6 (by decide) hG uf_X1_120 rfl tyX6 tyX6_ok nmX6 (x := a4) (fty := .object "Weaveword$Row") (by decide) rfl (by decide +kernel) ⟨_, Or.inl rfl⟩ dX1_openRun_55 (fun C11 _ _ => ?_)
    refine r_lo [] (lo2 := []) rfl ?_
    exact hJ58  C11
def k_X1_openFrame : Kd := (yX1_openFrame, cX1_openFrame, 6, some (.object "Weaveword$Frame"), [])
theorem kv_X1_openFrame : KV k_X1_openFrame 4 := ⟨uw_mem 544 (by decide +kernel) rfl, uw_mem 95 (by decide +kernel) rfl, uw_mem 543 (by decide +kernel) rfl, uw_mem 8 (by decide +kernel) rfl, ⟨by decide +kernel, by decide +kernel⟩, by decide +kernel, by decide +kernel⟩
set_option maxHeartbeats 8000000 in
set_option maxRecDepth 100000 in
theorem c_X1_openFrame {l : Launch} {Γ : Cx} {M0 : Md} (hG : GK Γ l) (a0 : Nat) (a1 : Int) (a2 : Option Nat) (a3 : Option Nat) (a4 : Option Nat) (C : Cd) : Ct l Γ k_X1_openFrame 2 encR (emC M0) [.ref a0, wi a1, va_rf a2, va_rf a3, va_rf a4] C (fX1_openFrame a0 a1 a2 a3 a4 C) := by
  refine ct_of (by decide +kernel) rfl (by cases a2 <;> cases a3 <;> cases a4 <;> exact Nat.le_of_ble_eq_true rfl) ?_
  refine r_lo [0, 1, 2, 3, 4] (lo2 := [(0, .ref a0), (1, wi a1), (2, va_rf a2), (3, va_rf a3), (4, va_rf a4)]) (by cases a2 <;> cases a3 <;> cases a4 <;> rfl) ?_
  unfold fX1_openFrame
  refine r_aload_n (x := a0) dX1_openFrame_0 rfl rfl ?_
  refine r_cgetI (c := 4) (kk := 8) hc_X1 rfl (by decide) inU_X1 (by decide) uf_X1_56 rfl (by decide) dX1_openFrame_1 ?_
  refine r_aload_n (x := a0) dX1_openFrame_4 rfl rfl ?_
  refine r_cgetR (c := 4) (kk := 2) hc_X1 rfl (by decide) inU_X1 (by decide) uf_X1_25 rfl (by decide) dX1_openFrame_5 (fun z1 => ?_)
  refine r_dref (fun p2 hp2 => ?_)
  subst hp2
  refine r_calen (t := 104) rfl (by decide) dX1_openFrame_8 ?_
  refine r_join (P := fun (J : Cd → Option (Option Nat × Cd)) => ∀  (C_16 : Cd), RunO l Γ k_X1_openFrame 2 encR (emC M0) 16 [] [] C_16 (J C_16)) ?_ (fun J16 hJ16 => ?_)
  · intro C_16
    refine r_null dX1_openFrame_16 ?_
    exact r_aret (x := none) rfl (Or.inl ⟨_, rfl⟩) dX1_openFrame_17
  refine r_icmp_ge (tgt := 16) dX1_openFrame_9 (by decide) ?_ ?_
  · refine r_lo [] (lo2 := []) rfl ?_
    exact hJ16  C
  · refine r_aloadq_n (x := a2) dX1_openFrame_12 rfl rfl ?_
    refine r_opt (fun hn => ?_) (fun p3 hp3 => ?_)
    · subst hn
      refine r_ifnonnullN dX1_openFrame_13 ?_
      refine r_lo [] (lo2 := []) rfl ?_
      exact hJ16  C
    · subst hp3
      refine r_ifnonnullS (a := p3) (tgt := 18) dX1_openFrame_13 (by decide) ?_
      refine r_aload_n (x := a0) dX1_openFrame_18 rfl rfl ?_
      refine r_cgetR (c := 4) (kk := 2) hc_X1 rfl (by decide) inU_X1 (by decide) uf_X1_25 rfl (by decide) dX1_openFrame_19 (fun z4 => ?_)
      refine r_aload_n (x := a0) dX1_openFrame_22 rfl rfl ?_
      refine r_cgetI (c := 4) (kk := 8) hc_X1 rfl (by decide) inU_X1 (by decide) uf_X1_56 rfl (by decide) dX1_openFrame_23 ?_
      refine r_dref (fun p5 hp5 => ?_)
      subst hp5
      refine r_caald (t := 104) rfl (by decide) (by decide) dX1_openFrame_26 (fun z6 => ?_)
      refine r_astoreq (lo2 := [(5, va_rf z6), (0, .ref a0), (1, wi a1), (2, .ref p3), (3, va_rf a3), (4, va_rf a4)]) dX1_openFrame_27 (by decide) (by cases a4 <;> rfl) ?_
      refine r_aload_n (x := a0) dX1_openFrame_29 rfl rfl ?_
      refine r_dup dX1_openFrame_30 rfl ?_
      refine r_cgetI (c := 4) (kk := 8) hc_X1 rfl (by decide) inU_X1 (by decide) uf_X1_56 rfl (by decide) dX1_openFrame_31 ?_
      refine ro_iconst (v := 1) dX1_openFrame_34 rfl ?_
      refine r_iadd dX1_openFrame_35 ?_
      refine r_cputI (c := 4) (kk := 8) hc_X1 rfl (by decide) inU_X1 (by decide) uf_X1_56 rfl tyX1 tyX1_ok nmX1 (fty := .int) (by decide) rfl rfl rfl rfl dX1_openFrame_36 (fun C7 _ _ => ?_)
      refine r_aloadq (x := z6) dX1_openFrame_39 rfl ?_
      refine r_iload_n (x := a1) dX1_openFrame_41 rfl rfl ?_
      refine r_aload_n (x := p3) dX1_openFrame_42 rfl rfl ?_
      refine r_aloadq_n (x := a3) dX1_openFrame_43 rfl rfl ?_
      refine r_dref (fun p8 hp8 => ?_)
      subst hp8
      refine r_ccVNv (c := 5) (k2 := k_X2_begin) (n := 3) (rest := []) hG um_X1_103 rfl kv_X2_begin hc_X2 (by decide) (c_X2_begin hG _ _ _ _ _) (by decide) rfl (Nat.le_of_ble_eq_true rfl) dX1_openFrame_44 rfl (fun r10 C9 => ?_)
      refine r_aload_n (x := a0) dX1_openFrame_47 rfl rfl ?_
      refine r_aload (x := p8) dX1_openFrame_48 rfl ?_
      refine ro_iconst (v := 0) dX1_openFrame_50 rfl ?_
      refine r_aload_n (x := p3) dX1_openFrame_51 rfl rfl ?_
      refine r_cgetIN (c := 11) (kk := 2) hc_X8 rfl (by decide) inU_X8 (by decide) hG uf_X1_107 rfl (by decide) dX1_openFrame_52 ?_
      refine r_aloadq (x := a4) dX1_openFrame_55 rfl ?_
      refine r_ccVv (c := 4) (k2 := k_X1_openRun) (n := 4) (rest := []) um_X1_112 rfl kv_X1_openRun hc_X1 (by decide) (c_X1_openRun hG _ _ _ _ _ _) (by decide) rfl (Nat.le_of_ble_eq_true rfl) dX1_openFrame_57 rfl (fun r12 C11 => ?_)
      refine r_aload (x := p8) dX1_openFrame_60 rfl ?_
      exact r_aret (x := (some p8)) rfl (Or.inl ⟨_, rfl⟩) dX1_openFrame_62
def k_X8_valueAt : Kd := (yX8_valueAt, cX8_valueAt, 2, some .int, [])
theorem kv_X8_valueAt : KV k_X8_valueAt 1 := ⟨uw_mem 561 (by decide +kernel) rfl, uw_mem 102 (by decide +kernel) rfl, uw_mem 560 (by decide +kernel) rfl, uw_mem 12 (by decide +kernel) rfl, ⟨by decide +kernel, by decide +kernel⟩, by decide +kernel, by decide +kernel⟩
set_option maxHeartbeats 8000000 in
set_option maxRecDepth 100000 in
theorem c_X8_valueAt {l : Launch} {Γ : Cx} {M0 : Md} (hG : GK Γ l) (a0 : Nat) (a1 : Int) (C : Cd) : Ct l Γ k_X8_valueAt 1 encI (emC M0) [.ref a0, wi a1] C (fX8_valueAt a0 a1 C) := by
  refine ct_of (by decide +kernel) rfl (Nat.le_of_ble_eq_true rfl) ?_
  refine r_lo [0, 1] (lo2 := [(0, .ref a0), (1, wi a1)]) rfl ?_
  unfold fX8_valueAt
  refine r_iload_n (x := a1) dX8_valueAt_0 rfl rfl ?_
  refine r_join (P := fun (J : Int → Cd → Option (Int × Cd)) => ∀ (t0_26 : Int) (C_26 : Cd), RunO l Γ k_X8_valueAt 1 encI (emC M0) 26 [] [wi t0_26] C_26 (J t0_26 C_26)) ?_ (fun J26 hJ26 => ?_)
  · intro t0_26 C_26
    exact r_iret rfl dX8_valueAt_26
  refine r_join (P := fun (J : Cd → Option (Int × Cd)) => ∀  (C_25 : Cd), RunO l Γ k_X8_valueAt 1 encI (emC M0) 25 [] [] C_25 (J C_25)) ?_ (fun J25 hJ25 => ?_)
  · intro C_25
    refine ro_iconst (v := (-1)) dX8_valueAt_25 rfl ?_
    exact hJ26 (-1) C_25
  refine r_if_lt (tgt := 25) dX8_valueAt_1 (by decide) ?_ ?_
  · refine r_lo [] (lo2 := []) rfl ?_
    exact hJ25  C
  · refine r_iload_n (x := a1) dX8_valueAt_4 rfl rfl ?_
    refine r_aload_n (x := a0) dX8_valueAt_5 rfl rfl ?_
    refine r_cgetI (c := 11) (kk := 2) hc_X8 rfl (by decide) inU_X8 (by decide) uf_X8_9 rfl (by decide) dX8_valueAt_6 ?_
    refine r_icmp_ge (tgt := 25) dX8_valueAt_9 (by decide) ?_ ?_
    · refine r_lo [] (lo2 := []) rfl ?_
      exact hJ25  C
    · refine r_aload_n (x := a0) dX8_valueAt_12 rfl rfl ?_
      refine r_cgetR (c := 11) (kk := 0) hc_X8 rfl (by decide) inU_X8 (by decide) uf_X8_15 rfl (by decide) dX8_valueAt_13 (fun z1 => ?_)
      refine r_iload_n (x := a1) dX8_valueAt_16 rfl rfl ?_
      refine r_dref (fun p2 hp2 => ?_)
      subst hp2
      refine r_ciald dX8_valueAt_17 ?_
      refine r_sipush (v := 1000) dX8_valueAt_18 rfl ?_
      refine r_irem dX8_valueAt_21 (by decide) ?_
      refine r_goto (tgt := 26) dX8_valueAt_22 (by decide) ?_
      refine r_lo [] (lo2 := []) rfl ?_
      exact hJ26 (remI (cE C p2 (ix a1)) 1000) C
def k_X8_kindAt : Kd := (yX8_kindAt, cX8_kindAt, 2, some .int, [])
theorem kv_X8_kindAt : KV k_X8_kindAt 1 := ⟨uw_mem 565 (by decide +kernel) rfl, uw_mem 102 (by decide +kernel) rfl, uw_mem 564 (by decide +kernel) rfl, uw_mem 13 (by decide +kernel) rfl, ⟨by decide +kernel, by decide +kernel⟩, by decide +kernel, by decide +kernel⟩
set_option maxHeartbeats 8000000 in
set_option maxRecDepth 100000 in
theorem c_X8_kindAt {l : Launch} {Γ : Cx} {M0 : Md} (hG : GK Γ l) (a0 : Nat) (a1 : Int) (C : Cd) : Ct l Γ k_X8_kindAt 1 encI (emC M0) [.ref a0, wi a1] C (fX8_kindAt a0 a1 C) := by
  refine ct_of (by decide +kernel) rfl (Nat.le_of_ble_eq_true rfl) ?_
  refine r_lo [0, 1] (lo2 := [(0, .ref a0), (1, wi a1)]) rfl ?_
  unfold fX8_kindAt
  refine r_iload_n (x := a1) dX8_kindAt_0 rfl rfl ?_
  refine r_join (P := fun (J : Int → Cd → Option (Int × Cd)) => ∀ (t0_26 : Int) (C_26 : Cd), RunO l Γ k_X8_kindAt 1 encI (emC M0) 26 [] [wi t0_26] C_26 (J t0_26 C_26)) ?_ (fun J26 hJ26 => ?_)
  · intro t0_26 C_26
    exact r_iret rfl dX8_kindAt_26
  refine r_join (P := fun (J : Cd → Option (Int × Cd)) => ∀  (C_25 : Cd), RunO l Γ k_X8_kindAt 1 encI (emC M0) 25 [] [] C_25 (J C_25)) ?_ (fun J25 hJ25 => ?_)
  · intro C_25
    refine ro_iconst (v := (-1)) dX8_kindAt_25 rfl ?_
    exact hJ26 (-1) C_25
  refine r_if_lt (tgt := 25) dX8_kindAt_1 (by decide) ?_ ?_
  · refine r_lo [] (lo2 := []) rfl ?_
    exact hJ25  C
  · refine r_iload_n (x := a1) dX8_kindAt_4 rfl rfl ?_
    refine r_aload_n (x := a0) dX8_kindAt_5 rfl rfl ?_
    refine r_cgetI (c := 11) (kk := 2) hc_X8 rfl (by decide) inU_X8 (by decide) uf_X8_9 rfl (by decide) dX8_kindAt_6 ?_
    refine r_icmp_ge (tgt := 25) dX8_kindAt_9 (by decide) ?_ ?_
    · refine r_lo [] (lo2 := []) rfl ?_
      exact hJ25  C
    · refine r_aload_n (x := a0) dX8_kindAt_12 rfl rfl ?_
      refine r_cgetR (c := 11) (kk := 0) hc_X8 rfl (by decide) inU_X8 (by decide) uf_X8_15 rfl (by decide) dX8_kindAt_13 (fun z1 => ?_)
      refine r_iload_n (x := a1) dX8_kindAt_16 rfl rfl ?_
      refine r_dref (fun p2 hp2 => ?_)
      subst hp2
      refine r_ciald dX8_kindAt_17 ?_
      refine r_sipush (v := 1000) dX8_kindAt_18 rfl ?_
      refine r_idiv dX8_kindAt_21 (by decide) ?_
      refine r_goto (tgt := 26) dX8_kindAt_22 (by decide) ?_
      refine r_lo [] (lo2 := []) rfl ?_
      exact hJ26 (divI (cE C p2 (ix a1)) 1000) C
def k_X5_add : Kd := (yX5_add, cX5_add, 2, none, [])
theorem kv_X5_add : KV k_X5_add 1 := ⟨uw_mem 569 (by decide +kernel) rfl, uw_mem 96 (by decide +kernel) rfl, uw_mem 568 (by decide +kernel) rfl, uw_mem 14 (by decide +kernel) rfl, ⟨by decide +kernel, by decide +kernel⟩, by decide +kernel, by decide +kernel⟩
set_option maxHeartbeats 8000000 in
set_option maxRecDepth 100000 in
theorem c_X5_add {l : Launch} {Γ : Cx} {M0 : Md} (hG : GK Γ l) (a0 : Nat) (a1 : Int) (C : Cd) : Ct l Γ k_X5_add 1 encV (emC M0) [.ref a0, wi a1] C (fX5_add a0 a1 C) := by
  refine ct_of (by decide +kernel) rfl (Nat.le_of_ble_eq_true rfl) ?_
  refine r_lo [0, 1] (lo2 := [(0, .ref a0), (1, wi a1)]) rfl ?_
  unfold fX5_add
  refine r_aload_n (x := a0) dX5_add_0 rfl rfl ?_
  refine r_cgetI (c := 8) (kk := 1) hc_X5 rfl (by decide) inU_X5 (by decide) uf_X5_15 rfl (by decide) dX5_add_1 ?_
  refine r_aload_n (x := a0) dX5_add_4 rfl rfl ?_
  refine r_cgetR (c := 8) (kk := 0) hc_X5 rfl (by decide) inU_X5 (by decide) uf_X5_9 rfl (by decide) dX5_add_5 (fun z1 => ?_)
  refine r_dref (fun p2 hp2 => ?_)
  subst hp2
  refine r_calen (t := 100) rfl (by decide) dX5_add_8 ?_
  refine r_join (P := fun (J : Cd → Option (Unit × Cd)) => ∀  (C_53 : Cd), RunO l Γ k_X5_add 1 encV (emC M0) 53 [] [] C_53 (J C_53)) ?_ (fun J53 hJ53 => ?_)
  · intro C_53
    exact r_vret rfl dX5_add_53
  refine r_icmp_ge (tgt := 53) dX5_add_9 (by decide) ?_ ?_
  · refine r_lo [] (lo2 := []) rfl ?_
    exact hJ53  C
  · refine r_aload_n (x := a0) dX5_add_12 rfl rfl ?_
    refine r_cgetR (c := 8) (kk := 0) hc_X5 rfl (by decide) inU_X5 (by decide) uf_X5_9 rfl (by decide) dX5_add_13 (fun z3 => ?_)
    refine r_aload_n (x := a0) dX5_add_16 rfl rfl ?_
    refine r_cgetI (c := 8) (kk := 1) hc_X5 rfl (by decide) inU_X5 (by decide) uf_X5_15 rfl (by decide) dX5_add_17 ?_
    refine r_iload_n (x := a1) dX5_add_20 rfl rfl ?_
    refine r_dref (fun p4 hp4 => ?_)
    subst hp4
    refine r_ciast dX5_add_21 (fun C5 _ _ => ?_)
    refine r_aload_n (x := a0) dX5_add_22 rfl rfl ?_
    refine r_dup dX5_add_23 rfl ?_
    refine r_cgetI (c := 8) (kk := 1) hc_X5 rfl (by decide) inU_X5 (by decide) uf_X5_15 rfl (by decide) dX5_add_24 ?_
    refine ro_iconst (v := 1) dX5_add_27 rfl ?_
    refine r_iadd dX5_add_28 ?_
    refine r_cputI (c := 8) (kk := 1) hc_X5 rfl (by decide) inU_X5 (by decide) uf_X5_15 rfl tyX5 tyX5_ok nmX5 (fty := .int) (by decide) rfl rfl rfl rfl dX5_add_29 (fun C6 _ _ => ?_)
    refine r_aload_n (x := a0) dX5_add_32 rfl rfl ?_
    refine r_dup dX5_add_33 rfl ?_
    refine r_cgetI (c := 8) (kk := 2) hc_X5 rfl (by decide) inU_X5 (by decide) uf_X5_19 rfl (by decide) dX5_add_34 ?_
    refine r_iload_n (x := a1) dX5_add_37 rfl rfl ?_
    refine r_sipush (v := 1000) dX5_add_38 rfl ?_
    refine r_join (P := fun (J : Int → Cd → Option (Unit × Cd)) => ∀ (t0_49 : Int) (C_49 : Cd), RunO l Γ k_X5_add 1 encV (emC M0) 49 [] [wi t0_49, wi (cI C6 802 a0), .ref a0] C_49 (J t0_49 C_49)) ?_ (fun J49 hJ49 => ?_)
    · intro t0_49 C_49
      refine r_iadd dX5_add_49 ?_
      refine r_cputI (c := 8) (kk := 2) hc_X5 rfl (by decide) inU_X5 (by decide) uf_X5_19 rfl tyX5 tyX5_ok nmX5 (fty := .int) (by decide) rfl rfl rfl rfl dX5_add_50 (fun C7 _ _ => ?_)
      exact hJ53  C7
    refine r_icmp_ge (tgt := 48) dX5_add_41 (by decide) ?_ ?_
    · refine ro_iconst (v := 0) dX5_add_48 rfl ?_
      refine r_lo [] (lo2 := []) rfl ?_
      exact hJ49 0 C6
    · refine r_iload_n (x := a1) dX5_add_44 rfl rfl ?_
      refine r_goto (tgt := 49) dX5_add_45 (by decide) ?_
      refine r_lo [] (lo2 := []) rfl ?_
      exact hJ49 a1 C6
def k_X8_endAt : Kd := (yX8_endAt, cX8_endAt, 2, some .int, [])
theorem kv_X8_endAt : KV k_X8_endAt 1 := ⟨uw_mem 573 (by decide +kernel) rfl, uw_mem 102 (by decide +kernel) rfl, uw_mem 572 (by decide +kernel) rfl, uw_mem 15 (by decide +kernel) rfl, ⟨by decide +kernel, by decide +kernel⟩, by decide +kernel, by decide +kernel⟩
set_option maxHeartbeats 8000000 in
set_option maxRecDepth 100000 in
theorem c_X8_endAt {l : Launch} {Γ : Cx} {M0 : Md} (hG : GK Γ l) (a0 : Nat) (a1 : Int) (C : Cd) : Ct l Γ k_X8_endAt 1 encI (emC M0) [.ref a0, wi a1] C (fX8_endAt a0 a1 C) := by
  refine ct_of (by decide +kernel) rfl (Nat.le_of_ble_eq_true rfl) ?_
  refine r_lo [0, 1] (lo2 := [(0, .ref a0), (1, wi a1)]) rfl ?_
  unfold fX8_endAt
  refine r_iload_n (x := a1) dX8_endAt_0 rfl rfl ?_
  refine r_join (P := fun (J : Int → Cd → Option (Int × Cd)) => ∀ (t0_25 : Int) (C_25 : Cd), RunO l Γ k_X8_endAt 1 encI (emC M0) 25 [] [wi t0_25] C_25 (J t0_25 C_25)) ?_ (fun J25 hJ25 => ?_)
  · intro t0_25 C_25
    exact r_iret rfl dX8_endAt_25
  refine r_join (P := fun (J : Cd → Option (Int × Cd)) => ∀  (C_21 : Cd), RunO l Γ k_X8_endAt 1 encI (emC M0) 21 [(0, .ref a0)] [] C_21 (J C_21)) ?_ (fun J21 hJ21 => ?_)
  · intro C_21
    refine r_aload_n (x := a0) dX8_endAt_21 rfl rfl ?_
    refine r_cgetI (c := 11) (kk := 2) hc_X8 rfl (by decide) inU_X8 (by decide) uf_X8_9 rfl (by decide) dX8_endAt_22 ?_
    refine r_lo [] (lo2 := []) rfl ?_
    exact hJ25 (cI C_21 1102 a0) C_21
  refine r_if_lt (tgt := 21) dX8_endAt_1 (by decide) ?_ ?_
  · refine r_lo [0] (lo2 := [(0, .ref a0)]) rfl ?_
    exact hJ21  C
  · refine r_iload_n (x := a1) dX8_endAt_4 rfl rfl ?_
    refine r_aload_n (x := a0) dX8_endAt_5 rfl rfl ?_
    refine r_cgetI (c := 11) (kk := 2) hc_X8 rfl (by decide) inU_X8 (by decide) uf_X8_9 rfl (by decide) dX8_endAt_6 ?_
    refine r_icmp_ge (tgt := 21) dX8_endAt_9 (by decide) ?_ ?_
    · refine r_lo [0] (lo2 := [(0, .ref a0)]) rfl ?_
      exact hJ21  C
    · refine r_aload_n (x := a0) dX8_endAt_12 rfl rfl ?_
      refine r_cgetR (c := 11) (kk := 1) hc_X8 rfl (by decide) inU_X8 (by decide) uf_X8_19 rfl (by decide) dX8_endAt_13 (fun z1 => ?_)
      refine r_iload_n (x := a1) dX8_endAt_16 rfl rfl ?_
      refine r_dref (fun p2 hp2 => ?_)
      subst hp2
      refine r_ciald dX8_endAt_17 ?_
      refine r_goto (tgt := 25) dX8_endAt_18 (by decide) ?_
      refine r_lo [] (lo2 := []) rfl ?_
      exact hJ25 (cE C p2 (ix a1)) C
def k_X2_argumentAt : Kd := (yX2_argumentAt, cX2_argumentAt, 2, some .int, [])
theorem kv_X2_argumentAt : KV k_X2_argumentAt 1 := ⟨uw_mem 581 (by decide +kernel) rfl, uw_mem 100 (by decide +kernel) rfl, uw_mem 580 (by decide +kernel) rfl, uw_mem 17 (by decide +kernel) rfl, ⟨by decide +kernel, by decide +kernel⟩, by decide +kernel, by decide +kernel⟩
set_option maxHeartbeats 8000000 in
set_option maxRecDepth 100000 in
theorem c_X2_argumentAt {l : Launch} {Γ : Cx} {M0 : Md} (hG : GK Γ l) (a0 : Nat) (a1 : Int) (C : Cd) : Ct l Γ k_X2_argumentAt 1 encI (emC M0) [.ref a0, wi a1] C (fX2_argumentAt a0 a1 C) := by
  refine ct_of (by decide +kernel) rfl (Nat.le_of_ble_eq_true rfl) ?_
  refine r_lo [0, 1] (lo2 := [(0, .ref a0), (1, wi a1)]) rfl ?_
  unfold fX2_argumentAt
  refine r_iload_n (x := a1) dX2_argumentAt_0 rfl rfl ?_
  refine r_join (P := fun (J : Int → Cd → Option (Int × Cd)) => ∀ (t0_23 : Int) (C_23 : Cd), RunO l Γ k_X2_argumentAt 1 encI (emC M0) 23 [] [wi t0_23] C_23 (J t0_23 C_23)) ?_ (fun J23 hJ23 => ?_)
  · intro t0_23 C_23
    exact r_iret rfl dX2_argumentAt_23
  refine r_join (P := fun (J : Cd → Option (Int × Cd)) => ∀  (C_22 : Cd), RunO l Γ k_X2_argumentAt 1 encI (emC M0) 22 [] [] C_22 (J C_22)) ?_ (fun J22 hJ22 => ?_)
  · intro C_22
    refine ro_iconst (v := (-1)) dX2_argumentAt_22 rfl ?_
    exact hJ23 (-1) C_22
  refine r_if_lt (tgt := 22) dX2_argumentAt_1 (by decide) ?_ ?_
  · refine r_lo [] (lo2 := []) rfl ?_
    exact hJ22  C
  · refine r_iload_n (x := a1) dX2_argumentAt_4 rfl rfl ?_
    refine r_aload_n (x := a0) dX2_argumentAt_5 rfl rfl ?_
    refine r_cgetR (c := 5) (kk := 0) hc_X2 rfl (by decide) inU_X2 (by decide) uf_X2_9 rfl (by decide) dX2_argumentAt_6 (fun z1 => ?_)
    refine r_dref (fun p2 hp2 => ?_)
    subst hp2
    refine r_calen (t := 100) rfl (by decide) dX2_argumentAt_9 ?_
    refine r_icmp_ge (tgt := 22) dX2_argumentAt_10 (by decide) ?_ ?_
    · refine r_lo [] (lo2 := []) rfl ?_
      exact hJ22  C
    · refine r_aload_n (x := a0) dX2_argumentAt_13 rfl rfl ?_
      refine r_cgetR (c := 5) (kk := 0) hc_X2 rfl (by decide) inU_X2 (by decide) uf_X2_9 rfl (by decide) dX2_argumentAt_14 (fun z3 => ?_)
      refine r_iload_n (x := a1) dX2_argumentAt_17 rfl rfl ?_
      refine r_dref (fun p4 hp4 => ?_)
      subst hp4
      refine r_ciald dX2_argumentAt_18 ?_
      refine r_goto (tgt := 23) dX2_argumentAt_19 (by decide) ?_
      refine r_lo [] (lo2 := []) rfl ?_
      exact hJ23 (cE C p4 (ix a1)) C
def k_X2_rowAt : Kd := (yX2_rowAt, cX2_rowAt, 2, some (.object "Weaveword$Row"), [])
theorem kv_X2_rowAt : KV k_X2_rowAt 1 := ⟨uw_mem 585 (by decide +kernel) rfl, uw_mem 100 (by decide +kernel) rfl, uw_mem 584 (by decide +kernel) rfl, uw_mem 18 (by decide +kernel) rfl, ⟨by decide +kernel, by decide +kernel⟩, by decide +kernel, by decide +kernel⟩
set_option maxHeartbeats 8000000 in
set_option maxRecDepth 100000 in
theorem c_X2_rowAt {l : Launch} {Γ : Cx} {M0 : Md} (hG : GK Γ l) (a0 : Nat) (a1 : Int) (C : Cd) : Ct l Γ k_X2_rowAt 1 encR (emC M0) [.ref a0, wi a1] C (fX2_rowAt a0 a1 C) := by
  refine ct_of (by decide +kernel) rfl (Nat.le_of_ble_eq_true rfl) ?_
  refine r_lo [0, 1] (lo2 := [(0, .ref a0), (1, wi a1)]) rfl ?_
  unfold fX2_rowAt
  refine r_iload_n (x := a1) dX2_rowAt_0 rfl rfl ?_
  refine r_join (P := fun (J : Option Nat → Cd → Option (Option Nat × Cd)) => ∀ (t0_32 : Option Nat) (C_32 : Cd), RunO l Γ k_X2_rowAt 1 encR (emC M0) 32 [] [va_rf t0_32] C_32 (J t0_32 C_32)) ?_ (fun J32 hJ32 => ?_)
  · intro t0_32 C_32
    exact r_aret (x := t0_32) rfl (Or.inl ⟨_, rfl⟩) dX2_rowAt_32
  refine r_join (P := fun (J : Cd → Option (Option Nat × Cd)) => ∀  (C_31 : Cd), RunO l Γ k_X2_rowAt 1 encR (emC M0) 31 [] [] C_31 (J C_31)) ?_ (fun J31 hJ31 => ?_)
  · intro C_31
    refine r_null dX2_rowAt_31 ?_
    exact hJ32 none C_31
  refine r_if_lt (tgt := 31) dX2_rowAt_1 (by decide) ?_ ?_
  · refine r_lo [] (lo2 := []) rfl ?_
    exact hJ31  C
  · refine r_iload_n (x := a1) dX2_rowAt_4 rfl rfl ?_
    refine r_aload_n (x := a0) dX2_rowAt_5 rfl rfl ?_
    refine r_cgetR (c := 5) (kk := 1) hc_X2 rfl (by decide) inU_X2 (by decide) uf_X2_17 rfl (by decide) dX2_rowAt_6 (fun z1 => ?_)
    refine r_dref (fun p2 hp2 => ?_)
    subst hp2
    refine r_calen (t := 106) rfl (by decide) dX2_rowAt_9 ?_
    refine r_icmp_ge (tgt := 31) dX2_rowAt_10 (by decide) ?_ ?_
    · refine r_lo [] (lo2 := []) rfl ?_
      exact hJ31  C
    · refine r_aload_n (x := a0) dX2_rowAt_13 rfl rfl ?_
      refine r_cgetR (c := 5) (kk := 2) hc_X2 rfl (by decide) inU_X2 (by decide) uf_X2_21 rfl (by decide) dX2_rowAt_14 (fun z3 => ?_)
      refine r_iload_n (x := a1) dX2_rowAt_17 rfl rfl ?_
      refine r_dref (fun p4 hp4 => ?_)
      subst hp4
      refine r_czald dX2_rowAt_18 ?_
      refine r_if_eq (tgt := 31) dX2_rowAt_19 (by decide) ?_ ?_
      · refine r_lo [] (lo2 := []) rfl ?_
        exact hJ31  C
      · refine r_aload_n (x := a0) dX2_rowAt_22 rfl rfl ?_
        refine r_cgetR (c := 5) (kk := 1) hc_X2 rfl (by decide) inU_X2 (by decide) uf_X2_17 rfl (by decide) dX2_rowAt_23 (fun z5 => ?_)
        refine r_iload_n (x := a1) dX2_rowAt_26 rfl rfl ?_
        refine r_dref (fun p6 hp6 => ?_)
        subst hp6
        refine r_caald (t := 106) rfl (by decide) (by decide) dX2_rowAt_27 (fun z7 => ?_)
        refine r_goto (tgt := 32) dX2_rowAt_28 (by decide) ?_
        refine r_lo [] (lo2 := []) rfl ?_
        exact hJ32 z7 C
def k_X5_init : Kd := (yX5_init, cX5_init, 1, none, [])
theorem kv_X5_init : KI k_X5_init 0 := ⟨uw_mem 154 (by decide +kernel) rfl, uw_mem 96 (by decide +kernel) rfl, uw_mem 153 (by decide +kernel) rfl, ⟨rfl, rfl⟩, ⟨by decide +kernel, by decide +kernel⟩, by decide +kernel, by decide +kernel⟩
set_option maxHeartbeats 8000000 in
set_option maxRecDepth 100000 in
theorem c_X5_init {l : Launch} {Γ : Cx} {M0 : Md} (hG : GK Γ l) (a0 : Nat) (C : Cd) : Ct l Γ k_X5_init 1 encV (emC M0) [.ref a0] C (fX5_init a0 C) := by
  refine ct_of (by decide +kernel) rfl (Nat.le_of_ble_eq_true rfl) ?_
  refine r_lo [0] (lo2 := [(0, .ref a0)]) rfl ?_
  unfold fX5_init
  refine r_aload_n (x := a0) dX5_init_0 rfl rfl ?_
  refine r_objInit (by decide) uo_X5_3 uoi uoc (Nat.le_of_ble_eq_true rfl) dX5_init_1 ?_
  refine r_aload_n (x := a0) dX5_init_4 rfl rfl ?_
  refine r_sipush (v := 150) dX5_init_5 rfl ?_
  refine r_cnewAI ua_I dX5_init_8 (fun C1 _ => ?_)
  refine r_cputRF (c := 8) (kk := 0) hc_X5 rfl (by decide) inU_X5 (by decide) uf_X5_9 rfl tyX5 tyX5_ok nmX5 (x := (some (csz C))) (fty := tyX5 0) (by decide) rfl rfl rfl (by decide +kernel) ⟨"", Or.inr ⟨_, rfl⟩⟩ dX5_init_10 (fun C2 _ _ => ?_)
  refine r_aload_n (x := a0) dX5_init_13 rfl rfl ?_
  refine ro_iconst (v := 0) dX5_init_14 rfl ?_
  refine r_cputI (c := 8) (kk := 1) hc_X5 rfl (by decide) inU_X5 (by decide) uf_X5_15 rfl tyX5 tyX5_ok nmX5 (fty := .int) (by decide) rfl rfl rfl rfl dX5_init_15 (fun C3 _ _ => ?_)
  refine r_aload_n (x := a0) dX5_init_18 rfl rfl ?_
  refine ro_iconst (v := 0) dX5_init_19 rfl ?_
  refine r_cputI (c := 8) (kk := 2) hc_X5 rfl (by decide) inU_X5 (by decide) uf_X5_19 rfl tyX5 tyX5_ok nmX5 (fty := .int) (by decide) rfl rfl rfl rfl dX5_init_20 (fun C4 _ _ => ?_)
  exact r_vret rfl dX5_init_23
def k_X1_openPart : Kd := (yX1_openPart, cX1_openPart, 4, none, [])
theorem kv_X1_openPart : KV k_X1_openPart 2 := ⟨uw_mem 589 (by decide +kernel) rfl, uw_mem 95 (by decide +kernel) rfl, uw_mem 588 (by decide +kernel) rfl, uw_mem 19 (by decide +kernel) rfl, ⟨by decide +kernel, by decide +kernel⟩, by decide +kernel, by decide +kernel⟩
set_option maxHeartbeats 8000000 in
set_option maxRecDepth 100000 in
theorem c_X1_openPart {l : Launch} {Γ : Cx} {M0 : Md} (hG : GK Γ l) (a0 : Nat) (a1 : Option Nat) (a2 : Int) (C : Cd) : Ct l Γ k_X1_openPart 2 encV (emC M0) [.ref a0, va_rf a1, wi a2] C (fX1_openPart a0 a1 a2 C) := by
  refine ct_of (by decide +kernel) rfl (by cases a1 <;> exact Nat.le_of_ble_eq_true rfl) ?_
  refine r_lo [0, 1, 2] (lo2 := [(0, .ref a0), (1, va_rf a1), (2, wi a2)]) (by cases a1 <;> rfl) ?_
  unfold fX1_openPart
  refine r_iload_n (x := a2) dX1_openPart_0 rfl rfl ?_
  refine r_join (P := fun (J : Cd → Option (Unit × Cd)) => ∀  (C_13 : Cd), RunO l Γ k_X1_openPart 2 encV (emC M0) 13 [] [] C_13 (J C_13)) ?_ (fun J13 hJ13 => ?_)
  · intro C_13
    exact r_vret rfl dX1_openPart_13
  refine r_if_lt (tgt := 13) dX1_openPart_1 (by decide) ?_ ?_
  · refine r_lo [] (lo2 := []) rfl ?_
    exact hJ13  C
  · refine r_iload_n (x := a2) dX1_openPart_4 rfl rfl ?_
    refine r_aloadq_n (x := a1) dX1_openPart_5 rfl rfl ?_
    refine r_dref (fun p1 hp1 => ?_)
    subst hp1
    refine r_cgetRN (c := 5) (kk := 1) hc_X2 rfl (by decide) inU_X2 (by decide) hG uf_X1_213 rfl (by decide) dX1_openPart_6 (fun z2 => ?_)
    refine r_dref (fun p3 hp3 => ?_)
    subst hp3
    refine r_calen (t := 106) rfl (by decide) dX1_openPart_9 ?_
    refine r_icmp_lt (tgt := 14) dX1_openPart_10 (by decide) ?_ ?_
    · refine r_aload_n (x := p1) dX1_openPart_14 rfl rfl ?_
      refine r_cgetRN (c := 5) (kk := 1) hc_X2 rfl (by decide) inU_X2 (by decide) hG uf_X1_213 rfl (by decide) dX1_openPart_15 (fun z4 => ?_)
      refine r_iload_n (x := a2) dX1_openPart_18 rfl rfl ?_
      refine r_dref (fun p5 hp5 => ?_)
      subst hp5
      refine r_caald (t := 106) rfl (by decide) (by decide) dX1_openPart_19 (fun z6 => ?_)
      refine r_astoreq_n (lo2 := [(3, va_rf z6), (0, .ref a0), (1, .ref p1), (2, wi a2)]) dX1_openPart_20 rfl (by decide) rfl ?_
      refine r_aloadq_n (x := z6) dX1_openPart_21 rfl rfl ?_
      refine r_join (P := fun (J : Option Nat → Cd → Option (Unit × Cd)) => ∀ (v3_40 : Option Nat) (C_40 : Cd), RunO l Γ k_X1_openPart 2 encV (emC M0) 40 [(0, .ref a0), (1, .ref p1), (2, wi a2), (3, va_rf v3_40)] [] C_40 (J v3_40 C_40)) ?_ (fun J40 hJ40 => ?_)
      · intro v3_40 C_40
        refine r_aloadq_n (x := v3_40) dX1_openPart_40 rfl rfl ?_
        refine r_dref (fun p7 hp7 => ?_)
        subst hp7
        refine r_ccVNv (c := 8) (k2 := k_X5_clear) (n := 0) (rest := []) hG um_X1_217 rfl kv_X5_clear hc_X5 (by decide) (c_X5_clear hG _ _) (by decide) rfl (Nat.le_of_ble_eq_true rfl) dX1_openPart_41 rfl (fun r9 C8 => ?_)
        refine r_aload_n (x := p1) dX1_openPart_44 rfl rfl ?_
        refine r_cgetRN (c := 5) (kk := 2) hc_X2 rfl (by decide) inU_X2 (by decide) hG uf_X1_218 rfl (by decide) dX1_openPart_45 (fun z10 => ?_)
        refine r_iload_n (x := a2) dX1_openPart_48 rfl rfl ?_
        refine ro_iconst (v := 1) dX1_openPart_49 rfl ?_
        refine r_dref (fun p11 hp11 => ?_)
        subst hp11
        refine r_czast (by first | exact Or.inl rfl | exact Or.inr rfl) dX1_openPart_50 (fun C12 _ _ => ?_)
        refine r_aload_n (x := a0) dX1_openPart_51 rfl rfl ?_
        refine r_aload_n (x := p1) dX1_openPart_52 rfl rfl ?_
        refine r_iload_n (x := a2) dX1_openPart_53 rfl rfl ?_
        refine ro_iconst (v := 1) dX1_openPart_54 rfl ?_
        refine r_iadd dX1_openPart_55 ?_
        refine r_aload_n (x := p1) dX1_openPart_56 rfl rfl ?_
        refine r_cgetRN (c := 5) (kk := 4) hc_X2 rfl (by decide) inU_X2 (by decide) hG uf_X1_121 rfl (by decide) dX1_openPart_57 (fun z13 => ?_)
        refine r_iload_n (x := a2) dX1_openPart_60 rfl rfl ?_
        refine r_dref (fun p14 hp14 => ?_)
        subst hp14
        refine r_ccVNi (c := 11) (k2 := k_X8_endAt) (n := 1) (rest := [wi (a2 + 1), .ref p1, .ref a0]) hG um_X1_145 rfl kv_X8_endAt hc_X8 (by decide) (c_X8_endAt hG _ _ _) (by decide) rfl (Nat.le_of_ble_eq_true rfl) dX1_openPart_61 rfl (fun r16 C15 => ?_)
        refine r_aload_n (x := p7) dX1_openPart_64 rfl rfl ?_
        refine r_ccVv (c := 4) (k2 := k_X1_openRun) (n := 4) (rest := []) um_X1_112 rfl kv_X1_openRun hc_X1 (by decide) (c_X1_openRun hG _ _ _ _ _ _) (by decide) rfl (Nat.le_of_ble_eq_true rfl) dX1_openPart_65 rfl (fun r18 C17 => ?_)
        exact r_vret rfl dX1_openPart_68
      refine r_opt (fun hn => ?_) (fun p19 hp19 => ?_)
      · subst hn
        refine r_ifnonnullN dX1_openPart_22 ?_
        refine r_cnew (c := 8) hc_X5 rfl (by decide) inU_X5 tyX5 tyX5_ok hfs_X5 un_X1_35.1 un_X1_35.2.1 un_X1_35.2.2 dX1_openPart_25 (fun C20 _ => ?_)
        refine r_dup dX1_openPart_28 rfl ?_
        refine r_ccINv (k2 := k_X5_init) (n := 0) (rest := [.ref (csz C)]) hG um_X1_37 rfl kv_X5_init (c_X5_init hG _ _) (by decide) rfl (Nat.le_of_ble_eq_true rfl) dX1_openPart_29 rfl (fun r22 C21 => ?_)
        refine r_astore_n (lo2 := [(3, .ref (csz C)), (0, .ref a0), (1, .ref p1), (2, wi a2)]) dX1_openPart_32 rfl (by decide) rfl ?_
        refine r_aload_n (x := p1) dX1_openPart_33 rfl rfl ?_
        refine r_cgetRN (c := 5) (kk := 1) hc_X2 rfl (by decide) inU_X2 (by decide) hG uf_X1_213 rfl (by decide) dX1_openPart_34 (fun z23 => ?_)
        refine r_iload_n (x := a2) dX1_openPart_37 rfl rfl ?_
        refine r_aload_n (x := (csz C)) dX1_openPart_38 rfl rfl ?_
        refine r_dref (fun p24 hp24 => ?_)
        subst hp24
        refine r_caast (t := 106) (c := 8) hc_X5 (by decide) rfl (by decide) (by decide) dX1_openPart_39 (fun C25 _ _ => ?_)
        refine r_lo [1, 2, 3, 0] (lo2 := [(0, .ref a0), (1, .ref p1), (2, wi a2), (3, .ref (csz C))]) rfl ?_
        exact hJ40 (some (csz C)) C25
      · subst hp19
        refine r_ifnonnullS (a := p19) (tgt := 40) dX1_openPart_22 (by decide) ?_
        refine r_lo [1, 2, 3, 0] (lo2 := [(0, .ref a0), (1, .ref p1), (2, wi a2), (3, .ref p19)]) rfl ?_
        exact hJ40 (some p19) C
    · refine r_lo [] (lo2 := []) rfl ?_
      exact hJ13  C
def k_X5_at : Kd := (yX5_at, cX5_at, 2, some .int, [])
theorem kv_X5_at : KV k_X5_at 1 := ⟨uw_mem 598 (by decide +kernel) rfl, uw_mem 96 (by decide +kernel) rfl, uw_mem 597 (by decide +kernel) rfl, uw_mem 21 (by decide +kernel) rfl, ⟨by decide +kernel, by decide +kernel⟩, by decide +kernel, by decide +kernel⟩
set_option maxHeartbeats 8000000 in
set_option maxRecDepth 100000 in
theorem c_X5_at {l : Launch} {Γ : Cx} {M0 : Md} (hG : GK Γ l) (a0 : Nat) (a1 : Int) (C : Cd) : Ct l Γ k_X5_at 1 encI (emC M0) [.ref a0, wi a1] C (fX5_at a0 a1 C) := by
  refine ct_of (by decide +kernel) rfl (Nat.le_of_ble_eq_true rfl) ?_
  refine r_lo [0, 1] (lo2 := [(0, .ref a0), (1, wi a1)]) rfl ?_
  unfold fX5_at
  refine r_iload_n (x := a1) dX5_at_0 rfl rfl ?_
  refine r_join (P := fun (J : Int → Cd → Option (Int × Cd)) => ∀ (t0_31 : Int) (C_31 : Cd), RunO l Γ k_X5_at 1 encI (emC M0) 31 [] [wi t0_31] C_31 (J t0_31 C_31)) ?_ (fun J31 hJ31 => ?_)
  · intro t0_31 C_31
    exact r_iret rfl dX5_at_31
  refine r_join (P := fun (J : Cd → Option (Int × Cd)) => ∀  (C_30 : Cd), RunO l Γ k_X5_at 1 encI (emC M0) 30 [] [] C_30 (J C_30)) ?_ (fun J30 hJ30 => ?_)
  · intro C_30
    refine ro_iconst (v := (-1)) dX5_at_30 rfl ?_
    exact hJ31 (-1) C_30
  refine r_if_lt (tgt := 30) dX5_at_1 (by decide) ?_ ?_
  · refine r_lo [] (lo2 := []) rfl ?_
    exact hJ30  C
  · refine r_iload_n (x := a1) dX5_at_4 rfl rfl ?_
    refine r_aload_n (x := a0) dX5_at_5 rfl rfl ?_
    refine r_cgetI (c := 8) (kk := 1) hc_X5 rfl (by decide) inU_X5 (by decide) uf_X5_15 rfl (by decide) dX5_at_6 ?_
    refine r_icmp_ge (tgt := 30) dX5_at_9 (by decide) ?_ ?_
    · refine r_lo [] (lo2 := []) rfl ?_
      exact hJ30  C
    · refine r_iload_n (x := a1) dX5_at_12 rfl rfl ?_
      refine r_aload_n (x := a0) dX5_at_13 rfl rfl ?_
      refine r_cgetR (c := 8) (kk := 0) hc_X5 rfl (by decide) inU_X5 (by decide) uf_X5_9 rfl (by decide) dX5_at_14 (fun z1 => ?_)
      refine r_dref (fun p2 hp2 => ?_)
      subst hp2
      refine r_calen (t := 100) rfl (by decide) dX5_at_17 ?_
      refine r_icmp_ge (tgt := 30) dX5_at_18 (by decide) ?_ ?_
      · refine r_lo [] (lo2 := []) rfl ?_
        exact hJ30  C
      · refine r_aload_n (x := a0) dX5_at_21 rfl rfl ?_
        refine r_cgetR (c := 8) (kk := 0) hc_X5 rfl (by decide) inU_X5 (by decide) uf_X5_9 rfl (by decide) dX5_at_22 (fun z3 => ?_)
        refine r_iload_n (x := a1) dX5_at_25 rfl rfl ?_
        refine r_dref (fun p4 hp4 => ?_)
        subst hp4
        refine r_ciald dX5_at_26 ?_
        refine r_goto (tgt := 31) dX5_at_27 (by decide) ?_
        refine r_lo [] (lo2 := []) rfl ?_
        exact hJ31 (cE C p4 (ix a1)) C
