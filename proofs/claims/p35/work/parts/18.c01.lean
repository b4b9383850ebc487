def k_X5_addAll : Kd := (yX5_addAll, cX5_addAll, 3, none, [])
theorem kv_X5_addAll : KV k_X5_addAll 1 := ⟨uw_mem 594 (by decide +kernel) rfl, uw_mem 96 (by decide +kernel) rfl, uw_mem 593 (by decide +kernel) rfl, uw_mem 20 (by decide +kernel) rfl, ⟨by decide +kernel, by decide +kernel⟩, by decide +kernel, by decide +kernel⟩
set_option maxHeartbeats 8000000 in
set_option maxRecDepth 100000 in
theorem c_X5_addAll {l : Launch} {Γ : Cx} {M0 : Md} (hG : GK Γ l) (a0 : Nat) (a1 : Option Nat) (C : Cd) : Ct l Γ k_X5_addAll 2 encV (emC M0) [.ref a0, va_rf a1] C (fX5_addAll a0 a1 C) := by
  refine ct_of (by decide +kernel) rfl (by cases a1 <;> exact Nat.le_of_ble_eq_true rfl) ?_
  refine r_lo [0, 1] (lo2 := [(0, .ref a0), (1, va_rf a1)]) (by cases a1 <;> rfl) ?_
  unfold fX5_addAll
  refine ro_iconst (v := 0) dX5_addAll_0 rfl ?_
  refine r_istore_n (lo2 := [(2, wi 0), (0, .ref a0), (1, va_rf a1)]) dX5_addAll_1 rfl (by decide) (by cases a1 <;> rfl) ?_
  refine r_loop (P := fun (J : Int → Cd → Option (Unit × Cd)) => ∀ (v2_2 : Int) (C_2 : Cd), RunO l Γ k_X5_addAll 2 encV (emC M0) 2 [(0, .ref a0), (1, va_rf a1), (2, wi v2_2)] [] C_2 (J v2_2 C_2)) ?_ (fun L2 hL2 => ?_) (fun J2 hJ2 => ?_)
  · intros; exact ro_none
  · intro v2_2 C_2
    refine r_iload_n (x := v2_2) dX5_addAll_2 rfl rfl ?_
    refine r_aloadq_n (x := a1) dX5_addAll_3 rfl rfl ?_
    refine r_dref (fun p1 hp1 => ?_)
    subst hp1
    refine r_cgetI (c := 8) (kk := 1) hc_X5 rfl (by decide) inU_X5 (by decide) uf_X5_15 rfl (by decide) dX5_addAll_4 ?_
    refine r_icmp_ge (tgt := 25) dX5_addAll_7 (by decide) ?_ ?_
    · exact r_vret rfl dX5_addAll_25
    · refine r_aload_n (x := a0) dX5_addAll_10 rfl rfl ?_
      refine r_aload_n (x := p1) dX5_addAll_11 rfl rfl ?_
      refine r_iload_n (x := v2_2) dX5_addAll_12 rfl rfl ?_
      refine r_ccVi (c := 8) (k2 := k_X5_at) (n := 1) (rest := [.ref a0]) um_X5_22 rfl kv_X5_at hc_X5 (by decide) (c_X5_at hG _ _ _) (by decide) rfl (Nat.le_of_ble_eq_true rfl) dX5_addAll_13 rfl (fun r3 C2 => ?_)
      refine r_ccVv (c := 8) (k2 := k_X5_add) (n := 1) (rest := []) um_X5_26 rfl kv_X5_add hc_X5 (by decide) (c_X5_add hG _ _ _) (by decide) rfl (Nat.le_of_ble_eq_true rfl) dX5_addAll_16 rfl (fun r5 C4 => ?_)
      refine r_iinc (x := v2_2) (lo2 := [(2, wi (v2_2 + 1)), (0, .ref a0), (1, .ref p1)]) dX5_addAll_19 rfl (by decide) rfl ?_
      refine r_goto (tgt := 2) dX5_addAll_22 (by decide) ?_
      refine r_lo [1, 2, 0] (lo2 := [(0, .ref a0), (1, .ref p1), (2, wi (v2_2 + 1))]) rfl ?_
      exact hL2 (v2_2 + 1) C4
  refine r_lo [1, 2, 0] (lo2 := [(0, .ref a0), (1, va_rf a1), (2, wi 0)]) rfl ?_
  exact hJ2 0 C
def k_X1_giveArgument : Kd := (yX1_giveArgument, cX1_giveArgument, 6, some .boolean, [])
theorem kv_X1_giveArgument : KV k_X1_giveArgument 2 := ⟨uw_mem 577 (by decide +kernel) rfl, uw_mem 95 (by decide +kernel) rfl, uw_mem 576 (by decide +kernel) rfl, uw_mem 16 (by decide +kernel) rfl, ⟨by decide +kernel, by decide +kernel⟩, by decide +kernel, by decide +kernel⟩
set_option maxHeartbeats 8000000 in
set_option maxRecDepth 100000 in
theorem c_X1_giveArgument {l : Launch} {Γ : Cx} {M0 : Md} (hG : GK Γ l) (a0 : Nat) (a1 : Option Nat) (a2 : Int) (C : Cd) : Ct l Γ k_X1_giveArgument 3 encI (emC M0) [.ref a0, va_rf a1, wi a2] C (fX1_giveArgument a0 a1 a2 C) := by
  refine ct_of (by decide +kernel) rfl (by cases a1 <;> exact Nat.le_of_ble_eq_true rfl) ?_
  refine r_lo [0, 1, 2] (lo2 := [(0, .ref a0), (1, va_rf a1), (2, wi a2)]) (by cases a1 <;> rfl) ?_
  unfold fX1_giveArgument
  refine r_aloadq_n (x := a1) dX1_giveArgument_0 rfl rfl ?_
  refine r_dref (fun p1 hp1 => ?_)
  subst hp1
  refine r_cgetRN (c := 9) (kk := 0) hc_X6 rfl (by decide) inU_X6 (by decide) hG uf_X1_116 rfl (by decide) dX1_giveArgument_1 (fun z2 => ?_)
  refine r_astoreq_n (lo2 := [(3, va_rf z2), (0, .ref a0), (1, .ref p1), (2, wi a2)]) dX1_giveArgument_4 rfl (by decide) rfl ?_
  refine r_aloadq_n (x := z2) dX1_giveArgument_5 rfl rfl ?_
  refine r_iload_n (x := a2) dX1_giveArgument_6 rfl rfl ?_
  refine r_dref (fun p3 hp3 => ?_)
  subst hp3
  refine r_ccVNi (c := 5) (k2 := k_X2_argumentAt) (n := 1) (rest := []) hG um_X1_199 rfl kv_X2_argumentAt hc_X2 (by decide) (c_X2_argumentAt hG _ _ _) (by decide) rfl (Nat.le_of_ble_eq_true rfl) dX1_giveArgument_7 rfl (fun r5 C4 => ?_)
  refine r_istore (lo2 := [(4, wi r5), (3, .ref p3), (0, .ref a0), (1, .ref p1), (2, wi a2)]) dX1_giveArgument_10 (by decide) rfl ?_
  refine r_iload (x := r5) dX1_giveArgument_12 rfl ?_
  refine ro_iconst (v := (-1)) dX1_giveArgument_14 rfl ?_
  refine r_join (P := fun (J : Cd → Option (Int × Cd)) => ∀  (C_25 : Cd), RunO l Γ k_X1_giveArgument 3 encI (emC M0) 25 [] [] C_25 (J C_25)) ?_ (fun J25 hJ25 => ?_)
  · intro C_25
    refine ro_iconst (v := 1) dX1_giveArgument_25 rfl ?_
    exact r_zret0 (by first | exact Or.inl rfl | exact Or.inr rfl) rfl dX1_giveArgument_26
  refine r_icmp_eq (tgt := 25) dX1_giveArgument_15 (by decide) ?_ ?_
  · refine r_lo [] (lo2 := []) rfl ?_
    exact hJ25  C4
  · refine r_aload_n (x := p3) dX1_giveArgument_18 rfl rfl ?_
    refine r_cgetRN (c := 5) (kk := 3) hc_X2 rfl (by decide) inU_X2 (by decide) hG uf_X1_202 rfl (by decide) dX1_giveArgument_19 (fun z6 => ?_)
    refine r_opt (fun hn => ?_) (fun p7 hp7 => ?_)
    · subst hn
      refine r_ifnonnullN dX1_giveArgument_22 ?_
      refine r_lo [] (lo2 := []) rfl ?_
      exact hJ25  C4
    · subst hp7
      refine r_ifnonnullS (a := p7) (tgt := 27) dX1_giveArgument_22 (by decide) ?_
      refine r_aload_n (x := p3) dX1_giveArgument_27 rfl rfl ?_
      refine r_cgetRN (c := 5) (kk := 3) hc_X2 rfl (by decide) inU_X2 (by decide) hG uf_X1_202 rfl (by decide) dX1_giveArgument_28 (fun z8 => ?_)
      refine r_iload (x := r5) dX1_giveArgument_31 rfl ?_
      refine r_dref (fun p9 hp9 => ?_)
      subst hp9
      refine r_ccVNr (c := 5) (k2 := k_X2_rowAt) (n := 1) (rest := []) hG um_X1_205 rfl kv_X2_rowAt hc_X2 (by decide) (c_X2_rowAt hG _ _ _) (by decide) rfl (Nat.le_of_ble_eq_true rfl) dX1_giveArgument_33 rfl (fun r11 C10 => ?_)
      refine r_astoreq (lo2 := [(5, va_rf r11), (4, wi r5), (3, .ref p3), (0, .ref a0), (1, .ref p1), (2, wi a2)]) dX1_giveArgument_36 (by decide) rfl ?_
      refine r_aloadq (x := r11) dX1_giveArgument_38 rfl ?_
      refine r_opt (fun hn => ?_) (fun p12 hp12 => ?_)
      · subst hn
        refine r_ifnonnullN dX1_giveArgument_40 ?_
        refine r_aload_n (x := a0) dX1_giveArgument_43 rfl rfl ?_
        refine r_aload_n (x := p3) dX1_giveArgument_44 rfl rfl ?_
        refine r_cgetRN (c := 5) (kk := 3) hc_X2 rfl (by decide) inU_X2 (by decide) hG uf_X1_202 rfl (by decide) dX1_giveArgument_45 (fun z13 => ?_)
        refine r_iload (x := r5) dX1_giveArgument_48 rfl ?_
        refine r_ccVv (c := 4) (k2 := k_X1_openPart) (n := 2) (rest := []) um_X1_159 rfl kv_X1_openPart hc_X1 (by decide) (c_X1_openPart hG _ _ _ _) (by decide) rfl (Nat.le_of_ble_eq_true rfl) dX1_giveArgument_50 rfl (fun r15 C14 => ?_)
        refine ro_iconst (v := 0) dX1_giveArgument_53 rfl ?_
        exact r_zret0 (by first | exact Or.inl rfl | exact Or.inr rfl) rfl dX1_giveArgument_54
      · subst hp12
        refine r_ifnonnullS (a := p12) (tgt := 55) dX1_giveArgument_40 (by decide) ?_
        refine r_aload_n (x := p1) dX1_giveArgument_55 rfl rfl ?_
        refine r_cgetRN (c := 9) (kk := 1) hc_X6 rfl (by decide) inU_X6 (by decide) hG uf_X1_120 rfl (by decide) dX1_giveArgument_56 (fun z16 => ?_)
        refine r_aload (x := p12) dX1_giveArgument_59 rfl ?_
        refine r_dref (fun p17 hp17 => ?_)
        subst hp17
        refine r_ccVNv (c := 8) (k2 := k_X5_addAll) (n := 1) (rest := []) hG um_X1_209 rfl kv_X5_addAll hc_X5 (by decide) (c_X5_addAll hG _ _ _) (by decide) rfl (Nat.le_of_ble_eq_true rfl) dX1_giveArgument_61 rfl (fun r19 C18 => ?_)
        refine r_aload_n (x := p1) dX1_giveArgument_64 rfl rfl ?_
        refine r_aload_n (x := p3) dX1_giveArgument_65 rfl rfl ?_
        refine r_cgetRN (c := 5) (kk := 4) hc_X2 rfl (by decide) inU_X2 (by decide) hG uf_X1_121 rfl (by decide) dX1_giveArgument_66 (fun z20 => ?_)
        refine r_aload_n (x := p1) dX1_giveArgument_69 rfl rfl ?_
        refine r_cgetIN (c := 9) (kk := 2) hc_X6 rfl (by decide) inU_X6 (by decide) hG uf_X1_93 rfl (by decide) dX1_giveArgument_70 ?_
        refine r_dref (fun p21 hp21 => ?_)
        subst hp21
        refine r_ccVNi (c := 11) (k2 := k_X8_endAt) (n := 1) (rest := [.ref p1]) hG um_X1_145 rfl kv_X8_endAt hc_X8 (by decide) (c_X8_endAt hG _ _ _) (by decide) rfl (Nat.le_of_ble_eq_true rfl) dX1_giveArgument_73 rfl (fun r23 C22 => ?_)
        refine r_cputIN (c := 9) (kk := 2) hc_X6 rfl (by decide) inU_X6 (by decide) hG uf_X1_93 rfl tyX6 tyX6_ok nmX6 (fty := .int) (by decide) rfl rfl rfl rfl dX1_giveArgument_76 (fun C24 _ _ => ?_)
        refine ro_iconst (v := 1) dX1_giveArgument_79 rfl ?_
        exact r_zret0 (by first | exact Or.inl rfl | exact Or.inr rfl) rfl dX1_giveArgument_80
def k_X8_startsPart : Kd := (yX8_startsPart, cX8_startsPart, 3, some .boolean, [])
theorem kv_X8_startsPart : KV k_X8_startsPart 1 := ⟨uw_mem 607 (by decide +kernel) rfl, uw_mem 102 (by decide +kernel) rfl, uw_mem 606 (by decide +kernel) rfl, uw_mem 23 (by decide +kernel) rfl, ⟨by decide +kernel, by decide +kernel⟩, by decide +kernel, by decide +kernel⟩
set_option maxHeartbeats 8000000 in
set_option maxRecDepth 100000 in
theorem c_X8_startsPart {l : Launch} {Γ : Cx} {M0 : Md} (hG : GK Γ l) (a0 : Nat) (a1 : Int) (C : Cd) : Ct l Γ k_X8_startsPart 2 encI (emC M0) [.ref a0, wi a1] C (fX8_startsPart a0 a1 C) := by
  refine ct_of (by decide +kernel) rfl (Nat.le_of_ble_eq_true rfl) ?_
  refine r_lo [0, 1] (lo2 := [(0, .ref a0), (1, wi a1)]) rfl ?_
  unfold fX8_startsPart
  refine r_aload_n (x := a0) dX8_startsPart_0 rfl rfl ?_
  refine r_iload_n (x := a1) dX8_startsPart_1 rfl rfl ?_
  refine r_ccVi (c := 11) (k2 := k_X8_kindAt) (n := 1) (rest := []) um_X8_22 rfl kv_X8_kindAt hc_X8 (by decide) (c_X8_kindAt hG _ _ _) (by decide) rfl (Nat.le_of_ble_eq_true rfl) dX8_startsPart_2 rfl (fun r2 C1 => ?_)
  refine r_istore_n (lo2 := [(2, wi r2), (0, .ref a0), (1, wi a1)]) dX8_startsPart_5 rfl (by decide) rfl ?_
  refine r_iload_n (x := r2) dX8_startsPart_6 rfl rfl ?_
  refine ro_iconst (v := 5) dX8_startsPart_7 rfl ?_
  refine r_join (P := fun (J : Int → Cd → Option (Int × Cd)) => ∀ (t0_22 : Int) (C_22 : Cd), RunO l Γ k_X8_startsPart 2 encI (emC M0) 22 [] [wi t0_22] C_22 (J t0_22 C_22)) ?_ (fun J22 hJ22 => ?_)
  · intro t0_22 C_22
    exact r_zret rfl dX8_startsPart_22
  refine r_join (P := fun (J : Cd → Option (Int × Cd)) => ∀  (C_17 : Cd), RunO l Γ k_X8_startsPart 2 encI (emC M0) 17 [] [] C_17 (J C_17)) ?_ (fun J17 hJ17 => ?_)
  · intro C_17
    refine ro_iconst (v := 1) dX8_startsPart_17 rfl ?_
    refine r_goto (tgt := 22) dX8_startsPart_18 (by decide) ?_
    exact hJ22 1 C_17
  refine r_icmp_eq (tgt := 17) dX8_startsPart_8 (by decide) ?_ ?_
  · refine r_lo [] (lo2 := []) rfl ?_
    exact hJ17  C1
  · refine r_iload_n (x := r2) dX8_startsPart_11 rfl rfl ?_
    refine r_bipush (v := 6) dX8_startsPart_12 rfl ?_
    refine r_icmp_ne (tgt := 21) dX8_startsPart_14 (by decide) ?_ ?_
    · refine ro_iconst (v := 0) dX8_startsPart_21 rfl ?_
      refine r_lo [] (lo2 := []) rfl ?_
      exact hJ22 0 C1
    · refine r_lo [] (lo2 := []) rfl ?_
      exact hJ17  C1
def k_X1_listParts : Kd := (yX1_listParts, cX1_listParts, 5, none, [])
theorem kv_X1_listParts : KV k_X1_listParts 2 := ⟨uw_mem 603 (by decide +kernel) rfl, uw_mem 95 (by decide +kernel) rfl, uw_mem 602 (by decide +kernel) rfl, uw_mem 22 (by decide +kernel) rfl, ⟨by decide +kernel, by decide +kernel⟩, by decide +kernel, by decide +kernel⟩
set_option maxHeartbeats 8000000 in
set_option maxRecDepth 100000 in
theorem c_X1_listParts {l : Launch} {Γ : Cx} {M0 : Md} (hG : GK Γ l) (a0 : Nat) (a1 : Option Nat) (a2 : Int) (C : Cd) : Ct l Γ k_X1_listParts 3 encV (emC M0) [.ref a0, va_rf a1, wi a2] C (fX1_listParts a0 a1 a2 C) := by
  refine ct_of (by decide +kernel) rfl (by cases a1 <;> exact Nat.le_of_ble_eq_true rfl) ?_
  refine r_lo [0, 1, 2] (lo2 := [(0, .ref a0), (1, va_rf a1), (2, wi a2)]) (by cases a1 <;> rfl) ?_
  unfold fX1_listParts
  refine r_aload_n (x := a0) dX1_listParts_0 rfl rfl ?_
  refine ro_iconst (v := 0) dX1_listParts_1 rfl ?_
  refine r_cputI (c := 4) (kk := 13) hc_X1 rfl (by decide) inU_X1 (by decide) uf_X1_72 rfl tyX1 tyX1_ok nmX1 (fty := .int) (by decide) rfl rfl rfl rfl dX1_listParts_2 (fun C1 _ _ => ?_)
  refine r_iload_n (x := a2) dX1_listParts_5 rfl rfl ?_
  refine ro_iconst (v := 1) dX1_listParts_6 rfl ?_
  refine r_iadd dX1_listParts_7 ?_
  refine r_nm (fun x3_8 => ?_)
  refine r_istore_n (lo2 := [(3, wi x3_8), (0, .ref a0), (1, va_rf a1), (2, wi a2)]) dX1_listParts_8 rfl (by decide) rfl ?_
  refine ro_iconst (v := 0) dX1_listParts_9 rfl ?_
  refine r_istore (lo2 := [(4, wi 0), (3, wi x3_8), (0, .ref a0), (1, va_rf a1), (2, wi a2)]) dX1_listParts_10 (by decide) rfl ?_
  refine r_loop (P := fun (J : Int → Int → Cd → Option (Unit × Cd)) => ∀ (v3_12 : Int) (v4_12 : Int) (C_12 : Cd), RunO l Γ k_X1_listParts 3 encV (emC M0) 12 [(0, .ref a0), (1, va_rf a1), (3, wi v3_12), (4, wi v4_12)] [] C_12 (J v3_12 v4_12 C_12)) ?_ (fun L12 hL12 => ?_) (fun J12 hJ12 => ?_)
  · intros; exact ro_none
  · intro v3_12 v4_12 C_12
    refine r_iload (x := v4_12) dX1_listParts_12 rfl ?_
    refine r_aload_n (x := a0) dX1_listParts_14 rfl rfl ?_
    refine r_cgetR (c := 4) (kk := 6) hc_X1 rfl (by decide) inU_X1 (by decide) uf_X1_46 rfl (by decide) dX1_listParts_15 (fun z2 => ?_)
    refine r_dref (fun p3 hp3 => ?_)
    subst hp3
    refine r_calen (t := 100) rfl (by decide) dX1_listParts_18 ?_
    refine r_join (P := fun (J : Cd → Option (Unit × Cd)) => ∀  (C_60 : Cd), RunO l Γ k_X1_listParts 3 encV (emC M0) 60 [] [] C_60 (J C_60)) ?_ (fun J60 hJ60 => ?_)
    · intro C_60
      exact r_vret rfl dX1_listParts_60
    refine r_icmp_ge (tgt := 60) dX1_listParts_19 (by decide) ?_ ?_
    · refine r_lo [] (lo2 := []) rfl ?_
      exact hJ60  C_12
    · refine r_aloadq_n (x := a1) dX1_listParts_22 rfl rfl ?_
      refine r_iload_n (x := v3_12) dX1_listParts_23 rfl rfl ?_
      refine r_dref (fun p4 hp4 => ?_)
      subst hp4
      refine r_ccVNi (c := 11) (k2 := k_X8_startsPart) (n := 1) (rest := []) hG um_X1_222 rfl kv_X8_startsPart hc_X8 (by decide) (c_X8_startsPart hG _ _ _) (by decide) rfl (Nat.le_of_ble_eq_true rfl) dX1_listParts_24 rfl (fun r6 C5 => ?_)
      refine r_if_eq (tgt := 60) dX1_listParts_27 (by decide) ?_ ?_
      · refine r_lo [] (lo2 := []) rfl ?_
        exact hJ60  C5
      · refine r_aload_n (x := a0) dX1_listParts_30 rfl rfl ?_
        refine r_cgetR (c := 4) (kk := 6) hc_X1 rfl (by decide) inU_X1 (by decide) uf_X1_46 rfl (by decide) dX1_listParts_31 (fun z7 => ?_)
        refine r_iload (x := v4_12) dX1_listParts_34 rfl ?_
        refine r_iload_n (x := v3_12) dX1_listParts_36 rfl rfl ?_
        refine r_dref (fun p8 hp8 => ?_)
        subst hp8
        refine r_ciast dX1_listParts_37 (fun C9 _ _ => ?_)
        refine r_aload_n (x := a0) dX1_listParts_38 rfl rfl ?_
        refine r_dup dX1_listParts_39 rfl ?_
        refine r_cgetI (c := 4) (kk := 13) hc_X1 rfl (by decide) inU_X1 (by decide) uf_X1_72 rfl (by decide) dX1_listParts_40 ?_
        refine ro_iconst (v := 1) dX1_listParts_43 rfl ?_
        refine r_iadd dX1_listParts_44 ?_
        refine r_cputI (c := 4) (kk := 13) hc_X1 rfl (by decide) inU_X1 (by decide) uf_X1_72 rfl tyX1 tyX1_ok nmX1 (fty := .int) (by decide) rfl rfl rfl rfl dX1_listParts_45 (fun C10 _ _ => ?_)
        refine r_aload_n (x := p4) dX1_listParts_48 rfl rfl ?_
        refine r_iload_n (x := v3_12) dX1_listParts_49 rfl rfl ?_
        refine r_ccVNi (c := 11) (k2 := k_X8_endAt) (n := 1) (rest := []) hG um_X1_145 rfl kv_X8_endAt hc_X8 (by decide) (c_X8_endAt hG _ _ _) (by decide) rfl (Nat.le_of_ble_eq_true rfl) dX1_listParts_50 rfl (fun r12 C11 => ?_)
        refine r_istore_n (lo2 := [(3, wi r12), (0, .ref a0), (1, .ref p4), (4, wi v4_12)]) dX1_listParts_53 rfl (by decide) rfl ?_
        refine r_iinc (x := v4_12) (lo2 := [(4, wi (v4_12 + 1)), (3, wi r12), (0, .ref a0), (1, .ref p4)]) dX1_listParts_54 rfl (by decide) rfl ?_
        refine r_goto (tgt := 12) dX1_listParts_57 (by decide) ?_
        refine r_lo [2, 3, 1, 0] (lo2 := [(0, .ref a0), (1, .ref p4), (3, wi r12), (4, wi (v4_12 + 1))]) rfl ?_
        exact hL12 r12 (v4_12 + 1) C11
  refine r_lo [2, 3, 1, 0] (lo2 := [(0, .ref a0), (1, va_rf a1), (3, wi x3_8), (4, wi 0)]) rfl ?_
  exact hJ12 x3_8 0 C1
def k_X1_partOf : Kd := (yX1_partOf, cX1_partOf, 4, some (.object "Weaveword$Row"), [])
theorem kv_X1_partOf : KV k_X1_partOf 2 := ⟨uw_mem 620 (by decide +kernel) rfl, uw_mem 95 (by decide +kernel) rfl, uw_mem 619 (by decide +kernel) rfl, uw_mem 26 (by decide +kernel) rfl, ⟨by decide +kernel, by decide +kernel⟩, by decide +kernel, by decide +kernel⟩
set_option maxHeartbeats 8000000 in
set_option maxRecDepth 100000 in
theorem c_X1_partOf {l : Launch} {Γ : Cx} {M0 : Md} (hG : GK Γ l) (a0 : Nat) (a1 : Option Nat) (a2 : Int) (C : Cd) : Ct l Γ k_X1_partOf 1 encR (emC M0) [.ref a0, va_rf a1, wi a2] C (fX1_partOf a0 a1 a2 C) := by
  refine ct_of (by decide +kernel) rfl (by cases a1 <;> exact Nat.le_of_ble_eq_true rfl) ?_
  refine r_lo [0, 1, 2] (lo2 := [(0, .ref a0), (1, va_rf a1), (2, wi a2)]) (by cases a1 <;> rfl) ?_
  unfold fX1_partOf
  refine r_iload_n (x := a2) dX1_partOf_0 rfl rfl ?_
  refine ro_iconst (v := 1) dX1_partOf_1 rfl ?_
  refine r_join (P := fun (J : Int → Cd → Option (Option Nat × Cd)) => ∀ (t0_34 : Int) (C_34 : Cd), RunO l Γ k_X1_partOf 1 encR (emC M0) 34 [(0, .ref a0), (1, va_rf a1)] [wi t0_34] C_34 (J t0_34 C_34)) ?_ (fun J34 hJ34 => ?_)
  · intro t0_34 C_34
    refine r_istore_n (lo2 := [(3, wi t0_34), (0, .ref a0), (1, va_rf a1)]) dX1_partOf_34 rfl (by decide) rfl ?_
    refine r_iload_n (x := t0_34) dX1_partOf_35 rfl rfl ?_
    refine r_join (P := fun (J : Cd → Option (Option Nat × Cd)) => ∀  (C_48 : Cd), RunO l Γ k_X1_partOf 1 encR (emC M0) 48 [(0, .ref a0)] [] C_48 (J C_48)) ?_ (fun J48 hJ48 => ?_)
    · intro C_48
      refine r_aload_n (x := a0) dX1_partOf_48 rfl rfl ?_
      refine r_cgetR (c := 4) (kk := 4) hc_X1 rfl (by decide) inU_X1 (by decide) uf_X1_38 rfl (by decide) dX1_partOf_49 (fun z1 => ?_)
      exact r_aret (x := z1) rfl (Or.inl ⟨_, rfl⟩) dX1_partOf_52
    refine r_if_lt (tgt := 48) dX1_partOf_36 (by decide) ?_ ?_
    · refine r_lo [1] (lo2 := [(0, .ref a0)]) rfl ?_
      exact hJ48  C_34
    · refine r_iload_n (x := t0_34) dX1_partOf_39 rfl rfl ?_
      refine r_aloadq_n (x := a1) dX1_partOf_40 rfl rfl ?_
      refine r_dref (fun p2 hp2 => ?_)
      subst hp2
      refine r_cgetRN (c := 5) (kk := 1) hc_X2 rfl (by decide) inU_X2 (by decide) hG uf_X1_213 rfl (by decide) dX1_partOf_41 (fun z3 => ?_)
      refine r_dref (fun p4 hp4 => ?_)
      subst hp4
      refine r_calen (t := 106) rfl (by decide) dX1_partOf_44 ?_
      refine r_icmp_lt (tgt := 53) dX1_partOf_45 (by decide) ?_ ?_
      · refine r_aload_n (x := p2) dX1_partOf_53 rfl rfl ?_
        refine r_cgetRN (c := 5) (kk := 2) hc_X2 rfl (by decide) inU_X2 (by decide) hG uf_X1_218 rfl (by decide) dX1_partOf_54 (fun z5 => ?_)
        refine r_iload_n (x := t0_34) dX1_partOf_57 rfl rfl ?_
        refine r_dref (fun p6 hp6 => ?_)
        subst hp6
        refine r_czald dX1_partOf_58 ?_
        refine r_if_ne (tgt := 69) dX1_partOf_59 (by decide) ?_ ?_
        · refine r_aload_n (x := p2) dX1_partOf_69 rfl rfl ?_
          refine r_cgetRN (c := 5) (kk := 1) hc_X2 rfl (by decide) inU_X2 (by decide) hG uf_X1_213 rfl (by decide) dX1_partOf_70 (fun z7 => ?_)
          refine r_iload_n (x := t0_34) dX1_partOf_73 rfl rfl ?_
          refine r_dref (fun p8 hp8 => ?_)
          subst hp8
          refine r_caald (t := 106) rfl (by decide) (by decide) dX1_partOf_74 (fun z9 => ?_)
          exact r_aret (x := z9) rfl (Or.inl ⟨_, rfl⟩) dX1_partOf_75
        · refine r_aload_n (x := a0) dX1_partOf_62 rfl rfl ?_
          refine r_iload_n (x := t0_34) dX1_partOf_63 rfl rfl ?_
          refine r_cputI (c := 4) (kk := 14) hc_X1 rfl (by decide) inU_X1 (by decide) uf_X1_75 rfl tyX1 tyX1_ok nmX1 (fty := .int) (by decide) rfl rfl rfl rfl dX1_partOf_64 (fun C10 _ _ => ?_)
          refine r_null dX1_partOf_67 ?_
          exact r_aret (x := none) rfl (Or.inl ⟨_, rfl⟩) dX1_partOf_68
      · refine r_lo [1] (lo2 := [(0, .ref a0)]) rfl ?_
        exact hJ48  C_34
  refine r_join (P := fun (J : Cd → Option (Option Nat × Cd)) => ∀  (C_33 : Cd), RunO l Γ k_X1_partOf 1 encR (emC M0) 33 [(0, .ref a0), (1, va_rf a1)] [] C_33 (J C_33)) ?_ (fun J33 hJ33 => ?_)
  · intro C_33
    refine ro_iconst (v := (-1)) dX1_partOf_33 rfl ?_
    exact hJ34 (-1) C_33
  refine r_icmp_lt (tgt := 33) dX1_partOf_2 (by decide) ?_ ?_
  · refine r_lo [0, 1] (lo2 := [(0, .ref a0), (1, va_rf a1)]) rfl ?_
    exact hJ33  C
  · refine r_iload_n (x := a2) dX1_partOf_5 rfl rfl ?_
    refine r_aload_n (x := a0) dX1_partOf_6 rfl rfl ?_
    refine r_cgetI (c := 4) (kk := 13) hc_X1 rfl (by decide) inU_X1 (by decide) uf_X1_72 rfl (by decide) dX1_partOf_7 ?_
    refine r_icmp_gt (tgt := 33) dX1_partOf_10 (by decide) ?_ ?_
    · refine r_lo [0, 1] (lo2 := [(0, .ref a0), (1, va_rf a1)]) rfl ?_
      exact hJ33  C
    · refine r_iload_n (x := a2) dX1_partOf_13 rfl rfl ?_
      refine r_aload_n (x := a0) dX1_partOf_14 rfl rfl ?_
      refine r_cgetR (c := 4) (kk := 6) hc_X1 rfl (by decide) inU_X1 (by decide) uf_X1_46 rfl (by decide) dX1_partOf_15 (fun z11 => ?_)
      refine r_dref (fun p12 hp12 => ?_)
      subst hp12
      refine r_calen (t := 100) rfl (by decide) dX1_partOf_18 ?_
      refine r_icmp_gt (tgt := 33) dX1_partOf_19 (by decide) ?_ ?_
      · refine r_lo [0, 1] (lo2 := [(0, .ref a0), (1, va_rf a1)]) rfl ?_
        exact hJ33  C
      · refine r_aload_n (x := a0) dX1_partOf_22 rfl rfl ?_
        refine r_cgetR (c := 4) (kk := 6) hc_X1 rfl (by decide) inU_X1 (by decide) uf_X1_46 rfl (by decide) dX1_partOf_23 (fun z13 => ?_)
        refine r_iload_n (x := a2) dX1_partOf_26 rfl rfl ?_
        refine ro_iconst (v := 1) dX1_partOf_27 rfl ?_
        refine r_isub dX1_partOf_28 ?_
        refine r_dref (fun p14 hp14 => ?_)
        subst hp14
        refine r_ciald dX1_partOf_29 ?_
        refine r_goto (tgt := 34) dX1_partOf_30 (by decide) ?_
        refine r_lo [0, 1] (lo2 := [(0, .ref a0), (1, va_rf a1)]) rfl ?_
        exact hJ34 (cE C p14 (ix (a2 - 1))) C
def k_X1_giveSum : Kd := (yX1_giveSum, cX1_giveSum, 5, some .boolean, [])
theorem kv_X1_giveSum : KV k_X1_giveSum 1 := ⟨uw_mem 616 (by decide +kernel) rfl, uw_mem 95 (by decide +kernel) rfl, uw_mem 615 (by decide +kernel) rfl, uw_mem 25 (by decide +kernel) rfl, ⟨by decide +kernel, by decide +kernel⟩, by decide +kernel, by decide +kernel⟩
set_option maxHeartbeats 8000000 in
set_option maxRecDepth 100000 in
theorem c_X1_giveSum {l : Launch} {Γ : Cx} {M0 : Md} (hG : GK Γ l) (a0 : Nat) (a1 : Option Nat) (C : Cd) : Ct l Γ k_X1_giveSum 2 encI (emC M0) [.ref a0, va_rf a1] C (fX1_giveSum a0 a1 C) := by
  refine ct_of (by decide +kernel) rfl (by cases a1 <;> exact Nat.le_of_ble_eq_true rfl) ?_
  refine r_lo [0, 1] (lo2 := [(0, .ref a0), (1, va_rf a1)]) (by cases a1 <;> rfl) ?_
  unfold fX1_giveSum
  refine ro_iconst (v := 0) dX1_giveSum_0 rfl ?_
  refine r_istore_n (lo2 := [(2, wi 0), (0, .ref a0), (1, va_rf a1)]) dX1_giveSum_1 rfl (by decide) (by cases a1 <;> rfl) ?_
  refine ro_iconst (v := 1) dX1_giveSum_2 rfl ?_
  refine r_istore_n (lo2 := [(3, wi 1), (2, wi 0), (0, .ref a0), (1, va_rf a1)]) dX1_giveSum_3 rfl (by decide) rfl ?_
  refine r_loop (P := fun (J : Int → Int → Cd → Option (Int × Cd)) => ∀ (v2_4 : Int) (v3_4 : Int) (C_4 : Cd), RunO l Γ k_X1_giveSum 2 encI (emC M0) 4 [(0, .ref a0), (1, va_rf a1), (2, wi v2_4), (3, wi v3_4)] [] C_4 (J v2_4 v3_4 C_4)) ?_ (fun L4 hL4 => ?_) (fun J4 hJ4 => ?_)
  · intros; exact ro_none
  · intro v2_4 v3_4 C_4
    refine r_iload_n (x := v3_4) dX1_giveSum_4 rfl rfl ?_
    refine r_aload_n (x := a0) dX1_giveSum_5 rfl rfl ?_
    refine r_cgetI (c := 4) (kk := 13) hc_X1 rfl (by decide) inU_X1 (by decide) uf_X1_72 rfl (by decide) dX1_giveSum_6 ?_
    refine r_icmp_gt (tgt := 44) dX1_giveSum_9 (by decide) ?_ ?_
    · refine r_aloadq_n (x := a1) dX1_giveSum_44 rfl rfl ?_
      refine r_dref (fun p1 hp1 => ?_)
      subst hp1
      refine r_cgetRN (c := 9) (kk := 1) hc_X6 rfl (by decide) inU_X6 (by decide) hG uf_X1_120 rfl (by decide) dX1_giveSum_45 (fun z2 => ?_)
      refine r_iload_n (x := v2_4) dX1_giveSum_48 rfl rfl ?_
      refine r_sipush (v := 1000) dX1_giveSum_49 rfl ?_
      refine r_irem dX1_giveSum_52 (by decide) ?_
      refine r_dref (fun p3 hp3 => ?_)
      subst hp3
      refine r_ccVNv (c := 8) (k2 := k_X5_add) (n := 1) (rest := []) hG um_X1_132 rfl kv_X5_add hc_X5 (by decide) (c_X5_add hG _ _ _) (by decide) rfl (Nat.le_of_ble_eq_true rfl) dX1_giveSum_53 rfl (fun r5 C4 => ?_)
      refine ro_iconst (v := 1) dX1_giveSum_56 rfl ?_
      exact r_zret0 (by first | exact Or.inl rfl | exact Or.inr rfl) rfl dX1_giveSum_57
    · refine r_aload_n (x := a0) dX1_giveSum_12 rfl rfl ?_
      refine r_aloadq_n (x := a1) dX1_giveSum_13 rfl rfl ?_
      refine r_dref (fun p6 hp6 => ?_)
      subst hp6
      refine r_cgetRN (c := 9) (kk := 0) hc_X6 rfl (by decide) inU_X6 (by decide) hG uf_X1_116 rfl (by decide) dX1_giveSum_14 (fun z7 => ?_)
      refine r_iload_n (x := v3_4) dX1_giveSum_17 rfl rfl ?_
      refine r_ccVr (c := 4) (k2 := k_X1_partOf) (n := 2) (rest := []) um_X1_229 rfl kv_X1_partOf hc_X1 (by decide) (c_X1_partOf hG _ _ _ _) (by decide) rfl (Nat.le_of_ble_eq_true rfl) dX1_giveSum_18 rfl (fun r9 C8 => ?_)
      refine r_astoreq (lo2 := [(4, va_rf r9), (0, .ref a0), (1, .ref p6), (2, wi v2_4), (3, wi v3_4)]) dX1_giveSum_21 (by decide) rfl ?_
      refine r_aloadq (x := r9) dX1_giveSum_23 rfl ?_
      refine r_opt (fun hn => ?_) (fun p10 hp10 => ?_)
      · subst hn
        refine r_ifnonnullN dX1_giveSum_25 ?_
        refine ro_iconst (v := 0) dX1_giveSum_28 rfl ?_
        exact r_zret0 (by first | exact Or.inl rfl | exact Or.inr rfl) rfl dX1_giveSum_29
      · subst hp10
        refine r_ifnonnullS (a := p10) (tgt := 30) dX1_giveSum_25 (by decide) ?_
        refine r_iload_n (x := v2_4) dX1_giveSum_30 rfl rfl ?_
        refine r_aload (x := p10) dX1_giveSum_31 rfl ?_
        refine r_cgetIN (c := 8) (kk := 2) hc_X5 rfl (by decide) inU_X5 (by decide) hG uf_X1_265 rfl (by decide) dX1_giveSum_33 ?_
        refine r_iadd dX1_giveSum_36 ?_
        refine r_nm (fun x2_37 => ?_)
        refine r_istore_n (lo2 := [(2, wi x2_37), (4, .ref p10), (0, .ref a0), (1, .ref p6), (3, wi v3_4)]) dX1_giveSum_37 rfl (by decide) rfl ?_
        refine r_iinc (x := v3_4) (lo2 := [(3, wi (v3_4 + 1)), (2, wi x2_37), (4, .ref p10), (0, .ref a0), (1, .ref p6)]) dX1_giveSum_38 rfl (by decide) rfl ?_
        refine r_goto (tgt := 4) dX1_giveSum_41 (by decide) ?_
        refine r_lo [3, 4, 1, 0] (lo2 := [(0, .ref a0), (1, .ref p6), (2, wi x2_37), (3, wi (v3_4 + 1))]) rfl ?_
        exact hL4 x2_37 (v3_4 + 1) C8
  refine r_lo [2, 3, 1, 0] (lo2 := [(0, .ref a0), (1, va_rf a1), (2, wi 0), (3, wi 1)]) rfl ?_
  exact hJ4 0 1 C
def k_X5_hasOtherThanZero : Kd := (yX5_hasOtherThanZero, cX5_hasOtherThanZero, 2, some .boolean, [])
theorem kv_X5_hasOtherThanZero : KV k_X5_hasOtherThanZero 0 := ⟨uw_mem 624 (by decide +kernel) rfl, uw_mem 96 (by decide +kernel) rfl, uw_mem 623 (by decide +kernel) rfl, uw_mem 27 (by decide +kernel) rfl, ⟨by decide +kernel, by decide +kernel⟩, by decide +kernel, by decide +kernel⟩
set_option maxHeartbeats 8000000 in
set_option maxRecDepth 100000 in
theorem c_X5_hasOtherThanZero {l : Launch} {Γ : Cx} {M0 : Md} (hG : GK Γ l) (a0 : Nat) (C : Cd) : Ct l Γ k_X5_hasOtherThanZero 2 encI (emC M0) [.ref a0] C (fX5_hasOtherThanZero a0 C) := by
  refine ct_of (by decide +kernel) rfl (Nat.le_of_ble_eq_true rfl) ?_
  refine r_lo [0] (lo2 := [(0, .ref a0)]) rfl ?_
  unfold fX5_hasOtherThanZero
  refine ro_iconst (v := 0) dX5_hasOtherThanZero_0 rfl ?_
  refine r_istore_n (lo2 := [(1, wi 0), (0, .ref a0)]) dX5_hasOtherThanZero_1 rfl (by decide) rfl ?_
  refine r_loop (P := fun (J : Int → Cd → Option (Int × Cd)) => ∀ (v1_2 : Int) (C_2 : Cd), RunO l Γ k_X5_hasOtherThanZero 2 encI (emC M0) 2 [(0, .ref a0), (1, wi v1_2)] [] C_2 (J v1_2 C_2)) ?_ (fun L2 hL2 => ?_) (fun J2 hJ2 => ?_)
  · intros; exact ro_none
  · intro v1_2 C_2
    refine r_iload_n (x := v1_2) dX5_hasOtherThanZero_2 rfl rfl ?_
    refine r_aload_n (x := a0) dX5_hasOtherThanZero_3 rfl rfl ?_
    refine r_cgetI (c := 8) (kk := 1) hc_X5 rfl (by decide) inU_X5 (by decide) uf_X5_15 rfl (by decide) dX5_hasOtherThanZero_4 ?_
    refine r_icmp_ge (tgt := 26) dX5_hasOtherThanZero_7 (by decide) ?_ ?_
    · refine ro_iconst (v := 0) dX5_hasOtherThanZero_26 rfl ?_
      exact r_zret0 (by first | exact Or.inl rfl | exact Or.inr rfl) rfl dX5_hasOtherThanZero_27
    · refine r_aload_n (x := a0) dX5_hasOtherThanZero_10 rfl rfl ?_
      refine r_iload_n (x := v1_2) dX5_hasOtherThanZero_11 rfl rfl ?_
      refine r_ccVi (c := 8) (k2 := k_X5_at) (n := 1) (rest := []) um_X5_22 rfl kv_X5_at hc_X5 (by decide) (c_X5_at hG _ _ _) (by decide) rfl (Nat.le_of_ble_eq_true rfl) dX5_hasOtherThanZero_12 rfl (fun r2 C1 => ?_)
      refine r_if_eq (tgt := 20) dX5_hasOtherThanZero_15 (by decide) ?_ ?_
      · refine r_iinc (x := v1_2) (lo2 := [(1, wi (v1_2 + 1)), (0, .ref a0)]) dX5_hasOtherThanZero_20 rfl (by decide) rfl ?_
        refine r_goto (tgt := 2) dX5_hasOtherThanZero_23 (by decide) ?_
        refine r_lo [1, 0] (lo2 := [(0, .ref a0), (1, wi (v1_2 + 1))]) rfl ?_
        exact hL2 (v1_2 + 1) C1
      · refine ro_iconst (v := 1) dX5_hasOtherThanZero_18 rfl ?_
        exact r_zret0 (by first | exact Or.inl rfl | exact Or.inr rfl) rfl dX5_hasOtherThanZero_19
  refine r_lo [1, 0] (lo2 := [(0, .ref a0), (1, wi 0)]) rfl ?_
  exact hJ2 0 C
def k_X1_givePart : Kd := (yX1_givePart, cX1_givePart, 4, some .boolean, [])
theorem kv_X1_givePart : KV k_X1_givePart 2 := ⟨uw_mem 628 (by decide +kernel) rfl, uw_mem 95 (by decide +kernel) rfl, uw_mem 627 (by decide +kernel) rfl, uw_mem 28 (by decide +kernel) rfl, ⟨by decide +kernel, by decide +kernel⟩, by decide +kernel, by decide +kernel⟩
set_option maxHeartbeats 8000000 in
set_option maxRecDepth 100000 in
theorem c_X1_givePart {l : Launch} {Γ : Cx} {M0 : Md} (hG : GK Γ l) (a0 : Nat) (a1 : Option Nat) (a2 : Int) (C : Cd) : Ct l Γ k_X1_givePart 3 encI (emC M0) [.ref a0, va_rf a1, wi a2] C (fX1_givePart a0 a1 a2 C) := by
  refine ct_of (by decide +kernel) rfl (by cases a1 <;> exact Nat.le_of_ble_eq_true rfl) ?_
  refine r_lo [0, 1, 2] (lo2 := [(0, .ref a0), (1, va_rf a1), (2, wi a2)]) (by cases a1 <;> rfl) ?_
  unfold fX1_givePart
  refine r_aload_n (x := a0) dX1_givePart_0 rfl rfl ?_
  refine r_aloadq_n (x := a1) dX1_givePart_1 rfl rfl ?_
  refine r_dref (fun p1 hp1 => ?_)
  subst hp1
  refine r_cgetRN (c := 9) (kk := 0) hc_X6 rfl (by decide) inU_X6 (by decide) hG uf_X1_116 rfl (by decide) dX1_givePart_2 (fun z2 => ?_)
  refine r_iload_n (x := a2) dX1_givePart_5 rfl rfl ?_
  refine r_ccVr (c := 4) (k2 := k_X1_partOf) (n := 2) (rest := []) um_X1_229 rfl kv_X1_partOf hc_X1 (by decide) (c_X1_partOf hG _ _ _ _) (by decide) rfl (Nat.le_of_ble_eq_true rfl) dX1_givePart_6 rfl (fun r4 C3 => ?_)
  refine r_astoreq_n (lo2 := [(3, va_rf r4), (0, .ref a0), (1, .ref p1), (2, wi a2)]) dX1_givePart_9 rfl (by decide) rfl ?_
  refine r_aloadq_n (x := r4) dX1_givePart_10 rfl rfl ?_
  refine r_opt (fun hn => ?_) (fun p5 hp5 => ?_)
  · subst hn
    refine r_ifnonnullN dX1_givePart_11 ?_
    refine ro_iconst (v := 0) dX1_givePart_14 rfl ?_
    exact r_zret0 (by first | exact Or.inl rfl | exact Or.inr rfl) rfl dX1_givePart_15
  · subst hp5
    refine r_ifnonnullS (a := p5) (tgt := 16) dX1_givePart_11 (by decide) ?_
    refine r_aload_n (x := p1) dX1_givePart_16 rfl rfl ?_
    refine r_cgetRN (c := 9) (kk := 1) hc_X6 rfl (by decide) inU_X6 (by decide) hG uf_X1_120 rfl (by decide) dX1_givePart_17 (fun z6 => ?_)
    refine r_aload_n (x := p5) dX1_givePart_20 rfl rfl ?_
    refine r_dref (fun p7 hp7 => ?_)
    subst hp7
    refine r_ccVNv (c := 8) (k2 := k_X5_addAll) (n := 1) (rest := []) hG um_X1_209 rfl kv_X5_addAll hc_X5 (by decide) (c_X5_addAll hG _ _ _) (by decide) rfl (Nat.le_of_ble_eq_true rfl) dX1_givePart_21 rfl (fun r9 C8 => ?_)
    refine ro_iconst (v := 1) dX1_givePart_24 rfl ?_
    exact r_zret0 (by first | exact Or.inl rfl | exact Or.inr rfl) rfl dX1_givePart_25
def k_X5_sameAs : Kd := (yX5_sameAs, cX5_sameAs, 3, some .boolean, [])
theorem kv_X5_sameAs : KV k_X5_sameAs 1 := ⟨uw_mem 632 (by decide +kernel) rfl, uw_mem 96 (by decide +kernel) rfl, uw_mem 631 (by decide +kernel) rfl, uw_mem 29 (by decide +kernel) rfl, ⟨by decide +kernel, by decide +kernel⟩, by decide +kernel, by decide +kernel⟩
set_option maxHeartbeats 8000000 in
set_option maxRecDepth 100000 in
theorem c_X5_sameAs {l : Launch} {Γ : Cx} {M0 : Md} (hG : GK Γ l) (a0 : Nat) (a1 : Option Nat) (C : Cd) : Ct l Γ k_X5_sameAs 2 encI (emC M0) [.ref a0, va_rf a1] C (fX5_sameAs a0 a1 C) := by
  refine ct_of (by decide +kernel) rfl (by cases a1 <;> exact Nat.le_of_ble_eq_true rfl) ?_
  refine r_lo [0, 1] (lo2 := [(0, .ref a0), (1, va_rf a1)]) (by cases a1 <;> rfl) ?_
  unfold fX5_sameAs
  refine r_aloadq_n (x := a1) dX5_sameAs_0 rfl rfl ?_
  refine r_dref (fun p1 hp1 => ?_)
  subst hp1
  refine r_cgetI (c := 8) (kk := 1) hc_X5 rfl (by decide) inU_X5 (by decide) uf_X5_15 rfl (by decide) dX5_sameAs_1 ?_
  refine r_aload_n (x := a0) dX5_sameAs_4 rfl rfl ?_
  refine r_cgetI (c := 8) (kk := 1) hc_X5 rfl (by decide) inU_X5 (by decide) uf_X5_15 rfl (by decide) dX5_sameAs_5 ?_
  refine r_icmp_eq (tgt := 13) dX5_sameAs_8 (by decide) ?_ ?_
  · refine ro_iconst (v := 0) dX5_sameAs_13 rfl ?_
    refine r_istore_n (lo2 := [(2, wi 0), (0, .ref a0), (1, .ref p1)]) dX5_sameAs_14 rfl (by decide) rfl ?_
    refine r_loop (P := fun (J : Int → Cd → Option (Int × Cd)) => ∀ (v2_15 : Int) (C_15 : Cd), RunO l Γ k_X5_sameAs 2 encI (emC M0) 15 [(0, .ref a0), (1, .ref p1), (2, wi v2_15)] [] C_15 (J v2_15 C_15)) ?_ (fun L15 hL15 => ?_) (fun J15 hJ15 => ?_)
    · intros; exact ro_none
    · intro v2_15 C_15
      refine r_iload_n (x := v2_15) dX5_sameAs_15 rfl rfl ?_
      refine r_aload_n (x := a0) dX5_sameAs_16 rfl rfl ?_
      refine r_cgetI (c := 8) (kk := 1) hc_X5 rfl (by decide) inU_X5 (by decide) uf_X5_15 rfl (by decide) dX5_sameAs_17 ?_
      refine r_icmp_ge (tgt := 44) dX5_sameAs_20 (by decide) ?_ ?_
      · refine ro_iconst (v := 1) dX5_sameAs_44 rfl ?_
        exact r_zret0 (by first | exact Or.inl rfl | exact Or.inr rfl) rfl dX5_sameAs_45
      · refine r_aload_n (x := a0) dX5_sameAs_23 rfl rfl ?_
        refine r_iload_n (x := v2_15) dX5_sameAs_24 rfl rfl ?_
        refine r_ccVi (c := 8) (k2 := k_X5_at) (n := 1) (rest := []) um_X5_22 rfl kv_X5_at hc_X5 (by decide) (c_X5_at hG _ _ _) (by decide) rfl (Nat.le_of_ble_eq_true rfl) dX5_sameAs_25 rfl (fun r3 C2 => ?_)
        refine r_aload_n (x := p1) dX5_sameAs_28 rfl rfl ?_
        refine r_iload_n (x := v2_15) dX5_sameAs_29 rfl rfl ?_
        refine r_ccVi (c := 8) (k2 := k_X5_at) (n := 1) (rest := [wi r3]) um_X5_22 rfl kv_X5_at hc_X5 (by decide) (c_X5_at hG _ _ _) (by decide) rfl (Nat.le_of_ble_eq_true rfl) dX5_sameAs_30 rfl (fun r5 C4 => ?_)
        refine r_icmp_eq (tgt := 38) dX5_sameAs_33 (by decide) ?_ ?_
        · refine r_iinc (x := v2_15) (lo2 := [(2, wi (v2_15 + 1)), (0, .ref a0), (1, .ref p1)]) dX5_sameAs_38 rfl (by decide) rfl ?_
          refine r_goto (tgt := 15) dX5_sameAs_41 (by decide) ?_
          refine r_lo [1, 2, 0] (lo2 := [(0, .ref a0), (1, .ref p1), (2, wi (v2_15 + 1))]) rfl ?_
          exact hL15 (v2_15 + 1) C4
        · refine ro_iconst (v := 0) dX5_sameAs_36 rfl ?_
          exact r_zret0 (by first | exact Or.inl rfl | exact Or.inr rfl) rfl dX5_sameAs_37
    refine r_lo [1, 2, 0] (lo2 := [(0, .ref a0), (1, .ref p1), (2, wi 0)]) rfl ?_
    exact hJ15 0 C
  · refine ro_iconst (v := 0) dX5_sameAs_11 rfl ?_
    exact r_zret0 (by first | exact Or.inl rfl | exact Or.inr rfl) rfl dX5_sameAs_12
def k_X5_number : Kd := (yX5_number, cX5_number, 1, some .int, [])
theorem kv_X5_number : KV k_X5_number 0 := ⟨uw_mem 636 (by decide +kernel) rfl, uw_mem 96 (by decide +kernel) rfl, uw_mem 635 (by decide +kernel) rfl, uw_mem 30 (by decide +kernel) rfl, ⟨by decide +kernel, by decide +kernel⟩, by decide +kernel, by decide +kernel⟩
set_option maxHeartbeats 8000000 in
set_option maxRecDepth 100000 in
theorem c_X5_number {l : Launch} {Γ : Cx} {M0 : Md} (hG : GK Γ l) (a0 : Nat) (C : Cd) : Ct l Γ k_X5_number 1 encI (emC M0) [.ref a0] C (fX5_number a0 C) := by
  refine ct_of (by decide +kernel) rfl (Nat.le_of_ble_eq_true rfl) ?_
  refine r_lo [0] (lo2 := [(0, .ref a0)]) rfl ?_
  unfold fX5_number
  refine r_aload_n (x := a0) dX5_number_0 rfl rfl ?_
  refine r_cgetI (c := 8) (kk := 1) hc_X5 rfl (by decide) inU_X5 (by decide) uf_X5_15 rfl (by decide) dX5_number_1 ?_
  refine r_join (P := fun (J : Int → Cd → Option (Int × Cd)) => ∀ (t0_29 : Int) (C_29 : Cd), RunO l Γ k_X5_number 1 encI (emC M0) 29 [] [wi t0_29] C_29 (J t0_29 C_29)) ?_ (fun J29 hJ29 => ?_)
  · intro t0_29 C_29
    exact r_iret rfl dX5_number_29
  refine r_join (P := fun (J : Cd → Option (Int × Cd)) => ∀  (C_28 : Cd), RunO l Γ k_X5_number 1 encI (emC M0) 28 [] [] C_28 (J C_28)) ?_ (fun J28 hJ28 => ?_)
  · intro C_28
    refine ro_iconst (v := (-1)) dX5_number_28 rfl ?_
    exact hJ29 (-1) C_28
  refine r_if_le (tgt := 28) dX5_number_4 (by decide) ?_ ?_
  · refine r_lo [] (lo2 := []) rfl ?_
    exact hJ28  C
  · refine r_aload_n (x := a0) dX5_number_7 rfl rfl ?_
    refine r_cgetR (c := 8) (kk := 0) hc_X5 rfl (by decide) inU_X5 (by decide) uf_X5_9 rfl (by decide) dX5_number_8 (fun z1 => ?_)
    refine ro_iconst (v := 0) dX5_number_11 rfl ?_
    refine r_dref (fun p2 hp2 => ?_)
    subst hp2
    refine r_ciald dX5_number_12 ?_
    refine r_sipush (v := 1000) dX5_number_13 rfl ?_
    refine r_icmp_ge (tgt := 28) dX5_number_16 (by decide) ?_ ?_
    · refine r_lo [] (lo2 := []) rfl ?_
      exact hJ28  C
    · refine r_aload_n (x := a0) dX5_number_19 rfl rfl ?_
      refine r_cgetR (c := 8) (kk := 0) hc_X5 rfl (by decide) inU_X5 (by decide) uf_X5_9 rfl (by decide) dX5_number_20 (fun z3 => ?_)
      refine ro_iconst (v := 0) dX5_number_23 rfl ?_
      refine r_dref (fun p4 hp4 => ?_)
      subst hp4
      refine r_ciald dX5_number_24 ?_
      refine r_goto (tgt := 29) dX5_number_25 (by decide) ?_
      refine r_lo [] (lo2 := []) rfl ?_
      exact hJ29 (cE C p4 (ix 0)) C
def k_X3_textUpTo : Kd := (yX3_textUpTo, cX3_textUpTo, 3, some (.object "Weaveword$Text"), [])
theorem kv_X3_textUpTo : KV k_X3_textUpTo 1 := ⟨uw_mem 649 (by decide +kernel) rfl, uw_mem 111 (by decide +kernel) rfl, uw_mem 647 (by decide +kernel) rfl, uw_mem 33 (by decide +kernel) rfl, ⟨by decide +kernel, by decide +kernel⟩, by decide +kernel, by decide +kernel⟩
set_option maxHeartbeats 8000000 in
set_option maxRecDepth 100000 in
theorem c_X3_textUpTo {l : Launch} {Γ : Cx} {M0 : Md} (hG : GK Γ l) (a0 : Nat) (a1 : Int) (C : Cd) : Ct l Γ k_X3_textUpTo 1 encR (emC M0) [.ref a0, wi a1] C (fX3_textUpTo a0 a1 C) := by
  refine ct_of (by decide +kernel) rfl (Nat.le_of_ble_eq_true rfl) ?_
  refine r_lo [0, 1] (lo2 := [(0, .ref a0), (1, wi a1)]) rfl ?_
  unfold fX3_textUpTo
  refine r_iload_n (x := a1) dX3_textUpTo_0 rfl rfl ?_
  refine ro_iconst (v := (-1)) dX3_textUpTo_1 rfl ?_
  refine r_icmp_ne (tgt := 13) dX3_textUpTo_2 (by decide) ?_ ?_
  · refine r_aload_n (x := a0) dX3_textUpTo_13 rfl rfl ?_
    refine r_cgetR (c := 6) (kk := 2) hc_X3 rfl (by decide) inU_X3 (by decide) uf_X3_18 rfl (by decide) dX3_textUpTo_14 (fun z1 => ?_)
    refine r_astoreq_n (lo2 := [(2, va_rf z1), (0, .ref a0), (1, wi a1)]) dX3_textUpTo_17 rfl (by decide) rfl ?_
    refine r_loop (P := fun (J : Option Nat → Cd → Option (Option Nat × Cd)) => ∀ (v2_18 : Option Nat) (C_18 : Cd), RunO l Γ k_X3_textUpTo 1 encR (emC M0) 18 [(1, wi a1), (2, va_rf v2_18)] [] C_18 (J v2_18 C_18)) ?_ (fun L18 hL18 => ?_) (fun J18 hJ18 => ?_)
    · intros; exact ro_none
    · intro v2_18 C_18
      refine r_aloadq_n (x := v2_18) dX3_textUpTo_18 rfl rfl ?_
      refine r_opt (fun hn => ?_) (fun p2 hp2 => ?_)
      · subst hn
        refine r_ifnullN (tgt := 43) dX3_textUpTo_19 (by decide) ?_
        refine r_null dX3_textUpTo_43 ?_
        exact r_aret (x := none) rfl (Or.inl ⟨_, rfl⟩) dX3_textUpTo_44
      · subst hp2
        refine r_ifnullS (a := p2) dX3_textUpTo_19 ?_
        refine r_aload_n (x := p2) dX3_textUpTo_22 rfl rfl ?_
        refine r_cgetIN (c := 3) (kk := 0) hc_X0 rfl (by decide) inU_X0 (by decide) hG uf_X3_54 rfl (by decide) dX3_textUpTo_23 ?_
        refine r_iload_n (x := a1) dX3_textUpTo_26 rfl rfl ?_
        refine r_icmp_gt (tgt := 35) dX3_textUpTo_27 (by decide) ?_ ?_
        · refine r_aload_n (x := p2) dX3_textUpTo_35 rfl rfl ?_
          refine r_cgetRN (c := 3) (kk := 2) hc_X0 rfl (by decide) inU_X0 (by decide) hG uf_X3_58 rfl (by decide) dX3_textUpTo_36 (fun z3 => ?_)
          refine r_astoreq_n (lo2 := [(2, va_rf z3), (1, wi a1)]) dX3_textUpTo_39 rfl (by decide) rfl ?_
          refine r_goto (tgt := 18) dX3_textUpTo_40 (by decide) ?_
          refine r_lo [1, 0] (lo2 := [(1, wi a1), (2, va_rf z3)]) rfl ?_
          exact hL18 z3 C_18
        · refine r_aload_n (x := p2) dX3_textUpTo_30 rfl rfl ?_
          refine r_cgetRN (c := 3) (kk := 1) hc_X0 rfl (by decide) inU_X0 (by decide) hG uf_X3_57 rfl (by decide) dX3_textUpTo_31 (fun z4 => ?_)
          exact r_aret (x := z4) rfl (Or.inl ⟨_, rfl⟩) dX3_textUpTo_34
    refine r_lo [2, 0] (lo2 := [(1, wi a1), (2, va_rf z1)]) rfl ?_
    exact hJ18 z1 C
  · refine r_aload_n (x := a0) dX3_textUpTo_5 rfl rfl ?_
    refine r_cgetR (c := 6) (kk := 1) hc_X3 rfl (by decide) inU_X3 (by decide) uf_X3_22 rfl (by decide) dX3_textUpTo_6 (fun z5 => ?_)
    refine r_dref (fun p6 hp6 => ?_)
    subst hp6
    refine r_cgetRN (c := 13) (kk := 2) hc_X10 rfl (by decide) inU_X10 (by decide) hG uf_X3_50 rfl (by decide) dX3_textUpTo_9 (fun z7 => ?_)
    exact r_aret (x := z7) rfl (Or.inl ⟨_, rfl⟩) dX3_textUpTo_12
def k_X1_textAt : Kd := (yX1_textAt, cX1_textAt, 4, some (.object "Weaveword$Text"), [])
theorem kv_X1_textAt : KV k_X1_textAt 2 := ⟨uw_mem 644 (by decide +kernel) rfl, uw_mem 95 (by decide +kernel) rfl, uw_mem 643 (by decide +kernel) rfl, uw_mem 32 (by decide +kernel) rfl, ⟨by decide +kernel, by decide +kernel⟩, by decide +kernel, by decide +kernel⟩
set_option maxHeartbeats 8000000 in
set_option maxRecDepth 100000 in
theorem c_X1_textAt {l : Launch} {Γ : Cx} {M0 : Md} (hG : GK Γ l) (a0 : Nat) (a1 : Int) (a2 : Int) (C : Cd) : Ct l Γ k_X1_textAt 2 encR (emC M0) [.ref a0, wi a1, wi a2] C (fX1_textAt a0 a1 a2 C) := by
  refine ct_of (by decide +kernel) rfl (Nat.le_of_ble_eq_true rfl) ?_
  refine r_lo [0, 1, 2] (lo2 := [(0, .ref a0), (1, wi a1), (2, wi a2)]) rfl ?_
  unfold fX1_textAt
  refine r_iload_n (x := a1) dX1_textAt_0 rfl rfl ?_
  refine r_join (P := fun (J : Option Nat → Cd → Option (Option Nat × Cd)) => ∀ (t0_26 : Option Nat) (C_26 : Cd), RunO l Γ k_X1_textAt 2 encR (emC M0) 26 [(2, wi a2)] [va_rf t0_26] C_26 (J t0_26 C_26)) ?_ (fun J26 hJ26 => ?_)
  · intro t0_26 C_26
    refine r_astoreq_n (lo2 := [(3, va_rf t0_26), (2, wi a2)]) dX1_textAt_26 rfl (by decide) rfl ?_
    refine r_aloadq_n (x := t0_26) dX1_textAt_27 rfl rfl ?_
    refine r_join (P := fun (J : Option Nat → Cd → Option (Option Nat × Cd)) => ∀ (t0_40 : Option Nat) (C_40 : Cd), RunO l Γ k_X1_textAt 2 encR (emC M0) 40 [] [va_rf t0_40] C_40 (J t0_40 C_40)) ?_ (fun J40 hJ40 => ?_)
    · intro t0_40 C_40
      exact r_aret (x := t0_40) rfl (Or.inl ⟨_, rfl⟩) dX1_textAt_40
    refine r_opt (fun hn => ?_) (fun p1 hp1 => ?_)
    · subst hn
      refine r_ifnonnullN dX1_textAt_28 ?_
      refine r_null dX1_textAt_31 ?_
      refine r_goto (tgt := 40) dX1_textAt_32 (by decide) ?_
      refine r_lo [] (lo2 := []) rfl ?_
      exact hJ40 none C_26
    · subst hp1
      refine r_ifnonnullS (a := p1) (tgt := 35) dX1_textAt_28 (by decide) ?_
      refine r_aload_n (x := p1) dX1_textAt_35 rfl rfl ?_
      refine r_iload_n (x := a2) dX1_textAt_36 rfl rfl ?_
      refine r_ccVNr (c := 6) (k2 := k_X3_textUpTo) (n := 1) (rest := []) hG um_X1_189 rfl kv_X3_textUpTo hc_X3 (by decide) (c_X3_textUpTo hG _ _ _) (by decide) rfl (Nat.le_of_ble_eq_true rfl) dX1_textAt_37 rfl (fun r3 C2 => ?_)
      refine r_lo [] (lo2 := []) rfl ?_
      exact hJ40 r3 C2
  refine r_join (P := fun (J : Cd → Option (Option Nat × Cd)) => ∀  (C_25 : Cd), RunO l Γ k_X1_textAt 2 encR (emC M0) 25 [(2, wi a2)] [] C_25 (J C_25)) ?_ (fun J25 hJ25 => ?_)
  · intro C_25
    refine r_null dX1_textAt_25 ?_
    exact hJ26 none C_25
  refine r_if_lt (tgt := 25) dX1_textAt_1 (by decide) ?_ ?_
  · refine r_lo [2] (lo2 := [(2, wi a2)]) rfl ?_
    exact hJ25  C
  · refine r_iload_n (x := a1) dX1_textAt_4 rfl rfl ?_
    refine r_aload_n (x := a0) dX1_textAt_5 rfl rfl ?_
    refine r_cgetR (c := 4) (kk := 0) hc_X1 rfl (by decide) inU_X1 (by decide) uf_X1_11 rfl (by decide) dX1_textAt_6 (fun z4 => ?_)
    refine r_dref (fun p5 hp5 => ?_)
    subst hp5
    refine r_calen (t := 102) rfl (by decide) dX1_textAt_9 ?_
    refine r_icmp_ge (tgt := 25) dX1_textAt_10 (by decide) ?_ ?_
    · refine r_lo [2] (lo2 := [(2, wi a2)]) rfl ?_
      exact hJ25  C
    · refine r_aload_n (x := a0) dX1_textAt_13 rfl rfl ?_
      refine r_cgetR (c := 4) (kk := 0) hc_X1 rfl (by decide) inU_X1 (by decide) uf_X1_11 rfl (by decide) dX1_textAt_14 (fun z6 => ?_)
      refine r_iload_n (x := a1) dX1_textAt_17 rfl rfl ?_
      refine r_dref (fun p7 hp7 => ?_)
      subst hp7
      refine r_caald (t := 102) rfl (by decide) (by decide) dX1_textAt_18 (fun z8 => ?_)
      refine r_dref (fun p9 hp9 => ?_)
      subst hp9
      refine r_cgetRN (c := 12) (kk := 3) hc_X9 rfl (by decide) inU_X9 (by decide) hG uf_X1_185 rfl (by decide) dX1_textAt_19 (fun z10 => ?_)
      refine r_goto (tgt := 26) dX1_textAt_22 (by decide) ?_
      refine r_lo [2] (lo2 := [(2, wi a2)]) rfl ?_
      exact hJ26 z10 C
def k_X1_giveExists : Kd := (yX1_giveExists, cX1_giveExists, 4, none, [])
theorem kv_X1_giveExists : KV k_X1_giveExists 2 := ⟨uw_mem 640 (by decide +kernel) rfl, uw_mem 95 (by decide +kernel) rfl, uw_mem 639 (by decide +kernel) rfl, uw_mem 31 (by decide +kernel) rfl, ⟨by decide +kernel, by decide +kernel⟩, by decide +kernel, by decide +kernel⟩
set_option maxHeartbeats 8000000 in
set_option maxRecDepth 100000 in
theorem c_X1_giveExists {l : Launch} {Γ : Cx} {M0 : Md} (hG : GK Γ l) (a0 : Nat) (a1 : Option Nat) (a2 : Int) (C : Cd) : Ct l Γ k_X1_giveExists 3 encV (emC M0) [.ref a0, va_rf a1, wi a2] C (fX1_giveExists a0 a1 a2 C) := by
  refine ct_of (by decide +kernel) rfl (by cases a1 <;> exact Nat.le_of_ble_eq_true rfl) ?_
  refine r_lo [0, 1, 2] (lo2 := [(0, .ref a0), (1, va_rf a1), (2, wi a2)]) (by cases a1 <;> rfl) ?_
  unfold fX1_giveExists
  refine r_iload_n (x := a2) dX1_giveExists_0 rfl rfl ?_
  refine r_join (P := fun (J : Int → Cd → Option (Unit × Cd)) => ∀ (t0_15 : Int) (C_15 : Cd), RunO l Γ k_X1_giveExists 3 encV (emC M0) 15 [(0, .ref a0), (1, va_rf a1), (2, wi a2)] [wi t0_15] C_15 (J t0_15 C_15)) ?_ (fun J15 hJ15 => ?_)
  · intro t0_15 C_15
    refine r_istore_n (lo2 := [(3, wi t0_15), (0, .ref a0), (1, va_rf a1), (2, wi a2)]) dX1_giveExists_15 rfl (by decide) rfl ?_
    refine r_iload_n (x := t0_15) dX1_giveExists_16 rfl rfl ?_
    refine r_join (P := fun (J : Cd → Option (Unit × Cd)) => ∀  (C_35 : Cd), RunO l Γ k_X1_giveExists 3 encV (emC M0) 35 [(0, .ref a0), (1, va_rf a1), (2, wi a2), (3, wi t0_15)] [] C_35 (J C_35)) ?_ (fun J35 hJ35 => ?_)
    · intro C_35
      refine r_aloadq_n (x := a1) dX1_giveExists_35 rfl rfl ?_
      refine r_dref (fun p1 hp1 => ?_)
      subst hp1
      refine r_cgetRN (c := 9) (kk := 1) hc_X6 rfl (by decide) inU_X6 (by decide) hG uf_X1_120 rfl (by decide) dX1_giveExists_36 (fun z2 => ?_)
      refine r_iload_n (x := t0_15) dX1_giveExists_39 rfl rfl ?_
      refine r_join (P := fun (J : Int → Cd → Option (Unit × Cd)) => ∀ (t0_60 : Int) (C_60 : Cd), RunO l Γ k_X1_giveExists 3 encV (emC M0) 60 [] [wi t0_60, va_rf z2] C_60 (J t0_60 C_60)) ?_ (fun J60 hJ60 => ?_)
      · intro t0_60 C_60
        refine r_dref (fun p3 hp3 => ?_)
        subst hp3
        refine r_ccVNv (c := 8) (k2 := k_X5_add) (n := 1) (rest := []) hG um_X1_132 rfl kv_X5_add hc_X5 (by decide) (c_X5_add hG _ _ _) (by decide) rfl (Nat.le_of_ble_eq_true rfl) dX1_giveExists_60 rfl (fun r5 C4 => ?_)
        exact r_vret rfl dX1_giveExists_63
      refine r_join (P := fun (J : Cd → Option (Unit × Cd)) => ∀  (C_59 : Cd), RunO l Γ k_X1_giveExists 3 encV (emC M0) 59 [] [va_rf z2] C_59 (J C_59)) ?_ (fun J59 hJ59 => ?_)
      · intro C_59
        refine ro_iconst (v := 0) dX1_giveExists_59 rfl ?_
        exact hJ60 0 C_59
      refine r_if_eq (tgt := 59) dX1_giveExists_40 (by decide) ?_ ?_
      · refine r_lo [] (lo2 := []) rfl ?_
        exact hJ59  C_35
      · refine r_aload_n (x := a0) dX1_giveExists_43 rfl rfl ?_
        refine r_iload_n (x := a2) dX1_giveExists_44 rfl rfl ?_
        refine r_aload_n (x := a0) dX1_giveExists_45 rfl rfl ?_
        refine r_cgetI (c := 4) (kk := 11) hc_X1 rfl (by decide) inU_X1 (by decide) uf_X1_66 rfl (by decide) dX1_giveExists_46 ?_
        refine r_ccVr (c := 4) (k2 := k_X1_textAt) (n := 2) (rest := [va_rf z2]) um_X1_178 rfl kv_X1_textAt hc_X1 (by decide) (c_X1_textAt hG _ _ _ _) (by decide) rfl (by cases z2 <;> exact Nat.le_of_ble_eq_true rfl) dX1_giveExists_49 rfl (fun r7 C6 => ?_)
        refine r_opt (fun hn => ?_) (fun p8 hp8 => ?_)
        · subst hn
          refine r_ifnullN (tgt := 59) dX1_giveExists_52 (by decide) ?_
          refine r_lo [] (lo2 := []) rfl ?_
          exact hJ59  C6
        · subst hp8
          refine r_ifnullS (a := p8) dX1_giveExists_52 ?_
          refine ro_iconst (v := 1) dX1_giveExists_55 rfl ?_
          refine r_goto (tgt := 60) dX1_giveExists_56 (by decide) ?_
          refine r_lo [] (lo2 := []) rfl ?_
          exact hJ60 1 C6
    refine r_if_eq (tgt := 35) dX1_giveExists_17 (by decide) ?_ ?_
    · refine r_lo [1, 2, 3, 0] (lo2 := [(0, .ref a0), (1, va_rf a1), (2, wi a2), (3, wi t0_15)]) rfl ?_
      exact hJ35  C_15
    · refine r_aload_n (x := a0) dX1_giveExists_20 rfl rfl ?_
      refine r_cgetR (c := 4) (kk := 7) hc_X1 rfl (by decide) inU_X1 (by decide) uf_X1_52 rfl (by decide) dX1_giveExists_21 (fun z9 => ?_)
      refine r_dref (fun p10 hp10 => ?_)
      subst hp10
      refine r_dup dX1_giveExists_24 rfl ?_
      refine r_cgetIN (c := 7) (kk := 5) hc_X4 rfl (by decide) inU_X4 (by decide) hG uf_X1_171 rfl (by decide) dX1_giveExists_25 ?_
      refine ro_iconst (v := 1) dX1_giveExists_28 rfl ?_
      refine r_iload_n (x := a2) dX1_giveExists_29 rfl rfl ?_
      refine r_ishl dX1_giveExists_30 ?_
      refine r_ior dX1_giveExists_31 ?_
      refine r_cputIN (c := 7) (kk := 5) hc_X4 rfl (by decide) inU_X4 (by decide) hG uf_X1_171 rfl tyX4 tyX4_ok nmX4 (fty := .int) (by decide) rfl rfl rfl rfl dX1_giveExists_32 (fun C11 _ _ => ?_)
      refine r_lo [1, 2, 3, 0] (lo2 := [(0, .ref a0), (1, va_rf a1), (2, wi a2), (3, wi t0_15)]) rfl ?_
      exact hJ35  C11
  refine r_join (P := fun (J : Cd → Option (Unit × Cd)) => ∀  (C_14 : Cd), RunO l Γ k_X1_giveExists 3 encV (emC M0) 14 [(0, .ref a0), (1, va_rf a1), (2, wi a2)] [] C_14 (J C_14)) ?_ (fun J14 hJ14 => ?_)
  · intro C_14
    refine ro_iconst (v := 0) dX1_giveExists_14 rfl ?_
    exact hJ15 0 C_14
  refine r_if_lt (tgt := 14) dX1_giveExists_1 (by decide) ?_ ?_
  · exact hJ14  C
  · refine r_iload_n (x := a2) dX1_giveExists_4 rfl rfl ?_
    refine r_bipush (v := 24) dX1_giveExists_5 rfl ?_
    refine r_icmp_ge (tgt := 14) dX1_giveExists_7 (by decide) ?_ ?_
    · exact hJ14  C
    · refine ro_iconst (v := 1) dX1_giveExists_10 rfl ?_
      refine r_goto (tgt := 15) dX1_giveExists_11 (by decide) ?_
      exact hJ15 1 C
def k_X1_giveList : Kd := (yX1_giveList, cX1_giveList, 4, none, [])
theorem kv_X1_giveList : KV k_X1_giveList 2 := ⟨uw_mem 669 (by decide +kernel) rfl, uw_mem 95 (by decide +kernel) rfl, uw_mem 668 (by decide +kernel) rfl, uw_mem 35 (by decide +kernel) rfl, ⟨by decide +kernel, by decide +kernel⟩, by decide +kernel, by decide +kernel⟩
set_option maxHeartbeats 8000000 in
set_option maxRecDepth 100000 in
theorem c_X1_giveList {l : Launch} {Γ : Cx} {M0 : Md} (hG : GK Γ l) (a0 : Nat) (a1 : Option Nat) (a2 : Int) (C : Cd) : Ct l Γ k_X1_giveList 2 encV (emC M0) [.ref a0, va_rf a1, wi a2] C (fX1_giveList a0 a1 a2 C) := by
  refine ct_of (by decide +kernel) rfl (by cases a1 <;> exact Nat.le_of_ble_eq_true rfl) ?_
  refine r_lo [0, 1, 2] (lo2 := [(0, .ref a0), (1, va_rf a1), (2, wi a2)]) (by cases a1 <;> rfl) ?_
  unfold fX1_giveList
  refine r_aload_n (x := a0) dX1_giveList_0 rfl rfl ?_
  refine r_cgetR (c := 4) (kk := 7) hc_X1 rfl (by decide) inU_X1 (by decide) uf_X1_52 rfl (by decide) dX1_giveList_1 (fun z1 => ?_)
  refine r_dref (fun p2 hp2 => ?_)
  subst hp2
  refine r_dup dX1_giveList_4 rfl ?_
  refine r_cgetIN (c := 7) (kk := 3) hc_X4 rfl (by decide) inU_X4 (by decide) hG uf_X1_136 rfl (by decide) dX1_giveList_5 ?_
  refine r_iload_n (x := a2) dX1_giveList_8 rfl rfl ?_
  refine r_ior dX1_giveList_9 ?_
  refine r_cputIN (c := 7) (kk := 3) hc_X4 rfl (by decide) inU_X4 (by decide) hG uf_X1_136 rfl tyX4 tyX4_ok nmX4 (fty := .int) (by decide) rfl rfl rfl rfl dX1_giveList_10 (fun C3 _ _ => ?_)
  refine ro_iconst (v := 0) dX1_giveList_13 rfl ?_
  refine r_istore_n (lo2 := [(3, wi 0), (0, .ref a0), (1, va_rf a1), (2, wi a2)]) dX1_giveList_14 rfl (by decide) rfl ?_
  refine r_loop (P := fun (J : Int → Cd → Option (Unit × Cd)) => ∀ (v3_15 : Int) (C_15 : Cd), RunO l Γ k_X1_giveList 2 encV (emC M0) 15 [(1, va_rf a1), (2, wi a2), (3, wi v3_15)] [] C_15 (J v3_15 C_15)) ?_ (fun L15 hL15 => ?_) (fun J15 hJ15 => ?_)
  · intros; exact ro_none
  · intro v3_15 C_15
    refine r_iload_n (x := v3_15) dX1_giveList_15 rfl rfl ?_
    refine r_bipush (v := 24) dX1_giveList_16 rfl ?_
    refine r_icmp_ge (tgt := 47) dX1_giveList_18 (by decide) ?_ ?_
    · exact r_vret rfl dX1_giveList_47
    · refine r_iload_n (x := a2) dX1_giveList_21 rfl rfl ?_
      refine r_iload_n (x := v3_15) dX1_giveList_22 rfl rfl ?_
      refine r_ccSNi (k2 := k_X11_has) (n := 2) (rest := []) hG um_X1_275 rfl kv_X11_has (c_X11_has hG _ _ _) (by decide) rfl (Nat.le_of_ble_eq_true rfl) dX1_giveList_23 rfl (fun r5 C4 => ?_)
      refine r_join (P := fun (J : Cd → Option (Unit × Cd)) => ∀  (C_41 : Cd), RunO l Γ k_X1_giveList 2 encV (emC M0) 41 [(1, va_rf a1), (2, wi a2), (3, wi v3_15)] [] C_41 (J C_41)) ?_ (fun J41 hJ41 => ?_)
      · intro C_41
        refine r_iinc (x := v3_15) (lo2 := [(3, wi (v3_15 + 1)), (1, va_rf a1), (2, wi a2)]) dX1_giveList_41 rfl (by decide) rfl ?_
        refine r_goto (tgt := 15) dX1_giveList_44 (by decide) ?_
        refine r_lo [1, 2, 0] (lo2 := [(1, va_rf a1), (2, wi a2), (3, wi (v3_15 + 1))]) rfl ?_
        exact hL15 (v3_15 + 1) C_41
      refine r_if_eq (tgt := 41) dX1_giveList_26 (by decide) ?_ ?_
      · exact hJ41  C4
      · refine r_aloadq_n (x := a1) dX1_giveList_29 rfl rfl ?_
        refine r_dref (fun p6 hp6 => ?_)
        subst hp6
        refine r_cgetRN (c := 9) (kk := 1) hc_X6 rfl (by decide) inU_X6 (by decide) hG uf_X1_120 rfl (by decide) dX1_giveList_30 (fun z7 => ?_)
        refine r_sipush (v := 1000) dX1_giveList_33 rfl ?_
        refine r_iload_n (x := v3_15) dX1_giveList_36 rfl rfl ?_
        refine r_iadd dX1_giveList_37 ?_
        refine r_dref (fun p8 hp8 => ?_)
        subst hp8
        refine r_ccVNv (c := 8) (k2 := k_X5_add) (n := 1) (rest := []) hG um_X1_132 rfl kv_X5_add hc_X5 (by decide) (c_X5_add hG _ _ _) (by decide) rfl (Nat.le_of_ble_eq_true rfl) dX1_giveList_38 rfl (fun r10 C9 => ?_)
        exact hJ41  C9
  refine r_lo [2, 3, 0] (lo2 := [(1, va_rf a1), (2, wi a2), (3, wi 0)]) rfl ?_
  exact hJ15 0 C3
def k_X7_instructionAt : Kd := (yX7_instructionAt, cX7_instructionAt, 2, some .int, [])
theorem kv_X7_instructionAt : KV k_X7_instructionAt 1 := ⟨uw_mem 682 (by decide +kernel) rfl, uw_mem 99 (by decide +kernel) rfl, uw_mem 681 (by decide +kernel) rfl, uw_mem 38 (by decide +kernel) rfl, ⟨by decide +kernel, by decide +kernel⟩, by decide +kernel, by decide +kernel⟩
set_option maxHeartbeats 8000000 in
set_option maxRecDepth 100000 in
theorem c_X7_instructionAt {l : Launch} {Γ : Cx} {M0 : Md} (hG : GK Γ l) (a0 : Nat) (a1 : Int) (C : Cd) : Ct l Γ k_X7_instructionAt 1 encI (emC M0) [.ref a0, wi a1] C (fX7_instructionAt a0 a1 C) := by
  refine ct_of (by decide +kernel) rfl (Nat.le_of_ble_eq_true rfl) ?_
  refine r_lo [0, 1] (lo2 := [(0, .ref a0), (1, wi a1)]) rfl ?_
  unfold fX7_instructionAt
  refine r_iload_n (x := a1) dX7_instructionAt_0 rfl rfl ?_
  refine r_join (P := fun (J : Int → Cd → Option (Int × Cd)) => ∀ (t0_31 : Int) (C_31 : Cd), RunO l Γ k_X7_instructionAt 1 encI (emC M0) 31 [] [wi t0_31] C_31 (J t0_31 C_31)) ?_ (fun J31 hJ31 => ?_)
  · intro t0_31 C_31
    exact r_iret rfl dX7_instructionAt_31
  refine r_join (P := fun (J : Cd → Option (Int × Cd)) => ∀  (C_30 : Cd), RunO l Γ k_X7_instructionAt 1 encI (emC M0) 30 [] [] C_30 (J C_30)) ?_ (fun J30 hJ30 => ?_)
  · intro C_30
    refine ro_iconst (v := (-1)) dX7_instructionAt_30 rfl ?_
    exact hJ31 (-1) C_30
  refine r_if_lt (tgt := 30) dX7_instructionAt_1 (by decide) ?_ ?_
  · refine r_lo [] (lo2 := []) rfl ?_
    exact hJ30  C
  · refine r_iload_n (x := a1) dX7_instructionAt_4 rfl rfl ?_
    refine r_aload_n (x := a0) dX7_instructionAt_5 rfl rfl ?_
    refine r_cgetI (c := 10) (kk := 2) hc_X7 rfl (by decide) inU_X7 (by decide) uf_X7_18 rfl (by decide) dX7_instructionAt_6 ?_
    refine r_icmp_ge (tgt := 30) dX7_instructionAt_9 (by decide) ?_ ?_
    · refine r_lo [] (lo2 := []) rfl ?_
      exact hJ30  C
    · refine r_iload_n (x := a1) dX7_instructionAt_12 rfl rfl ?_
      refine r_aload_n (x := a0) dX7_instructionAt_13 rfl rfl ?_
      refine r_cgetR (c := 10) (kk := 0) hc_X7 rfl (by decide) inU_X7 (by decide) uf_X7_9 rfl (by decide) dX7_instructionAt_14 (fun z1 => ?_)
      refine r_dref (fun p2 hp2 => ?_)
      subst hp2
      refine r_calen (t := 100) rfl (by decide) dX7_instructionAt_17 ?_
      refine r_icmp_ge (tgt := 30) dX7_instructionAt_18 (by decide) ?_ ?_
      · refine r_lo [] (lo2 := []) rfl ?_
        exact hJ30  C
      · refine r_aload_n (x := a0) dX7_instructionAt_21 rfl rfl ?_
        refine r_cgetR (c := 10) (kk := 0) hc_X7 rfl (by decide) inU_X7 (by decide) uf_X7_9 rfl (by decide) dX7_instructionAt_22 (fun z3 => ?_)
        refine r_iload_n (x := a1) dX7_instructionAt_25 rfl rfl ?_
        refine r_dref (fun p4 hp4 => ?_)
        subst hp4
        refine r_ciald dX7_instructionAt_26 ?_
        refine r_goto (tgt := 31) dX7_instructionAt_27 (by decide) ?_
        refine r_lo [] (lo2 := []) rfl ?_
        exact hJ31 (cE C p4 (ix a1)) C
def k_X7_valueAt : Kd := (yX7_valueAt, cX7_valueAt, 2, some .int, [])
theorem kv_X7_valueAt : KV k_X7_valueAt 1 := ⟨uw_mem 686 (by decide +kernel) rfl, uw_mem 99 (by decide +kernel) rfl, uw_mem 685 (by decide +kernel) rfl, uw_mem 39 (by decide +kernel) rfl, ⟨by decide +kernel, by decide +kernel⟩, by decide +kernel, by decide +kernel⟩
set_option maxHeartbeats 8000000 in
set_option maxRecDepth 100000 in
theorem c_X7_valueAt {l : Launch} {Γ : Cx} {M0 : Md} (hG : GK Γ l) (a0 : Nat) (a1 : Int) (C : Cd) : Ct l Γ k_X7_valueAt 1 encI (emC M0) [.ref a0, wi a1] C (fX7_valueAt a0 a1 C) := by
  refine ct_of (by decide +kernel) rfl (Nat.le_of_ble_eq_true rfl) ?_
  refine r_lo [0, 1] (lo2 := [(0, .ref a0), (1, wi a1)]) rfl ?_
  unfold fX7_valueAt
  refine r_iload_n (x := a1) dX7_valueAt_0 rfl rfl ?_
  refine r_join (P := fun (J : Int → Cd → Option (Int × Cd)) => ∀ (t0_31 : Int) (C_31 : Cd), RunO l Γ k_X7_valueAt 1 encI (emC M0) 31 [] [wi t0_31] C_31 (J t0_31 C_31)) ?_ (fun J31 hJ31 => ?_)
  · intro t0_31 C_31
    exact r_iret rfl dX7_valueAt_31
  refine r_join (P := fun (J : Cd → Option (Int × Cd)) => ∀  (C_30 : Cd), RunO l Γ k_X7_valueAt 1 encI (emC M0) 30 [] [] C_30 (J C_30)) ?_ (fun J30 hJ30 => ?_)
  · intro C_30
    refine ro_iconst (v := (-1)) dX7_valueAt_30 rfl ?_
    exact hJ31 (-1) C_30
  refine r_if_lt (tgt := 30) dX7_valueAt_1 (by decide) ?_ ?_
  · refine r_lo [] (lo2 := []) rfl ?_
    exact hJ30  C
  · refine r_iload_n (x := a1) dX7_valueAt_4 rfl rfl ?_
    refine r_aload_n (x := a0) dX7_valueAt_5 rfl rfl ?_
    refine r_cgetI (c := 10) (kk := 2) hc_X7 rfl (by decide) inU_X7 (by decide) uf_X7_18 rfl (by decide) dX7_valueAt_6 ?_
    refine r_icmp_ge (tgt := 30) dX7_valueAt_9 (by decide) ?_ ?_
    · refine r_lo [] (lo2 := []) rfl ?_
      exact hJ30  C
    · refine r_iload_n (x := a1) dX7_valueAt_12 rfl rfl ?_
      refine r_aload_n (x := a0) dX7_valueAt_13 rfl rfl ?_
      refine r_cgetR (c := 10) (kk := 1) hc_X7 rfl (by decide) inU_X7 (by decide) uf_X7_15 rfl (by decide) dX7_valueAt_14 (fun z1 => ?_)
      refine r_dref (fun p2 hp2 => ?_)
      subst hp2
      refine r_calen (t := 100) rfl (by decide) dX7_valueAt_17 ?_
      refine r_icmp_ge (tgt := 30) dX7_valueAt_18 (by decide) ?_ ?_
      · refine r_lo [] (lo2 := []) rfl ?_
        exact hJ30  C
      · refine r_aload_n (x := a0) dX7_valueAt_21 rfl rfl ?_
        refine r_cgetR (c := 10) (kk := 1) hc_X7 rfl (by decide) inU_X7 (by decide) uf_X7_15 rfl (by decide) dX7_valueAt_22 (fun z3 => ?_)
        refine r_iload_n (x := a1) dX7_valueAt_25 rfl rfl ?_
        refine r_dref (fun p4 hp4 => ?_)
        subst hp4
        refine r_ciald dX7_valueAt_26 ?_
        refine r_goto (tgt := 31) dX7_valueAt_27 (by decide) ?_
        refine r_lo [] (lo2 := []) rfl ?_
        exact hJ31 (cE C p4 (ix a1)) C
