def k_X8_sameAs : Kd := (yX8_sameAs, cX8_sameAs, 3, some .boolean, [])
theorem kv_X8_sameAs : KV k_X8_sameAs 1 := ⟨uw_mem 1056 (by decide +kernel) rfl, uw_mem 102 (by decide +kernel) rfl, uw_mem 1055 (by decide +kernel) rfl, uw_mem 74 (by decide +kernel) rfl, ⟨by decide +kernel, by decide +kernel⟩, by decide +kernel, by decide +kernel⟩
set_option maxHeartbeats 8000000 in
set_option maxRecDepth 100000 in
theorem c_X8_sameAs {l : Launch} {Γ : Cx} {M0 : Md} (hG : GK Γ l) (a0 : Nat) (a1 : Option Nat) (C : Cd) : Ct l Γ k_X8_sameAs 2 encI (emC M0) [.ref a0, va_rf a1] C (fX8_sameAs a0 a1 C) := by
  refine ct_of (by decide +kernel) rfl (by cases a1 <;> exact Nat.le_of_ble_eq_true rfl) ?_
  refine r_lo [0, 1] (lo2 := [(0, .ref a0), (1, va_rf a1)]) (by cases a1 <;> rfl) ?_
  unfold fX8_sameAs
  refine r_aloadq_n (x := a1) dX8_sameAs_0 rfl rfl ?_
  refine r_dref (fun p1 hp1 => ?_)
  subst hp1
  refine r_cgetI (c := 11) (kk := 2) hc_X8 rfl (by decide) inU_X8 (by decide) uf_X8_9 rfl (by decide) dX8_sameAs_1 ?_
  refine r_aload_n (x := a0) dX8_sameAs_4 rfl rfl ?_
  refine r_cgetI (c := 11) (kk := 2) hc_X8 rfl (by decide) inU_X8 (by decide) uf_X8_9 rfl (by decide) dX8_sameAs_5 ?_
  refine r_icmp_eq (tgt := 13) dX8_sameAs_8 (by decide) ?_ ?_
  · refine ro_iconst (v := 0) dX8_sameAs_13 rfl ?_
    refine r_istore_n (lo2 := [(2, wi 0), (0, .ref a0), (1, .ref p1)]) dX8_sameAs_14 rfl (by decide) rfl ?_
    refine r_loop (P := fun (J : Int → Cd → Option (Int × Cd)) => ∀ (v2_15 : Int) (C_15 : Cd), RunO l Γ k_X8_sameAs 2 encI (emC M0) 15 [(0, .ref a0), (1, .ref p1), (2, wi v2_15)] [] C_15 (J v2_15 C_15)) ?_ (fun L15 hL15 => ?_) (fun J15 hJ15 => ?_)
    · intros; exact ro_none
    · intro v2_15 C_15
      refine r_iload_n (x := v2_15) dX8_sameAs_15 rfl rfl ?_
      refine r_aload_n (x := a0) dX8_sameAs_16 rfl rfl ?_
      refine r_cgetI (c := 11) (kk := 2) hc_X8 rfl (by decide) inU_X8 (by decide) uf_X8_9 rfl (by decide) dX8_sameAs_17 ?_
      refine r_icmp_ge (tgt := 44) dX8_sameAs_20 (by decide) ?_ ?_
      · refine ro_iconst (v := 1) dX8_sameAs_44 rfl ?_
        exact r_zret0 (by first | exact Or.inl rfl | exact Or.inr rfl) rfl dX8_sameAs_45
      · refine r_aload_n (x := a0) dX8_sameAs_23 rfl rfl ?_
        refine r_iload_n (x := v2_15) dX8_sameAs_24 rfl rfl ?_
        refine r_ccVi (c := 11) (k2 := k_X8_codeAt) (n := 1) (rest := []) um_X8_26 rfl kv_X8_codeAt hc_X8 (by decide) (c_X8_codeAt hG _ _ _) (by decide) rfl (Nat.le_of_ble_eq_true rfl) dX8_sameAs_25 rfl (fun r3 C2 => ?_)
        refine r_aload_n (x := p1) dX8_sameAs_28 rfl rfl ?_
        refine r_iload_n (x := v2_15) dX8_sameAs_29 rfl rfl ?_
        refine r_ccVi (c := 11) (k2 := k_X8_codeAt) (n := 1) (rest := [wi r3]) um_X8_26 rfl kv_X8_codeAt hc_X8 (by decide) (c_X8_codeAt hG _ _ _) (by decide) rfl (Nat.le_of_ble_eq_true rfl) dX8_sameAs_30 rfl (fun r5 C4 => ?_)
        refine r_icmp_eq (tgt := 38) dX8_sameAs_33 (by decide) ?_ ?_
        · refine r_iinc (x := v2_15) (lo2 := [(2, wi (v2_15 + 1)), (0, .ref a0), (1, .ref p1)]) dX8_sameAs_38 rfl (by decide) rfl ?_
          refine r_goto (tgt := 15) dX8_sameAs_41 (by decide) ?_
          refine r_lo [1, 2, 0] (lo2 := [(0, .ref a0), (1, .ref p1), (2, wi (v2_15 + 1))]) rfl ?_
          exact hL15 (v2_15 + 1) C4
        · refine ro_iconst (v := 0) dX8_sameAs_36 rfl ?_
          exact r_zret0 (by first | exact Or.inl rfl | exact Or.inr rfl) rfl dX8_sameAs_37
    refine r_lo [1, 2, 0] (lo2 := [(0, .ref a0), (1, .ref p1), (2, wi 0)]) rfl ?_
    exact hJ15 0 C
  · refine ro_iconst (v := 0) dX8_sameAs_11 rfl ?_
    exact r_zret0 (by first | exact Or.inl rfl | exact Or.inr rfl) rfl dX8_sameAs_12
def k_X8_sameSection : Kd := (yX8_sameSection, cX8_sameSection, 7, some .boolean, [])
theorem kv_X8_sameSection : KV k_X8_sameSection 2 := ⟨uw_mem 1047 (by decide +kernel) rfl, uw_mem 102 (by decide +kernel) rfl, uw_mem 1046 (by decide +kernel) rfl, uw_mem 72 (by decide +kernel) rfl, ⟨by decide +kernel, by decide +kernel⟩, by decide +kernel, by decide +kernel⟩
set_option maxHeartbeats 8000000 in
set_option maxRecDepth 100000 in
theorem c_X8_sameSection {l : Launch} {Γ : Cx} {M0 : Md} (hG : GK Γ l) (a0 : Nat) (a1 : Option Nat) (a2 : Int) (C : Cd) : Ct l Γ k_X8_sameSection 3 encI (emC M0) [.ref a0, va_rf a1, wi a2] C (fX8_sameSection a0 a1 a2 C) := by
  refine ct_of (by decide +kernel) rfl (by cases a1 <;> exact Nat.le_of_ble_eq_true rfl) ?_
  refine r_lo [0, 1, 2] (lo2 := [(0, .ref a0), (1, va_rf a1), (2, wi a2)]) (by cases a1 <;> rfl) ?_
  unfold fX8_sameSection
  refine r_aload_n (x := a0) dX8_sameSection_0 rfl rfl ?_
  refine r_iload_n (x := a2) dX8_sameSection_1 rfl rfl ?_
  refine r_ccVi (c := 11) (k2 := k_X8_sectionStart) (n := 1) (rest := []) um_X8_33 rfl kv_X8_sectionStart hc_X8 (by decide) (c_X8_sectionStart hG _ _ _) (by decide) rfl (Nat.le_of_ble_eq_true rfl) dX8_sameSection_2 rfl (fun r2 C1 => ?_)
  refine r_istore_n (lo2 := [(3, wi r2), (0, .ref a0), (1, va_rf a1), (2, wi a2)]) dX8_sameSection_5 rfl (by decide) rfl ?_
  refine r_aload_n (x := a0) dX8_sameSection_6 rfl rfl ?_
  refine r_iload_n (x := a2) dX8_sameSection_7 rfl rfl ?_
  refine ro_iconst (v := 1) dX8_sameSection_8 rfl ?_
  refine r_iadd dX8_sameSection_9 ?_
  refine r_ccVi (c := 11) (k2 := k_X8_sectionStart) (n := 1) (rest := []) um_X8_33 rfl kv_X8_sectionStart hc_X8 (by decide) (c_X8_sectionStart hG _ _ _) (by decide) rfl (Nat.le_of_ble_eq_true rfl) dX8_sameSection_10 rfl (fun r4 C3 => ?_)
  refine r_iload_n (x := r2) dX8_sameSection_13 rfl rfl ?_
  refine r_isub dX8_sameSection_14 ?_
  refine r_nm (fun x4_15 => ?_)
  refine r_istore (lo2 := [(4, wi x4_15), (3, wi r2), (0, .ref a0), (1, va_rf a1), (2, wi a2)]) dX8_sameSection_15 (by decide) rfl ?_
  refine r_aloadq_n (x := a1) dX8_sameSection_17 rfl rfl ?_
  refine r_iload_n (x := a2) dX8_sameSection_18 rfl rfl ?_
  refine r_dref (fun p5 hp5 => ?_)
  subst hp5
  refine r_ccVi (c := 11) (k2 := k_X8_sectionStart) (n := 1) (rest := []) um_X8_33 rfl kv_X8_sectionStart hc_X8 (by decide) (c_X8_sectionStart hG _ _ _) (by decide) rfl (Nat.le_of_ble_eq_true rfl) dX8_sameSection_19 rfl (fun r7 C6 => ?_)
  refine r_istore (lo2 := [(5, wi r7), (4, wi x4_15), (3, wi r2), (0, .ref a0), (1, .ref p5), (2, wi a2)]) dX8_sameSection_22 (by decide) rfl ?_
  refine r_aload_n (x := p5) dX8_sameSection_24 rfl rfl ?_
  refine r_iload_n (x := a2) dX8_sameSection_25 rfl rfl ?_
  refine ro_iconst (v := 1) dX8_sameSection_26 rfl ?_
  refine r_iadd dX8_sameSection_27 ?_
  refine r_ccVi (c := 11) (k2 := k_X8_sectionStart) (n := 1) (rest := []) um_X8_33 rfl kv_X8_sectionStart hc_X8 (by decide) (c_X8_sectionStart hG _ _ _) (by decide) rfl (Nat.le_of_ble_eq_true rfl) dX8_sameSection_28 rfl (fun r9 C8 => ?_)
  refine r_iload (x := r7) dX8_sameSection_31 rfl ?_
  refine r_isub dX8_sameSection_33 ?_
  refine r_iload (x := x4_15) dX8_sameSection_34 rfl ?_
  refine r_icmp_eq (tgt := 41) dX8_sameSection_36 (by decide) ?_ ?_
  · refine ro_iconst (v := 0) dX8_sameSection_41 rfl ?_
    refine r_istore (lo2 := [(6, wi 0), (5, wi r7), (4, wi x4_15), (3, wi r2), (0, .ref a0), (1, .ref p5), (2, wi a2)]) dX8_sameSection_42 (by decide) rfl ?_
    refine r_loop (P := fun (J : Int → Cd → Option (Int × Cd)) => ∀ (v6_44 : Int) (C_44 : Cd), RunO l Γ k_X8_sameSection 3 encI (emC M0) 44 [(0, .ref a0), (1, .ref p5), (3, wi r2), (4, wi x4_15), (5, wi r7), (6, wi v6_44)] [] C_44 (J v6_44 C_44)) ?_ (fun L44 hL44 => ?_) (fun J44 hJ44 => ?_)
    · intros; exact ro_none
    · intro v6_44 C_44
      refine r_iload (x := v6_44) dX8_sameSection_44 rfl ?_
      refine r_iload (x := x4_15) dX8_sameSection_46 rfl ?_
      refine r_icmp_ge (tgt := 79) dX8_sameSection_48 (by decide) ?_ ?_
      · refine ro_iconst (v := 1) dX8_sameSection_79 rfl ?_
        exact r_zret0 (by first | exact Or.inl rfl | exact Or.inr rfl) rfl dX8_sameSection_80
      · refine r_aload_n (x := a0) dX8_sameSection_51 rfl rfl ?_
        refine r_iload_n (x := r2) dX8_sameSection_52 rfl rfl ?_
        refine r_iload (x := v6_44) dX8_sameSection_53 rfl ?_
        refine r_iadd dX8_sameSection_55 ?_
        refine r_ccVi (c := 11) (k2 := k_X8_codeAt) (n := 1) (rest := []) um_X8_26 rfl kv_X8_codeAt hc_X8 (by decide) (c_X8_codeAt hG _ _ _) (by decide) rfl (Nat.le_of_ble_eq_true rfl) dX8_sameSection_56 rfl (fun r11 C10 => ?_)
        refine r_aload_n (x := p5) dX8_sameSection_59 rfl rfl ?_
        refine r_iload (x := r7) dX8_sameSection_60 rfl ?_
        refine r_iload (x := v6_44) dX8_sameSection_62 rfl ?_
        refine r_iadd dX8_sameSection_64 ?_
        refine r_ccVi (c := 11) (k2 := k_X8_codeAt) (n := 1) (rest := [wi r11]) um_X8_26 rfl kv_X8_codeAt hc_X8 (by decide) (c_X8_codeAt hG _ _ _) (by decide) rfl (Nat.le_of_ble_eq_true rfl) dX8_sameSection_65 rfl (fun r13 C12 => ?_)
        refine r_icmp_eq (tgt := 73) dX8_sameSection_68 (by decide) ?_ ?_
        · refine r_iinc (x := v6_44) (lo2 := [(6, wi (v6_44 + 1)), (0, .ref a0), (1, .ref p5), (3, wi r2), (4, wi x4_15), (5, wi r7)]) dX8_sameSection_73 rfl (by decide) rfl ?_
          refine r_goto (tgt := 44) dX8_sameSection_76 (by decide) ?_
          refine r_lo [1, 2, 3, 4, 5, 0] (lo2 := [(0, .ref a0), (1, .ref p5), (3, wi r2), (4, wi x4_15), (5, wi r7), (6, wi (v6_44 + 1))]) rfl ?_
          exact hL44 (v6_44 + 1) C12
        · refine ro_iconst (v := 0) dX8_sameSection_71 rfl ?_
          exact r_zret0 (by first | exact Or.inl rfl | exact Or.inr rfl) rfl dX8_sameSection_72
    refine r_lo [4, 5, 3, 2, 1, 0] (lo2 := [(0, .ref a0), (1, .ref p5), (3, wi r2), (4, wi x4_15), (5, wi r7), (6, wi 0)]) rfl ?_
    exact hJ44 0 C8
  · refine ro_iconst (v := 0) dX8_sameSection_39 rfl ?_
    exact r_zret0 (by first | exact Or.inl rfl | exact Or.inr rfl) rfl dX8_sameSection_40
def k_X8_sections : Kd := (yX8_sections, cX8_sections, 3, some .int, [])
theorem kv_X8_sections : KV k_X8_sections 0 := ⟨uw_mem 1029 (by decide +kernel) rfl, uw_mem 102 (by decide +kernel) rfl, uw_mem 1028 (by decide +kernel) rfl, uw_mem 68 (by decide +kernel) rfl, ⟨by decide +kernel, by decide +kernel⟩, by decide +kernel, by decide +kernel⟩
set_option maxHeartbeats 8000000 in
set_option maxRecDepth 100000 in
theorem c_X8_sections {l : Launch} {Γ : Cx} {M0 : Md} (hG : GK Γ l) (a0 : Nat) (C : Cd) : Ct l Γ k_X8_sections 2 encI (emC M0) [.ref a0] C (fX8_sections a0 C) := by
  refine ct_of (by decide +kernel) rfl (Nat.le_of_ble_eq_true rfl) ?_
  refine r_lo [0] (lo2 := [(0, .ref a0)]) rfl ?_
  unfold fX8_sections
  refine ro_iconst (v := 1) dX8_sections_0 rfl ?_
  refine r_istore_n (lo2 := [(1, wi 1), (0, .ref a0)]) dX8_sections_1 rfl (by decide) rfl ?_
  refine ro_iconst (v := 0) dX8_sections_2 rfl ?_
  refine r_istore_n (lo2 := [(2, wi 0), (1, wi 1), (0, .ref a0)]) dX8_sections_3 rfl (by decide) rfl ?_
  refine r_loop (P := fun (J : Int → Int → Cd → Option (Int × Cd)) => ∀ (v1_4 : Int) (v2_4 : Int) (C_4 : Cd), RunO l Γ k_X8_sections 2 encI (emC M0) 4 [(0, .ref a0), (1, wi v1_4), (2, wi v2_4)] [] C_4 (J v1_4 v2_4 C_4)) ?_ (fun L4 hL4 => ?_) (fun J4 hJ4 => ?_)
  · intros; exact ro_none
  · intro v1_4 v2_4 C_4
    refine r_iload_n (x := v2_4) dX8_sections_4 rfl rfl ?_
    refine r_aload_n (x := a0) dX8_sections_5 rfl rfl ?_
    refine r_cgetI (c := 11) (kk := 2) hc_X8 rfl (by decide) inU_X8 (by decide) uf_X8_9 rfl (by decide) dX8_sections_6 ?_
    refine r_icmp_ge (tgt := 31) dX8_sections_9 (by decide) ?_ ?_
    · refine r_iload_n (x := v1_4) dX8_sections_31 rfl rfl ?_
      exact r_iret rfl dX8_sections_32
    · refine r_aload_n (x := a0) dX8_sections_12 rfl rfl ?_
      refine r_iload_n (x := v2_4) dX8_sections_13 rfl rfl ?_
      refine r_ccVi (c := 11) (k2 := k_X8_kindAt) (n := 1) (rest := []) um_X8_22 rfl kv_X8_kindAt hc_X8 (by decide) (c_X8_kindAt hG _ _ _) (by decide) rfl (Nat.le_of_ble_eq_true rfl) dX8_sections_14 rfl (fun r2 C1 => ?_)
      refine r_bipush (v := 13) dX8_sections_17 rfl ?_
      refine r_join (P := fun (J : Int → Cd → Option (Int × Cd)) => ∀ (v1_25 : Int) (C_25 : Cd), RunO l Γ k_X8_sections 2 encI (emC M0) 25 [(0, .ref a0), (1, wi v1_25), (2, wi v2_4)] [] C_25 (J v1_25 C_25)) ?_ (fun J25 hJ25 => ?_)
      · intro v1_25 C_25
        refine r_iinc (x := v2_4) (lo2 := [(2, wi (v2_4 + 1)), (0, .ref a0), (1, wi v1_25)]) dX8_sections_25 rfl (by decide) rfl ?_
        refine r_goto (tgt := 4) dX8_sections_28 (by decide) ?_
        refine r_lo [1, 2, 0] (lo2 := [(0, .ref a0), (1, wi v1_25), (2, wi (v2_4 + 1))]) rfl ?_
        exact hL4 v1_25 (v2_4 + 1) C_25
      refine r_icmp_ne (tgt := 25) dX8_sections_19 (by decide) ?_ ?_
      · exact hJ25 v1_4 C1
      · refine r_iinc (x := v1_4) (lo2 := [(1, wi (v1_4 + 1)), (0, .ref a0), (2, wi v2_4)]) dX8_sections_22 rfl (by decide) rfl ?_
        refine r_lo [1, 0, 2] (lo2 := [(0, .ref a0), (1, wi (v1_4 + 1)), (2, wi v2_4)]) rfl ?_
        exact hJ25 (v1_4 + 1) C1
  refine r_lo [2, 1, 0] (lo2 := [(0, .ref a0), (1, wi 1), (2, wi 0)]) rfl ?_
  exact hJ4 1 0 C
def k_X8_settled : Kd := (yX8_settled, cX8_settled, 3, some (.object "Weaveword$Text"), [])
theorem kv_X8_settled : KV k_X8_settled 0 := ⟨uw_mem 834 (by decide +kernel) rfl, uw_mem 102 (by decide +kernel) rfl, uw_mem 833 (by decide +kernel) rfl, uw_mem 55 (by decide +kernel) rfl, ⟨by decide +kernel, by decide +kernel⟩, by decide +kernel, by decide +kernel⟩
set_option maxHeartbeats 8000000 in
set_option maxRecDepth 100000 in
theorem c_X8_settled {l : Launch} {Γ : Cx} {M0 : Md} (hG : GK Γ l) (a0 : Nat) (C : Cd) : Ct l Γ k_X8_settled 4 encR (emC M0) [.ref a0] C (fX8_settled a0 C) := by
  refine ct_of (by decide +kernel) rfl (Nat.le_of_ble_eq_true rfl) ?_
  refine r_lo [0] (lo2 := [(0, .ref a0)]) rfl ?_
  unfold fX8_settled
  refine r_cnew (c := 11) hc_X8 rfl (by decide) inU_X8 tyX8 tyX8_ok hfs_X8 un_X8_10.1 un_X8_10.2.1 un_X8_10.2.2 dX8_settled_0 (fun C1 _ => ?_)
  refine r_dup dX8_settled_3 rfl ?_
  refine r_aload_n (x := a0) dX8_settled_4 rfl rfl ?_
  refine r_cgetI (c := 11) (kk := 2) hc_X8 rfl (by decide) inU_X8 (by decide) uf_X8_9 rfl (by decide) dX8_settled_5 ?_
  refine r_ccIv (k2 := k_X8_init) (n := 1) (rest := [.ref (csz C)]) um_X8_48 rfl kv_X8_init (c_X8_init hG _ _ _) (by decide) rfl (Nat.le_of_ble_eq_true rfl) dX8_settled_8 rfl (fun r3 C2 => ?_)
  refine r_astore_n (lo2 := [(1, .ref (csz C)), (0, .ref a0)]) dX8_settled_11 rfl (by decide) rfl ?_
  refine r_aload_n (x := (csz C)) dX8_settled_12 rfl rfl ?_
  refine r_aload_n (x := a0) dX8_settled_13 rfl rfl ?_
  refine ro_iconst (v := 0) dX8_settled_14 rfl ?_
  refine r_aload_n (x := a0) dX8_settled_15 rfl rfl ?_
  refine r_cgetI (c := 11) (kk := 2) hc_X8 rfl (by decide) inU_X8 (by decide) uf_X8_9 rfl (by decide) dX8_settled_16 ?_
  refine r_ccVv (c := 11) (k2 := k_X8_addStretch) (n := 3) (rest := []) um_X8_36 rfl kv_X8_addStretch hc_X8 (by decide) (c_X8_addStretch hG _ _ _ _ _) (by decide) rfl (Nat.le_of_ble_eq_true rfl) dX8_settled_19 rfl (fun r5 C4 => ?_)
  refine ro_iconst (v := 0) dX8_settled_22 rfl ?_
  refine r_istore_n (lo2 := [(2, wi 0), (1, .ref (csz C)), (0, .ref a0)]) dX8_settled_23 rfl (by decide) rfl ?_
  refine r_loop (P := fun (J : Int → Cd → Option (Option Nat × Cd)) => ∀ (v2_24 : Int) (C_24 : Cd), RunO l Γ k_X8_settled 4 encR (emC M0) 24 [(1, .ref (csz C)), (2, wi v2_24)] [] C_24 (J v2_24 C_24)) ?_ (fun L24 hL24 => ?_) (fun J24 hJ24 => ?_)
  · intros; exact ro_none
  · intro v2_24 C_24
    refine r_iload_n (x := v2_24) dX8_settled_24 rfl rfl ?_
    refine r_aload_n (x := (csz C)) dX8_settled_25 rfl rfl ?_
    refine r_cgetR (c := 11) (kk := 1) hc_X8 rfl (by decide) inU_X8 (by decide) uf_X8_19 rfl (by decide) dX8_settled_26 (fun z6 => ?_)
    refine r_dref (fun p7 hp7 => ?_)
    subst hp7
    refine r_calen (t := 100) rfl (by decide) dX8_settled_29 ?_
    refine r_icmp_ge (tgt := 50) dX8_settled_30 (by decide) ?_ ?_
    · refine r_aload_n (x := (csz C)) dX8_settled_50 rfl rfl ?_
      exact r_aret (x := (some (csz C))) rfl (Or.inl ⟨_, rfl⟩) dX8_settled_51
    · refine r_aload_n (x := (csz C)) dX8_settled_33 rfl rfl ?_
      refine r_cgetR (c := 11) (kk := 1) hc_X8 rfl (by decide) inU_X8 (by decide) uf_X8_19 rfl (by decide) dX8_settled_34 (fun z8 => ?_)
      refine r_iload_n (x := v2_24) dX8_settled_37 rfl rfl ?_
      refine r_aload_n (x := (csz C)) dX8_settled_38 rfl rfl ?_
      refine r_iload_n (x := v2_24) dX8_settled_39 rfl rfl ?_
      refine r_ccVi (c := 11) (k2 := k_X8_findEnd) (n := 1) (rest := [wi v2_24, va_rf z8]) um_X8_50 rfl kv_X8_findEnd hc_X8 (by decide) (c_X8_findEnd hG _ _ _) (by decide) rfl (by cases z8 <;> exact Nat.le_of_ble_eq_true rfl) dX8_settled_40 rfl (fun r10 C9 => ?_)
      refine r_dref (fun p11 hp11 => ?_)
      subst hp11
      refine r_ciast dX8_settled_43 (fun C12 _ _ => ?_)
      refine r_iinc (x := v2_24) (lo2 := [(2, wi (v2_24 + 1)), (1, .ref (csz C))]) dX8_settled_44 rfl (by decide) rfl ?_
      refine r_goto (tgt := 24) dX8_settled_47 (by decide) ?_
      refine r_lo [1, 0] (lo2 := [(1, .ref (csz C)), (2, wi (v2_24 + 1))]) rfl ?_
      exact hL24 (v2_24 + 1) C12
  refine r_lo [1, 0] (lo2 := [(1, .ref (csz C)), (2, wi 0)]) rfl ?_
  exact hJ24 0 C4
def k_X8_writeLeadingOn : Kd := (yX8_writeLeadingOn, cX8_writeLeadingOn, 5, none, [])
theorem kv_X8_writeLeadingOn : KV k_X8_writeLeadingOn 3 := ⟨uw_mem 1369 (by decide +kernel) rfl, uw_mem 102 (by decide +kernel) rfl, uw_mem 1368 (by decide +kernel) rfl, uw_mem 86 (by decide +kernel) rfl, ⟨by decide +kernel, by decide +kernel⟩, by decide +kernel, by decide +kernel⟩
set_option maxHeartbeats 8000000 in
set_option maxRecDepth 100000 in
theorem c_X8_writeLeadingOn {l : Launch} {Γ : Cx} {M0 : Md} (hG : GK Γ l) (a0 : Nat) (a1 : Int) (a2 : Int) (a3 : Option Nat) (C : Cd) : Ct l Γ k_X8_writeLeadingOn 3 encV (emC M0) [.ref a0, wi a1, wi a2, va_rf a3] C (fX8_writeLeadingOn a0 a1 a2 a3 C) := by
  refine ct_of (by decide +kernel) rfl (by cases a3 <;> exact Nat.le_of_ble_eq_true rfl) ?_
  refine r_lo [0, 1, 2, 3] (lo2 := [(0, .ref a0), (1, wi a1), (2, wi a2), (3, va_rf a3)]) (by cases a3 <;> rfl) ?_
  unfold fX8_writeLeadingOn
  refine r_aloadq_n (x := a3) dX8_writeLeadingOn_0 rfl rfl ?_
  refine r_dref (fun p1 hp1 => ?_)
  subst hp1
  refine r_ccVv (c := 11) (k2 := k_X8_clear) (n := 0) (rest := []) um_X8_66 rfl kv_X8_clear hc_X8 (by decide) (c_X8_clear hG _ _) (by decide) rfl (Nat.le_of_ble_eq_true rfl) dX8_writeLeadingOn_1 rfl (fun r3 C2 => ?_)
  refine ro_iconst (v := 0) dX8_writeLeadingOn_4 rfl ?_
  refine r_istore (lo2 := [(4, wi 0), (0, .ref a0), (1, wi a1), (2, wi a2), (3, .ref p1)]) dX8_writeLeadingOn_5 (by decide) rfl ?_
  refine r_loop (P := fun (J : Int → Cd → Option (Unit × Cd)) => ∀ (v4_7 : Int) (C_7 : Cd), RunO l Γ k_X8_writeLeadingOn 3 encV (emC M0) 7 [(0, .ref a0), (1, wi a1), (2, wi a2), (3, .ref p1), (4, wi v4_7)] [] C_7 (J v4_7 C_7)) ?_ (fun L7 hL7 => ?_) (fun J7 hJ7 => ?_)
  · intros; exact ro_none
  · intro v4_7 C_7
    refine r_iload (x := v4_7) dX8_writeLeadingOn_7 rfl ?_
    refine r_aload_n (x := a0) dX8_writeLeadingOn_9 rfl rfl ?_
    refine r_cgetI (c := 11) (kk := 2) hc_X8 rfl (by decide) inU_X8 (by decide) uf_X8_9 rfl (by decide) dX8_writeLeadingOn_10 ?_
    refine r_icmp_ge (tgt := 53) dX8_writeLeadingOn_13 (by decide) ?_ ?_
    · exact r_vret rfl dX8_writeLeadingOn_53
    · refine r_aload_n (x := p1) dX8_writeLeadingOn_16 rfl rfl ?_
      refine r_aload_n (x := a0) dX8_writeLeadingOn_17 rfl rfl ?_
      refine r_iload (x := v4_7) dX8_writeLeadingOn_18 rfl ?_
      refine r_iload_n (x := a1) dX8_writeLeadingOn_20 rfl rfl ?_
      refine r_ccVi (c := 11) (k2 := k_X8_leadsInto) (n := 2) (rest := [.ref p1]) um_X8_63 rfl kv_X8_leadsInto hc_X8 (by decide) (c_X8_leadsInto hG _ _ _ _) (by decide) rfl (Nat.le_of_ble_eq_true rfl) dX8_writeLeadingOn_21 rfl (fun r5 C4 => ?_)
      refine r_join (P := fun (J : Int → Cd → Option (Unit × Cd)) => ∀ (t0_44 : Int) (C_44 : Cd), RunO l Γ k_X8_writeLeadingOn 3 encV (emC M0) 44 [(0, .ref a0), (1, wi a1), (2, wi a2), (3, .ref p1), (4, wi v4_7)] [wi t0_44, .ref p1] C_44 (J t0_44 C_44)) ?_ (fun J44 hJ44 => ?_)
      · intro t0_44 C_44
        refine r_ccVv (c := 11) (k2 := k_X8_add) (n := 1) (rest := []) um_X8_29 rfl kv_X8_add hc_X8 (by decide) (c_X8_add hG _ _ _) (by decide) rfl (Nat.le_of_ble_eq_true rfl) dX8_writeLeadingOn_44 rfl (fun r7 C6 => ?_)
        refine r_iinc (x := v4_7) (lo2 := [(4, wi (v4_7 + 1)), (0, .ref a0), (1, wi a1), (2, wi a2), (3, .ref p1)]) dX8_writeLeadingOn_47 rfl (by decide) rfl ?_
        refine r_goto (tgt := 7) dX8_writeLeadingOn_50 (by decide) ?_
        refine r_lo [1, 2, 3, 4, 0] (lo2 := [(0, .ref a0), (1, wi a1), (2, wi a2), (3, .ref p1), (4, wi (v4_7 + 1))]) rfl ?_
        exact hL7 (v4_7 + 1) C6
      refine r_if_eq (tgt := 38) dX8_writeLeadingOn_24 (by decide) ?_ ?_
      · refine r_aload_n (x := a0) dX8_writeLeadingOn_38 rfl rfl ?_
        refine r_iload (x := v4_7) dX8_writeLeadingOn_39 rfl ?_
        refine r_ccVi (c := 11) (k2 := k_X8_codeAt) (n := 1) (rest := [.ref p1]) um_X8_26 rfl kv_X8_codeAt hc_X8 (by decide) (c_X8_codeAt hG _ _ _) (by decide) rfl (Nat.le_of_ble_eq_true rfl) dX8_writeLeadingOn_41 rfl (fun r9 C8 => ?_)
        exact hJ44 r9 C8
      · refine r_aload_n (x := a0) dX8_writeLeadingOn_27 rfl rfl ?_
        refine r_iload (x := v4_7) dX8_writeLeadingOn_28 rfl ?_
        refine r_ccVi (c := 11) (k2 := k_X8_codeAt) (n := 1) (rest := [.ref p1]) um_X8_26 rfl kv_X8_codeAt hc_X8 (by decide) (c_X8_codeAt hG _ _ _) (by decide) rfl (Nat.le_of_ble_eq_true rfl) dX8_writeLeadingOn_30 rfl (fun r11 C10 => ?_)
        refine r_iload_n (x := a2) dX8_writeLeadingOn_33 rfl rfl ?_
        refine r_iadd dX8_writeLeadingOn_34 ?_
        refine r_goto (tgt := 44) dX8_writeLeadingOn_35 (by decide) ?_
        exact hJ44 (r11 + a2) C10
  refine r_lo [1, 2, 3, 4, 0] (lo2 := [(0, .ref a0), (1, wi a1), (2, wi a2), (3, .ref p1), (4, wi 0)]) rfl ?_
  exact hJ7 0 C2
def k_X9_waits : Kd := (yX9_waits, cX9_waits, 1, some .boolean, [])
theorem kv_X9_waits : KV k_X9_waits 0 := ⟨uw_mem 524 (by decide +kernel) rfl, uw_mem 98 (by decide +kernel) rfl, uw_mem 523 (by decide +kernel) rfl, uw_mem 3 (by decide +kernel) rfl, ⟨by decide +kernel, by decide +kernel⟩, by decide +kernel, by decide +kernel⟩
set_option maxHeartbeats 8000000 in
set_option maxRecDepth 100000 in
theorem c_X9_waits {l : Launch} {Γ : Cx} {M0 : Md} (hG : GK Γ l) (a0 : Nat) (C : Cd) : Ct l Γ k_X9_waits 1 encI (emC M0) [.ref a0] C (fX9_waits a0 C) := by
  refine ct_of (by decide +kernel) rfl (Nat.le_of_ble_eq_true rfl) ?_
  refine r_lo [0] (lo2 := [(0, .ref a0)]) rfl ?_
  unfold fX9_waits
  refine r_aload_n (x := a0) dX9_waits_0 rfl rfl ?_
  refine r_cgetR (c := 12) (kk := 3) hc_X9 rfl (by decide) inU_X9 (by decide) uf_X9_25 rfl (by decide) dX9_waits_1 (fun z1 => ?_)
  refine r_join (P := fun (J : Int → Cd → Option (Int × Cd)) => ∀ (t0_32 : Int) (C_32 : Cd), RunO l Γ k_X9_waits 1 encI (emC M0) 32 [] [wi t0_32] C_32 (J t0_32 C_32)) ?_ (fun J32 hJ32 => ?_)
  · intro t0_32 C_32
    exact r_zret rfl dX9_waits_32
  refine r_join (P := fun (J : Cd → Option (Int × Cd)) => ∀  (C_31 : Cd), RunO l Γ k_X9_waits 1 encI (emC M0) 31 [] [] C_31 (J C_31)) ?_ (fun J31 hJ31 => ?_)
  · intro C_31
    refine ro_iconst (v := 0) dX9_waits_31 rfl ?_
    exact hJ32 0 C_31
  refine r_opt (fun hn => ?_) (fun p2 hp2 => ?_)
  · subst hn
    refine r_ifnullN (tgt := 31) dX9_waits_4 (by decide) ?_
    refine r_lo [] (lo2 := []) rfl ?_
    exact hJ31  C
  · subst hp2
    refine r_ifnullS (a := p2) dX9_waits_4 ?_
    refine r_aload_n (x := a0) dX9_waits_7 rfl rfl ?_
    refine r_cgetR (c := 12) (kk := 0) hc_X9 rfl (by decide) inU_X9 (by decide) uf_X9_12 rfl (by decide) dX9_waits_8 (fun z3 => ?_)
    refine r_dref (fun p4 hp4 => ?_)
    subst hp4
    refine r_cgetIN (c := 7) (kk := 1) hc_X4 rfl (by decide) inU_X4 (by decide) hG uf_X9_36 rfl (by decide) dX9_waits_11 ?_
    refine r_join (P := fun (J : Cd → Option (Int × Cd)) => ∀  (C_27 : Cd), RunO l Γ k_X9_waits 1 encI (emC M0) 27 [] [] C_27 (J C_27)) ?_ (fun J27 hJ27 => ?_)
    · intro C_27
      refine ro_iconst (v := 1) dX9_waits_27 rfl ?_
      refine r_goto (tgt := 32) dX9_waits_28 (by decide) ?_
      exact hJ32 1 C_27
    refine r_if_eq (tgt := 27) dX9_waits_14 (by decide) ?_ ?_
    · refine r_lo [] (lo2 := []) rfl ?_
      exact hJ27  C
    · refine r_aload_n (x := a0) dX9_waits_17 rfl rfl ?_
      refine r_cgetR (c := 12) (kk := 0) hc_X9 rfl (by decide) inU_X9 (by decide) uf_X9_12 rfl (by decide) dX9_waits_18 (fun z5 => ?_)
      refine r_dref (fun p6 hp6 => ?_)
      subst hp6
      refine r_cgetIN (c := 7) (kk := 2) hc_X4 rfl (by decide) inU_X4 (by decide) hG uf_X9_40 rfl (by decide) dX9_waits_21 ?_
      refine r_if_eq (tgt := 31) dX9_waits_24 (by decide) ?_ ?_
      · refine r_lo [] (lo2 := []) rfl ?_
        exact hJ31  C
      · refine r_lo [] (lo2 := []) rfl ?_
        exact hJ27  C
def k_X10_init : Kd := (yX10_init, cX10_init, 4, none, [])
theorem kv_X10_init : KI k_X10_init 3 := ⟨uw_mem 856 (by decide +kernel) rfl, uw_mem 110 (by decide +kernel) rfl, uw_mem 855 (by decide +kernel) rfl, ⟨rfl, rfl⟩, ⟨by decide +kernel, by decide +kernel⟩, by decide +kernel, by decide +kernel⟩
set_option maxHeartbeats 8000000 in
set_option maxRecDepth 100000 in
theorem c_X10_init {l : Launch} {Γ : Cx} {M0 : Md} (hG : GK Γ l) (a0 : Nat) (a1 : Int) (a2 : Int) (a3 : Option Nat) (C : Cd) : Ct l Γ k_X10_init 1 encV (emC M0) [.ref a0, wi a1, wi a2, va_rf a3] C (fX10_init a0 a1 a2 a3 C) := by
  refine ct_of (by decide +kernel) rfl (by cases a3 <;> exact Nat.le_of_ble_eq_true rfl) ?_
  refine r_lo [0, 1, 2, 3] (lo2 := [(0, .ref a0), (1, wi a1), (2, wi a2), (3, va_rf a3)]) (by cases a3 <;> rfl) ?_
  unfold fX10_init
  refine r_aload_n (x := a0) dX10_init_0 rfl rfl ?_
  refine r_objInit (by decide) uo_X10_1 uoi uoc (Nat.le_of_ble_eq_true rfl) dX10_init_1 ?_
  refine r_aload_n (x := a0) dX10_init_4 rfl rfl ?_
  refine r_iload_n (x := a1) dX10_init_5 rfl rfl ?_
  refine r_cputIF (c := 13) (kk := 0) hc_X10 rfl (by decide) inU_X10 (by decide) uf_X10_7 rfl tyX10 tyX10_ok nmX10 (fty := .int) (by decide) rfl rfl rfl rfl rfl rfl dX10_init_6 (fun C1 _ _ => ?_)
  refine r_aload_n (x := a0) dX10_init_9 rfl rfl ?_
  refine r_iload_n (x := a2) dX10_init_10 rfl rfl ?_
  refine r_cputIF (c := 13) (kk := 1) hc_X10 rfl (by decide) inU_X10 (by decide) uf_X10_13 rfl tyX10 tyX10_ok nmX10 (fty := .int) (by decide) rfl rfl rfl rfl rfl rfl dX10_init_11 (fun C2 _ _ => ?_)
  refine r_aload_n (x := a0) dX10_init_14 rfl rfl ?_
  refine r_aloadq_n (x := a3) dX10_init_15 rfl rfl ?_
  refine r_cputRF (c := 13) (kk := 2) hc_X10 rfl (by decide) inU_X10 (by decide) uf_X10_16 rfl tyX10 tyX10_ok nmX10 (x := a3) (fty := .object "Weaveword$Text") (by decide) rfl rfl rfl (by decide +kernel) ⟨_, Or.inl rfl⟩ dX10_init_16 (fun C3 _ _ => ?_)
  exact r_vret rfl dX10_init_19
def k_X11_makeVersion : Kd := (yX11_makeVersion, cX11_makeVersion, 4, some (.object "Weaveword$Version"), [])
theorem kv_X11_makeVersion : KV k_X11_makeVersion 2 := ⟨uw_mem 828 (by decide +kernel) rfl, uw_mem 94 (by decide +kernel) rfl, uw_mem 827 (by decide +kernel) rfl, uw_mem 54 (by decide +kernel) rfl, ⟨by decide +kernel, by decide +kernel⟩, by decide +kernel, by decide +kernel⟩
set_option maxHeartbeats 8000000 in
set_option maxRecDepth 100000 in
theorem c_X11_makeVersion {l : Launch} {Γ : Cx} {M0 : Md} (hG : GK Γ l) (a0 : Nat) (a1 : Option Nat) (a2 : Int) (C : Cd) : Ct l Γ k_X11_makeVersion 5 encR (emC M0) [.ref a0, va_rf a1, wi a2] C (fX11_makeVersion a0 a1 a2 C) := by
  refine ct_of (by decide +kernel) rfl (by cases a1 <;> exact Nat.le_of_ble_eq_true rfl) ?_
  refine r_lo [0, 1, 2] (lo2 := [(0, .ref a0), (1, va_rf a1), (2, wi a2)]) (by cases a1 <;> rfl) ?_
  unfold fX11_makeVersion
  refine r_cnew (c := 13) hc_X10 rfl (by decide) inU_X10 tyX10 tyX10_ok hfs_X10 un_X11_131.1 un_X11_131.2.1 un_X11_131.2.2 dX11_makeVersion_0 (fun C1 _ => ?_)
  refine r_dup dX11_makeVersion_3 rfl ?_
  refine r_aload_n (x := a0) dX11_makeVersion_4 rfl rfl ?_
  refine r_cgetI (c := 14) (kk := 7) hc_X11 rfl (by decide) inU_X11 (by decide) uf_X11_45 rfl (by decide) dX11_makeVersion_5 ?_
  refine r_iload_n (x := a2) dX11_makeVersion_8 rfl rfl ?_
  refine r_aloadq_n (x := a1) dX11_makeVersion_9 rfl rfl ?_
  refine r_dref (fun p2 hp2 => ?_)
  subst hp2
  refine r_ccVNr (c := 11) (k2 := k_X8_settled) (n := 0) (rest := [wi a2, wi (cI C1 1407 a0), .ref (csz C), .ref (csz C)]) hG um_X11_363 rfl kv_X8_settled hc_X8 (by decide) (c_X8_settled hG _ _) (by decide) rfl (Nat.le_of_ble_eq_true rfl) dX11_makeVersion_10 rfl (fun r4 C3 => ?_)
  refine r_ccINv (k2 := k_X10_init) (n := 3) (rest := [.ref (csz C)]) hG um_X11_367 rfl kv_X10_init (c_X10_init hG _ _ _ _ _) (by decide) rfl (Nat.le_of_ble_eq_true rfl) dX11_makeVersion_13 rfl (fun r6 C5 => ?_)
  refine r_astore_n (lo2 := [(3, .ref (csz C)), (0, .ref a0), (1, .ref p2), (2, wi a2)]) dX11_makeVersion_16 rfl (by decide) rfl ?_
  refine r_aload_n (x := a0) dX11_makeVersion_17 rfl rfl ?_
  refine r_dup dX11_makeVersion_18 rfl ?_
  refine r_cgetI (c := 14) (kk := 7) hc_X11 rfl (by decide) inU_X11 (by decide) uf_X11_45 rfl (by decide) dX11_makeVersion_19 ?_
  refine ro_iconst (v := 1) dX11_makeVersion_22 rfl ?_
  refine r_iadd dX11_makeVersion_23 ?_
  refine r_cputI (c := 14) (kk := 7) hc_X11 rfl (by decide) inU_X11 (by decide) uf_X11_45 rfl tyX11 tyX11_ok nmX11 (fty := .int) (by decide) rfl rfl rfl rfl dX11_makeVersion_24 (fun C7 _ _ => ?_)
  refine r_aload_n (x := (csz C)) dX11_makeVersion_27 rfl rfl ?_
  exact r_aret (x := (some (csz C))) rfl (Or.inl ⟨_, rfl⟩) dX11_makeVersion_28
def k_X11_noteTitleChange : Kd := (yX11_noteTitleChange, cX11_noteTitleChange, 3, none, [])
theorem kv_X11_noteTitleChange : KV k_X11_noteTitleChange 1 := ⟨uw_mem 985 (by decide +kernel) rfl, uw_mem 94 (by decide +kernel) rfl, uw_mem 984 (by decide +kernel) rfl, uw_mem 63 (by decide +kernel) rfl, ⟨by decide +kernel, by decide +kernel⟩, by decide +kernel, by decide +kernel⟩
set_option maxHeartbeats 8000000 in
set_option maxRecDepth 100000 in
theorem c_X11_noteTitleChange {l : Launch} {Γ : Cx} {M0 : Md} (hG : GK Γ l) (a0 : Nat) (a1 : Int) (C : Cd) : Ct l Γ k_X11_noteTitleChange 2 encV (emC M0) [.ref a0, wi a1] C (fX11_noteTitleChange a0 a1 C) := by
  refine ct_of (by decide +kernel) rfl (Nat.le_of_ble_eq_true rfl) ?_
  refine r_lo [0, 1] (lo2 := [(0, .ref a0), (1, wi a1)]) rfl ?_
  unfold fX11_noteTitleChange
  refine r_aload_n (x := a0) dX11_noteTitleChange_0 rfl rfl ?_
  refine r_cgetR (c := 14) (kk := 1) hc_X11 rfl (by decide) inU_X11 (by decide) uf_X11_20 rfl (by decide) dX11_noteTitleChange_1 (fun z1 => ?_)
  refine r_iload_n (x := a1) dX11_noteTitleChange_4 rfl rfl ?_
  refine r_dref (fun p2 hp2 => ?_)
  subst hp2
  refine r_caald (t := 102) rfl (by decide) (by decide) dX11_noteTitleChange_5 (fun z3 => ?_)
  refine r_dref (fun p4 hp4 => ?_)
  subst hp4
  refine r_cgetRN (c := 12) (kk := 0) hc_X9 rfl (by decide) inU_X9 (by decide) hG uf_X11_260 rfl (by decide) dX11_noteTitleChange_6 (fun z5 => ?_)
  refine ro_iconst (v := 1) dX11_noteTitleChange_9 rfl ?_
  refine r_dref (fun p6 hp6 => ?_)
  subst hp6
  refine r_cputIN (c := 7) (kk := 2) hc_X4 rfl (by decide) inU_X4 (by decide) hG uf_X11_270 rfl tyX4 tyX4_ok nmX4 (fty := .boolean) (by decide) rfl rfl rfl rfl dX11_noteTitleChange_10 (fun C7 _ _ => ?_)
  refine ro_iconst (v := 0) dX11_noteTitleChange_13 rfl ?_
  refine r_istore_n (lo2 := [(2, wi 0), (0, .ref a0), (1, wi a1)]) dX11_noteTitleChange_14 rfl (by decide) rfl ?_
  refine r_loop (P := fun (J : Int → Cd → Option (Unit × Cd)) => ∀ (v2_15 : Int) (C_15 : Cd), RunO l Γ k_X11_noteTitleChange 2 encV (emC M0) 15 [(0, .ref a0), (1, wi a1), (2, wi v2_15)] [] C_15 (J v2_15 C_15)) ?_ (fun L15 hL15 => ?_) (fun J15 hJ15 => ?_)
  · intros; exact ro_none
  · intro v2_15 C_15
    refine r_iload_n (x := v2_15) dX11_noteTitleChange_15 rfl rfl ?_
    refine r_aload_n (x := a0) dX11_noteTitleChange_16 rfl rfl ?_
    refine r_cgetR (c := 14) (kk := 1) hc_X11 rfl (by decide) inU_X11 (by decide) uf_X11_20 rfl (by decide) dX11_noteTitleChange_17 (fun z8 => ?_)
    refine r_dref (fun p9 hp9 => ?_)
    subst hp9
    refine r_calen (t := 102) rfl (by decide) dX11_noteTitleChange_20 ?_
    refine r_icmp_ge (tgt := 62) dX11_noteTitleChange_21 (by decide) ?_ ?_
    · exact r_vret rfl dX11_noteTitleChange_62
    · refine r_aload_n (x := a0) dX11_noteTitleChange_24 rfl rfl ?_
      refine r_cgetR (c := 14) (kk := 1) hc_X11 rfl (by decide) inU_X11 (by decide) uf_X11_20 rfl (by decide) dX11_noteTitleChange_25 (fun z10 => ?_)
      refine r_iload_n (x := v2_15) dX11_noteTitleChange_28 rfl rfl ?_
      refine r_dref (fun p11 hp11 => ?_)
      subst hp11
      refine r_caald (t := 102) rfl (by decide) (by decide) dX11_noteTitleChange_29 (fun z12 => ?_)
      refine r_dref (fun p13 hp13 => ?_)
      subst hp13
      refine r_cgetRN (c := 12) (kk := 0) hc_X9 rfl (by decide) inU_X9 (by decide) hG uf_X11_260 rfl (by decide) dX11_noteTitleChange_30 (fun z14 => ?_)
      refine r_dref (fun p15 hp15 => ?_)
      subst hp15
      refine r_cgetIN (c := 7) (kk := 5) hc_X4 rfl (by decide) inU_X4 (by decide) hG uf_X11_321 rfl (by decide) dX11_noteTitleChange_33 ?_
      refine r_iload_n (x := a1) dX11_noteTitleChange_36 rfl rfl ?_
      refine r_ccSi (k2 := k_X11_has) (n := 2) (rest := []) um_X11_198 rfl kv_X11_has (c_X11_has hG _ _ _) (by decide) rfl (Nat.le_of_ble_eq_true rfl) dX11_noteTitleChange_37 rfl (fun r17 C16 => ?_)
      refine r_join (P := fun (J : Cd → Option (Unit × Cd)) => ∀  (C_56 : Cd), RunO l Γ k_X11_noteTitleChange 2 encV (emC M0) 56 [(0, .ref a0), (1, wi a1), (2, wi v2_15)] [] C_56 (J C_56)) ?_ (fun J56 hJ56 => ?_)
      · intro C_56
        refine r_iinc (x := v2_15) (lo2 := [(2, wi (v2_15 + 1)), (0, .ref a0), (1, wi a1)]) dX11_noteTitleChange_56 rfl (by decide) rfl ?_
        refine r_goto (tgt := 15) dX11_noteTitleChange_59 (by decide) ?_
        refine r_lo [1, 2, 0] (lo2 := [(0, .ref a0), (1, wi a1), (2, wi (v2_15 + 1))]) rfl ?_
        exact hL15 (v2_15 + 1) C_56
      refine r_if_eq (tgt := 56) dX11_noteTitleChange_40 (by decide) ?_ ?_
      · exact hJ56  C16
      · refine r_aload_n (x := a0) dX11_noteTitleChange_43 rfl rfl ?_
        refine r_cgetR (c := 14) (kk := 1) hc_X11 rfl (by decide) inU_X11 (by decide) uf_X11_20 rfl (by decide) dX11_noteTitleChange_44 (fun z18 => ?_)
        refine r_iload_n (x := v2_15) dX11_noteTitleChange_47 rfl rfl ?_
        refine r_dref (fun p19 hp19 => ?_)
        subst hp19
        refine r_caald (t := 102) rfl (by decide) (by decide) dX11_noteTitleChange_48 (fun z20 => ?_)
        refine r_dref (fun p21 hp21 => ?_)
        subst hp21
        refine r_cgetRN (c := 12) (kk := 0) hc_X9 rfl (by decide) inU_X9 (by decide) hG uf_X11_260 rfl (by decide) dX11_noteTitleChange_49 (fun z22 => ?_)
        refine ro_iconst (v := 1) dX11_noteTitleChange_52 rfl ?_
        refine r_dref (fun p23 hp23 => ?_)
        subst hp23
        refine r_cputIN (c := 7) (kk := 2) hc_X4 rfl (by decide) inU_X4 (by decide) hG uf_X11_270 rfl tyX4 tyX4_ok nmX4 (fty := .boolean) (by decide) rfl rfl rfl rfl dX11_noteTitleChange_53 (fun C24 _ _ => ?_)
        exact hJ56  C24
  refine r_lo [1, 2, 0] (lo2 := [(0, .ref a0), (1, wi a1), (2, wi 0)]) rfl ?_
  exact hJ15 0 C7
def k_X11_addVersion : Kd := (yX11_addVersion, cX11_addVersion, 6, some .int, [])
theorem kv_X11_addVersion : KV k_X11_addVersion 4 := ⟨uw_mem 1065 (by decide +kernel) rfl, uw_mem 94 (by decide +kernel) rfl, uw_mem 1064 (by decide +kernel) rfl, uw_mem 76 (by decide +kernel) rfl, ⟨by decide +kernel, by decide +kernel⟩, by decide +kernel, by decide +kernel⟩
set_option maxHeartbeats 8000000 in
set_option maxRecDepth 100000 in
theorem c_X11_addVersion {l : Launch} {Γ : Cx} {M0 : Md} (hG : GK Γ l) (a0 : Nat) (a1 : Int) (a2 : Option Nat) (a3 : Option Nat) (a4 : Int) (C : Cd) : Ct l Γ k_X11_addVersion 10 encI (emC M0) [.ref a0, wi a1, va_rf a2, va_rf a3, wi a4] C (fX11_addVersion a0 a1 a2 a3 a4 C) := by
  refine ct_of (by decide +kernel) rfl (by cases a2 <;> cases a3 <;> exact Nat.le_of_ble_eq_true rfl) ?_
  refine r_lo [0, 1, 2, 3, 4] (lo2 := [(0, .ref a0), (1, wi a1), (2, va_rf a2), (3, va_rf a3), (4, wi a4)]) (by cases a2 <;> cases a3 <;> rfl) ?_
  unfold fX11_addVersion
  refine r_aload_n (x := a0) dX11_addVersion_0 rfl rfl ?_
  refine r_aloadq_n (x := a3) dX11_addVersion_1 rfl rfl ?_
  refine r_iload (x := a4) dX11_addVersion_2 rfl ?_
  refine r_ccVr (c := 14) (k2 := k_X11_makeVersion) (n := 2) (rest := []) um_X11_369 rfl kv_X11_makeVersion hc_X11 (by decide) (c_X11_makeVersion hG _ _ _ _) (by decide) rfl (Nat.le_of_ble_eq_true rfl) dX11_addVersion_4 rfl (fun r2 C1 => ?_)
  refine r_astoreq (lo2 := [(5, va_rf r2), (0, .ref a0), (1, wi a1), (2, va_rf a2), (3, va_rf a3), (4, wi a4)]) dX11_addVersion_7 (by decide) rfl ?_
  refine r_aloadq_n (x := a2) dX11_addVersion_9 rfl rfl ?_
  refine r_aloadq (x := r2) dX11_addVersion_10 rfl ?_
  refine r_dref (fun p3 hp3 => ?_)
  subst hp3
  refine r_ccVNv (c := 6) (k2 := k_X3_put) (n := 1) (rest := []) hG um_X11_379 rfl kv_X3_put hc_X3 (by decide) (c_X3_put hG _ _ _) (by decide) rfl (Nat.le_of_ble_eq_true rfl) dX11_addVersion_12 rfl (fun r5 C4 => ?_)
  refine r_aload_n (x := p3) dX11_addVersion_15 rfl rfl ?_
  refine r_cgetRN (c := 6) (kk := 1) hc_X3 rfl (by decide) inU_X3 (by decide) hG uf_X11_148 rfl (by decide) dX11_addVersion_16 (fun z6 => ?_)
  refine r_aloadq (x := r2) dX11_addVersion_19 rfl ?_
  refine r_join (P := fun (J : Cd → Option (Int × Cd)) => ∀  (C_29 : Cd), RunO l Γ k_X11_addVersion 10 encI (emC M0) 29 [(5, va_rf r2)] [] C_29 (J C_29)) ?_ (fun J29 hJ29 => ?_)
  · intro C_29
    refine r_aloadq (x := r2) dX11_addVersion_29 rfl ?_
    refine r_dref (fun p7 hp7 => ?_)
    subst hp7
    refine r_cgetIN (c := 13) (kk := 0) hc_X10 rfl (by decide) inU_X10 (by decide) hG uf_X11_226 rfl (by decide) dX11_addVersion_31 ?_
    exact r_iret rfl dX11_addVersion_34
  refine r_acmp_ne (tgt := 29) (x := z6) (y := r2) dX11_addVersion_21 (by decide) ?_ ?_
  · refine r_lo [0] (lo2 := [(5, va_rf r2)]) rfl ?_
    exact hJ29  C4
  · refine r_aload_n (x := a0) dX11_addVersion_24 rfl rfl ?_
    refine r_iload_n (x := a1) dX11_addVersion_25 rfl rfl ?_
    refine r_ccVv (c := 14) (k2 := k_X11_noteTitleChange) (n := 1) (rest := []) um_X11_376 rfl kv_X11_noteTitleChange hc_X11 (by decide) (c_X11_noteTitleChange hG _ _ _) (by decide) rfl (Nat.le_of_ble_eq_true rfl) dX11_addVersion_26 rfl (fun r9 C8 => ?_)
    refine r_lo [0] (lo2 := [(5, va_rf r2)]) rfl ?_
    exact hJ29  C8
def k_X11_addNextVersion : Kd := (yX11_addNextVersion, cX11_addNextVersion, 4, some .int, [])
theorem kv_X11_addNextVersion : KV k_X11_addNextVersion 3 := ⟨uw_mem 1061 (by decide +kernel) rfl, uw_mem 94 (by decide +kernel) rfl, uw_mem 1060 (by decide +kernel) rfl, uw_mem 75 (by decide +kernel) rfl, ⟨by decide +kernel, by decide +kernel⟩, by decide +kernel, by decide +kernel⟩
set_option maxHeartbeats 8000000 in
set_option maxRecDepth 100000 in
theorem c_X11_addNextVersion {l : Launch} {Γ : Cx} {M0 : Md} (hG : GK Γ l) (a0 : Nat) (a1 : Int) (a2 : Option Nat) (a3 : Option Nat) (C : Cd) : Ct l Γ k_X11_addNextVersion 11 encI (emC M0) [.ref a0, wi a1, va_rf a2, va_rf a3] C (fX11_addNextVersion a0 a1 a2 a3 C) := by
  refine ct_of (by decide +kernel) rfl (by cases a2 <;> cases a3 <;> exact Nat.le_of_ble_eq_true rfl) ?_
  refine r_lo [0, 1, 2, 3] (lo2 := [(0, .ref a0), (1, wi a1), (2, va_rf a2), (3, va_rf a3)]) (by cases a2 <;> cases a3 <;> rfl) ?_
  unfold fX11_addNextVersion
  refine r_aload_n (x := a0) dX11_addNextVersion_0 rfl rfl ?_
  refine r_dup dX11_addNextVersion_1 rfl ?_
  refine r_cgetI (c := 14) (kk := 6) hc_X11 rfl (by decide) inU_X11 (by decide) uf_X11_41 rfl (by decide) dX11_addNextVersion_2 ?_
  refine ro_iconst (v := 1) dX11_addNextVersion_5 rfl ?_
  refine r_iadd dX11_addNextVersion_6 ?_
  refine r_cputI (c := 14) (kk := 6) hc_X11 rfl (by decide) inU_X11 (by decide) uf_X11_41 rfl tyX11 tyX11_ok nmX11 (fty := .int) (by decide) rfl rfl rfl rfl dX11_addNextVersion_7 (fun C1 _ _ => ?_)
  refine r_aload_n (x := a0) dX11_addNextVersion_10 rfl rfl ?_
  refine r_iload_n (x := a1) dX11_addNextVersion_11 rfl rfl ?_
  refine r_aloadq_n (x := a2) dX11_addNextVersion_12 rfl rfl ?_
  refine r_aloadq_n (x := a3) dX11_addNextVersion_13 rfl rfl ?_
  refine r_aload_n (x := a0) dX11_addNextVersion_14 rfl rfl ?_
  refine r_cgetI (c := 14) (kk := 6) hc_X11 rfl (by decide) inU_X11 (by decide) uf_X11_41 rfl (by decide) dX11_addNextVersion_15 ?_
  refine r_ccVi (c := 14) (k2 := k_X11_addVersion) (n := 4) (rest := []) um_X11_174 rfl kv_X11_addVersion hc_X11 (by decide) (c_X11_addVersion hG _ _ _ _ _ _) (by decide) rfl (Nat.le_of_ble_eq_true rfl) dX11_addNextVersion_18 rfl (fun r3 C2 => ?_)
  exact r_iret rfl dX11_addNextVersion_21
def k_X11_titleOf : Kd := (yX11_titleOf, cX11_titleOf, 2, some (.object "Weaveword$Title"), [])
theorem kv_X11_titleOf : KV k_X11_titleOf 1 := ⟨uw_mem 427 (by decide +kernel) rfl, uw_mem 94 (by decide +kernel) rfl, uw_mem 426 (by decide +kernel) rfl, uw_mem 0 (by decide +kernel) rfl, ⟨by decide +kernel, by decide +kernel⟩, by decide +kernel, by decide +kernel⟩
set_option maxHeartbeats 8000000 in
set_option maxRecDepth 100000 in
theorem c_X11_titleOf {l : Launch} {Γ : Cx} {M0 : Md} (hG : GK Γ l) (a0 : Nat) (a1 : Int) (C : Cd) : Ct l Γ k_X11_titleOf 6 (encX gR) (emC M0) [.ref a0, wi a1] C (fX11_titleOf a0 a1 C) := by
  refine ct_of (by decide +kernel) rfl (Nat.le_of_ble_eq_true rfl) ?_
  refine r_lo [0, 1] (lo2 := [(0, .ref a0), (1, wi a1)]) rfl ?_
  unfold fX11_titleOf
  refine r_iload_n (x := a1) dX11_titleOf_0 rfl rfl ?_
  refine r_join (P := fun (J : Cd → Option ((Option Nat ⊕ Nat) × Cd)) => ∀  (C_13 : Cd), RunO l Γ k_X11_titleOf 6 (encX gR) (emC M0) 13 [] [] C_13 (J C_13)) ?_ (fun J13 hJ13 => ?_)
  · intro C_13
    exact r_throwW (e := 2) (text := "no such title") hG rfl rfl (by decide) (by decide) (by decide) (Nat.le_of_ble_eq_true rfl) dX11_titleOf_13 dX11_titleOf_16 dX11_titleOf_17 dX11_titleOf_20 dX11_titleOf_23
  refine r_if_lt (tgt := 13) dX11_titleOf_1 (by decide) ?_ ?_
  · refine r_lo [] (lo2 := []) rfl ?_
    exact hJ13  C
  · refine r_iload_n (x := a1) dX11_titleOf_4 rfl rfl ?_
    refine r_aload_n (x := a0) dX11_titleOf_5 rfl rfl ?_
    refine r_cgetR (c := 14) (kk := 1) hc_X11 rfl (by decide) inU_X11 (by decide) uf_X11_20 rfl (by decide) dX11_titleOf_6 (fun z1 => ?_)
    refine r_dref (fun p2 hp2 => ?_)
    subst hp2
    refine r_calen (t := 102) rfl (by decide) dX11_titleOf_9 ?_
    refine r_icmp_lt (tgt := 24) dX11_titleOf_10 (by decide) ?_ ?_
    · refine r_aload_n (x := a0) dX11_titleOf_24 rfl rfl ?_
      refine r_cgetR (c := 14) (kk := 1) hc_X11 rfl (by decide) inU_X11 (by decide) uf_X11_20 rfl (by decide) dX11_titleOf_25 (fun z3 => ?_)
      refine r_iload_n (x := a1) dX11_titleOf_28 rfl rfl ?_
      refine r_dref (fun p4 hp4 => ?_)
      subst hp4
      refine r_caald (t := 102) rfl (by decide) (by decide) dX11_titleOf_29 (fun z5 => ?_)
      exact r_aretX (x := z5) rfl (Or.inl ⟨_, rfl⟩) dX11_titleOf_30
    · refine r_lo [] (lo2 := []) rfl ?_
      exact hJ13  C
def k_X11_pageOf : Kd := (yX11_pageOf, cX11_pageOf, 3, some (.object "Weaveword$Page"), [])
theorem kv_X11_pageOf : KV k_X11_pageOf 1 := ⟨uw_mem 997 (by decide +kernel) rfl, uw_mem 94 (by decide +kernel) rfl, uw_mem 996 (by decide +kernel) rfl, uw_mem 65 (by decide +kernel) rfl, ⟨by decide +kernel, by decide +kernel⟩, by decide +kernel, by decide +kernel⟩
set_option maxHeartbeats 8000000 in
set_option maxRecDepth 100000 in
theorem c_X11_pageOf {l : Launch} {Γ : Cx} {M0 : Md} (hG : GK Γ l) (a0 : Nat) (a1 : Int) (C : Cd) : Ct l Γ k_X11_pageOf 7 (encX gR) (emC M0) [.ref a0, wi a1] C (fX11_pageOf a0 a1 C) := by
  refine ct_of (by decide +kernel) rfl (Nat.le_of_ble_eq_true rfl) ?_
  refine r_lo [0, 1] (lo2 := [(0, .ref a0), (1, wi a1)]) rfl ?_
  unfold fX11_pageOf
  refine r_aload_n (x := a0) dX11_pageOf_0 rfl rfl ?_
  refine r_iload_n (x := a1) dX11_pageOf_1 rfl rfl ?_
  refine r_cxV (c := 14) (h := gR) (k2 := k_X11_titleOf) (n := 1) (rest := []) um_X11_85 rfl kv_X11_titleOf hc_X11 (by decide) (c_X11_titleOf hG _ _ _) (by decide) rfl (Nat.le_of_ble_eq_true rfl) dX11_pageOf_2 rfl (fun r2 C1 => ?_)
  show RunO l Γ k_X11_pageOf 7 (encX gR) (emC M0) 5 [(0, .ref a0), (1, wi a1)] [va_rf r2] C1 _
  refine r_dref (fun p3 hp3 => ?_)
  subst hp3
  refine r_cgetRN (c := 12) (kk := 3) hc_X9 rfl (by decide) inU_X9 (by decide) hG uf_X11_102 rfl (by decide) dX11_pageOf_5 (fun z4 => ?_)
  refine r_astoreq_n (lo2 := [(2, va_rf z4), (0, .ref a0), (1, wi a1)]) dX11_pageOf_8 rfl (by decide) rfl ?_
  refine r_aloadq_n (x := z4) dX11_pageOf_9 rfl rfl ?_
  refine r_opt (fun hn => ?_) (fun p5 hp5 => ?_)
  · subst hn
    refine r_ifnonnullN dX11_pageOf_10 ?_
    exact r_throw (e := 2) (text := "no page there") hG rfl rfl (by decide) (by decide) (by decide) (Nat.le_of_ble_eq_true rfl) dX11_pageOf_13 dX11_pageOf_16 dX11_pageOf_17 dX11_pageOf_19 dX11_pageOf_22
  · subst hp5
    refine r_ifnonnullS (a := p5) (tgt := 23) dX11_pageOf_10 (by decide) ?_
    refine r_aload_n (x := p5) dX11_pageOf_23 rfl rfl ?_
    exact r_aretX (x := (some p5)) rfl (Or.inl ⟨_, rfl⟩) dX11_pageOf_24
def k_X11_mayActAt : Kd := (yX11_mayActAt, cX11_mayActAt, 2, some .boolean, [])
theorem kv_X11_mayActAt : KV k_X11_mayActAt 1 := ⟨uw_mem 793 (by decide +kernel) rfl, uw_mem 94 (by decide +kernel) rfl, uw_mem 792 (by decide +kernel) rfl, uw_mem 50 (by decide +kernel) rfl, ⟨by decide +kernel, by decide +kernel⟩, by decide +kernel, by decide +kernel⟩
set_option maxHeartbeats 8000000 in
set_option maxRecDepth 100000 in
theorem c_X11_mayActAt {l : Launch} {Γ : Cx} {M0 : Md} (hG : GK Γ l) (a0 : Nat) (a1 : Option Nat) (C : Cd) : Ct l Γ k_X11_mayActAt 1 encI (emC M0) [.ref a0, va_rf a1] C (fX11_mayActAt a0 a1 C) := by
  refine ct_of (by decide +kernel) rfl (by cases a1 <;> exact Nat.le_of_ble_eq_true rfl) ?_
  refine r_lo [0, 1] (lo2 := [(0, .ref a0), (1, va_rf a1)]) (by cases a1 <;> rfl) ?_
  unfold fX11_mayActAt
  refine r_aload_n (x := a0) dX11_mayActAt_0 rfl rfl ?_
  refine r_cgetI (c := 14) (kk := 9) hc_X11 rfl (by decide) inU_X11 (by decide) uf_X11_51 rfl (by decide) dX11_mayActAt_1 ?_
  refine r_aloadq_n (x := a1) dX11_mayActAt_4 rfl rfl ?_
  refine r_dref (fun p1 hp1 => ?_)
  subst hp1
  refine r_cgetIN (c := 12) (kk := 4) hc_X9 rfl (by decide) inU_X9 (by decide) hG uf_X11_97 rfl (by decide) dX11_mayActAt_5 ?_
  refine r_join (P := fun (J : Int → Cd → Option (Int × Cd)) => ∀ (t0_16 : Int) (C_16 : Cd), RunO l Γ k_X11_mayActAt 1 encI (emC M0) 16 [] [wi t0_16] C_16 (J t0_16 C_16)) ?_ (fun J16 hJ16 => ?_)
  · intro t0_16 C_16
    exact r_zret rfl dX11_mayActAt_16
  refine r_icmp_lt (tgt := 15) dX11_mayActAt_8 (by decide) ?_ ?_
  · refine ro_iconst (v := 0) dX11_mayActAt_15 rfl ?_
    refine r_lo [] (lo2 := []) rfl ?_
    exact hJ16 0 C
  · refine ro_iconst (v := 1) dX11_mayActAt_11 rfl ?_
    refine r_goto (tgt := 16) dX11_mayActAt_12 (by decide) ?_
    refine r_lo [] (lo2 := []) rfl ?_
    exact hJ16 1 C
def k_X11_approve : Kd := (yX11_approve, cX11_approve, 3, some .int, [])
theorem kv_X11_approve : KV k_X11_approve 1 := ⟨uw_mem 1374 (by decide +kernel) rfl, uw_mem 94 (by decide +kernel) rfl, uw_mem 1372 (by decide +kernel) rfl, uw_mem 1373 (by decide +kernel) rfl, ⟨by decide +kernel, by decide +kernel⟩, by decide +kernel, by decide +kernel⟩
set_option maxHeartbeats 8000000 in
set_option maxRecDepth 100000 in
theorem c_X11_approve {l : Launch} {Γ : Cx} {M0 : Md} (hG : GK Γ l) (a0 : Nat) (a1 : Int) (C : Cd) : Ct l Γ k_X11_approve 8 (encX gI) (emC M0) [.ref a0, wi a1] C (fX11_approve a0 a1 C) := by
  refine ct_of (by decide +kernel) rfl (Nat.le_of_ble_eq_true rfl) ?_
  refine r_lo [0, 1] (lo2 := [(0, .ref a0), (1, wi a1)]) rfl ?_
  unfold fX11_approve
  refine r_aload_n (x := a0) dX11_approve_0 rfl rfl ?_
  refine r_iload_n (x := a1) dX11_approve_1 rfl rfl ?_
  refine r_cxV (c := 14) (h := gR) (k2 := k_X11_pageOf) (n := 1) (rest := []) um_X11_116 rfl kv_X11_pageOf hc_X11 (by decide) (c_X11_pageOf hG _ _ _) (by decide) rfl (Nat.le_of_ble_eq_true rfl) dX11_approve_2 rfl (fun r2 C1 => ?_)
  show RunO l Γ k_X11_approve 8 (encX gI) (emC M0) 5 [(0, .ref a0), (1, wi a1)] [va_rf r2] C1 _
  refine r_astoreq_n (lo2 := [(2, va_rf r2), (0, .ref a0), (1, wi a1)]) dX11_approve_5 rfl (by decide) rfl ?_
  refine r_aload_n (x := a0) dX11_approve_6 rfl rfl ?_
  refine r_aload_n (x := a0) dX11_approve_7 rfl rfl ?_
  refine r_cgetR (c := 14) (kk := 1) hc_X11 rfl (by decide) inU_X11 (by decide) uf_X11_20 rfl (by decide) dX11_approve_8 (fun z3 => ?_)
  refine r_iload_n (x := a1) dX11_approve_11 rfl rfl ?_
  refine r_dref (fun p4 hp4 => ?_)
  subst hp4
  refine r_caald (t := 102) rfl (by decide) (by decide) dX11_approve_12 (fun z5 => ?_)
  refine r_ccVi (c := 14) (k2 := k_X11_mayActAt) (n := 1) (rest := []) um_X11_91 rfl kv_X11_mayActAt hc_X11 (by decide) (c_X11_mayActAt hG _ _ _) (by decide) rfl (Nat.le_of_ble_eq_true rfl) dX11_approve_13 rfl (fun r7 C6 => ?_)
  refine r_if_ne (tgt := 29) dX11_approve_16 (by decide) ?_ ?_
  · refine r_aload_n (x := a0) dX11_approve_29 rfl rfl ?_
    refine r_dup dX11_approve_30 rfl ?_
    refine r_cgetI (c := 14) (kk := 6) hc_X11 rfl (by decide) inU_X11 (by decide) uf_X11_41 rfl (by decide) dX11_approve_31 ?_
    refine ro_iconst (v := 1) dX11_approve_34 rfl ?_
    refine r_iadd dX11_approve_35 ?_
    refine r_cputI (c := 14) (kk := 6) hc_X11 rfl (by decide) inU_X11 (by decide) uf_X11_41 rfl tyX11 tyX11_ok nmX11 (fty := .int) (by decide) rfl rfl rfl rfl dX11_approve_36 (fun C8 _ _ => ?_)
    refine r_aload_n (x := a0) dX11_approve_39 rfl rfl ?_
    refine r_cgetI (c := 14) (kk := 8) hc_X11 rfl (by decide) inU_X11 (by decide) uf_X11_48 rfl (by decide) dX11_approve_40 ?_
    refine r_sipush (v := 512) dX11_approve_43 rfl ?_
    refine r_join (P := fun (J : Cd → Option ((Int ⊕ Nat) × Cd)) => ∀  (C_85 : Cd), RunO l Γ k_X11_approve 8 (encX gI) (emC M0) 85 [(0, .ref a0)] [] C_85 (J C_85)) ?_ (fun J85 hJ85 => ?_)
    · intro C_85
      refine r_aload_n (x := a0) dX11_approve_85 rfl rfl ?_
      refine r_cgetI (c := 14) (kk := 6) hc_X11 rfl (by decide) inU_X11 (by decide) uf_X11_41 rfl (by decide) dX11_approve_86 ?_
      exact r_iretX rfl dX11_approve_89
    refine r_icmp_ge (tgt := 85) dX11_approve_46 (by decide) ?_ ?_
    · refine r_lo [1] (lo2 := [(0, .ref a0)]) rfl ?_
      exact hJ85  C8
    · refine r_aload_n (x := a0) dX11_approve_49 rfl rfl ?_
      refine r_dup dX11_approve_50 rfl ?_
      refine r_cgetI (c := 14) (kk := 8) hc_X11 rfl (by decide) inU_X11 (by decide) uf_X11_48 rfl (by decide) dX11_approve_51 ?_
      refine ro_iconst (v := 1) dX11_approve_54 rfl ?_
      refine r_iadd dX11_approve_55 ?_
      refine r_cputI (c := 14) (kk := 8) hc_X11 rfl (by decide) inU_X11 (by decide) uf_X11_48 rfl tyX11 tyX11_ok nmX11 (fty := .int) (by decide) rfl rfl rfl rfl dX11_approve_56 (fun C9 _ _ => ?_)
      refine r_aloadq_n (x := r2) dX11_approve_59 rfl rfl ?_
      refine r_cnew (c := 3) hc_X0 rfl (by decide) inU_X0 tyX0 tyX0_ok hfs_X0 un_X11_209.1 un_X11_209.2.1 un_X11_209.2.2 dX11_approve_60 (fun C10 _ => ?_)
      refine r_dup dX11_approve_63 rfl ?_
      refine r_aload_n (x := a0) dX11_approve_64 rfl rfl ?_
      refine r_cgetI (c := 14) (kk := 6) hc_X11 rfl (by decide) inU_X11 (by decide) uf_X11_41 rfl (by decide) dX11_approve_65 ?_
      refine r_aloadq_n (x := r2) dX11_approve_68 rfl rfl ?_
      refine r_dref (fun p11 hp11 => ?_)
      subst hp11
      refine r_cgetRN (c := 6) (kk := 1) hc_X3 rfl (by decide) inU_X3 (by decide) hG uf_X11_148 rfl (by decide) dX11_approve_69 (fun z12 => ?_)
      refine r_dref (fun p13 hp13 => ?_)
      subst hp13
      refine r_cgetRN (c := 13) (kk := 2) hc_X10 rfl (by decide) inU_X10 (by decide) hG uf_X11_130 rfl (by decide) dX11_approve_72 (fun z14 => ?_)
      refine r_aload_n (x := p11) dX11_approve_75 rfl rfl ?_
      refine r_cgetRN (c := 6) (kk := 2) hc_X3 rfl (by decide) inU_X3 (by decide) hG uf_X11_211 rfl (by decide) dX11_approve_76 (fun z15 => ?_)
      refine r_ccINv (k2 := k_X0_init) (n := 3) (rest := [.ref (csz C9), .ref p11]) hG um_X11_215 rfl kv_X0_init (c_X0_init hG _ _ _ _ _) (by decide) rfl (Nat.le_of_ble_eq_true rfl) dX11_approve_79 rfl (fun r17 C16 => ?_)
      refine r_cputRN (c := 6) (kk := 2) hc_X3 rfl (by decide) inU_X3 (by decide) hG uf_X11_211 rfl tyX3 tyX3_ok nmX3 (x := (some (csz C9))) (fty := .object "Weaveword$Approval") (by decide) rfl (by decide +kernel) ⟨_, Or.inl rfl⟩ dX11_approve_82 (fun C18 _ _ => ?_)
      refine r_lo [1] (lo2 := [(0, .ref a0)]) rfl ?_
      exact hJ85  C18
  · exact r_throw (e := 1) (text := "the rank is too low") hG rfl rfl (by decide) (by decide) (by decide) (Nat.le_of_ble_eq_true rfl) dX11_approve_19 dX11_approve_22 dX11_approve_23 dX11_approve_25 dX11_approve_28
def k_X11_bringIn : Kd := (yX11_bringIn, cX11_bringIn, 5, some .int, [])
theorem kv_X11_bringIn : KV k_X11_bringIn 2 := ⟨uw_mem 1325 (by decide +kernel) rfl, uw_mem 94 (by decide +kernel) rfl, uw_mem 1323 (by decide +kernel) rfl, uw_mem 1324 (by decide +kernel) rfl, ⟨by decide +kernel, by decide +kernel⟩, by decide +kernel, by decide +kernel⟩
set_option maxHeartbeats 8000000 in
set_option maxRecDepth 100000 in
theorem c_X11_bringIn {l : Launch} {Γ : Cx} {M0 : Md} (hG : GK Γ l) (a0 : Nat) (a1 : Int) (a2 : Int) (C : Cd) : Ct l Γ k_X11_bringIn 11 (encX gI) (emC M0) [.ref a0, wi a1, wi a2] C (fX11_bringIn a0 a1 a2 C) := by
  refine ct_of (by decide +kernel) rfl (Nat.le_of_ble_eq_true rfl) ?_
  refine r_lo [0, 1, 2] (lo2 := [(0, .ref a0), (1, wi a1), (2, wi a2)]) rfl ?_
  unfold fX11_bringIn
  refine r_aload_n (x := a0) dX11_bringIn_0 rfl rfl ?_
  refine r_iload_n (x := a1) dX11_bringIn_1 rfl rfl ?_
  refine r_cxV (c := 14) (h := gR) (k2 := k_X11_pageOf) (n := 1) (rest := []) um_X11_116 rfl kv_X11_pageOf hc_X11 (by decide) (c_X11_pageOf hG _ _ _) (by decide) rfl (Nat.le_of_ble_eq_true rfl) dX11_bringIn_2 rfl (fun r2 C1 => ?_)
  show RunO l Γ k_X11_bringIn 11 (encX gI) (emC M0) 5 [(0, .ref a0), (1, wi a1), (2, wi a2)] [va_rf r2] C1 _
  refine r_astoreq_n (lo2 := [(3, va_rf r2), (0, .ref a0), (1, wi a1), (2, wi a2)]) dX11_bringIn_5 rfl (by decide) rfl ?_
  refine r_iload_n (x := a2) dX11_bringIn_6 rfl rfl ?_
  refine ro_iconst (v := 1) dX11_bringIn_7 rfl ?_
  refine r_join (P := fun (J : Cd → Option ((Int ⊕ Nat) × Cd)) => ∀  (C_19 : Cd), RunO l Γ k_X11_bringIn 11 (encX gI) (emC M0) 19 [] [] C_19 (J C_19)) ?_ (fun J19 hJ19 => ?_)
  · intro C_19
    exact r_throw (e := 0) (text := "no such time") hG rfl rfl (by decide) (by decide) (by decide) (Nat.le_of_ble_eq_true rfl) dX11_bringIn_19 dX11_bringIn_22 dX11_bringIn_23 dX11_bringIn_25 dX11_bringIn_28
  refine r_icmp_lt (tgt := 19) dX11_bringIn_8 (by decide) ?_ ?_
  · refine r_lo [] (lo2 := []) rfl ?_
    exact hJ19  C1
  · refine r_iload_n (x := a2) dX11_bringIn_11 rfl rfl ?_
    refine r_aload_n (x := a0) dX11_bringIn_12 rfl rfl ?_
    refine r_cgetI (c := 14) (kk := 6) hc_X11 rfl (by decide) inU_X11 (by decide) uf_X11_41 rfl (by decide) dX11_bringIn_13 ?_
    refine r_icmp_le (tgt := 29) dX11_bringIn_16 (by decide) ?_ ?_
    · refine r_aload_n (x := a0) dX11_bringIn_29 rfl rfl ?_
      refine r_aload_n (x := a0) dX11_bringIn_30 rfl rfl ?_
      refine r_cgetR (c := 14) (kk := 1) hc_X11 rfl (by decide) inU_X11 (by decide) uf_X11_20 rfl (by decide) dX11_bringIn_31 (fun z3 => ?_)
      refine r_iload_n (x := a1) dX11_bringIn_34 rfl rfl ?_
      refine r_dref (fun p4 hp4 => ?_)
      subst hp4
      refine r_caald (t := 102) rfl (by decide) (by decide) dX11_bringIn_35 (fun z5 => ?_)
      refine r_ccVi (c := 14) (k2 := k_X11_mayActAt) (n := 1) (rest := []) um_X11_91 rfl kv_X11_mayActAt hc_X11 (by decide) (c_X11_mayActAt hG _ _ _) (by decide) rfl (Nat.le_of_ble_eq_true rfl) dX11_bringIn_36 rfl (fun r7 C6 => ?_)
      refine r_join (P := fun (J : Cd → Option ((Int ⊕ Nat) × Cd)) => ∀  (C_61 : Cd), RunO l Γ k_X11_bringIn 11 (encX gI) (emC M0) 61 [] [] C_61 (J C_61)) ?_ (fun J61 hJ61 => ?_)
      · intro C_61
        exact r_throw (e := 1) (text := "nothing can be brought in") hG rfl rfl (by decide) (by decide) (by decide) (Nat.le_of_ble_eq_true rfl) dX11_bringIn_61 dX11_bringIn_64 dX11_bringIn_65 dX11_bringIn_67 dX11_bringIn_70
      refine r_if_eq (tgt := 61) dX11_bringIn_39 (by decide) ?_ ?_
      · refine r_lo [] (lo2 := []) rfl ?_
        exact hJ61  C6
      · refine r_aload_n (x := a0) dX11_bringIn_42 rfl rfl ?_
        refine r_cgetR (c := 14) (kk := 3) hc_X11 rfl (by decide) inU_X11 (by decide) uf_X11_31 rfl (by decide) dX11_bringIn_43 (fun z8 => ?_)
        refine r_dref (fun p9 hp9 => ?_)
        subst hp9
        refine r_ccVNi (c := 11) (k2 := k_X8_isText) (n := 0) (rest := []) hG um_X11_106 rfl kv_X8_isText hc_X8 (by decide) (c_X8_isText hG _ _) (by decide) rfl (Nat.le_of_ble_eq_true rfl) dX11_bringIn_46 rfl (fun r11 C10 => ?_)
        refine r_if_eq (tgt := 61) dX11_bringIn_49 (by decide) ?_ ?_
        · refine r_lo [] (lo2 := []) rfl ?_
          exact hJ61  C10
        · refine r_aload_n (x := a0) dX11_bringIn_52 rfl rfl ?_
          refine r_cgetI (c := 14) (kk := 7) hc_X11 rfl (by decide) inU_X11 (by decide) uf_X11_45 rfl (by decide) dX11_bringIn_53 ?_
          refine r_bipush (v := 120) dX11_bringIn_56 rfl ?_
          refine r_icmp_lt (tgt := 71) dX11_bringIn_58 (by decide) ?_ ?_
          · refine r_aload_n (x := a0) dX11_bringIn_71 rfl rfl ?_
            refine r_iload_n (x := a1) dX11_bringIn_72 rfl rfl ?_
            refine r_aloadq_n (x := r2) dX11_bringIn_73 rfl rfl ?_
            refine r_aload_n (x := a0) dX11_bringIn_74 rfl rfl ?_
            refine r_cgetR (c := 14) (kk := 3) hc_X11 rfl (by decide) inU_X11 (by decide) uf_X11_31 rfl (by decide) dX11_bringIn_75 (fun z12 => ?_)
            refine r_iload_n (x := a2) dX11_bringIn_78 rfl rfl ?_
            refine r_ccVi (c := 14) (k2 := k_X11_addVersion) (n := 4) (rest := []) um_X11_174 rfl kv_X11_addVersion hc_X11 (by decide) (c_X11_addVersion hG _ _ _ _ _ _) (by decide) rfl (Nat.le_of_ble_eq_true rfl) dX11_bringIn_79 rfl (fun r14 C13 => ?_)
            refine r_istore (lo2 := [(4, wi r14), (3, va_rf r2), (0, .ref a0), (1, wi a1), (2, wi a2)]) dX11_bringIn_82 (by decide) (by cases r2 <;> rfl) ?_
            refine r_aload_n (x := a0) dX11_bringIn_84 rfl rfl ?_
            refine r_cgetR (c := 14) (kk := 3) hc_X11 rfl (by decide) inU_X11 (by decide) uf_X11_31 rfl (by decide) dX11_bringIn_85 (fun z15 => ?_)
            refine r_dref (fun p16 hp16 => ?_)
            subst hp16
            refine r_ccVNv (c := 11) (k2 := k_X8_clear) (n := 0) (rest := []) hG um_X11_80 rfl kv_X8_clear hc_X8 (by decide) (c_X8_clear hG _ _) (by decide) rfl (Nat.le_of_ble_eq_true rfl) dX11_bringIn_88 rfl (fun r18 C17 => ?_)
            refine r_iload (x := r14) dX11_bringIn_91 rfl ?_
            exact r_iretX rfl dX11_bringIn_93
          · refine r_lo [] (lo2 := []) rfl ?_
            exact hJ61  C10
    · refine r_lo [] (lo2 := []) rfl ?_
      exact hJ19  C1
def k_X11_noteMemberChange : Kd := (yX11_noteMemberChange, cX11_noteMemberChange, 3, none, [])
theorem kv_X11_noteMemberChange : KV k_X11_noteMemberChange 1 := ⟨uw_mem 731 (by decide +kernel) rfl, uw_mem 94 (by decide +kernel) rfl, uw_mem 730 (by decide +kernel) rfl, uw_mem 49 (by decide +kernel) rfl, ⟨by decide +kernel, by decide +kernel⟩, by decide +kernel, by decide +kernel⟩
set_option maxHeartbeats 8000000 in
set_option maxRecDepth 100000 in
theorem c_X11_noteMemberChange {l : Launch} {Γ : Cx} {M0 : Md} (hG : GK Γ l) (a0 : Nat) (a1 : Int) (C : Cd) : Ct l Γ k_X11_noteMemberChange 1 encV (emC M0) [.ref a0, wi a1] C (fX11_noteMemberChange a0 a1 C) := by
  refine ct_of (by decide +kernel) rfl (Nat.le_of_ble_eq_true rfl) ?_
  refine r_lo [0, 1] (lo2 := [(0, .ref a0), (1, wi a1)]) rfl ?_
  unfold fX11_noteMemberChange
  refine ro_iconst (v := 0) dX11_noteMemberChange_0 rfl ?_
  refine r_istore_n (lo2 := [(2, wi 0), (0, .ref a0), (1, wi a1)]) dX11_noteMemberChange_1 rfl (by decide) rfl ?_
  refine r_loop (P := fun (J : Int → Cd → Option (Unit × Cd)) => ∀ (v2_2 : Int) (C_2 : Cd), RunO l Γ k_X11_noteMemberChange 1 encV (emC M0) 2 [(0, .ref a0), (1, wi a1), (2, wi v2_2)] [] C_2 (J v2_2 C_2)) ?_ (fun L2 hL2 => ?_) (fun J2 hJ2 => ?_)
  · intros; exact ro_none
  · intro v2_2 C_2
    refine r_iload_n (x := v2_2) dX11_noteMemberChange_2 rfl rfl ?_
    refine r_aload_n (x := a0) dX11_noteMemberChange_3 rfl rfl ?_
    refine r_cgetR (c := 14) (kk := 1) hc_X11 rfl (by decide) inU_X11 (by decide) uf_X11_20 rfl (by decide) dX11_noteMemberChange_4 (fun z1 => ?_)
    refine r_dref (fun p2 hp2 => ?_)
    subst hp2
    refine r_calen (t := 102) rfl (by decide) dX11_noteMemberChange_7 ?_
    refine r_icmp_ge (tgt := 47) dX11_noteMemberChange_8 (by decide) ?_ ?_
    · exact r_vret rfl dX11_noteMemberChange_47
    · refine r_aload_n (x := a0) dX11_noteMemberChange_11 rfl rfl ?_
      refine r_cgetR (c := 14) (kk := 1) hc_X11 rfl (by decide) inU_X11 (by decide) uf_X11_20 rfl (by decide) dX11_noteMemberChange_12 (fun z3 => ?_)
      refine r_iload_n (x := v2_2) dX11_noteMemberChange_15 rfl rfl ?_
      refine r_dref (fun p4 hp4 => ?_)
      subst hp4
      refine r_caald (t := 102) rfl (by decide) (by decide) dX11_noteMemberChange_16 (fun z5 => ?_)
      refine r_dref (fun p6 hp6 => ?_)
      subst hp6
      refine r_cgetRN (c := 12) (kk := 0) hc_X9 rfl (by decide) inU_X9 (by decide) hG uf_X11_260 rfl (by decide) dX11_noteMemberChange_17 (fun z7 => ?_)
      refine r_dref (fun p8 hp8 => ?_)
      subst hp8
      refine r_cgetIN (c := 7) (kk := 6) hc_X4 rfl (by decide) inU_X4 (by decide) hG uf_X11_389 rfl (by decide) dX11_noteMemberChange_20 ?_
      refine r_iload_n (x := a1) dX11_noteMemberChange_23 rfl rfl ?_
      refine r_iand dX11_noteMemberChange_24 ?_
      refine r_join (P := fun (J : Cd → Option (Unit × Cd)) => ∀  (C_41 : Cd), RunO l Γ k_X11_noteMemberChange 1 encV (emC M0) 41 [(0, .ref a0), (1, wi a1), (2, wi v2_2)] [] C_41 (J C_41)) ?_ (fun J41 hJ41 => ?_)
      · intro C_41
        refine r_iinc (x := v2_2) (lo2 := [(2, wi (v2_2 + 1)), (0, .ref a0), (1, wi a1)]) dX11_noteMemberChange_41 rfl (by decide) rfl ?_
        refine r_goto (tgt := 2) dX11_noteMemberChange_44 (by decide) ?_
        refine r_lo [1, 2, 0] (lo2 := [(0, .ref a0), (1, wi a1), (2, wi (v2_2 + 1))]) rfl ?_
        exact hL2 (v2_2 + 1) C_41
      refine r_if_eq (tgt := 41) dX11_noteMemberChange_25 (by decide) ?_ ?_
      · exact hJ41  C_2
      · refine r_aload_n (x := a0) dX11_noteMemberChange_28 rfl rfl ?_
        refine r_cgetR (c := 14) (kk := 1) hc_X11 rfl (by decide) inU_X11 (by decide) uf_X11_20 rfl (by decide) dX11_noteMemberChange_29 (fun z9 => ?_)
        refine r_iload_n (x := v2_2) dX11_noteMemberChange_32 rfl rfl ?_
        refine r_dref (fun p10 hp10 => ?_)
        subst hp10
        refine r_caald (t := 102) rfl (by decide) (by decide) dX11_noteMemberChange_33 (fun z11 => ?_)
        refine r_dref (fun p12 hp12 => ?_)
        subst hp12
        refine r_cgetRN (c := 12) (kk := 0) hc_X9 rfl (by decide) inU_X9 (by decide) hG uf_X11_260 rfl (by decide) dX11_noteMemberChange_34 (fun z13 => ?_)
        refine ro_iconst (v := 1) dX11_noteMemberChange_37 rfl ?_
        refine r_dref (fun p14 hp14 => ?_)
        subst hp14
        refine r_cputIN (c := 7) (kk := 2) hc_X4 rfl (by decide) inU_X4 (by decide) hG uf_X11_270 rfl tyX4 tyX4_ok nmX4 (fty := .boolean) (by decide) rfl rfl rfl rfl dX11_noteMemberChange_38 (fun C15 _ _ => ?_)
        exact hJ41  C15
  refine r_lo [1, 2, 0] (lo2 := [(0, .ref a0), (1, wi a1), (2, wi 0)]) rfl ?_
  exact hJ2 0 C
def k_X11_bringOver : Kd := (yX11_bringOver, cX11_bringOver, 6, none, [])
theorem kv_X11_bringOver : KV k_X11_bringOver 2 := ⟨uw_mem 1336 (by decide +kernel) rfl, uw_mem 94 (by decide +kernel) rfl, uw_mem 1335 (by decide +kernel) rfl, uw_mem 80 (by decide +kernel) rfl, ⟨by decide +kernel, by decide +kernel⟩, by decide +kernel, by decide +kernel⟩
set_option maxHeartbeats 8000000 in
set_option maxRecDepth 100000 in
theorem c_X11_bringOver {l : Launch} {Γ : Cx} {M0 : Md} (hG : GK Γ l) (a0 : Nat) (a1 : Int) (a2 : Int) (C : Cd) : Ct l Γ k_X11_bringOver 7 (encX gV) (emC M0) [.ref a0, wi a1, wi a2] C (fX11_bringOver a0 a1 a2 C) := by
  refine ct_of (by decide +kernel) rfl (Nat.le_of_ble_eq_true rfl) ?_
  refine r_lo [0, 1, 2] (lo2 := [(0, .ref a0), (1, wi a1), (2, wi a2)]) rfl ?_
  unfold fX11_bringOver
  refine r_aload_n (x := a0) dX11_bringOver_0 rfl rfl ?_
  refine r_iload_n (x := a1) dX11_bringOver_1 rfl rfl ?_
  refine r_cxV (c := 14) (h := gR) (k2 := k_X11_titleOf) (n := 1) (rest := []) um_X11_85 rfl kv_X11_titleOf hc_X11 (by decide) (c_X11_titleOf hG _ _ _) (by decide) rfl (Nat.le_of_ble_eq_true rfl) dX11_bringOver_2 rfl (fun r2 C1 => ?_)
  show RunO l Γ k_X11_bringOver 7 (encX gV) (emC M0) 5 [(0, .ref a0), (1, wi a1), (2, wi a2)] [va_rf r2] C1 _
  refine r_astoreq_n (lo2 := [(3, va_rf r2), (0, .ref a0), (1, wi a1), (2, wi a2)]) dX11_bringOver_5 rfl (by decide) rfl ?_
  refine r_aload_n (x := a0) dX11_bringOver_6 rfl rfl ?_
  refine r_iload_n (x := a2) dX11_bringOver_7 rfl rfl ?_
  refine r_cxV (c := 14) (h := gR) (k2 := k_X11_titleOf) (n := 1) (rest := []) um_X11_85 rfl kv_X11_titleOf hc_X11 (by decide) (c_X11_titleOf hG _ _ _) (by decide) rfl (Nat.le_of_ble_eq_true rfl) dX11_bringOver_8 rfl (fun r4 C3 => ?_)
  show RunO l Γ k_X11_bringOver 7 (encX gV) (emC M0) 11 [(3, va_rf r2), (0, .ref a0), (1, wi a1), (2, wi a2)] [va_rf r4] C3 _
  refine r_astoreq (lo2 := [(4, va_rf r4), (3, va_rf r2), (0, .ref a0), (1, wi a1), (2, wi a2)]) dX11_bringOver_11 (by decide) (by cases r2 <;> rfl) ?_
  refine r_aloadq (x := r4) dX11_bringOver_13 rfl ?_
  refine r_aloadq_n (x := r2) dX11_bringOver_15 rfl rfl ?_
  refine r_dref (fun p5 hp5 => ?_)
  subst hp5
  refine r_cgetRN (c := 12) (kk := 3) hc_X9 rfl (by decide) inU_X9 (by decide) hG uf_X11_102 rfl (by decide) dX11_bringOver_16 (fun z6 => ?_)
  refine r_dref (fun p7 hp7 => ?_)
  subst hp7
  refine r_cputRN (c := 12) (kk := 3) hc_X9 rfl (by decide) inU_X9 (by decide) hG uf_X11_102 rfl tyX9 tyX9_ok nmX9 (x := z6) (fty := .object "Weaveword$Page") (by decide) rfl (by decide +kernel) ⟨_, Or.inl rfl⟩ dX11_bringOver_19 (fun C8 _ _ => ?_)
  refine r_aload_n (x := p5) dX11_bringOver_22 rfl rfl ?_
  refine r_null dX11_bringOver_23 ?_
  refine r_cputRN (c := 12) (kk := 3) hc_X9 rfl (by decide) inU_X9 (by decide) hG uf_X11_102 rfl tyX9 tyX9_ok nmX9 (x := none) (fty := .object "Weaveword$Page") (by decide) rfl (by decide +kernel) ⟨_, Or.inl rfl⟩ dX11_bringOver_24 (fun C9 _ _ => ?_)
  refine r_aload_n (x := p5) dX11_bringOver_27 rfl rfl ?_
  refine r_cgetRN (c := 12) (kk := 0) hc_X9 rfl (by decide) inU_X9 (by decide) hG uf_X11_260 rfl (by decide) dX11_bringOver_28 (fun z10 => ?_)
  refine r_dref (fun p11 hp11 => ?_)
  subst hp11
  refine r_cgetIN (c := 7) (kk := 4) hc_X4 rfl (by decide) inU_X4 (by decide) hG uf_X11_382 rfl (by decide) dX11_bringOver_31 ?_
  refine r_nm (fun x5_34 => ?_)
  refine r_istore (lo2 := [(5, wi x5_34), (4, .ref p7), (3, .ref p5), (0, .ref a0), (1, wi a1), (2, wi a2)]) dX11_bringOver_34 (by decide) rfl ?_
  refine r_aload_n (x := p5) dX11_bringOver_36 rfl rfl ?_
  refine r_cgetRN (c := 12) (kk := 0) hc_X9 rfl (by decide) inU_X9 (by decide) hG uf_X11_260 rfl (by decide) dX11_bringOver_37 (fun z12 => ?_)
  refine r_dref (fun p13 hp13 => ?_)
  subst hp13
  refine r_ccVNv (c := 7) (k2 := k_X4_clear) (n := 0) (rest := []) hG um_X11_385 rfl kv_X4_clear hc_X4 (by decide) (c_X4_clear hG _ _) (by decide) rfl (Nat.le_of_ble_eq_true rfl) dX11_bringOver_40 rfl (fun r15 C14 => ?_)
  refine r_aload_n (x := a0) dX11_bringOver_43 rfl rfl ?_
  refine r_iload (x := x5_34) dX11_bringOver_44 rfl ?_
  refine r_ccVv (c := 14) (k2 := k_X11_noteMemberChange) (n := 1) (rest := []) um_X11_386 rfl kv_X11_noteMemberChange hc_X11 (by decide) (c_X11_noteMemberChange hG _ _ _) (by decide) rfl (Nat.le_of_ble_eq_true rfl) dX11_bringOver_46 rfl (fun r17 C16 => ?_)
  refine r_aload_n (x := a0) dX11_bringOver_49 rfl rfl ?_
  refine r_iload_n (x := a1) dX11_bringOver_50 rfl rfl ?_
  refine r_ccVv (c := 14) (k2 := k_X11_noteTitleChange) (n := 1) (rest := []) um_X11_376 rfl kv_X11_noteTitleChange hc_X11 (by decide) (c_X11_noteTitleChange hG _ _ _) (by decide) rfl (Nat.le_of_ble_eq_true rfl) dX11_bringOver_51 rfl (fun r19 C18 => ?_)
  refine r_aload_n (x := a0) dX11_bringOver_54 rfl rfl ?_
  refine r_iload_n (x := a2) dX11_bringOver_55 rfl rfl ?_
  refine r_ccVv (c := 14) (k2 := k_X11_noteTitleChange) (n := 1) (rest := []) um_X11_376 rfl kv_X11_noteTitleChange hc_X11 (by decide) (c_X11_noteTitleChange hG _ _ _) (by decide) rfl (Nat.le_of_ble_eq_true rfl) dX11_bringOver_56 rfl (fun r21 C20 => ?_)
  exact r_vretX rfl dX11_bringOver_59
