def k_X11_clock : Kd := (yX11_clock, cX11_clock, 1, some .int, [])
theorem kv_X11_clock : KV k_X11_clock 0 := ⟨uw_mem 1483 (by decide +kernel) rfl, uw_mem 94 (by decide +kernel) rfl, uw_mem 1481 (by decide +kernel) rfl, uw_mem 1482 (by decide +kernel) rfl, ⟨by decide +kernel, by decide +kernel⟩, by decide +kernel, by decide +kernel⟩
set_option maxHeartbeats 8000000 in
set_option maxRecDepth 100000 in
theorem c_X11_clock {l : Launch} {Γ : Cx} {M0 : Md} (hG : GK Γ l) (a0 : Nat) (C : Cd) : Ct l Γ k_X11_clock 1 encI (emC M0) [.ref a0] C (fX11_clock a0 C) := by
  refine ct_of (by decide +kernel) rfl (Nat.le_of_ble_eq_true rfl) ?_
  refine r_lo [0] (lo2 := [(0, .ref a0)]) rfl ?_
  unfold fX11_clock
  refine r_aload_n (x := a0) dX11_clock_0 rfl rfl ?_
  refine r_cgetI (c := 14) (kk := 6) hc_X11 rfl (by decide) inU_X11 (by decide) uf_X11_41 rfl (by decide) dX11_clock_1 ?_
  exact r_iret rfl dX11_clock_4
def k_X11_makePage : Kd := (yX11_makePage, cX11_makePage, 4, some .int, [])
theorem kv_X11_makePage : KV k_X11_makePage 2 := ⟨uw_mem 824 (by decide +kernel) rfl, uw_mem 94 (by decide +kernel) rfl, uw_mem 823 (by decide +kernel) rfl, uw_mem 53 (by decide +kernel) rfl, ⟨by decide +kernel, by decide +kernel⟩, by decide +kernel, by decide +kernel⟩
set_option maxHeartbeats 8000000 in
set_option maxRecDepth 100000 in
theorem c_X11_makePage {l : Launch} {Γ : Cx} {M0 : Md} (hG : GK Γ l) (a0 : Nat) (a1 : Int) (a2 : Option Nat) (C : Cd) : Ct l Γ k_X11_makePage 10 encI (emC M0) [.ref a0, wi a1, va_rf a2] C (fX11_makePage a0 a1 a2 C) := by
  refine ct_of (by decide +kernel) rfl (by cases a2 <;> exact Nat.le_of_ble_eq_true rfl) ?_
  refine r_lo [0, 1, 2] (lo2 := [(0, .ref a0), (1, wi a1), (2, va_rf a2)]) (by cases a2 <;> rfl) ?_
  unfold fX11_makePage
  refine r_aload_n (x := a0) dX11_makePage_0 rfl rfl ?_
  refine r_dup dX11_makePage_1 rfl ?_
  refine r_cgetI (c := 14) (kk := 6) hc_X11 rfl (by decide) inU_X11 (by decide) uf_X11_41 rfl (by decide) dX11_makePage_2 ?_
  refine ro_iconst (v := 1) dX11_makePage_5 rfl ?_
  refine r_iadd dX11_makePage_6 ?_
  refine r_cputI (c := 14) (kk := 6) hc_X11 rfl (by decide) inU_X11 (by decide) uf_X11_41 rfl tyX11 tyX11_ok nmX11 (fty := .int) (by decide) rfl rfl rfl rfl dX11_makePage_7 (fun C1 _ _ => ?_)
  refine r_aload_n (x := a0) dX11_makePage_10 rfl rfl ?_
  refine r_aloadq_n (x := a2) dX11_makePage_11 rfl rfl ?_
  refine r_aload_n (x := a0) dX11_makePage_12 rfl rfl ?_
  refine r_cgetI (c := 14) (kk := 6) hc_X11 rfl (by decide) inU_X11 (by decide) uf_X11_41 rfl (by decide) dX11_makePage_13 ?_
  refine r_ccVr (c := 14) (k2 := k_X11_makeVersion) (n := 2) (rest := []) um_X11_369 rfl kv_X11_makeVersion hc_X11 (by decide) (c_X11_makeVersion hG _ _ _ _) (by decide) rfl (Nat.le_of_ble_eq_true rfl) dX11_makePage_16 rfl (fun r3 C2 => ?_)
  refine r_astoreq_n (lo2 := [(3, va_rf r3), (0, .ref a0), (1, wi a1), (2, va_rf a2)]) dX11_makePage_19 rfl (by decide) (by cases a2 <;> rfl) ?_
  refine r_aload_n (x := a0) dX11_makePage_20 rfl rfl ?_
  refine r_cgetR (c := 14) (kk := 1) hc_X11 rfl (by decide) inU_X11 (by decide) uf_X11_20 rfl (by decide) dX11_makePage_21 (fun z4 => ?_)
  refine r_iload_n (x := a1) dX11_makePage_24 rfl rfl ?_
  refine r_dref (fun p5 hp5 => ?_)
  subst hp5
  refine r_caald (t := 102) rfl (by decide) (by decide) dX11_makePage_25 (fun z6 => ?_)
  refine r_cnew (c := 6) hc_X3 rfl (by decide) inU_X3 tyX3 tyX3_ok hfs_X3 un_X11_121.1 un_X11_121.2.1 un_X11_121.2.2 dX11_makePage_26 (fun C7 _ => ?_)
  refine r_dup dX11_makePage_29 rfl ?_
  refine r_aloadq_n (x := r3) dX11_makePage_30 rfl rfl ?_
  refine r_ccINv (k2 := k_X3_init) (n := 1) (rest := [.ref (csz C2), va_rf z6]) hG um_X11_373 rfl kv_X3_init (c_X3_init hG _ _ _) (by decide) rfl (by cases z6 <;> exact Nat.le_of_ble_eq_true rfl) dX11_makePage_31 rfl (fun r9 C8 => ?_)
  refine r_dref (fun p10 hp10 => ?_)
  subst hp10
  refine r_cputRN (c := 12) (kk := 3) hc_X9 rfl (by decide) inU_X9 (by decide) hG uf_X11_102 rfl tyX9 tyX9_ok nmX9 (x := (some (csz C2))) (fty := .object "Weaveword$Page") (by decide) rfl (by decide +kernel) ⟨_, Or.inl rfl⟩ dX11_makePage_34 (fun C11 _ _ => ?_)
  refine r_aload_n (x := a0) dX11_makePage_37 rfl rfl ?_
  refine r_iload_n (x := a1) dX11_makePage_38 rfl rfl ?_
  refine r_ccVv (c := 14) (k2 := k_X11_noteTitleChange) (n := 1) (rest := []) um_X11_376 rfl kv_X11_noteTitleChange hc_X11 (by decide) (c_X11_noteTitleChange hG _ _ _) (by decide) rfl (Nat.le_of_ble_eq_true rfl) dX11_makePage_39 rfl (fun r13 C12 => ?_)
  refine r_aloadq_n (x := r3) dX11_makePage_42 rfl rfl ?_
  refine r_dref (fun p14 hp14 => ?_)
  subst hp14
  refine r_cgetIN (c := 13) (kk := 0) hc_X10 rfl (by decide) inU_X10 (by decide) hG uf_X11_226 rfl (by decide) dX11_makePage_43 ?_
  exact r_iret rfl dX11_makePage_46
def k_X11_create : Kd := (yX11_create, cX11_create, 4, some .int, [])
theorem kv_X11_create : KV k_X11_create 1 := ⟨uw_mem 789 (by decide +kernel) rfl, uw_mem 94 (by decide +kernel) rfl, uw_mem 787 (by decide +kernel) rfl, uw_mem 788 (by decide +kernel) rfl, ⟨by decide +kernel, by decide +kernel⟩, by decide +kernel, by decide +kernel⟩
set_option maxHeartbeats 8000000 in
set_option maxRecDepth 100000 in
theorem c_X11_create {l : Launch} {Γ : Cx} {M0 : Md} (hG : GK Γ l) (a0 : Nat) (a1 : Int) (C : Cd) : Ct l Γ k_X11_create 11 (encX gI) (emC M0) [.ref a0, wi a1] C (fX11_create a0 a1 C) := by
  refine ct_of (by decide +kernel) rfl (Nat.le_of_ble_eq_true rfl) ?_
  refine r_lo [0, 1] (lo2 := [(0, .ref a0), (1, wi a1)]) rfl ?_
  unfold fX11_create
  refine r_aload_n (x := a0) dX11_create_0 rfl rfl ?_
  refine r_iload_n (x := a1) dX11_create_1 rfl rfl ?_
  refine r_cxV (c := 14) (h := gR) (k2 := k_X11_titleOf) (n := 1) (rest := []) um_X11_85 rfl kv_X11_titleOf hc_X11 (by decide) (c_X11_titleOf hG _ _ _) (by decide) rfl (Nat.le_of_ble_eq_true rfl) dX11_create_2 rfl (fun r2 C1 => ?_)
  show RunO l Γ k_X11_create 11 (encX gI) (emC M0) 5 [(0, .ref a0), (1, wi a1)] [va_rf r2] C1 _
  refine r_astoreq_n (lo2 := [(2, va_rf r2), (0, .ref a0), (1, wi a1)]) dX11_create_5 rfl (by decide) rfl ?_
  refine r_aloadq_n (x := r2) dX11_create_6 rfl rfl ?_
  refine r_dref (fun p3 hp3 => ?_)
  subst hp3
  refine r_cgetRN (c := 12) (kk := 3) hc_X9 rfl (by decide) inU_X9 (by decide) hG uf_X11_102 rfl (by decide) dX11_create_7 (fun z4 => ?_)
  refine r_join (P := fun (J : Cd → Option ((Int ⊕ Nat) × Cd)) => ∀  (C_40 : Cd), RunO l Γ k_X11_create 11 (encX gI) (emC M0) 40 [] [] C_40 (J C_40)) ?_ (fun J40 hJ40 => ?_)
  · intro C_40
    exact r_throw (e := 1) (text := "no page can be made") hG rfl rfl (by decide) (by decide) (by decide) (Nat.le_of_ble_eq_true rfl) dX11_create_40 dX11_create_43 dX11_create_44 dX11_create_46 dX11_create_49
  refine r_opt (fun hn => ?_) (fun p5 hp5 => ?_)
  · subst hn
    refine r_ifnonnullN dX11_create_10 ?_
    refine r_aload_n (x := a0) dX11_create_13 rfl rfl ?_
    refine r_aload_n (x := p3) dX11_create_14 rfl rfl ?_
    refine r_ccVi (c := 14) (k2 := k_X11_mayActAt) (n := 1) (rest := []) um_X11_91 rfl kv_X11_mayActAt hc_X11 (by decide) (c_X11_mayActAt hG _ _ _) (by decide) rfl (Nat.le_of_ble_eq_true rfl) dX11_create_15 rfl (fun r7 C6 => ?_)
    refine r_if_eq (tgt := 40) dX11_create_18 (by decide) ?_ ?_
    · refine r_lo [] (lo2 := []) rfl ?_
      exact hJ40  C6
    · refine r_aload_n (x := a0) dX11_create_21 rfl rfl ?_
      refine r_cgetR (c := 14) (kk := 3) hc_X11 rfl (by decide) inU_X11 (by decide) uf_X11_31 rfl (by decide) dX11_create_22 (fun z8 => ?_)
      refine r_dref (fun p9 hp9 => ?_)
      subst hp9
      refine r_ccVNi (c := 11) (k2 := k_X8_isText) (n := 0) (rest := []) hG um_X11_106 rfl kv_X8_isText hc_X8 (by decide) (c_X8_isText hG _ _) (by decide) rfl (Nat.le_of_ble_eq_true rfl) dX11_create_25 rfl (fun r11 C10 => ?_)
      refine r_if_eq (tgt := 40) dX11_create_28 (by decide) ?_ ?_
      · refine r_lo [] (lo2 := []) rfl ?_
        exact hJ40  C10
      · refine r_aload_n (x := a0) dX11_create_31 rfl rfl ?_
        refine r_cgetI (c := 14) (kk := 7) hc_X11 rfl (by decide) inU_X11 (by decide) uf_X11_45 rfl (by decide) dX11_create_32 ?_
        refine r_bipush (v := 120) dX11_create_35 rfl ?_
        refine r_icmp_lt (tgt := 50) dX11_create_37 (by decide) ?_ ?_
        · refine r_aload_n (x := a0) dX11_create_50 rfl rfl ?_
          refine r_iload_n (x := a1) dX11_create_51 rfl rfl ?_
          refine r_aload_n (x := a0) dX11_create_52 rfl rfl ?_
          refine r_cgetR (c := 14) (kk := 3) hc_X11 rfl (by decide) inU_X11 (by decide) uf_X11_31 rfl (by decide) dX11_create_53 (fun z12 => ?_)
          refine r_ccVi (c := 14) (k2 := k_X11_makePage) (n := 2) (rest := []) um_X11_112 rfl kv_X11_makePage hc_X11 (by decide) (c_X11_makePage hG _ _ _ _) (by decide) rfl (Nat.le_of_ble_eq_true rfl) dX11_create_56 rfl (fun r14 C13 => ?_)
          refine r_istore_n (lo2 := [(3, wi r14), (2, .ref p3), (0, .ref a0), (1, wi a1)]) dX11_create_59 rfl (by decide) rfl ?_
          refine r_aload_n (x := a0) dX11_create_60 rfl rfl ?_
          refine r_cgetR (c := 14) (kk := 3) hc_X11 rfl (by decide) inU_X11 (by decide) uf_X11_31 rfl (by decide) dX11_create_61 (fun z15 => ?_)
          refine r_dref (fun p16 hp16 => ?_)
          subst hp16
          refine r_ccVNv (c := 11) (k2 := k_X8_clear) (n := 0) (rest := []) hG um_X11_80 rfl kv_X8_clear hc_X8 (by decide) (c_X8_clear hG _ _) (by decide) rfl (Nat.le_of_ble_eq_true rfl) dX11_create_64 rfl (fun r18 C17 => ?_)
          refine r_iload_n (x := r14) dX11_create_67 rfl rfl ?_
          exact r_iretX rfl dX11_create_68
        · refine r_lo [] (lo2 := []) rfl ?_
          exact hJ40  C10
  · subst hp5
    refine r_ifnonnullS (a := p5) (tgt := 40) dX11_create_10 (by decide) ?_
    refine r_lo [] (lo2 := []) rfl ?_
    exact hJ40  C1
def k_X11_mean : Kd := (yX11_mean, cX11_mean, 5, none, [])
theorem kv_X11_mean : KV k_X11_mean 2 := ⟨uw_mem 1034 (by decide +kernel) rfl, uw_mem 94 (by decide +kernel) rfl, uw_mem 1033 (by decide +kernel) rfl, uw_mem 69 (by decide +kernel) rfl, ⟨by decide +kernel, by decide +kernel⟩, by decide +kernel, by decide +kernel⟩
set_option maxHeartbeats 8000000 in
set_option maxRecDepth 100000 in
theorem c_X11_mean {l : Launch} {Γ : Cx} {M0 : Md} (hG : GK Γ l) (a0 : Nat) (a1 : Option Nat) (a2 : Int) (C : Cd) : Ct l Γ k_X11_mean 3 encV (emC M0) [.ref a0, va_rf a1, wi a2] C (fX11_mean a0 a1 a2 C) := by
  refine ct_of (by decide +kernel) rfl (by cases a1 <;> exact Nat.le_of_ble_eq_true rfl) ?_
  refine r_lo [0, 1, 2] (lo2 := [(0, .ref a0), (1, va_rf a1), (2, wi a2)]) (by cases a1 <;> rfl) ?_
  unfold fX11_mean
  refine r_aload_n (x := a0) dX11_mean_0 rfl rfl ?_
  refine r_cgetR (c := 14) (kk := 4) hc_X11 rfl (by decide) inU_X11 (by decide) uf_X11_35 rfl (by decide) dX11_mean_1 (fun z1 => ?_)
  refine r_dref (fun p2 hp2 => ?_)
  subst hp2
  refine r_ccVNv (c := 11) (k2 := k_X8_clear) (n := 0) (rest := []) hG um_X11_80 rfl kv_X8_clear hc_X8 (by decide) (c_X8_clear hG _ _) (by decide) rfl (Nat.le_of_ble_eq_true rfl) dX11_mean_4 rfl (fun r4 C3 => ?_)
  refine r_iload_n (x := a2) dX11_mean_7 rfl rfl ?_
  refine ro_iconst (v := (-1)) dX11_mean_8 rfl ?_
  refine r_icmp_ne (tgt := 32) dX11_mean_9 (by decide) ?_ ?_
  · refine r_aloadq_n (x := a1) dX11_mean_32 rfl rfl ?_
    refine r_iload_n (x := a2) dX11_mean_33 rfl rfl ?_
    refine r_dref (fun p5 hp5 => ?_)
    subst hp5
    refine r_ccVNi (c := 11) (k2 := k_X8_sectionStart) (n := 1) (rest := []) hG um_X11_353 rfl kv_X8_sectionStart hc_X8 (by decide) (c_X8_sectionStart hG _ _ _) (by decide) rfl (Nat.le_of_ble_eq_true rfl) dX11_mean_34 rfl (fun r7 C6 => ?_)
    refine r_istore_n (lo2 := [(3, wi r7), (0, .ref a0), (1, .ref p5), (2, wi a2)]) dX11_mean_37 rfl (by decide) rfl ?_
    refine r_aload_n (x := p5) dX11_mean_38 rfl rfl ?_
    refine r_iload_n (x := a2) dX11_mean_39 rfl rfl ?_
    refine ro_iconst (v := 1) dX11_mean_40 rfl ?_
    refine r_iadd dX11_mean_41 ?_
    refine r_ccVNi (c := 11) (k2 := k_X8_sectionStart) (n := 1) (rest := []) hG um_X11_353 rfl kv_X8_sectionStart hc_X8 (by decide) (c_X8_sectionStart hG _ _ _) (by decide) rfl (Nat.le_of_ble_eq_true rfl) dX11_mean_42 rfl (fun r9 C8 => ?_)
    refine r_istore (lo2 := [(4, wi r9), (3, wi r7), (0, .ref a0), (1, .ref p5), (2, wi a2)]) dX11_mean_45 (by decide) rfl ?_
    refine r_aload_n (x := a0) dX11_mean_47 rfl rfl ?_
    refine r_cgetR (c := 14) (kk := 4) hc_X11 rfl (by decide) inU_X11 (by decide) uf_X11_35 rfl (by decide) dX11_mean_48 (fun z10 => ?_)
    refine r_aload_n (x := p5) dX11_mean_51 rfl rfl ?_
    refine ro_iconst (v := 0) dX11_mean_52 rfl ?_
    refine r_iload_n (x := r7) dX11_mean_53 rfl rfl ?_
    refine r_dref (fun p11 hp11 => ?_)
    subst hp11
    refine r_ccVNv (c := 11) (k2 := k_X8_addStretch) (n := 3) (rest := []) hG um_X11_349 rfl kv_X8_addStretch hc_X8 (by decide) (c_X8_addStretch hG _ _ _ _ _) (by decide) rfl (Nat.le_of_ble_eq_true rfl) dX11_mean_54 rfl (fun r13 C12 => ?_)
    refine r_aload_n (x := a0) dX11_mean_57 rfl rfl ?_
    refine r_cgetR (c := 14) (kk := 4) hc_X11 rfl (by decide) inU_X11 (by decide) uf_X11_35 rfl (by decide) dX11_mean_58 (fun z14 => ?_)
    refine r_aload_n (x := a0) dX11_mean_61 rfl rfl ?_
    refine r_cgetR (c := 14) (kk := 3) hc_X11 rfl (by decide) inU_X11 (by decide) uf_X11_31 rfl (by decide) dX11_mean_62 (fun z15 => ?_)
    refine ro_iconst (v := 0) dX11_mean_65 rfl ?_
    refine r_aload_n (x := a0) dX11_mean_66 rfl rfl ?_
    refine r_cgetR (c := 14) (kk := 3) hc_X11 rfl (by decide) inU_X11 (by decide) uf_X11_31 rfl (by decide) dX11_mean_67 (fun z16 => ?_)
    refine r_dref (fun p17 hp17 => ?_)
    subst hp17
    refine r_cgetIN (c := 11) (kk := 2) hc_X8 rfl (by decide) inU_X8 (by decide) hG uf_X11_69 rfl (by decide) dX11_mean_70 ?_
    refine r_dref (fun p18 hp18 => ?_)
    subst hp18
    refine r_ccVNv (c := 11) (k2 := k_X8_addStretch) (n := 3) (rest := []) hG um_X11_349 rfl kv_X8_addStretch hc_X8 (by decide) (c_X8_addStretch hG _ _ _ _ _) (by decide) rfl (Nat.le_of_ble_eq_true rfl) dX11_mean_73 rfl (fun r20 C19 => ?_)
    refine r_aload_n (x := a0) dX11_mean_76 rfl rfl ?_
    refine r_cgetR (c := 14) (kk := 4) hc_X11 rfl (by decide) inU_X11 (by decide) uf_X11_35 rfl (by decide) dX11_mean_77 (fun z21 => ?_)
    refine r_aload_n (x := p5) dX11_mean_80 rfl rfl ?_
    refine r_iload (x := r9) dX11_mean_81 rfl ?_
    refine r_aload_n (x := p5) dX11_mean_83 rfl rfl ?_
    refine r_cgetIN (c := 11) (kk := 2) hc_X8 rfl (by decide) inU_X8 (by decide) hG uf_X11_69 rfl (by decide) dX11_mean_84 ?_
    refine r_dref (fun p22 hp22 => ?_)
    subst hp22
    refine r_ccVNv (c := 11) (k2 := k_X8_addStretch) (n := 3) (rest := []) hG um_X11_349 rfl kv_X8_addStretch hc_X8 (by decide) (c_X8_addStretch hG _ _ _ _ _) (by decide) rfl (Nat.le_of_ble_eq_true rfl) dX11_mean_87 rfl (fun r24 C23 => ?_)
    exact r_vret rfl dX11_mean_90
  · refine r_aload_n (x := a0) dX11_mean_12 rfl rfl ?_
    refine r_cgetR (c := 14) (kk := 4) hc_X11 rfl (by decide) inU_X11 (by decide) uf_X11_35 rfl (by decide) dX11_mean_13 (fun z25 => ?_)
    refine r_aload_n (x := a0) dX11_mean_16 rfl rfl ?_
    refine r_cgetR (c := 14) (kk := 3) hc_X11 rfl (by decide) inU_X11 (by decide) uf_X11_31 rfl (by decide) dX11_mean_17 (fun z26 => ?_)
    refine ro_iconst (v := 0) dX11_mean_20 rfl ?_
    refine r_aload_n (x := a0) dX11_mean_21 rfl rfl ?_
    refine r_cgetR (c := 14) (kk := 3) hc_X11 rfl (by decide) inU_X11 (by decide) uf_X11_31 rfl (by decide) dX11_mean_22 (fun z27 => ?_)
    refine r_dref (fun p28 hp28 => ?_)
    subst hp28
    refine r_cgetIN (c := 11) (kk := 2) hc_X8 rfl (by decide) inU_X8 (by decide) hG uf_X11_69 rfl (by decide) dX11_mean_25 ?_
    refine r_dref (fun p29 hp29 => ?_)
    subst hp29
    refine r_ccVNv (c := 11) (k2 := k_X8_addStretch) (n := 3) (rest := []) hG um_X11_349 rfl kv_X8_addStretch hc_X8 (by decide) (c_X8_addStretch hG _ _ _ _ _) (by decide) rfl (Nat.le_of_ble_eq_true rfl) dX11_mean_28 rfl (fun r31 C30 => ?_)
    exact r_vret rfl dX11_mean_31
def k_X11_merge : Kd := (yX11_merge, cX11_merge, 7, some .boolean, [])
theorem kv_X11_merge : KV k_X11_merge 4 := ⟨uw_mem 1043 (by decide +kernel) rfl, uw_mem 94 (by decide +kernel) rfl, uw_mem 1042 (by decide +kernel) rfl, uw_mem 71 (by decide +kernel) rfl, ⟨by decide +kernel, by decide +kernel⟩, by decide +kernel, by decide +kernel⟩
set_option maxHeartbeats 8000000 in
set_option maxRecDepth 100000 in
theorem c_X11_merge {l : Launch} {Γ : Cx} {M0 : Md} (hG : GK Γ l) (a0 : Nat) (a1 : Option Nat) (a2 : Option Nat) (a3 : Option Nat) (a4 : Int) (C : Cd) : Ct l Γ k_X11_merge 4 encI (emC M0) [.ref a0, va_rf a1, va_rf a2, va_rf a3, wi a4] C (fX11_merge a0 a1 a2 a3 a4 C) := by
  refine ct_of (by decide +kernel) rfl (by cases a1 <;> cases a2 <;> cases a3 <;> exact Nat.le_of_ble_eq_true rfl) ?_
  refine r_lo [0, 1, 2, 3, 4] (lo2 := [(0, .ref a0), (1, va_rf a1), (2, va_rf a2), (3, va_rf a3), (4, wi a4)]) (by cases a1 <;> cases a2 <;> cases a3 <;> rfl) ?_
  unfold fX11_merge
  refine r_aloadq_n (x := a1) dX11_merge_0 rfl rfl ?_
  refine r_dref (fun p1 hp1 => ?_)
  subst hp1
  refine r_ccVNi (c := 11) (k2 := k_X8_sections) (n := 0) (rest := []) hG um_X11_135 rfl kv_X8_sections hc_X8 (by decide) (c_X8_sections hG _ _) (by decide) rfl (Nat.le_of_ble_eq_true rfl) dX11_merge_1 rfl (fun r3 C2 => ?_)
  refine r_istore (lo2 := [(5, wi r3), (0, .ref a0), (1, .ref p1), (2, va_rf a2), (3, va_rf a3), (4, wi a4)]) dX11_merge_4 (by decide) rfl ?_
  refine r_aloadq_n (x := a2) dX11_merge_6 rfl rfl ?_
  refine r_dref (fun p4 hp4 => ?_)
  subst hp4
  refine r_ccVNi (c := 11) (k2 := k_X8_sections) (n := 0) (rest := []) hG um_X11_135 rfl kv_X8_sections hc_X8 (by decide) (c_X8_sections hG _ _) (by decide) rfl (Nat.le_of_ble_eq_true rfl) dX11_merge_7 rfl (fun r6 C5 => ?_)
  refine r_iload (x := r3) dX11_merge_10 rfl ?_
  refine r_join (P := fun (J : Cd → Option (Int × Cd)) => ∀  (C_24 : Cd), RunO l Γ k_X11_merge 4 encI (emC M0) 24 [] [] C_24 (J C_24)) ?_ (fun J24 hJ24 => ?_)
  · intro C_24
    refine ro_iconst (v := 0) dX11_merge_24 rfl ?_
    exact r_zret0 (by first | exact Or.inl rfl | exact Or.inr rfl) rfl dX11_merge_25
  refine r_icmp_ne (tgt := 24) dX11_merge_12 (by decide) ?_ ?_
  · refine r_lo [] (lo2 := []) rfl ?_
    exact hJ24  C5
  · refine r_aloadq_n (x := a3) dX11_merge_15 rfl rfl ?_
    refine r_dref (fun p7 hp7 => ?_)
    subst hp7
    refine r_ccVNi (c := 11) (k2 := k_X8_sections) (n := 0) (rest := []) hG um_X11_135 rfl kv_X8_sections hc_X8 (by decide) (c_X8_sections hG _ _) (by decide) rfl (Nat.le_of_ble_eq_true rfl) dX11_merge_16 rfl (fun r9 C8 => ?_)
    refine r_iload (x := r3) dX11_merge_19 rfl ?_
    refine r_icmp_eq (tgt := 26) dX11_merge_21 (by decide) ?_ ?_
    · refine r_aload_n (x := a0) dX11_merge_26 rfl rfl ?_
      refine r_cgetR (c := 14) (kk := 5) hc_X11 rfl (by decide) inU_X11 (by decide) uf_X11_38 rfl (by decide) dX11_merge_27 (fun z10 => ?_)
      refine r_dref (fun p11 hp11 => ?_)
      subst hp11
      refine r_ccVNv (c := 11) (k2 := k_X8_clear) (n := 0) (rest := []) hG um_X11_80 rfl kv_X8_clear hc_X8 (by decide) (c_X8_clear hG _ _) (by decide) rfl (Nat.le_of_ble_eq_true rfl) dX11_merge_30 rfl (fun r13 C12 => ?_)
      refine ro_iconst (v := 0) dX11_merge_33 rfl ?_
      refine r_istore (lo2 := [(6, wi 0), (5, wi r3), (0, .ref a0), (1, .ref p1), (2, .ref p4), (3, .ref p7), (4, wi a4)]) dX11_merge_34 (by decide) rfl ?_
      refine r_loop (P := fun (J : Int → Cd → Option (Int × Cd)) => ∀ (v6_36 : Int) (C_36 : Cd), RunO l Γ k_X11_merge 4 encI (emC M0) 36 [(0, .ref a0), (1, .ref p1), (2, .ref p4), (3, .ref p7), (4, wi a4), (5, wi r3), (6, wi v6_36)] [] C_36 (J v6_36 C_36)) ?_ (fun L36 hL36 => ?_) (fun J36 hJ36 => ?_)
      · intros; exact ro_none
      · intro v6_36 C_36
        refine r_iload (x := v6_36) dX11_merge_36 rfl ?_
        refine r_iload (x := r3) dX11_merge_38 rfl ?_
        refine r_icmp_ge (tgt := 112) dX11_merge_40 (by decide) ?_ ?_
        · refine ro_iconst (v := 1) dX11_merge_112 rfl ?_
          exact r_zret0 (by first | exact Or.inl rfl | exact Or.inr rfl) rfl dX11_merge_113
        · refine r_aload_n (x := p4) dX11_merge_43 rfl rfl ?_
          refine r_aload_n (x := p1) dX11_merge_44 rfl rfl ?_
          refine r_iload (x := v6_36) dX11_merge_45 rfl ?_
          refine r_ccVNi (c := 11) (k2 := k_X8_sameSection) (n := 2) (rest := []) hG um_X11_356 rfl kv_X8_sameSection hc_X8 (by decide) (c_X8_sameSection hG _ _ _ _) (by decide) rfl (Nat.le_of_ble_eq_true rfl) dX11_merge_47 rfl (fun r15 C14 => ?_)
          refine r_join (P := fun (J : Cd → Option (Int × Cd)) => ∀  (C_106 : Cd), RunO l Γ k_X11_merge 4 encI (emC M0) 106 [(0, .ref a0), (1, .ref p1), (2, .ref p4), (3, .ref p7), (4, wi a4), (5, wi r3), (6, wi v6_36)] [] C_106 (J C_106)) ?_ (fun J106 hJ106 => ?_)
          · intro C_106
            refine r_iinc (x := v6_36) (lo2 := [(6, wi (v6_36 + 1)), (0, .ref a0), (1, .ref p1), (2, .ref p4), (3, .ref p7), (4, wi a4), (5, wi r3)]) dX11_merge_106 rfl (by decide) rfl ?_
            refine r_goto (tgt := 36) dX11_merge_109 (by decide) ?_
            refine r_lo [1, 2, 3, 4, 5, 6, 0] (lo2 := [(0, .ref a0), (1, .ref p1), (2, .ref p4), (3, .ref p7), (4, wi a4), (5, wi r3), (6, wi (v6_36 + 1))]) rfl ?_
            exact hL36 (v6_36 + 1) C_106
          refine r_if_eq (tgt := 66) dX11_merge_50 (by decide) ?_ ?_
          · refine r_aload_n (x := p7) dX11_merge_66 rfl rfl ?_
            refine r_aload_n (x := p1) dX11_merge_67 rfl rfl ?_
            refine r_iload (x := v6_36) dX11_merge_68 rfl ?_
            refine r_ccVNi (c := 11) (k2 := k_X8_sameSection) (n := 2) (rest := []) hG um_X11_356 rfl kv_X8_sameSection hc_X8 (by decide) (c_X8_sameSection hG _ _ _ _) (by decide) rfl (Nat.le_of_ble_eq_true rfl) dX11_merge_70 rfl (fun r17 C16 => ?_)
            refine r_join (P := fun (J : Cd → Option (Int × Cd)) => ∀  (C_91 : Cd), RunO l Γ k_X11_merge 4 encI (emC M0) 91 [(0, .ref a0), (1, .ref p1), (2, .ref p4), (3, .ref p7), (4, wi a4), (5, wi r3), (6, wi v6_36)] [] C_91 (J C_91)) ?_ (fun J91 hJ91 => ?_)
            · intro C_91
              refine r_aload_n (x := a0) dX11_merge_91 rfl rfl ?_
              refine r_cgetR (c := 14) (kk := 5) hc_X11 rfl (by decide) inU_X11 (by decide) uf_X11_38 rfl (by decide) dX11_merge_92 (fun z18 => ?_)
              refine r_aload_n (x := p4) dX11_merge_95 rfl rfl ?_
              refine r_iload (x := v6_36) dX11_merge_96 rfl ?_
              refine r_dref (fun p19 hp19 => ?_)
              subst hp19
              refine r_ccVNv (c := 11) (k2 := k_X8_addSection) (n := 2) (rest := []) hG um_X11_360 rfl kv_X8_addSection hc_X8 (by decide) (c_X8_addSection hG _ _ _ _) (by decide) rfl (Nat.le_of_ble_eq_true rfl) dX11_merge_98 rfl (fun r21 C20 => ?_)
              refine r_goto (tgt := 106) dX11_merge_101 (by decide) ?_
              exact hJ106  C20
            refine r_if_ne (tgt := 91) dX11_merge_73 (by decide) ?_ ?_
            · exact hJ91  C16
            · refine r_iload (x := a4) dX11_merge_76 rfl ?_
              refine r_join (P := fun (J : Cd → Option (Int × Cd)) => ∀  (C_104 : Cd), RunO l Γ k_X11_merge 4 encI (emC M0) 104 [] [] C_104 (J C_104)) ?_ (fun J104 hJ104 => ?_)
              · intro C_104
                refine ro_iconst (v := 0) dX11_merge_104 rfl ?_
                exact r_zret0 (by first | exact Or.inl rfl | exact Or.inr rfl) rfl dX11_merge_105
              refine r_if_eq (tgt := 104) dX11_merge_78 (by decide) ?_ ?_
              · refine r_lo [] (lo2 := []) rfl ?_
                exact hJ104  C16
              · refine r_aload_n (x := p7) dX11_merge_81 rfl rfl ?_
                refine r_aload_n (x := p4) dX11_merge_82 rfl rfl ?_
                refine r_iload (x := v6_36) dX11_merge_83 rfl ?_
                refine r_ccVNi (c := 11) (k2 := k_X8_sameSection) (n := 2) (rest := []) hG um_X11_356 rfl kv_X8_sameSection hc_X8 (by decide) (c_X8_sameSection hG _ _ _ _) (by decide) rfl (Nat.le_of_ble_eq_true rfl) dX11_merge_85 rfl (fun r23 C22 => ?_)
                refine r_if_eq (tgt := 104) dX11_merge_88 (by decide) ?_ ?_
                · refine r_lo [] (lo2 := []) rfl ?_
                  exact hJ104  C22
                · exact hJ91  C22
          · refine r_aload_n (x := a0) dX11_merge_53 rfl rfl ?_
            refine r_cgetR (c := 14) (kk := 5) hc_X11 rfl (by decide) inU_X11 (by decide) uf_X11_38 rfl (by decide) dX11_merge_54 (fun z24 => ?_)
            refine r_aload_n (x := p7) dX11_merge_57 rfl rfl ?_
            refine r_iload (x := v6_36) dX11_merge_58 rfl ?_
            refine r_dref (fun p25 hp25 => ?_)
            subst hp25
            refine r_ccVNv (c := 11) (k2 := k_X8_addSection) (n := 2) (rest := []) hG um_X11_360 rfl kv_X8_addSection hc_X8 (by decide) (c_X8_addSection hG _ _ _ _) (by decide) rfl (Nat.le_of_ble_eq_true rfl) dX11_merge_60 rfl (fun r27 C26 => ?_)
            refine r_goto (tgt := 106) dX11_merge_63 (by decide) ?_
            exact hJ106  C26
      refine r_lo [2, 3, 4, 5, 6, 1, 0] (lo2 := [(0, .ref a0), (1, .ref p1), (2, .ref p4), (3, .ref p7), (4, wi a4), (5, wi r3), (6, wi 0)]) rfl ?_
      exact hJ36 0 C12
    · refine r_lo [] (lo2 := []) rfl ?_
      exact hJ24  C8
def k_X11_edit : Kd := (yX11_edit, cX11_edit, 10, some .int, [])
theorem kv_X11_edit : KV k_X11_edit 3 := ⟨uw_mem 993 (by decide +kernel) rfl, uw_mem 94 (by decide +kernel) rfl, uw_mem 991 (by decide +kernel) rfl, uw_mem 992 (by decide +kernel) rfl, ⟨by decide +kernel, by decide +kernel⟩, by decide +kernel, by decide +kernel⟩
set_option maxHeartbeats 8000000 in
set_option maxRecDepth 100000 in
theorem c_X11_edit {l : Launch} {Γ : Cx} {M0 : Md} (hG : GK Γ l) (a0 : Nat) (a1 : Int) (a2 : Int) (a3 : Int) (C : Cd) : Ct l Γ k_X11_edit 12 (encX gI) (emC M0) [.ref a0, wi a1, wi a2, wi a3] C (fX11_edit a0 a1 a2 a3 C) := by
  refine ct_of (by decide +kernel) rfl (Nat.le_of_ble_eq_true rfl) ?_
  refine r_lo [0, 1, 2, 3] (lo2 := [(0, .ref a0), (1, wi a1), (2, wi a2), (3, wi a3)]) rfl ?_
  unfold fX11_edit
  refine r_aload_n (x := a0) dX11_edit_0 rfl rfl ?_
  refine r_iload_n (x := a1) dX11_edit_1 rfl rfl ?_
  refine r_cxV (c := 14) (h := gR) (k2 := k_X11_pageOf) (n := 1) (rest := []) um_X11_116 rfl kv_X11_pageOf hc_X11 (by decide) (c_X11_pageOf hG _ _ _) (by decide) rfl (Nat.le_of_ble_eq_true rfl) dX11_edit_2 rfl (fun r2 C1 => ?_)
  show RunO l Γ k_X11_edit 12 (encX gI) (emC M0) 5 [(0, .ref a0), (1, wi a1), (2, wi a2), (3, wi a3)] [va_rf r2] C1 _
  refine r_astoreq (lo2 := [(4, va_rf r2), (0, .ref a0), (1, wi a1), (2, wi a2), (3, wi a3)]) dX11_edit_5 (by decide) rfl ?_
  refine r_aloadq (x := r2) dX11_edit_7 rfl ?_
  refine r_iload_n (x := a2) dX11_edit_9 rfl rfl ?_
  refine r_dref (fun p3 hp3 => ?_)
  subst hp3
  refine r_ccVNi (c := 6) (k2 := k_X3_indexOf) (n := 1) (rest := []) hG um_X11_120 rfl kv_X3_indexOf hc_X3 (by decide) (c_X3_indexOf hG _ _ _) (by decide) rfl (Nat.le_of_ble_eq_true rfl) dX11_edit_10 rfl (fun r5 C4 => ?_)
  refine r_istore (lo2 := [(5, wi r5), (4, .ref p3), (0, .ref a0), (1, wi a1), (2, wi a2), (3, wi a3)]) dX11_edit_13 (by decide) rfl ?_
  refine r_aload (x := p3) dX11_edit_15 rfl ?_
  refine r_iload (x := r5) dX11_edit_17 rfl ?_
  refine r_ccVNr (c := 6) (k2 := k_X3_versionAtIndex) (n := 1) (rest := []) hG um_X11_126 rfl kv_X3_versionAtIndex hc_X3 (by decide) (c_X3_versionAtIndex hG _ _ _) (by decide) rfl (Nat.le_of_ble_eq_true rfl) dX11_edit_19 rfl (fun r7 C6 => ?_)
  refine r_astoreq (lo2 := [(6, va_rf r7), (5, wi r5), (4, .ref p3), (0, .ref a0), (1, wi a1), (2, wi a2), (3, wi a3)]) dX11_edit_22 (by decide) rfl ?_
  refine r_aloadq (x := r7) dX11_edit_24 rfl ?_
  refine r_join (P := fun (J : Cd → Option ((Int ⊕ Nat) × Cd)) => ∀  (C_46 : Cd), RunO l Γ k_X11_edit 12 (encX gI) (emC M0) 46 [] [] C_46 (J C_46)) ?_ (fun J46 hJ46 => ?_)
  · intro C_46
    exact r_throw (e := 2) (text := "no such version or section") hG rfl rfl (by decide) (by decide) (by decide) (Nat.le_of_ble_eq_true rfl) dX11_edit_46 dX11_edit_49 dX11_edit_50 dX11_edit_52 dX11_edit_55
  refine r_opt (fun hn => ?_) (fun p8 hp8 => ?_)
  · subst hn
    refine r_ifnullN (tgt := 46) dX11_edit_26 (by decide) ?_
    refine r_lo [] (lo2 := []) rfl ?_
    exact hJ46  C6
  · subst hp8
    refine r_ifnullS (a := p8) dX11_edit_26 ?_
    refine r_iload_n (x := a3) dX11_edit_29 rfl rfl ?_
    refine ro_iconst (v := (-1)) dX11_edit_30 rfl ?_
    refine r_icmp_lt (tgt := 46) dX11_edit_31 (by decide) ?_ ?_
    · refine r_lo [] (lo2 := []) rfl ?_
      exact hJ46  C6
    · refine r_iload_n (x := a3) dX11_edit_34 rfl rfl ?_
      refine r_aload (x := p8) dX11_edit_35 rfl ?_
      refine r_cgetRN (c := 13) (kk := 2) hc_X10 rfl (by decide) inU_X10 (by decide) hG uf_X11_130 rfl (by decide) dX11_edit_37 (fun z9 => ?_)
      refine r_dref (fun p10 hp10 => ?_)
      subst hp10
      refine r_ccVNi (c := 11) (k2 := k_X8_sections) (n := 0) (rest := [wi a3]) hG um_X11_135 rfl kv_X8_sections hc_X8 (by decide) (c_X8_sections hG _ _) (by decide) rfl (Nat.le_of_ble_eq_true rfl) dX11_edit_40 rfl (fun r12 C11 => ?_)
      refine r_icmp_lt (tgt := 56) dX11_edit_43 (by decide) ?_ ?_
      · refine r_aload_n (x := a0) dX11_edit_56 rfl rfl ?_
        refine r_cgetR (c := 14) (kk := 4) hc_X11 rfl (by decide) inU_X11 (by decide) uf_X11_35 rfl (by decide) dX11_edit_57 (fun z13 => ?_)
        refine r_astoreq (lo2 := [(7, va_rf z13), (6, .ref p8), (5, wi r5), (4, .ref p3), (0, .ref a0), (1, wi a1), (2, wi a2), (3, wi a3)]) dX11_edit_60 (by decide) rfl ?_
        refine r_aload_n (x := a0) dX11_edit_62 rfl rfl ?_
        refine r_aload (x := p8) dX11_edit_63 rfl ?_
        refine r_cgetRN (c := 13) (kk := 2) hc_X10 rfl (by decide) inU_X10 (by decide) hG uf_X11_130 rfl (by decide) dX11_edit_65 (fun z14 => ?_)
        refine r_iload_n (x := a3) dX11_edit_68 rfl rfl ?_
        refine r_ccVv (c := 14) (k2 := k_X11_mean) (n := 2) (rest := []) um_X11_144 rfl kv_X11_mean hc_X11 (by decide) (c_X11_mean hG _ _ _ _) (by decide) rfl (Nat.le_of_ble_eq_true rfl) dX11_edit_69 rfl (fun r16 C15 => ?_)
        refine r_aload_n (x := a0) dX11_edit_72 rfl rfl ?_
        refine r_aload_n (x := a0) dX11_edit_73 rfl rfl ?_
        refine r_cgetR (c := 14) (kk := 1) hc_X11 rfl (by decide) inU_X11 (by decide) uf_X11_20 rfl (by decide) dX11_edit_74 (fun z17 => ?_)
        refine r_iload_n (x := a1) dX11_edit_77 rfl rfl ?_
        refine r_dref (fun p18 hp18 => ?_)
        subst hp18
        refine r_caald (t := 102) rfl (by decide) (by decide) dX11_edit_78 (fun z19 => ?_)
        refine r_ccVi (c := 14) (k2 := k_X11_mayActAt) (n := 1) (rest := []) um_X11_91 rfl kv_X11_mayActAt hc_X11 (by decide) (c_X11_mayActAt hG _ _ _) (by decide) rfl (Nat.le_of_ble_eq_true rfl) dX11_edit_79 rfl (fun r21 C20 => ?_)
        refine r_join (P := fun (J : Int → Cd → Option ((Int ⊕ Nat) × Cd)) => ∀ (t0_99 : Int) (C_99 : Cd), RunO l Γ k_X11_edit 12 (encX gI) (emC M0) 99 [(0, .ref a0), (1, wi a1), (4, .ref p3), (6, .ref p8), (7, va_rf z13)] [wi t0_99] C_99 (J t0_99 C_99)) ?_ (fun J99 hJ99 => ?_)
        · intro t0_99 C_99
          refine r_istore (lo2 := [(8, wi t0_99), (0, .ref a0), (1, wi a1), (4, .ref p3), (6, .ref p8), (7, va_rf z13)]) dX11_edit_99 (by decide) (by cases z13 <;> rfl) ?_
          refine r_iload (x := t0_99) dX11_edit_101 rfl ?_
          refine r_join (P := fun (J : Option Nat → Int → Cd → Option ((Int ⊕ Nat) × Cd)) => ∀ (v7_146 : Option Nat) (v8_146 : Int) (C_146 : Cd), RunO l Γ k_X11_edit 12 (encX gI) (emC M0) 146 [(0, .ref a0), (1, wi a1), (4, .ref p3), (7, va_rf v7_146), (8, wi v8_146)] [] C_146 (J v7_146 v8_146 C_146)) ?_ (fun J146 hJ146 => ?_)
          · intro v7_146 v8_146 C_146
            refine r_iload (x := v8_146) dX11_edit_146 rfl ?_
            refine r_join (P := fun (J : Cd → Option ((Int ⊕ Nat) × Cd)) => ∀  (C_175 : Cd), RunO l Γ k_X11_edit 12 (encX gI) (emC M0) 175 [] [] C_175 (J C_175)) ?_ (fun J175 hJ175 => ?_)
            · intro C_175
              exact r_throw (e := 1) (text := "no such edit is possible") hG rfl rfl (by decide) (by decide) (by decide) (Nat.le_of_ble_eq_true rfl) dX11_edit_175 dX11_edit_178 dX11_edit_179 dX11_edit_181 dX11_edit_184
            refine r_if_eq (tgt := 175) dX11_edit_148 (by decide) ?_ ?_
            · refine r_lo [] (lo2 := []) rfl ?_
              exact hJ175  C_146
            · refine r_aloadq (x := v7_146) dX11_edit_151 rfl ?_
              refine r_dref (fun p22 hp22 => ?_)
              subst hp22
              refine r_ccVNi (c := 11) (k2 := k_X8_isText) (n := 0) (rest := []) hG um_X11_106 rfl kv_X8_isText hc_X8 (by decide) (c_X8_isText hG _ _) (by decide) rfl (Nat.le_of_ble_eq_true rfl) dX11_edit_153 rfl (fun r24 C23 => ?_)
              refine r_if_eq (tgt := 175) dX11_edit_156 (by decide) ?_ ?_
              · refine r_lo [] (lo2 := []) rfl ?_
                exact hJ175  C23
              · refine r_aload (x := p22) dX11_edit_159 rfl ?_
                refine r_aload (x := p3) dX11_edit_161 rfl ?_
                refine r_cgetRN (c := 6) (kk := 1) hc_X3 rfl (by decide) inU_X3 (by decide) hG uf_X11_148 rfl (by decide) dX11_edit_163 (fun z25 => ?_)
                refine r_dref (fun p26 hp26 => ?_)
                subst hp26
                refine r_cgetRN (c := 13) (kk := 2) hc_X10 rfl (by decide) inU_X10 (by decide) hG uf_X11_130 rfl (by decide) dX11_edit_166 (fun z27 => ?_)
                refine r_ccVNi (c := 11) (k2 := k_X8_sameAs) (n := 1) (rest := []) hG um_X11_156 rfl kv_X8_sameAs hc_X8 (by decide) (c_X8_sameAs hG _ _ _) (by decide) rfl (Nat.le_of_ble_eq_true rfl) dX11_edit_169 rfl (fun r29 C28 => ?_)
                refine r_if_eq (tgt := 185) dX11_edit_172 (by decide) ?_ ?_
                · refine r_aload_n (x := a0) dX11_edit_185 rfl rfl ?_
                  refine r_iload_n (x := a1) dX11_edit_186 rfl rfl ?_
                  refine r_aload (x := p3) dX11_edit_187 rfl ?_
                  refine r_aload (x := p22) dX11_edit_189 rfl ?_
                  refine r_ccVi (c := 14) (k2 := k_X11_addNextVersion) (n := 3) (rest := []) um_X11_162 rfl kv_X11_addNextVersion hc_X11 (by decide) (c_X11_addNextVersion hG _ _ _ _ _) (by decide) rfl (Nat.le_of_ble_eq_true rfl) dX11_edit_191 rfl (fun r31 C30 => ?_)
                  refine r_istore (lo2 := [(9, wi r31), (0, .ref a0), (1, wi a1), (4, .ref p3), (7, .ref p22), (8, wi v8_146)]) dX11_edit_194 (by decide) rfl ?_
                  refine r_aload_n (x := a0) dX11_edit_196 rfl rfl ?_
                  refine r_cgetR (c := 14) (kk := 3) hc_X11 rfl (by decide) inU_X11 (by decide) uf_X11_31 rfl (by decide) dX11_edit_197 (fun z32 => ?_)
                  refine r_dref (fun p33 hp33 => ?_)
                  subst hp33
                  refine r_ccVNv (c := 11) (k2 := k_X8_clear) (n := 0) (rest := []) hG um_X11_80 rfl kv_X8_clear hc_X8 (by decide) (c_X8_clear hG _ _) (by decide) rfl (Nat.le_of_ble_eq_true rfl) dX11_edit_200 rfl (fun r35 C34 => ?_)
                  refine r_iload (x := r31) dX11_edit_203 rfl ?_
                  exact r_iretX rfl dX11_edit_205
                · refine r_lo [] (lo2 := []) rfl ?_
                  exact hJ175  C28
          refine r_if_eq (tgt := 146) dX11_edit_103 (by decide) ?_ ?_
          · refine r_lo [1, 2, 3, 5, 0] (lo2 := [(0, .ref a0), (1, wi a1), (4, .ref p3), (7, va_rf z13), (8, wi t0_99)]) rfl ?_
            exact hJ146 z13 t0_99 C_99
          · refine r_aload (x := p8) dX11_edit_106 rfl ?_
            refine r_aload (x := p3) dX11_edit_108 rfl ?_
            refine r_cgetRN (c := 6) (kk := 1) hc_X3 rfl (by decide) inU_X3 (by decide) hG uf_X11_148 rfl (by decide) dX11_edit_110 (fun z36 => ?_)
            refine r_acmp_eq (tgt := 146) (x := (some p8)) (y := z36) dX11_edit_113 (by decide) ?_ ?_
            · refine r_lo [1, 2, 3, 5, 0] (lo2 := [(0, .ref a0), (1, wi a1), (4, .ref p3), (7, va_rf z13), (8, wi t0_99)]) rfl ?_
              exact hJ146 z13 t0_99 C_99
            · refine r_aload_n (x := a0) dX11_edit_116 rfl rfl ?_
              refine r_cgetR (c := 14) (kk := 5) hc_X11 rfl (by decide) inU_X11 (by decide) uf_X11_38 rfl (by decide) dX11_edit_117 (fun z37 => ?_)
              refine r_astoreq (lo2 := [(7, va_rf z37), (8, wi t0_99), (0, .ref a0), (1, wi a1), (4, .ref p3), (6, .ref p8)]) dX11_edit_120 (by decide) rfl ?_
              refine r_aload_n (x := a0) dX11_edit_122 rfl rfl ?_
              refine r_aload (x := p8) dX11_edit_123 rfl ?_
              refine r_cgetRN (c := 13) (kk := 2) hc_X10 rfl (by decide) inU_X10 (by decide) hG uf_X11_130 rfl (by decide) dX11_edit_125 (fun z38 => ?_)
              refine r_aload_n (x := a0) dX11_edit_128 rfl rfl ?_
              refine r_cgetR (c := 14) (kk := 4) hc_X11 rfl (by decide) inU_X11 (by decide) uf_X11_35 rfl (by decide) dX11_edit_129 (fun z39 => ?_)
              refine r_aload (x := p3) dX11_edit_132 rfl ?_
              refine r_cgetRN (c := 6) (kk := 1) hc_X3 rfl (by decide) inU_X3 (by decide) hG uf_X11_148 rfl (by decide) dX11_edit_134 (fun z40 => ?_)
              refine r_dref (fun p41 hp41 => ?_)
              subst hp41
              refine r_cgetRN (c := 13) (kk := 2) hc_X10 rfl (by decide) inU_X10 (by decide) hG uf_X11_130 rfl (by decide) dX11_edit_137 (fun z42 => ?_)
              refine ro_iconst (v := 1) dX11_edit_140 rfl ?_
              refine r_ccVi (c := 14) (k2 := k_X11_merge) (n := 4) (rest := []) um_X11_152 rfl kv_X11_merge hc_X11 (by decide) (c_X11_merge hG _ _ _ _ _ _) (by decide) rfl (Nat.le_of_ble_eq_true rfl) dX11_edit_141 rfl (fun r44 C43 => ?_)
              refine r_istore (lo2 := [(8, wi r44), (7, va_rf z37), (0, .ref a0), (1, wi a1), (4, .ref p3), (6, .ref p8)]) dX11_edit_144 (by decide) (by cases z37 <;> rfl) ?_
              refine r_lo [2, 3, 4, 1, 0] (lo2 := [(0, .ref a0), (1, wi a1), (4, .ref p3), (7, va_rf z37), (8, wi r44)]) rfl ?_
              exact hJ146 z37 r44 C43
        refine r_join (P := fun (J : Cd → Option ((Int ⊕ Nat) × Cd)) => ∀  (C_98 : Cd), RunO l Γ k_X11_edit 12 (encX gI) (emC M0) 98 [(0, .ref a0), (1, wi a1), (4, .ref p3), (6, .ref p8), (7, va_rf z13)] [] C_98 (J C_98)) ?_ (fun J98 hJ98 => ?_)
        · intro C_98
          refine ro_iconst (v := 0) dX11_edit_98 rfl ?_
          exact hJ99 0 C_98
        refine r_if_eq (tgt := 98) dX11_edit_82 (by decide) ?_ ?_
        · refine r_lo [4, 5, 3, 1, 0] (lo2 := [(0, .ref a0), (1, wi a1), (4, .ref p3), (6, .ref p8), (7, va_rf z13)]) rfl ?_
          exact hJ98  C20
        · refine r_aload_n (x := a0) dX11_edit_85 rfl rfl ?_
          refine r_cgetI (c := 14) (kk := 7) hc_X11 rfl (by decide) inU_X11 (by decide) uf_X11_45 rfl (by decide) dX11_edit_86 ?_
          refine r_bipush (v := 120) dX11_edit_89 rfl ?_
          refine r_icmp_ge (tgt := 98) dX11_edit_91 (by decide) ?_ ?_
          · refine r_lo [4, 5, 3, 1, 0] (lo2 := [(0, .ref a0), (1, wi a1), (4, .ref p3), (6, .ref p8), (7, va_rf z13)]) rfl ?_
            exact hJ98  C20
          · refine ro_iconst (v := 1) dX11_edit_94 rfl ?_
            refine r_goto (tgt := 99) dX11_edit_95 (by decide) ?_
            refine r_lo [4, 5, 3, 1, 0] (lo2 := [(0, .ref a0), (1, wi a1), (4, .ref p3), (6, .ref p8), (7, va_rf z13)]) rfl ?_
            exact hJ99 1 C20
      · refine r_lo [] (lo2 := []) rfl ?_
        exact hJ46  C11
def k_X11_firstInQueue : Kd := (yX11_firstInQueue, cX11_firstInQueue, 4, some .int, [])
theorem kv_X11_firstInQueue : KV k_X11_firstInQueue 0 := ⟨uw_mem 520 (by decide +kernel) rfl, uw_mem 94 (by decide +kernel) rfl, uw_mem 519 (by decide +kernel) rfl, uw_mem 2 (by decide +kernel) rfl, ⟨by decide +kernel, by decide +kernel⟩, by decide +kernel, by decide +kernel⟩
set_option maxHeartbeats 8000000 in
set_option maxRecDepth 100000 in
theorem c_X11_firstInQueue {l : Launch} {Γ : Cx} {M0 : Md} (hG : GK Γ l) (a0 : Nat) (C : Cd) : Ct l Γ k_X11_firstInQueue 2 encI (emC M0) [.ref a0] C (fX11_firstInQueue a0 C) := by
  refine ct_of (by decide +kernel) rfl (Nat.le_of_ble_eq_true rfl) ?_
  refine r_lo [0] (lo2 := [(0, .ref a0)]) rfl ?_
  unfold fX11_firstInQueue
  refine ro_iconst (v := (-1)) dX11_firstInQueue_0 rfl ?_
  refine r_istore_n (lo2 := [(1, wi (-1)), (0, .ref a0)]) dX11_firstInQueue_1 rfl (by decide) rfl ?_
  refine ro_iconst (v := (-1)) dX11_firstInQueue_2 rfl ?_
  refine r_istore_n (lo2 := [(2, wi (-1)), (1, wi (-1)), (0, .ref a0)]) dX11_firstInQueue_3 rfl (by decide) rfl ?_
  refine ro_iconst (v := 0) dX11_firstInQueue_4 rfl ?_
  refine r_istore_n (lo2 := [(3, wi 0), (2, wi (-1)), (1, wi (-1)), (0, .ref a0)]) dX11_firstInQueue_5 rfl (by decide) rfl ?_
  refine r_loop (P := fun (J : Int → Int → Int → Cd → Option (Int × Cd)) => ∀ (v1_6 : Int) (v2_6 : Int) (v3_6 : Int) (C_6 : Cd), RunO l Γ k_X11_firstInQueue 2 encI (emC M0) 6 [(0, .ref a0), (1, wi v1_6), (2, wi v2_6), (3, wi v3_6)] [] C_6 (J v1_6 v2_6 v3_6 C_6)) ?_ (fun L6 hL6 => ?_) (fun J6 hJ6 => ?_)
  · intros; exact ro_none
  · intro v1_6 v2_6 v3_6 C_6
    refine r_iload_n (x := v3_6) dX11_firstInQueue_6 rfl rfl ?_
    refine r_aload_n (x := a0) dX11_firstInQueue_7 rfl rfl ?_
    refine r_cgetR (c := 14) (kk := 1) hc_X11 rfl (by decide) inU_X11 (by decide) uf_X11_20 rfl (by decide) dX11_firstInQueue_8 (fun z1 => ?_)
    refine r_dref (fun p2 hp2 => ?_)
    subst hp2
    refine r_calen (t := 102) rfl (by decide) dX11_firstInQueue_11 ?_
    refine r_icmp_ge (tgt := 58) dX11_firstInQueue_12 (by decide) ?_ ?_
    · refine r_iload_n (x := v1_6) dX11_firstInQueue_58 rfl rfl ?_
      exact r_iret rfl dX11_firstInQueue_59
    · refine r_aload_n (x := a0) dX11_firstInQueue_15 rfl rfl ?_
      refine r_cgetR (c := 14) (kk := 1) hc_X11 rfl (by decide) inU_X11 (by decide) uf_X11_20 rfl (by decide) dX11_firstInQueue_16 (fun z3 => ?_)
      refine r_iload_n (x := v3_6) dX11_firstInQueue_19 rfl rfl ?_
      refine r_dref (fun p4 hp4 => ?_)
      subst hp4
      refine r_caald (t := 102) rfl (by decide) (by decide) dX11_firstInQueue_20 (fun z5 => ?_)
      refine r_dref (fun p6 hp6 => ?_)
      subst hp6
      refine r_ccVNi (c := 12) (k2 := k_X9_waits) (n := 0) (rest := []) hG um_X11_298 rfl kv_X9_waits hc_X9 (by decide) (c_X9_waits hG _ _) (by decide) rfl (Nat.le_of_ble_eq_true rfl) dX11_firstInQueue_21 rfl (fun r8 C7 => ?_)
      refine r_join (P := fun (J : Int → Int → Cd → Option (Int × Cd)) => ∀ (v1_52 : Int) (v2_52 : Int) (C_52 : Cd), RunO l Γ k_X11_firstInQueue 2 encI (emC M0) 52 [(0, .ref a0), (1, wi v1_52), (2, wi v2_52), (3, wi v3_6)] [] C_52 (J v1_52 v2_52 C_52)) ?_ (fun J52 hJ52 => ?_)
      · intro v1_52 v2_52 C_52
        refine r_iinc (x := v3_6) (lo2 := [(3, wi (v3_6 + 1)), (0, .ref a0), (1, wi v1_52), (2, wi v2_52)]) dX11_firstInQueue_52 rfl (by decide) rfl ?_
        refine r_goto (tgt := 6) dX11_firstInQueue_55 (by decide) ?_
        refine r_lo [1, 2, 3, 0] (lo2 := [(0, .ref a0), (1, wi v1_52), (2, wi v2_52), (3, wi (v3_6 + 1))]) rfl ?_
        exact hL6 v1_52 v2_52 (v3_6 + 1) C_52
      refine r_if_eq (tgt := 52) dX11_firstInQueue_24 (by decide) ?_ ?_
      · exact hJ52 v1_6 v2_6 C7
      · refine r_aload_n (x := a0) dX11_firstInQueue_27 rfl rfl ?_
        refine r_cgetR (c := 14) (kk := 1) hc_X11 rfl (by decide) inU_X11 (by decide) uf_X11_20 rfl (by decide) dX11_firstInQueue_28 (fun z9 => ?_)
        refine r_iload_n (x := v3_6) dX11_firstInQueue_31 rfl rfl ?_
        refine r_dref (fun p10 hp10 => ?_)
        subst hp10
        refine r_caald (t := 102) rfl (by decide) (by decide) dX11_firstInQueue_32 (fun z11 => ?_)
        refine r_dref (fun p12 hp12 => ?_)
        subst hp12
        refine r_cgetIN (c := 12) (kk := 5) hc_X9 rfl (by decide) inU_X9 (by decide) hG uf_X11_248 rfl (by decide) dX11_firstInQueue_33 ?_
        refine r_iload_n (x := v2_6) dX11_firstInQueue_36 rfl rfl ?_
        refine r_icmp_le (tgt := 52) dX11_firstInQueue_37 (by decide) ?_ ?_
        · exact hJ52 v1_6 v2_6 C7
        · refine r_iload_n (x := v3_6) dX11_firstInQueue_40 rfl rfl ?_
          refine r_istore_n (lo2 := [(1, wi v3_6), (0, .ref a0), (2, wi v2_6), (3, wi v3_6)]) dX11_firstInQueue_41 rfl (by decide) rfl ?_
          refine r_aload_n (x := a0) dX11_firstInQueue_42 rfl rfl ?_
          refine r_cgetR (c := 14) (kk := 1) hc_X11 rfl (by decide) inU_X11 (by decide) uf_X11_20 rfl (by decide) dX11_firstInQueue_43 (fun z13 => ?_)
          refine r_iload_n (x := v3_6) dX11_firstInQueue_46 rfl rfl ?_
          refine r_dref (fun p14 hp14 => ?_)
          subst hp14
          refine r_caald (t := 102) rfl (by decide) (by decide) dX11_firstInQueue_47 (fun z15 => ?_)
          refine r_dref (fun p16 hp16 => ?_)
          subst hp16
          refine r_cgetIN (c := 12) (kk := 5) hc_X9 rfl (by decide) inU_X9 (by decide) hG uf_X11_248 rfl (by decide) dX11_firstInQueue_48 ?_
          refine r_nm (fun x2_51 => ?_)
          refine r_istore_n (lo2 := [(2, wi x2_51), (1, wi v3_6), (0, .ref a0), (3, wi v3_6)]) dX11_firstInQueue_51 rfl (by decide) rfl ?_
          refine r_lo [2, 1, 0, 3] (lo2 := [(0, .ref a0), (1, wi v3_6), (2, wi x2_51), (3, wi v3_6)]) rfl ?_
          exact hJ52 v3_6 x2_51 C7
  refine r_lo [3, 2, 1, 0] (lo2 := [(0, .ref a0), (1, wi (-1)), (2, wi (-1)), (3, wi 0)]) rfl ?_
  exact hJ6 (-1) (-1) 0 C
def k_X11_refuseOtherLanguages : Kd := (yX11_refuseOtherLanguages, cX11_refuseOtherLanguages, 2, none, [])
theorem kv_X11_refuseOtherLanguages : KV k_X11_refuseOtherLanguages 1 := ⟨uw_mem 1520 (by decide +kernel) rfl, uw_mem 94 (by decide +kernel) rfl, uw_mem 1519 (by decide +kernel) rfl, uw_mem 90 (by decide +kernel) rfl, ⟨by decide +kernel, by decide +kernel⟩, by decide +kernel, by decide +kernel⟩
set_option maxHeartbeats 8000000 in
set_option maxRecDepth 100000 in
theorem c_X11_refuseOtherLanguages {l : Launch} {Γ : Cx} {M0 : Md} (hG : GK Γ l) (a0 : Nat) (a1 : Int) (C : Cd) : Ct l Γ k_X11_refuseOtherLanguages 6 (encX gV) (emC M0) [.ref a0, wi a1] C (fX11_refuseOtherLanguages a0 a1 C) := by
  refine ct_of (by decide +kernel) rfl (Nat.le_of_ble_eq_true rfl) ?_
  refine r_lo [0, 1] (lo2 := [(0, .ref a0), (1, wi a1)]) rfl ?_
  unfold fX11_refuseOtherLanguages
  refine r_iload_n (x := a1) dX11_refuseOtherLanguages_0 rfl rfl ?_
  refine ro_iconst (v := 1) dX11_refuseOtherLanguages_1 rfl ?_
  refine r_join (P := fun (J : Cd → Option ((Unit ⊕ Nat) × Cd)) => ∀  (C_10 : Cd), RunO l Γ k_X11_refuseOtherLanguages 6 (encX gV) (emC M0) 10 [] [] C_10 (J C_10)) ?_ (fun J10 hJ10 => ?_)
  · intro C_10
    exact r_throwW (e := 0) (text := "no such language") hG rfl rfl (by decide) (by decide) (by decide) (Nat.le_of_ble_eq_true rfl) dX11_refuseOtherLanguages_10 dX11_refuseOtherLanguages_13 dX11_refuseOtherLanguages_14 dX11_refuseOtherLanguages_17 dX11_refuseOtherLanguages_20
  refine r_icmp_lt (tgt := 10) dX11_refuseOtherLanguages_2 (by decide) ?_ ?_
  · refine r_lo [] (lo2 := []) rfl ?_
    exact hJ10  C
  · refine r_iload_n (x := a1) dX11_refuseOtherLanguages_5 rfl rfl ?_
    refine ro_iconst (v := 2) dX11_refuseOtherLanguages_6 rfl ?_
    refine r_icmp_le (tgt := 21) dX11_refuseOtherLanguages_7 (by decide) ?_ ?_
    · exact r_vretX rfl dX11_refuseOtherLanguages_21
    · refine r_lo [] (lo2 := []) rfl ?_
      exact hJ10  C
def k_X11_inLanguage : Kd := (yX11_inLanguage, cX11_inLanguage, 6, some .int, [])
theorem kv_X11_inLanguage : KV k_X11_inLanguage 2 := ⟨uw_mem 1516 (by decide +kernel) rfl, uw_mem 94 (by decide +kernel) rfl, uw_mem 1514 (by decide +kernel) rfl, uw_mem 1515 (by decide +kernel) rfl, ⟨by decide +kernel, by decide +kernel⟩, by decide +kernel, by decide +kernel⟩
set_option maxHeartbeats 8000000 in
set_option maxRecDepth 100000 in
theorem c_X11_inLanguage {l : Launch} {Γ : Cx} {M0 : Md} (hG : GK Γ l) (a0 : Nat) (a1 : Int) (a2 : Int) (C : Cd) : Ct l Γ k_X11_inLanguage 7 (encX gI) (emC M0) [.ref a0, wi a1, wi a2] C (fX11_inLanguage a0 a1 a2 C) := by
  refine ct_of (by decide +kernel) rfl (Nat.le_of_ble_eq_true rfl) ?_
  refine r_lo [0, 1, 2] (lo2 := [(0, .ref a0), (1, wi a1), (2, wi a2)]) rfl ?_
  unfold fX11_inLanguage
  refine r_aload_n (x := a0) dX11_inLanguage_0 rfl rfl ?_
  refine r_iload_n (x := a1) dX11_inLanguage_1 rfl rfl ?_
  refine r_cxV (c := 14) (h := gR) (k2 := k_X11_titleOf) (n := 1) (rest := []) um_X11_85 rfl kv_X11_titleOf hc_X11 (by decide) (c_X11_titleOf hG _ _ _) (by decide) rfl (Nat.le_of_ble_eq_true rfl) dX11_inLanguage_2 rfl (fun r2 C1 => ?_)
  show RunO l Γ k_X11_inLanguage 7 (encX gI) (emC M0) 5 [(0, .ref a0), (1, wi a1), (2, wi a2)] [va_rf r2] C1 _
  refine r_astoreq_n (lo2 := [(3, va_rf r2), (0, .ref a0), (1, wi a1), (2, wi a2)]) dX11_inLanguage_5 rfl (by decide) rfl ?_
  refine r_aload_n (x := a0) dX11_inLanguage_6 rfl rfl ?_
  refine r_iload_n (x := a2) dX11_inLanguage_7 rfl rfl ?_
  refine r_cxV (c := 14) (h := gV) (k2 := k_X11_refuseOtherLanguages) (n := 1) (rest := []) um_X11_338 rfl kv_X11_refuseOtherLanguages hc_X11 (by decide) (c_X11_refuseOtherLanguages hG _ _ _) (by decide) rfl (Nat.le_of_ble_eq_true rfl) dX11_inLanguage_8 rfl (fun r4 C3 => ?_)
  show RunO l Γ k_X11_inLanguage 7 (encX gI) (emC M0) 11 [(3, va_rf r2), (0, .ref a0), (1, wi a1), (2, wi a2)] [] C3 _
  refine r_iload_n (x := a2) dX11_inLanguage_11 rfl rfl ?_
  refine r_istore (lo2 := [(4, wi a2), (3, va_rf r2), (0, .ref a0), (1, wi a1), (2, wi a2)]) dX11_inLanguage_12 (by decide) (by cases r2 <;> rfl) ?_
  refine r_loop (P := fun (J : Int → Cd → Option ((Int ⊕ Nat) × Cd)) => ∀ (v4_14 : Int) (C_14 : Cd), RunO l Γ k_X11_inLanguage 7 (encX gI) (emC M0) 14 [(0, .ref a0), (1, wi a1), (3, va_rf r2), (4, wi v4_14)] [] C_14 (J v4_14 C_14)) ?_ (fun L14 hL14 => ?_) (fun J14 hJ14 => ?_)
  · intros; exact ro_none
  · intro v4_14 C_14
    refine r_iload (x := v4_14) dX11_inLanguage_14 rfl ?_
    refine ro_iconst (v := 1) dX11_inLanguage_16 rfl ?_
    refine r_icmp_lt (tgt := 57) dX11_inLanguage_17 (by decide) ?_ ?_
    · refine r_iload_n (x := a1) dX11_inLanguage_57 rfl rfl ?_
      exact r_iretX rfl dX11_inLanguage_58
    · refine r_aloadq_n (x := r2) dX11_inLanguage_20 rfl rfl ?_
      refine r_dref (fun p5 hp5 => ?_)
      subst hp5
      refine r_cgetRN (c := 12) (kk := 1) hc_X9 rfl (by decide) inU_X9 (by decide) hG uf_X11_220 rfl (by decide) dX11_inLanguage_21 (fun z6 => ?_)
      refine r_iload (x := v4_14) dX11_inLanguage_24 rfl ?_
      refine r_dref (fun p7 hp7 => ?_)
      subst hp7
      refine r_ciald dX11_inLanguage_26 ?_
      refine r_nm (fun x5_27 => ?_)
      refine r_istore (lo2 := [(5, wi x5_27), (0, .ref a0), (1, wi a1), (3, .ref p5), (4, wi v4_14)]) dX11_inLanguage_27 (by decide) rfl ?_
      refine r_iload (x := x5_27) dX11_inLanguage_29 rfl ?_
      refine ro_iconst (v := (-1)) dX11_inLanguage_31 rfl ?_
      refine r_join (P := fun (J : Cd → Option ((Int ⊕ Nat) × Cd)) => ∀  (C_51 : Cd), RunO l Γ k_X11_inLanguage 7 (encX gI) (emC M0) 51 [(0, .ref a0), (1, wi a1), (3, .ref p5), (4, wi v4_14)] [] C_51 (J C_51)) ?_ (fun J51 hJ51 => ?_)
      · intro C_51
        refine r_iinc (x := v4_14) (lo2 := [(4, wi (v4_14 + (-1))), (0, .ref a0), (1, wi a1), (3, .ref p5)]) dX11_inLanguage_51 rfl (by decide) rfl ?_
        refine r_goto (tgt := 14) dX11_inLanguage_54 (by decide) ?_
        refine r_lo [1, 2, 3, 0] (lo2 := [(0, .ref a0), (1, wi a1), (3, .ref p5), (4, wi (v4_14 + (-1)))]) rfl ?_
        exact hL14 (v4_14 + (-1)) C_51
      refine r_icmp_eq (tgt := 51) dX11_inLanguage_32 (by decide) ?_ ?_
      · refine r_lo [1, 2, 3, 4] (lo2 := [(0, .ref a0), (1, wi a1), (3, .ref p5), (4, wi v4_14)]) rfl ?_
        exact hJ51  C_14
      · refine r_aload_n (x := a0) dX11_inLanguage_35 rfl rfl ?_
        refine r_cgetR (c := 14) (kk := 1) hc_X11 rfl (by decide) inU_X11 (by decide) uf_X11_20 rfl (by decide) dX11_inLanguage_36 (fun z8 => ?_)
        refine r_iload (x := x5_27) dX11_inLanguage_39 rfl ?_
        refine r_dref (fun p9 hp9 => ?_)
        subst hp9
        refine r_caald (t := 102) rfl (by decide) (by decide) dX11_inLanguage_41 (fun z10 => ?_)
        refine r_dref (fun p11 hp11 => ?_)
        subst hp11
        refine r_cgetRN (c := 12) (kk := 3) hc_X9 rfl (by decide) inU_X9 (by decide) hG uf_X11_102 rfl (by decide) dX11_inLanguage_42 (fun z12 => ?_)
        refine r_opt (fun hn => ?_) (fun p13 hp13 => ?_)
        · subst hn
          refine r_ifnullN (tgt := 51) dX11_inLanguage_45 (by decide) ?_
          refine r_lo [1, 2, 3, 4] (lo2 := [(0, .ref a0), (1, wi a1), (3, .ref p5), (4, wi v4_14)]) rfl ?_
          exact hJ51  C_14
        · subst hp13
          refine r_ifnullS (a := p13) dX11_inLanguage_45 ?_
          refine r_iload (x := x5_27) dX11_inLanguage_48 rfl ?_
          exact r_iretX rfl dX11_inLanguage_50
  refine r_lo [2, 3, 1, 0] (lo2 := [(0, .ref a0), (1, wi a1), (3, va_rf r2), (4, wi a2)]) rfl ?_
  exact hJ14 a2 C3
def k_X11_init : Kd := (yX11_init, cX11_init, 1, none, [])
theorem kv_X11_init : KI k_X11_init 0 := ⟨uw_mem 132 (by decide +kernel) rfl, uw_mem 94 (by decide +kernel) rfl, uw_mem 131 (by decide +kernel) rfl, ⟨rfl, rfl⟩, ⟨by decide +kernel, by decide +kernel⟩, by decide +kernel, by decide +kernel⟩
set_option maxHeartbeats 8000000 in
set_option maxRecDepth 100000 in
theorem c_X11_init {l : Launch} {Γ : Cx} {M0 : Md} (hG : GK Γ l) (a0 : Nat) (C : Cd) : Ct l Γ k_X11_init 5 encV (emC M0) [.ref a0] C (fX11_init a0 C) := by
  refine ct_of (by decide +kernel) rfl (Nat.le_of_ble_eq_true rfl) ?_
  refine r_lo [0] (lo2 := [(0, .ref a0)]) rfl ?_
  unfold fX11_init
  refine r_aload_n (x := a0) dX11_init_0 rfl rfl ?_
  refine r_objInit (by decide) uo_X11_1 uoi uoc (Nat.le_of_ble_eq_true rfl) dX11_init_1 ?_
  refine r_aload_n (x := a0) dX11_init_4 rfl rfl ?_
  refine r_cnew (c := 4) hc_X1 rfl (by decide) inU_X1 tyX1 tyX1_ok hfs_X1 un_X11_7.1 un_X11_7.2.1 un_X11_7.2.2 dX11_init_5 (fun C1 _ => ?_)
  refine r_dup dX11_init_8 rfl ?_
  refine r_ccINv (k2 := k_X1_init) (n := 0) (rest := [.ref (csz C), .ref a0]) hG um_X11_9 rfl kv_X1_init (c_X1_init hG _ _) (by decide) rfl (Nat.le_of_ble_eq_true rfl) dX11_init_9 rfl (fun r3 C2 => ?_)
  refine r_cputRF (c := 14) (kk := 0) hc_X11 rfl (by decide) inU_X11 (by decide) uf_X11_10 rfl tyX11 tyX11_ok nmX11 (x := (some (csz C))) (fty := .object "Weaveword$Expander") (by decide) rfl rfl rfl (by decide +kernel) ⟨_, Or.inl rfl⟩ dX11_init_12 (fun C4 _ _ => ?_)
  refine r_aload_n (x := a0) dX11_init_15 rfl rfl ?_
  refine r_aload_n (x := a0) dX11_init_16 rfl rfl ?_
  refine r_cgetR (c := 14) (kk := 0) hc_X11 rfl (by decide) inU_X11 (by decide) uf_X11_10 rfl (by decide) dX11_init_17 (fun z5 => ?_)
  refine r_dref (fun p6 hp6 => ?_)
  subst hp6
  refine r_cgetRN (c := 4) (kk := 0) hc_X1 rfl (by decide) inU_X1 (by decide) hG uf_X11_16 rfl (by decide) dX11_init_20 (fun z7 => ?_)
  refine r_cputRF (c := 14) (kk := 1) hc_X11 rfl (by decide) inU_X11 (by decide) uf_X11_20 rfl tyX11 tyX11_ok nmX11 (x := z7) (fty := tyX11 1) (by decide) rfl rfl rfl (by decide +kernel) ⟨"", Or.inr ⟨_, rfl⟩⟩ dX11_init_23 (fun C8 _ _ => ?_)
  refine r_aload_n (x := a0) dX11_init_26 rfl rfl ?_
  refine r_aload_n (x := a0) dX11_init_27 rfl rfl ?_
  refine r_cgetR (c := 14) (kk := 0) hc_X11 rfl (by decide) inU_X11 (by decide) uf_X11_10 rfl (by decide) dX11_init_28 (fun z9 => ?_)
  refine r_dref (fun p10 hp10 => ?_)
  subst hp10
  refine r_cgetRN (c := 4) (kk := 1) hc_X1 rfl (by decide) inU_X1 (by decide) hG uf_X11_21 rfl (by decide) dX11_init_31 (fun z11 => ?_)
  refine r_cputRF (c := 14) (kk := 2) hc_X11 rfl (by decide) inU_X11 (by decide) uf_X11_25 rfl tyX11 tyX11_ok nmX11 (x := z11) (fty := tyX11 2) (by decide) rfl rfl rfl (by decide +kernel) ⟨"", Or.inr ⟨_, rfl⟩⟩ dX11_init_34 (fun C12 _ _ => ?_)
  refine r_aload_n (x := a0) dX11_init_37 rfl rfl ?_
  refine r_cnew (c := 11) hc_X8 rfl (by decide) inU_X8 tyX8 tyX8_ok hfs_X8 un_X11_26.1 un_X11_26.2.1 un_X11_26.2.2 dX11_init_38 (fun C13 _ => ?_)
  refine r_dup dX11_init_41 rfl ?_
  refine r_bipush (v := 30) dX11_init_42 rfl ?_
  refine r_ccINv (k2 := k_X8_init) (n := 1) (rest := [.ref (csz C12), .ref a0]) hG um_X11_28 rfl kv_X8_init (c_X8_init hG _ _ _) (by decide) rfl (Nat.le_of_ble_eq_true rfl) dX11_init_44 rfl (fun r15 C14 => ?_)
  refine r_cputRF (c := 14) (kk := 3) hc_X11 rfl (by decide) inU_X11 (by decide) uf_X11_31 rfl tyX11 tyX11_ok nmX11 (x := (some (csz C12))) (fty := .object "Weaveword$Text") (by decide) rfl rfl rfl (by decide +kernel) ⟨_, Or.inl rfl⟩ dX11_init_47 (fun C16 _ _ => ?_)
  refine r_aload_n (x := a0) dX11_init_50 rfl rfl ?_
  refine r_cnew (c := 11) hc_X8 rfl (by decide) inU_X8 tyX8 tyX8_ok hfs_X8 un_X11_26.1 un_X11_26.2.1 un_X11_26.2.2 dX11_init_51 (fun C17 _ => ?_)
  refine r_dup dX11_init_54 rfl ?_
  refine r_bipush (v := 60) dX11_init_55 rfl ?_
  refine r_ccINv (k2 := k_X8_init) (n := 1) (rest := [.ref (csz C16), .ref a0]) hG um_X11_28 rfl kv_X8_init (c_X8_init hG _ _ _) (by decide) rfl (Nat.le_of_ble_eq_true rfl) dX11_init_57 rfl (fun r19 C18 => ?_)
  refine r_cputRF (c := 14) (kk := 4) hc_X11 rfl (by decide) inU_X11 (by decide) uf_X11_35 rfl tyX11 tyX11_ok nmX11 (x := (some (csz C16))) (fty := .object "Weaveword$Text") (by decide) rfl rfl rfl (by decide +kernel) ⟨_, Or.inl rfl⟩ dX11_init_60 (fun C20 _ _ => ?_)
  refine r_aload_n (x := a0) dX11_init_63 rfl rfl ?_
  refine r_cnew (c := 11) hc_X8 rfl (by decide) inU_X8 tyX8 tyX8_ok hfs_X8 un_X11_26.1 un_X11_26.2.1 un_X11_26.2.2 dX11_init_64 (fun C21 _ => ?_)
  refine r_dup dX11_init_67 rfl ?_
  refine r_bipush (v := 90) dX11_init_68 rfl ?_
  refine r_ccINv (k2 := k_X8_init) (n := 1) (rest := [.ref (csz C20), .ref a0]) hG um_X11_28 rfl kv_X8_init (c_X8_init hG _ _ _) (by decide) rfl (Nat.le_of_ble_eq_true rfl) dX11_init_70 rfl (fun r23 C22 => ?_)
  refine r_cputRF (c := 14) (kk := 5) hc_X11 rfl (by decide) inU_X11 (by decide) uf_X11_38 rfl tyX11 tyX11_ok nmX11 (x := (some (csz C20))) (fty := .object "Weaveword$Text") (by decide) rfl rfl rfl (by decide +kernel) ⟨_, Or.inl rfl⟩ dX11_init_73 (fun C24 _ _ => ?_)
  refine r_aload_n (x := a0) dX11_init_76 rfl rfl ?_
  refine ro_iconst (v := 0) dX11_init_77 rfl ?_
  refine r_cputI (c := 14) (kk := 6) hc_X11 rfl (by decide) inU_X11 (by decide) uf_X11_41 rfl tyX11 tyX11_ok nmX11 (fty := .int) (by decide) rfl rfl rfl rfl dX11_init_78 (fun C25 _ _ => ?_)
  refine r_aload_n (x := a0) dX11_init_81 rfl rfl ?_
  refine ro_iconst (v := 0) dX11_init_82 rfl ?_
  refine r_cputI (c := 14) (kk := 7) hc_X11 rfl (by decide) inU_X11 (by decide) uf_X11_45 rfl tyX11 tyX11_ok nmX11 (fty := .int) (by decide) rfl rfl rfl rfl dX11_init_83 (fun C26 _ _ => ?_)
  refine r_aload_n (x := a0) dX11_init_86 rfl rfl ?_
  refine ro_iconst (v := 0) dX11_init_87 rfl ?_
  refine r_cputI (c := 14) (kk := 8) hc_X11 rfl (by decide) inU_X11 (by decide) uf_X11_48 rfl tyX11 tyX11_ok nmX11 (fty := .int) (by decide) rfl rfl rfl rfl dX11_init_88 (fun C27 _ _ => ?_)
  refine r_aload_n (x := a0) dX11_init_91 rfl rfl ?_
  refine ro_iconst (v := 0) dX11_init_92 rfl ?_
  refine r_cputI (c := 14) (kk := 9) hc_X11 rfl (by decide) inU_X11 (by decide) uf_X11_51 rfl tyX11 tyX11_ok nmX11 (fty := .int) (by decide) rfl rfl rfl rfl dX11_init_93 (fun C28 _ _ => ?_)
  exact r_vret rfl dX11_init_96
def k_X11_isAmong : Kd := (yX11_isAmong, cX11_isAmong, 4, some .boolean, [])
theorem kv_X11_isAmong : KV k_X11_isAmong 3 := ⟨uw_mem 1446 (by decide +kernel) rfl, uw_mem 94 (by decide +kernel) rfl, uw_mem 1445 (by decide +kernel) rfl, uw_mem 88 (by decide +kernel) rfl, ⟨by decide +kernel, by decide +kernel⟩, by decide +kernel, by decide +kernel⟩
set_option maxHeartbeats 8000000 in
set_option maxRecDepth 100000 in
theorem c_X11_isAmong {l : Launch} {Γ : Cx} {M0 : Md} (hG : GK Γ l) (a0 : Nat) (a1 : Nat) (a2 : Int) (a3 : Int) {sT : Nat → Nat} (hS : STs Γ sT) (hw : a1 < 1) (C : Cd) : Ct l Γ k_X11_isAmong 1 encI (emC M0) [.ref a0, .ref (sT a1), wi a2, wi a3] C (fX11_isAmong a0 a1 a2 a3 C) := by
  refine ct_of (by decide +kernel) rfl (Nat.le_of_ble_eq_true rfl) ?_
  refine r_lo [0, 1, 2, 3] (lo2 := [(0, .ref a0), (1, .ref (sT a1)), (2, wi a2), (3, wi a3)]) rfl ?_
  unfold fX11_isAmong
  refine r_iload_n (x := a2) dX11_isAmong_0 rfl rfl ?_
  refine r_join (P := fun (J : Int → Cd → Option (Int × Cd)) => ∀ (t0_26 : Int) (C_26 : Cd), RunO l Γ k_X11_isAmong 1 encI (emC M0) 26 [] [wi t0_26] C_26 (J t0_26 C_26)) ?_ (fun J26 hJ26 => ?_)
  · intro t0_26 C_26
    exact r_zret rfl dX11_isAmong_26
  refine r_join (P := fun (J : Cd → Option (Int × Cd)) => ∀  (C_25 : Cd), RunO l Γ k_X11_isAmong 1 encI (emC M0) 25 [] [] C_25 (J C_25)) ?_ (fun J25 hJ25 => ?_)
  · intro C_25
    refine ro_iconst (v := 0) dX11_isAmong_25 rfl ?_
    exact hJ26 0 C_25
  refine r_if_lt (tgt := 25) dX11_isAmong_1 (by decide) ?_ ?_
  · refine r_lo [] (lo2 := []) rfl ?_
    exact hJ25  C
  · refine r_iload_n (x := a2) dX11_isAmong_4 rfl rfl ?_
    refine r_aload_n (x := sT a1) dX11_isAmong_5 rfl rfl ?_
    refine r_slen hS hw dX11_isAmong_6 ?_
    refine r_icmp_ge (tgt := 25) dX11_isAmong_7 (by decide) ?_ ?_
    · refine r_lo [] (lo2 := []) rfl ?_
      exact hJ25  C
    · refine r_iload_n (x := a3) dX11_isAmong_10 rfl rfl ?_
      refine r_if_lt (tgt := 25) dX11_isAmong_11 (by decide) ?_ ?_
      · refine r_lo [] (lo2 := []) rfl ?_
        exact hJ25  C
      · refine r_iload_n (x := a3) dX11_isAmong_14 rfl rfl ?_
        refine r_aload_n (x := sT a1) dX11_isAmong_15 rfl rfl ?_
        refine r_iload_n (x := a2) dX11_isAmong_16 rfl rfl ?_
        refine r_sld hS hw dX11_isAmong_17 ?_
        refine r_icmp_gt (tgt := 25) dX11_isAmong_18 (by decide) ?_ ?_
        · refine r_lo [] (lo2 := []) rfl ?_
          exact hJ25  C
        · refine ro_iconst (v := 1) dX11_isAmong_21 rfl ?_
          refine r_goto (tgt := 26) dX11_isAmong_22 (by decide) ?_
          refine r_lo [] (lo2 := []) rfl ?_
          exact hJ26 1 C
def k_X11_isOutdated : Kd := (yX11_isOutdated, cX11_isOutdated, 4, some .boolean, [])
theorem kv_X11_isOutdated : KV k_X11_isOutdated 2 := ⟨uw_mem 1525 (by decide +kernel) rfl, uw_mem 94 (by decide +kernel) rfl, uw_mem 1523 (by decide +kernel) rfl, uw_mem 1524 (by decide +kernel) rfl, ⟨by decide +kernel, by decide +kernel⟩, by decide +kernel, by decide +kernel⟩
set_option maxHeartbeats 8000000 in
set_option maxRecDepth 100000 in
theorem c_X11_isOutdated {l : Launch} {Γ : Cx} {M0 : Md} (hG : GK Γ l) (a0 : Nat) (a1 : Int) (a2 : Int) (C : Cd) : Ct l Γ k_X11_isOutdated 7 (encX gI) (emC M0) [.ref a0, wi a1, wi a2] C (fX11_isOutdated a0 a1 a2 C) := by
  refine ct_of (by decide +kernel) rfl (Nat.le_of_ble_eq_true rfl) ?_
  refine r_lo [0, 1, 2] (lo2 := [(0, .ref a0), (1, wi a1), (2, wi a2)]) rfl ?_
  unfold fX11_isOutdated
  refine r_aload_n (x := a0) dX11_isOutdated_0 rfl rfl ?_
  refine r_iload_n (x := a1) dX11_isOutdated_1 rfl rfl ?_
  refine r_cxV (c := 14) (h := gR) (k2 := k_X11_titleOf) (n := 1) (rest := []) um_X11_85 rfl kv_X11_titleOf hc_X11 (by decide) (c_X11_titleOf hG _ _ _) (by decide) rfl (Nat.le_of_ble_eq_true rfl) dX11_isOutdated_2 rfl (fun r2 C1 => ?_)
  show RunO l Γ k_X11_isOutdated 7 (encX gI) (emC M0) 5 [(0, .ref a0), (1, wi a1), (2, wi a2)] [va_rf r2] C1 _
  refine r_astoreq_n (lo2 := [(3, va_rf r2), (0, .ref a0), (1, wi a1), (2, wi a2)]) dX11_isOutdated_5 rfl (by decide) rfl ?_
  refine r_aload_n (x := a0) dX11_isOutdated_6 rfl rfl ?_
  refine r_iload_n (x := a2) dX11_isOutdated_7 rfl rfl ?_
  refine r_cxV (c := 14) (h := gV) (k2 := k_X11_refuseOtherLanguages) (n := 1) (rest := []) um_X11_338 rfl kv_X11_refuseOtherLanguages hc_X11 (by decide) (c_X11_refuseOtherLanguages hG _ _ _) (by decide) rfl (Nat.le_of_ble_eq_true rfl) dX11_isOutdated_8 rfl (fun r4 C3 => ?_)
  show RunO l Γ k_X11_isOutdated 7 (encX gI) (emC M0) 11 [(3, va_rf r2), (0, .ref a0), (1, wi a1), (2, wi a2)] [] C3 _
  refine r_aloadq_n (x := r2) dX11_isOutdated_11 rfl rfl ?_
  refine r_dref (fun p5 hp5 => ?_)
  subst hp5
  refine r_cgetRN (c := 12) (kk := 1) hc_X9 rfl (by decide) inU_X9 (by decide) hG uf_X11_220 rfl (by decide) dX11_isOutdated_12 (fun z6 => ?_)
  refine r_iload_n (x := a2) dX11_isOutdated_15 rfl rfl ?_
  refine r_dref (fun p7 hp7 => ?_)
  subst hp7
  refine r_ciald dX11_isOutdated_16 ?_
  refine ro_iconst (v := (-1)) dX11_isOutdated_17 rfl ?_
  refine r_icmp_ne (tgt := 23) dX11_isOutdated_18 (by decide) ?_ ?_
  · refine r_aload_n (x := p5) dX11_isOutdated_23 rfl rfl ?_
    refine r_cgetRN (c := 12) (kk := 3) hc_X9 rfl (by decide) inU_X9 (by decide) hG uf_X11_102 rfl (by decide) dX11_isOutdated_24 (fun z8 => ?_)
    refine r_join (P := fun (J : Int → Cd → Option ((Int ⊕ Nat) × Cd)) => ∀ (t0_54 : Int) (C_54 : Cd), RunO l Γ k_X11_isOutdated 7 (encX gI) (emC M0) 54 [] [wi t0_54] C_54 (J t0_54 C_54)) ?_ (fun J54 hJ54 => ?_)
    · intro t0_54 C_54
      exact r_zretX rfl dX11_isOutdated_54
    refine r_join (P := fun (J : Cd → Option ((Int ⊕ Nat) × Cd)) => ∀  (C_49 : Cd), RunO l Γ k_X11_isOutdated 7 (encX gI) (emC M0) 49 [] [] C_49 (J C_49)) ?_ (fun J49 hJ49 => ?_)
    · intro C_49
      refine ro_iconst (v := 1) dX11_isOutdated_49 rfl ?_
      refine r_goto (tgt := 54) dX11_isOutdated_50 (by decide) ?_
      exact hJ54 1 C_49
    refine r_opt (fun hn => ?_) (fun p9 hp9 => ?_)
    · subst hn
      refine r_ifnullN (tgt := 49) dX11_isOutdated_27 (by decide) ?_
      refine r_lo [] (lo2 := []) rfl ?_
      exact hJ49  C3
    · subst hp9
      refine r_ifnullS (a := p9) dX11_isOutdated_27 ?_
      refine r_aload_n (x := p5) dX11_isOutdated_30 rfl rfl ?_
      refine r_cgetRN (c := 12) (kk := 3) hc_X9 rfl (by decide) inU_X9 (by decide) hG uf_X11_102 rfl (by decide) dX11_isOutdated_31 (fun z10 => ?_)
      refine r_dref (fun p11 hp11 => ?_)
      subst hp11
      refine r_cgetRN (c := 6) (kk := 1) hc_X3 rfl (by decide) inU_X3 (by decide) hG uf_X11_148 rfl (by decide) dX11_isOutdated_34 (fun z12 => ?_)
      refine r_dref (fun p13 hp13 => ?_)
      subst hp13
      refine r_cgetIN (c := 13) (kk := 0) hc_X10 rfl (by decide) inU_X10 (by decide) hG uf_X11_226 rfl (by decide) dX11_isOutdated_37 ?_
      refine r_aload_n (x := p5) dX11_isOutdated_40 rfl rfl ?_
      refine r_cgetRN (c := 12) (kk := 2) hc_X9 rfl (by decide) inU_X9 (by decide) hG uf_X11_223 rfl (by decide) dX11_isOutdated_41 (fun z14 => ?_)
      refine r_iload_n (x := a2) dX11_isOutdated_44 rfl rfl ?_
      refine r_dref (fun p15 hp15 => ?_)
      subst hp15
      refine r_ciald dX11_isOutdated_45 ?_
      refine r_icmp_eq (tgt := 53) dX11_isOutdated_46 (by decide) ?_ ?_
      · refine ro_iconst (v := 0) dX11_isOutdated_53 rfl ?_
        refine r_lo [] (lo2 := []) rfl ?_
        exact hJ54 0 C3
      · refine r_lo [] (lo2 := []) rfl ?_
        exact hJ49  C3
  · refine ro_iconst (v := 0) dX11_isOutdated_21 rfl ?_
    exact r_zret0X (by first | exact Or.inl rfl | exact Or.inr rfl) rfl dX11_isOutdated_22
