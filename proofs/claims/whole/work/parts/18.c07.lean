def k_X11_refuseOtherLanguages : Kd := (yX11_refuseOtherLanguages, cX11_refuseOtherLanguages, 2, none, [])
theorem kv_X11_refuseOtherLanguages : KV k_X11_refuseOtherLanguages 1 := ⟨uw_mem 1641 (by decide +kernel) rfl, uw_mem 161 (by decide +kernel) rfl, uw_mem 1640 (by decide +kernel) rfl, uw_mem 95 (by decide +kernel) rfl, ⟨by decide +kernel, by decide +kernel⟩, by decide +kernel, by decide +kernel⟩
set_option maxHeartbeats 8000000 in
set_option maxRecDepth 100000 in
theorem c_X11_refuseOtherLanguages {l : Launch} {Γ : Cx} {M0 : Md} (hG : GK Γ l) (a0 : Nat) (a1 : Int) (C : Cd) : Ct l Γ k_X11_refuseOtherLanguages 6 (encX gV) (emC M0) [.ref a0, wi a1] C (fX11_refuseOtherLanguages a0 a1 C) := by
  refine ct_of (by decide +kernel) rfl (Nat.le_of_ble_eq_true rfl) ?_
  refine r_lo [0, 1] (lo2 := [(0, .ref a0), (1, wi a1)]) rfl ?_
  unfold fX11_refuseOtherLanguages
  refine r_iload_n (x := a1) dX11_refuseOtherLanguages_0 rfl rfl ?_
  refine ro_iconst (v := 1) dX11_refuseOtherLanguages_1 rfl ?_
  refine r_join (P := fun (J : Cd → Option ((Unit ⊕ Nat) × Cd)) => ∀  (C_10 : Cd), RunO l Γ k_X11_refuseOtherLanguages 6 (encX gV) (emC M0) 10 [] [] C_10 (J C_10)) ?_ (fun J10 hJ10 => ?_)
  · intro C_10
    exact r_throwW (e := 0) (text := "no such language") hG rfl rfl (by decide) (by decide) (by decide) (Nat.le_of_ble_eq_true rfl) dX11_refuseOtherLanguages_10 dX11_refuseOtherLanguages_13 dX11_refuseOtherLanguages_14 dX11_refuseOtherLanguages_17 dX11_refuseOtherLanguages_20
  refine r_icmp_lt (tgt := 10) dX11_refuseOtherLanguages_2 (by decide) ?_ ?_
  · refine r_lo [] (lo2 := []) rfl ?_
    exact hJ10  C
  · refine r_iload_n (x := a1) dX11_refuseOtherLanguages_5 rfl rfl ?_
    refine ro_iconst (v := 2) dX11_refuseOtherLanguages_6 rfl ?_
    refine r_icmp_le (tgt := 21) dX11_refuseOtherLanguages_7 (by decide) ?_ ?_
    · exact r_vretX rfl dX11_refuseOtherLanguages_21
    · refine r_lo [] (lo2 := []) rfl ?_
      exact hJ10  C
def k_X11_inLanguage : Kd := (yX11_inLanguage, cX11_inLanguage, 6, some .int, [])
theorem kv_X11_inLanguage : KV k_X11_inLanguage 2 := ⟨uw_mem 1637 (by decide +kernel) rfl, uw_mem 161 (by decide +kernel) rfl, uw_mem 1635 (by decide +kernel) rfl, uw_mem 1636 (by decide +kernel) rfl, ⟨by decide +kernel, by decide +kernel⟩, by decide +kernel, by decide +kernel⟩
set_option maxHeartbeats 8000000 in
set_option maxRecDepth 100000 in
theorem c_X11_inLanguage {l : Launch} {Γ : Cx} {M0 : Md} (hG : GK Γ l) (a0 : Nat) (a1 : Int) (a2 : Int) (C : Cd) : Ct l Γ k_X11_inLanguage 7 (encX gI) (emC M0) [.ref a0, wi a1, wi a2] C (fX11_inLanguage a0 a1 a2 C) := by
  refine ct_of (by decide +kernel) rfl (Nat.le_of_ble_eq_true rfl) ?_
  refine r_lo [0, 1, 2] (lo2 := [(0, .ref a0), (1, wi a1), (2, wi a2)]) rfl ?_
  unfold fX11_inLanguage
  refine r_aload_n (x := a0) dX11_inLanguage_0 rfl rfl ?_
  refine r_iload_n (x := a1) dX11_inLanguage_1 rfl rfl ?_
  refine r_cxV (c := 14) (h := gR) (k2 := k_X11_titleOf) (n := 1) (rest := []) um_X11_85 rfl kv_X11_titleOf hc_X11 (by decide) (c_X11_titleOf hG _ _ _) (by decide) rfl (Nat.le_of_ble_eq_true rfl) dX11_inLanguage_2 rfl (fun r2 C1 => ?_)
  show RunO l Γ k_X11_inLanguage 7 (encX gI) (emC M0) 5 [(0, .ref a0), (1, wi a1), (2, wi a2)] [va_rf r2] C1 _
  refine r_astoreq_n (lo2 := [(3, va_rf r2), (0, .ref a0), (1, wi a1), (2, wi a2)]) dX11_inLanguage_5 rfl (by decide) rfl ?_
  refine r_aload_n (x := a0) dX11_inLanguage_6 rfl rfl ?_
  refine r_iload_n (x := a2) dX11_inLanguage_7 rfl rfl ?_
  refine r_cxV (c := 14) (h := gV) (k2 := k_X11_refuseOtherLanguages) (n := 1) (rest := []) um_X11_338 rfl kv_X11_refuseOtherLanguages hc_X11 (by decide) (c_X11_refuseOtherLanguages hG _ _ _) (by decide) rfl (Nat.le_of_ble_eq_true rfl) dX11_inLanguage_8 rfl (fun r4 C3 => ?_)
  show RunO l Γ k_X11_inLanguage 7 (encX gI) (emC M0) 11 [(3, va_rf r2), (0, .ref a0), (1, wi a1), (2, wi a2)] [] C3 _
  refine r_iload_n (x := a2) dX11_inLanguage_11 rfl rfl ?_
  refine r_istore (lo2 := [(4, wi a2), (3, va_rf r2), (0, .ref a0), (1, wi a1), (2, wi a2)]) dX11_inLanguage_12 (by decide) (by cases r2 <;> rfl) ?_
  refine r_loop (P := fun (J : Int → Cd → Option ((Int ⊕ Nat) × Cd)) => ∀ (v4_14 : Int) (C_14 : Cd), RunO l Γ k_X11_inLanguage 7 (encX gI) (emC M0) 14 [(0, .ref a0), (1, wi a1), (3, va_rf r2), (4, wi v4_14)] [] C_14 (J v4_14 C_14)) ?_ (fun L14 hL14 => ?_) (fun J14 hJ14 => ?_)
  · intros; exact ro_none
  · intro v4_14 C_14
    refine r_iload (x := v4_14) dX11_inLanguage_14 rfl ?_
    refine ro_iconst (v := 1) dX11_inLanguage_16 rfl ?_
    refine r_icmp_lt (tgt := 57) dX11_inLanguage_17 (by decide) ?_ ?_
    · refine r_iload_n (x := a1) dX11_inLanguage_57 rfl rfl ?_
      exact r_iretX rfl dX11_inLanguage_58
    · refine r_aloadq_n (x := r2) dX11_inLanguage_20 rfl rfl ?_
      refine r_dref (fun p5 hp5 => ?_)
      subst hp5
      refine r_cgetRN (c := 12) (kk := 1) hc_X9 rfl (by decide) inU_X9 (by decide) hG uf_X11_220 rfl (by decide) dX11_inLanguage_21 (fun z6 => ?_)
      refine r_iload (x := v4_14) dX11_inLanguage_24 rfl ?_
      refine r_dref (fun p7 hp7 => ?_)
      subst hp7
      refine r_ciald dX11_inLanguage_26 ?_
      refine r_nm (fun x5_27 => ?_)
      refine r_istore (lo2 := [(5, wi x5_27), (0, .ref a0), (1, wi a1), (3, .ref p5), (4, wi v4_14)]) dX11_inLanguage_27 (by decide) rfl ?_
      refine r_iload (x := x5_27) dX11_inLanguage_29 rfl ?_
      refine ro_iconst (v := (-1)) dX11_inLanguage_31 rfl ?_
      refine r_join (P := fun (J : Cd → Option ((Int ⊕ Nat) × Cd)) => ∀  (C_51 : Cd), RunO l Γ k_X11_inLanguage 7 (encX gI) (emC M0) 51 [(0, .ref a0), (1, wi a1), (3, .ref p5), (4, wi v4_14)] [] C_51 (J C_51)) ?_ (fun J51 hJ51 => ?_)
      · intro C_51
        refine r_iinc (x := v4_14) (lo2 := [(4, wi (v4_14 + (-1))), (0, .ref a0), (1, wi a1), (3, .ref p5)]) dX11_inLanguage_51 rfl (by decide) rfl ?_
        refine r_goto (tgt := 14) dX11_inLanguage_54 (by decide) ?_
        refine r_lo [1, 2, 3, 0] (lo2 := [(0, .ref a0), (1, wi a1), (3, .ref p5), (4, wi (v4_14 + (-1)))]) rfl ?_
        exact hL14 (v4_14 + (-1)) C_51
      refine r_icmp_eq (tgt := 51) dX11_inLanguage_32 (by decide) ?_ ?_
      · refine r_lo [1, 2, 3, 4] (lo2 := [(0, .ref a0), (1, wi a1), (3, .ref p5), (4, wi v4_14)]) rfl ?_
        exact hJ51  C_14
      · refine r_aload_n (x := a0) dX11_inLanguage_35 rfl rfl ?_
        refine r_cgetR (c := 14) (kk := 1) hc_X11 rfl (by decide) inU_X11 (by decide) uf_X11_20 rfl (by decide) dX11_inLanguage_36 (fun z8 => ?_)
        refine r_iload (x := x5_27) dX11_inLanguage_39 rfl ?_
        refine r_dref (fun p9 hp9 => ?_)
        subst hp9
        refine r_caald (t := 102) rfl (by decide) (by decide) dX11_inLanguage_41 (fun z10 => ?_)
        refine r_dref (fun p11 hp11 => ?_)
        subst hp11
        refine r_cgetRN (c := 12) (kk := 3) hc_X9 rfl (by decide) inU_X9 (by decide) hG uf_X11_102 rfl (by decide) dX11_inLanguage_42 (fun z12 => ?_)
        refine r_opt (fun hn => ?_) (fun p13 hp13 => ?_)
        · subst hn
          refine r_ifnullN (tgt := 51) dX11_inLanguage_45 (by decide) ?_
          refine r_lo [1, 2, 3, 4] (lo2 := [(0, .ref a0), (1, wi a1), (3, .ref p5), (4, wi v4_14)]) rfl ?_
          exact hJ51  C_14
        · subst hp13
          refine r_ifnullS (a := p13) dX11_inLanguage_45 ?_
          refine r_iload (x := x5_27) dX11_inLanguage_48 rfl ?_
          exact r_iretX rfl dX11_inLanguage_50
  refine r_lo [2, 3, 1, 0] (lo2 := [(0, .ref a0), (1, wi a1), (3, va_rf r2), (4, wi a2)]) rfl ?_
  exact hJ14 a2 C3
def k_X11_init : Kd := (yX11_init, cX11_init, 1, none, [])
theorem kv_X11_init : KI k_X11_init 0 := ⟨uw_mem 200 (by decide +kernel) rfl, uw_mem 161 (by decide +kernel) rfl, uw_mem 199 (by decide +kernel) rfl, ⟨rfl, rfl⟩, ⟨by decide +kernel, by decide +kernel⟩, by decide +kernel, by decide +kernel⟩
set_option maxHeartbeats 8000000 in
set_option maxRecDepth 100000 in
theorem c_X11_init {l : Launch} {Γ : Cx} {M0 : Md} (hG : GK Γ l) (a0 : Nat) (C : Cd) : Ct l Γ k_X11_init 5 encV (emC M0) [.ref a0] C (fX11_init a0 C) := by
  refine ct_of (by decide +kernel) rfl (Nat.le_of_ble_eq_true rfl) ?_
  refine r_lo [0] (lo2 := [(0, .ref a0)]) rfl ?_
  unfold fX11_init
  refine r_aload_n (x := a0) dX11_init_0 rfl rfl ?_
  refine r_objInit (by decide) uo_X11_1 uoi uoc (Nat.le_of_ble_eq_true rfl) dX11_init_1 ?_
  refine r_aload_n (x := a0) dX11_init_4 rfl rfl ?_
  refine r_cnew (c := 4) hc_X1 rfl (by decide) inU_X1 tyX1 tyX1_ok hfs_X1 un_X11_7.1 un_X11_7.2.1 un_X11_7.2.2 dX11_init_5 (fun C1 _ => ?_)
  refine r_dup dX11_init_8 rfl ?_
  refine r_ccINv (k2 := k_X1_init) (n := 0) (rest := [.ref (csz C), .ref a0]) hG um_X11_9 rfl kv_X1_init (c_X1_init hG _ _) (by decide) rfl (Nat.le_of_ble_eq_true rfl) dX11_init_9 rfl (fun r3 C2 => ?_)
  refine r_cputRF (c := 14) (kk := 0) hc_X11 rfl (by decide) inU_X11 (by decide) uf_X11_10 rfl tyX11 tyX11_ok nmX11 (x := (some (csz C))) (fty := .object "Weaveword$Expander") (by decide) rfl rfl rfl (by decide +kernel) ⟨_, Or.inl rfl⟩ dX11_init_12 (fun C4 _ _ => ?_)
  refine r_aload_n (x := a0) dX11_init_15 rfl rfl ?_
  refine r_aload_n (x := a0) dX11_init_16 rfl rfl ?_
  refine r_cgetR (c := 14) (kk := 0) hc_X11 rfl (by decide) inU_X11 (by decide) uf_X11_10 rfl (by decide) dX11_init_17 (fun z5 => ?_)
  refine r_dref (fun p6 hp6 => ?_)
  subst hp6
  refine r_cgetRN (c := 4) (kk := 0) hc_X1 rfl (by decide) inU_X1 (by decide) hG uf_X11_16 rfl (by decide) dX11_init_20 (fun z7 => ?_)
  refine r_cputRF (c := 14) (kk := 1) hc_X11 rfl (by decide) inU_X11 (by decide) uf_X11_20 rfl tyX11 tyX11_ok nmX11 (x := z7) (fty := tyX11 1) (by decide) rfl rfl rfl (by decide +kernel) ⟨"", Or.inr ⟨_, rfl⟩⟩ dX11_init_23 (fun C8 _ _ => ?_)
  refine r_aload_n (x := a0) dX11_init_26 rfl rfl ?_
  refine r_aload_n (x := a0) dX11_init_27 rfl rfl ?_
  refine r_cgetR (c := 14) (kk := 0) hc_X11 rfl (by decide) inU_X11 (by decide) uf_X11_10 rfl (by decide) dX11_init_28 (fun z9 => ?_)
  refine r_dref (fun p10 hp10 => ?_)
  subst hp10
  refine r_cgetRN (c := 4) (kk := 1) hc_X1 rfl (by decide) inU_X1 (by decide) hG uf_X11_21 rfl (by decide) dX11_init_31 (fun z11 => ?_)
  refine r_cputRF (c := 14) (kk := 2) hc_X11 rfl (by decide) inU_X11 (by decide) uf_X11_25 rfl tyX11 tyX11_ok nmX11 (x := z11) (fty := tyX11 2) (by decide) rfl rfl rfl (by decide +kernel) ⟨"", Or.inr ⟨_, rfl⟩⟩ dX11_init_34 (fun C12 _ _ => ?_)
  refine r_aload_n (x := a0) dX11_init_37 rfl rfl ?_
  refine r_cnew (c := 11) hc_X8 rfl (by decide) inU_X8 tyX8 tyX8_ok hfs_X8 un_X11_26.1 un_X11_26.2.1 un_X11_26.2.2 dX11_init_38 (fun C13 _ => ?_)
  refine r_dup dX11_init_41 rfl ?_
  refine r_bipush (v := 30) dX11_init_42 rfl ?_
  refine r_ccINv (k2 := k_X8_init) (n := 1) (rest := [.ref (csz C12), .ref a0]) hG um_X11_28 rfl kv_X8_init (c_X8_init hG _ _ _) (by decide) rfl (Nat.le_of_ble_eq_true rfl) dX11_init_44 rfl (fun r15 C14 => ?_)
  refine r_cputRF (c := 14) (kk := 3) hc_X11 rfl (by decide) inU_X11 (by decide) uf_X11_31 rfl tyX11 tyX11_ok nmX11 (x := (some (csz C12))) (fty := .object "Weaveword$Text") (by decide) rfl rfl rfl (by decide +kernel) ⟨_, Or.inl rfl⟩ dX11_init_47 (fun C16 _ _ => ?_)
  refine r_aload_n (x := a0) dX11_init_50 rfl rfl ?_
  refine r_cnew (c := 11) hc_X8 rfl (by decide) inU_X8 tyX8 tyX8_ok hfs_X8 un_X11_26.1 un_X11_26.2.1 un_X11_26.2.2 dX11_init_51 (fun C17 _ => ?_)
  refine r_dup dX11_init_54 rfl ?_
  refine r_bipush (v := 60) dX11_init_55 rfl ?_
  refine r_ccINv (k2 := k_X8_init) (n := 1) (rest := [.ref (csz C16), .ref a0]) hG um_X11_28 rfl kv_X8_init (c_X8_init hG _ _ _) (by decide) rfl (Nat.le_of_ble_eq_true rfl) dX11_init_57 rfl (fun r19 C18 => ?_)
  refine r_cputRF (c := 14) (kk := 4) hc_X11 rfl (by decide) inU_X11 (by decide) uf_X11_35 rfl tyX11 tyX11_ok nmX11 (x := (some (csz C16))) (fty := .object "Weaveword$Text") (by decide) rfl rfl rfl (by decide +kernel) ⟨_, Or.inl rfl⟩ dX11_init_60 (fun C20 _ _ => ?_)
  refine r_aload_n (x := a0) dX11_init_63 rfl rfl ?_
  refine r_cnew (c := 11) hc_X8 rfl (by decide) inU_X8 tyX8 tyX8_ok hfs_X8 un_X11_26.1 un_X11_26.2.1 un_X11_26.2.2 dX11_init_64 (fun C21 _ => ?_)
  refine r_dup dX11_init_67 rfl ?_
  refine r_bipush (v := 90) dX11_init_68 rfl ?_
  refine r_ccINv (k2 := k_X8_init) (n := 1) (rest := [.ref (csz C20), .ref a0]) hG um_X11_28 rfl kv_X8_init (c_X8_init hG _ _ _) (by decide) rfl (Nat.le_of_ble_eq_true rfl) dX11_init_70 rfl (fun r23 C22 => ?_)
  refine r_cputRF (c := 14) (kk := 5) hc_X11 rfl (by decide) inU_X11 (by decide) uf_X11_38 rfl tyX11 tyX11_ok nmX11 (x := (some (csz C20))) (fty := .object "Weaveword$Text") (by decide) rfl rfl rfl (by decide +kernel) ⟨_, Or.inl rfl⟩ dX11_init_73 (fun C24 _ _ => ?_)
  refine r_aload_n (x := a0) dX11_init_76 rfl rfl ?_
  refine ro_iconst (v := 0) dX11_init_77 rfl ?_
  refine r_cputI (c := 14) (kk := 6) hc_X11 rfl (by decide) inU_X11 (by decide) uf_X11_41 rfl tyX11 tyX11_ok nmX11 (fty := .int) (by decide) rfl rfl rfl rfl dX11_init_78 (fun C25 _ _ => ?_)
  refine r_aload_n (x := a0) dX11_init_81 rfl rfl ?_
  refine ro_iconst (v := 0) dX11_init_82 rfl ?_
  refine r_cputI (c := 14) (kk := 7) hc_X11 rfl (by decide) inU_X11 (by decide) uf_X11_45 rfl tyX11 tyX11_ok nmX11 (fty := .int) (by decide) rfl rfl rfl rfl dX11_init_83 (fun C26 _ _ => ?_)
  refine r_aload_n (x := a0) dX11_init_86 rfl rfl ?_
  refine ro_iconst (v := 0) dX11_init_87 rfl ?_
  refine r_cputI (c := 14) (kk := 8) hc_X11 rfl (by decide) inU_X11 (by decide) uf_X11_48 rfl tyX11 tyX11_ok nmX11 (fty := .int) (by decide) rfl rfl rfl rfl dX11_init_88 (fun C27 _ _ => ?_)
  refine r_aload_n (x := a0) dX11_init_91 rfl rfl ?_
  refine ro_iconst (v := 0) dX11_init_92 rfl ?_
  refine r_cputI (c := 14) (kk := 9) hc_X11 rfl (by decide) inU_X11 (by decide) uf_X11_51 rfl tyX11 tyX11_ok nmX11 (fty := .int) (by decide) rfl rfl rfl rfl dX11_init_93 (fun C28 _ _ => ?_)
  exact r_vret rfl dX11_init_96
def k_X11_isAmong : Kd := (yX11_isAmong, cX11_isAmong, 4, some .boolean, [])
theorem kv_X11_isAmong : KV k_X11_isAmong 3 := ⟨uw_mem 569 (by decide +kernel) rfl, uw_mem 161 (by decide +kernel) rfl, uw_mem 568 (by decide +kernel) rfl, uw_mem 11 (by decide +kernel) rfl, ⟨by decide +kernel, by decide +kernel⟩, by decide +kernel, by decide +kernel⟩
set_option maxHeartbeats 8000000 in
set_option maxRecDepth 100000 in
theorem c_X11_isAmong {l : Launch} {Γ : Cx} {M0 : Md} (hG : GK Γ l) (a0 : Nat) (a1 : Nat) (a2 : Int) (a3 : Int) {sT : Nat → Nat} (hS : STs Γ sT) (hw : a1 < 2) (C : Cd) : Ct l Γ k_X11_isAmong 1 encI (emC M0) [.ref a0, .ref (sT a1), wi a2, wi a3] C (fX11_isAmong a0 a1 a2 a3 C) := by
  refine ct_of (by decide +kernel) rfl (Nat.le_of_ble_eq_true rfl) ?_
  refine r_lo [0, 1, 2, 3] (lo2 := [(0, .ref a0), (1, .ref (sT a1)), (2, wi a2), (3, wi a3)]) rfl ?_
  unfold fX11_isAmong
  refine r_iload_n (x := a2) dX11_isAmong_0 rfl rfl ?_
  refine r_join (P := fun (J : Int → Cd → Option (Int × Cd)) => ∀ (t0_26 : Int) (C_26 : Cd), RunO l Γ k_X11_isAmong 1 encI (emC M0) 26 [] [wi t0_26] C_26 (J t0_26 C_26)) ?_ (fun J26 hJ26 => ?_)
  · intro t0_26 C_26
    exact r_zret rfl dX11_isAmong_26
  refine r_join (P := fun (J : Cd → Option (Int × Cd)) => ∀  (C_25 : Cd), RunO l Γ k_X11_isAmong 1 encI (emC M0) 25 [] [] C_25 (J C_25)) ?_ (fun J25 hJ25 => ?_)
  · intro C_25
    refine ro_iconst (v := 0) dX11_isAmong_25 rfl ?_
    exact hJ26 0 C_25
  refine r_if_lt (tgt := 25) dX11_isAmong_1 (by decide) ?_ ?_
  · refine r_lo [] (lo2 := []) rfl ?_
    exact hJ25  C
  · refine r_iload_n (x := a2) dX11_isAmong_4 rfl rfl ?_
    refine r_aload_n (x := sT a1) dX11_isAmong_5 rfl rfl ?_
    refine r_slen hS hw dX11_isAmong_6 ?_
    refine r_icmp_ge (tgt := 25) dX11_isAmong_7 (by decide) ?_ ?_
    · refine r_lo [] (lo2 := []) rfl ?_
      exact hJ25  C
    · refine r_iload_n (x := a3) dX11_isAmong_10 rfl rfl ?_
      refine r_if_lt (tgt := 25) dX11_isAmong_11 (by decide) ?_ ?_
      · refine r_lo [] (lo2 := []) rfl ?_
        exact hJ25  C
      · refine r_iload_n (x := a3) dX11_isAmong_14 rfl rfl ?_
        refine r_aload_n (x := sT a1) dX11_isAmong_15 rfl rfl ?_
        refine r_iload_n (x := a2) dX11_isAmong_16 rfl rfl ?_
        refine r_sld hS hw dX11_isAmong_17 ?_
        refine r_icmp_gt (tgt := 25) dX11_isAmong_18 (by decide) ?_ ?_
        · refine r_lo [] (lo2 := []) rfl ?_
          exact hJ25  C
        · refine ro_iconst (v := 1) dX11_isAmong_21 rfl ?_
          refine r_goto (tgt := 26) dX11_isAmong_22 (by decide) ?_
          refine r_lo [] (lo2 := []) rfl ?_
          exact hJ26 1 C
def k_X11_instruct : Kd := (yX11_instruct, cX11_instruct, 5, some .int, [])
theorem kv_X11_instruct : KV k_X11_instruct 3 := ⟨uw_mem 1333 (by decide +kernel) rfl, uw_mem 161 (by decide +kernel) rfl, uw_mem 1331 (by decide +kernel) rfl, uw_mem 1332 (by decide +kernel) rfl, ⟨by decide +kernel, by decide +kernel⟩, by decide +kernel, by decide +kernel⟩
set_option maxHeartbeats 8000000 in
set_option maxRecDepth 100000 in
theorem c_X11_instruct {l : Launch} {Γ : Cx} {M0 : Md} (hG : GK Γ l) (a0 : Nat) (a1 : Int) (a2 : Int) (a3 : Int) {sT : Nat → Nat} (hS : STs Γ sT) (C : Cd) : Ct l Γ k_X11_instruct 7 (encX gI) (emC M0) [.ref a0, wi a1, wi a2, wi a3] C (fX11_instruct a0 a1 a2 a3 C) := by
  refine ct_of (by decide +kernel) rfl (Nat.le_of_ble_eq_true rfl) ?_
  refine r_lo [0, 1, 2, 3] (lo2 := [(0, .ref a0), (1, wi a1), (2, wi a2), (3, wi a3)]) rfl ?_
  unfold fX11_instruct
  refine r_aload_n (x := a0) dX11_instruct_0 rfl rfl ?_
  refine r_iload_n (x := a1) dX11_instruct_1 rfl rfl ?_
  refine r_cxV (c := 14) (h := gR) (k2 := k_X11_moduleOf) (n := 1) (rest := []) um_X11_229 rfl kv_X11_moduleOf hc_X11 (by decide) (c_X11_moduleOf hG _ _ _) (by decide) rfl (Nat.le_of_ble_eq_true rfl) dX11_instruct_2 rfl (fun r2 C1 => ?_)
  show RunO l Γ k_X11_instruct 7 (encX gI) (emC M0) 5 [(0, .ref a0), (1, wi a1), (2, wi a2), (3, wi a3)] [va_rf r2] C1 _
  refine r_astoreq (lo2 := [(4, va_rf r2), (0, .ref a0), (1, wi a1), (2, wi a2), (3, wi a3)]) dX11_instruct_5 (by decide) rfl ?_
  refine r_aload_n (x := a0) dX11_instruct_7 rfl rfl ?_
  refine r_gets 1 hS (by decide) us_X11_233 rfl dX11_instruct_8 ?_
  refine r_iload_n (x := a2) dX11_instruct_11 rfl rfl ?_
  refine r_iload_n (x := a3) dX11_instruct_12 rfl rfl ?_
  refine r_ccVi (c := 14) (k2 := k_X11_isAmong) (n := 3) (rest := []) um_X11_58 rfl kv_X11_isAmong hc_X11 (by decide) (c_X11_isAmong hG _ _ _ _ hS (by decide) _) (by decide) rfl (Nat.le_of_ble_eq_true rfl) dX11_instruct_13 rfl (fun r4 C3 => ?_)
  refine r_if_ne (tgt := 29) dX11_instruct_16 (by decide) ?_ ?_
  · refine r_aloadq (x := r2) dX11_instruct_29 rfl ?_
    refine r_dref (fun p5 hp5 => ?_)
    subst hp5
    refine r_cgetIN (c := 10) (kk := 2) hc_X7 rfl (by decide) inU_X7 (by decide) hG uf_X11_238 rfl (by decide) dX11_instruct_31 ?_
    refine r_bipush (v := 16) dX11_instruct_34 rfl ?_
    refine r_icmp_lt (tgt := 49) dX11_instruct_36 (by decide) ?_ ?_
    · refine r_aload (x := p5) dX11_instruct_49 rfl ?_
      refine r_iload_n (x := a2) dX11_instruct_51 rfl rfl ?_
      refine r_iload_n (x := a3) dX11_instruct_52 rfl rfl ?_
      refine r_ccVNv (c := 10) (k2 := k_X7_add) (n := 2) (rest := []) hG um_X11_243 rfl kv_X7_add hc_X7 (by decide) (c_X7_add hG _ _ _ _) (by decide) rfl (Nat.le_of_ble_eq_true rfl) dX11_instruct_53 rfl (fun r7 C6 => ?_)
      refine r_aload_n (x := a0) dX11_instruct_56 rfl rfl ?_
      refine r_iload_n (x := a1) dX11_instruct_57 rfl rfl ?_
      refine r_ccVv (c := 14) (k2 := k_X11_noteModuleChange) (n := 1) (rest := []) um_X11_245 rfl kv_X11_noteModuleChange hc_X11 (by decide) (c_X11_noteModuleChange hG _ _ _) (by decide) rfl (Nat.le_of_ble_eq_true rfl) dX11_instruct_58 rfl (fun r9 C8 => ?_)
      refine r_aload (x := p5) dX11_instruct_61 rfl ?_
      refine r_cgetIN (c := 10) (kk := 2) hc_X7 rfl (by decide) inU_X7 (by decide) hG uf_X11_238 rfl (by decide) dX11_instruct_63 ?_
      exact r_iretX rfl dX11_instruct_66
    · exact r_throw (e := 1) (text := "the module is full") hG rfl rfl (by decide) (by decide) (by decide) (Nat.le_of_ble_eq_true rfl) dX11_instruct_39 dX11_instruct_42 dX11_instruct_43 dX11_instruct_45 dX11_instruct_48
  · exact r_throw (e := 0) (text := "no such instruction") hG rfl rfl (by decide) (by decide) (by decide) (Nat.le_of_ble_eq_true rfl) dX11_instruct_19 dX11_instruct_22 dX11_instruct_23 dX11_instruct_25 dX11_instruct_28
def k_X11_isOutdated : Kd := (yX11_isOutdated, cX11_isOutdated, 4, some .boolean, [])
theorem kv_X11_isOutdated : KV k_X11_isOutdated 2 := ⟨uw_mem 1649 (by decide +kernel) rfl, uw_mem 161 (by decide +kernel) rfl, uw_mem 1647 (by decide +kernel) rfl, uw_mem 1648 (by decide +kernel) rfl, ⟨by decide +kernel, by decide +kernel⟩, by decide +kernel, by decide +kernel⟩
set_option maxHeartbeats 8000000 in
set_option maxRecDepth 100000 in
theorem c_X11_isOutdated {l : Launch} {Γ : Cx} {M0 : Md} (hG : GK Γ l) (a0 : Nat) (a1 : Int) (a2 : Int) (C : Cd) : Ct l Γ k_X11_isOutdated 7 (encX gI) (emC M0) [.ref a0, wi a1, wi a2] C (fX11_isOutdated a0 a1 a2 C) := by
  refine ct_of (by decide +kernel) rfl (Nat.le_of_ble_eq_true rfl) ?_
  refine r_lo [0, 1, 2] (lo2 := [(0, .ref a0), (1, wi a1), (2, wi a2)]) rfl ?_
  unfold fX11_isOutdated
  refine r_aload_n (x := a0) dX11_isOutdated_0 rfl rfl ?_
  refine r_iload_n (x := a1) dX11_isOutdated_1 rfl rfl ?_
  refine r_cxV (c := 14) (h := gR) (k2 := k_X11_titleOf) (n := 1) (rest := []) um_X11_85 rfl kv_X11_titleOf hc_X11 (by decide) (c_X11_titleOf hG _ _ _) (by decide) rfl (Nat.le_of_ble_eq_true rfl) dX11_isOutdated_2 rfl (fun r2 C1 => ?_)
  show RunO l Γ k_X11_isOutdated 7 (encX gI) (emC M0) 5 [(0, .ref a0), (1, wi a1), (2, wi a2)] [va_rf r2] C1 _
  refine r_astoreq_n (lo2 := [(3, va_rf r2), (0, .ref a0), (1, wi a1), (2, wi a2)]) dX11_isOutdated_5 rfl (by decide) rfl ?_
  refine r_aload_n (x := a0) dX11_isOutdated_6 rfl rfl ?_
  refine r_iload_n (x := a2) dX11_isOutdated_7 rfl rfl ?_
  refine r_cxV (c := 14) (h := gV) (k2 := k_X11_refuseOtherLanguages) (n := 1) (rest := []) um_X11_338 rfl kv_X11_refuseOtherLanguages hc_X11 (by decide) (c_X11_refuseOtherLanguages hG _ _ _) (by decide) rfl (Nat.le_of_ble_eq_true rfl) dX11_isOutdated_8 rfl (fun r4 C3 => ?_)
  show RunO l Γ k_X11_isOutdated 7 (encX gI) (emC M0) 11 [(3, va_rf r2), (0, .ref a0), (1, wi a1), (2, wi a2)] [] C3 _
  refine r_aloadq_n (x := r2) dX11_isOutdated_11 rfl rfl ?_
  refine r_dref (fun p5 hp5 => ?_)
  subst hp5
  refine r_cgetRN (c := 12) (kk := 1) hc_X9 rfl (by decide) inU_X9 (by decide) hG uf_X11_220 rfl (by decide) dX11_isOutdated_12 (fun z6 => ?_)
  refine r_iload_n (x := a2) dX11_isOutdated_15 rfl rfl ?_
  refine r_dref (fun p7 hp7 => ?_)
  subst hp7
  refine r_ciald dX11_isOutdated_16 ?_
  refine ro_iconst (v := (-1)) dX11_isOutdated_17 rfl ?_
  refine r_icmp_ne (tgt := 23) dX11_isOutdated_18 (by decide) ?_ ?_
  · refine r_aload_n (x := p5) dX11_isOutdated_23 rfl rfl ?_
    refine r_cgetRN (c := 12) (kk := 3) hc_X9 rfl (by decide) inU_X9 (by decide) hG uf_X11_102 rfl (by decide) dX11_isOutdated_24 (fun z8 => ?_)
    refine r_join (P := fun (J : Int → Cd → Option ((Int ⊕ Nat) × Cd)) => ∀ (t0_54 : Int) (C_54 : Cd), RunO l Γ k_X11_isOutdated 7 (encX gI) (emC M0) 54 [] [wi t0_54] C_54 (J t0_54 C_54)) ?_ (fun J54 hJ54 => ?_)
    · intro t0_54 C_54
      exact r_zretX rfl dX11_isOutdated_54
    refine r_join (P := fun (J : Cd → Option ((Int ⊕ Nat) × Cd)) => ∀  (C_49 : Cd), RunO l Γ k_X11_isOutdated 7 (encX gI) (emC M0) 49 [] [] C_49 (J C_49)) ?_ (fun J49 hJ49 => ?_)
    · intro C_49
      refine ro_iconst (v := 1) dX11_isOutdated_49 rfl ?_
      refine r_goto (tgt := 54) dX11_isOutdated_50 (by decide) ?_
      exact hJ54 1 C_49
    refine r_opt (fun hn => ?_) (fun p9 hp9 => ?_)
    · subst hn
      refine r_ifnullN (tgt := 49) dX11_isOutdated_27 (by decide) ?_
      refine r_lo [] (lo2 := []) rfl ?_
      exact hJ49  C3
    · subst hp9
      refine r_ifnullS (a := p9) dX11_isOutdated_27 ?_
      refine r_aload_n (x := p5) dX11_isOutdated_30 rfl rfl ?_
      refine r_cgetRN (c := 12) (kk := 3) hc_X9 rfl (by decide) inU_X9 (by decide) hG uf_X11_102 rfl (by decide) dX11_isOutdated_31 (fun z10 => ?_)
      refine r_dref (fun p11 hp11 => ?_)
      subst hp11
      refine r_cgetRN (c := 6) (kk := 1) hc_X3 rfl (by decide) inU_X3 (by decide) hG uf_X11_148 rfl (by decide) dX11_isOutdated_34 (fun z12 => ?_)
      refine r_dref (fun p13 hp13 => ?_)
      subst hp13
      refine r_cgetIN (c := 13) (kk := 0) hc_X10 rfl (by decide) inU_X10 (by decide) hG uf_X11_226 rfl (by decide) dX11_isOutdated_37 ?_
      refine r_aload_n (x := p5) dX11_isOutdated_40 rfl rfl ?_
      refine r_cgetRN (c := 12) (kk := 2) hc_X9 rfl (by decide) inU_X9 (by decide) hG uf_X11_223 rfl (by decide) dX11_isOutdated_41 (fun z14 => ?_)
      refine r_iload_n (x := a2) dX11_isOutdated_44 rfl rfl ?_
      refine r_dref (fun p15 hp15 => ?_)
      subst hp15
      refine r_ciald dX11_isOutdated_45 ?_
      refine r_icmp_eq (tgt := 53) dX11_isOutdated_46 (by decide) ?_ ?_
      · refine ro_iconst (v := 0) dX11_isOutdated_53 rfl ?_
        refine r_lo [] (lo2 := []) rfl ?_
        exact hJ54 0 C3
      · refine r_lo [] (lo2 := []) rfl ?_
        exact hJ49  C3
  · refine ro_iconst (v := 0) dX11_isOutdated_21 rfl ?_
    exact r_zret0X (by first | exact Or.inl rfl | exact Or.inr rfl) rfl dX11_isOutdated_22
def k_X11_isStale : Kd := (yX11_isStale, cX11_isStale, 2, some .boolean, [])
theorem kv_X11_isStale : KV k_X11_isStale 1 := ⟨uw_mem 1591 (by decide +kernel) rfl, uw_mem 161 (by decide +kernel) rfl, uw_mem 1589 (by decide +kernel) rfl, uw_mem 1590 (by decide +kernel) rfl, ⟨by decide +kernel, by decide +kernel⟩, by decide +kernel, by decide +kernel⟩
set_option maxHeartbeats 8000000 in
set_option maxRecDepth 100000 in
theorem c_X11_isStale {l : Launch} {Γ : Cx} {M0 : Md} (hG : GK Γ l) (a0 : Nat) (a1 : Int) (C : Cd) : Ct l Γ k_X11_isStale 8 (encX gI) (emC M0) [.ref a0, wi a1] C (fX11_isStale a0 a1 C) := by
  refine ct_of (by decide +kernel) rfl (Nat.le_of_ble_eq_true rfl) ?_
  refine r_lo [0, 1] (lo2 := [(0, .ref a0), (1, wi a1)]) rfl ?_
  unfold fX11_isStale
  refine r_aload_n (x := a0) dX11_isStale_0 rfl rfl ?_
  refine r_iload_n (x := a1) dX11_isStale_1 rfl rfl ?_
  refine r_cxV (c := 14) (h := gR) (k2 := k_X11_pageOf) (n := 1) (rest := []) um_X11_116 rfl kv_X11_pageOf hc_X11 (by decide) (c_X11_pageOf hG _ _ _) (by decide) rfl (Nat.le_of_ble_eq_true rfl) dX11_isStale_2 rfl (fun r2 C1 => ?_)
  show RunO l Γ k_X11_isStale 8 (encX gI) (emC M0) 5 [(0, .ref a0), (1, wi a1)] [va_rf r2] C1 _
  refine r_pop dX11_isStale_5 (by cases r2 <;> rfl) ?_
  refine r_aload_n (x := a0) dX11_isStale_6 rfl rfl ?_
  refine r_cgetR (c := 14) (kk := 1) hc_X11 rfl (by decide) inU_X11 (by decide) uf_X11_20 rfl (by decide) dX11_isStale_7 (fun z3 => ?_)
  refine r_iload_n (x := a1) dX11_isStale_10 rfl rfl ?_
  refine r_dref (fun p4 hp4 => ?_)
  subst hp4
  refine r_caald (t := 102) rfl (by decide) (by decide) dX11_isStale_11 (fun z5 => ?_)
  refine r_dref (fun p6 hp6 => ?_)
  subst hp6
  refine r_ccVNi (c := 12) (k2 := k_X9_waits) (n := 0) (rest := []) hG um_X11_298 rfl kv_X9_waits hc_X9 (by decide) (c_X9_waits hG _ _) (by decide) rfl (Nat.le_of_ble_eq_true rfl) dX11_isStale_12 rfl (fun r8 C7 => ?_)
  exact r_zretX rfl dX11_isStale_15
def k_X11_leads : Kd := (yX11_leads, cX11_leads, 2, some .int, [])
theorem kv_X11_leads : KV k_X11_leads 1 := ⟨uw_mem 1584 (by decide +kernel) rfl, uw_mem 161 (by decide +kernel) rfl, uw_mem 1582 (by decide +kernel) rfl, uw_mem 1583 (by decide +kernel) rfl, ⟨by decide +kernel, by decide +kernel⟩, by decide +kernel, by decide +kernel⟩
set_option maxHeartbeats 8000000 in
set_option maxRecDepth 100000 in
theorem c_X11_leads {l : Launch} {Γ : Cx} {M0 : Md} (hG : GK Γ l) (a0 : Nat) (a1 : Int) (C : Cd) : Ct l Γ k_X11_leads 7 (encX gI) (emC M0) [.ref a0, wi a1] C (fX11_leads a0 a1 C) := by
  refine ct_of (by decide +kernel) rfl (Nat.le_of_ble_eq_true rfl) ?_
  refine r_lo [0, 1] (lo2 := [(0, .ref a0), (1, wi a1)]) rfl ?_
  unfold fX11_leads
  refine r_aload_n (x := a0) dX11_leads_0 rfl rfl ?_
  refine r_iload_n (x := a1) dX11_leads_1 rfl rfl ?_
  refine r_cxV (c := 14) (h := gR) (k2 := k_X11_titleOf) (n := 1) (rest := []) um_X11_85 rfl kv_X11_titleOf hc_X11 (by decide) (c_X11_titleOf hG _ _ _) (by decide) rfl (Nat.le_of_ble_eq_true rfl) dX11_leads_2 rfl (fun r2 C1 => ?_)
  show RunO l Γ k_X11_leads 7 (encX gI) (emC M0) 5 [(0, .ref a0), (1, wi a1)] [va_rf r2] C1 _
  refine r_pop dX11_leads_5 (by cases r2 <;> rfl) ?_
  refine r_aload_n (x := a0) dX11_leads_6 rfl rfl ?_
  refine r_cgetR (c := 14) (kk := 0) hc_X11 rfl (by decide) inU_X11 (by decide) uf_X11_10 rfl (by decide) dX11_leads_7 (fun z3 => ?_)
  refine r_iload_n (x := a1) dX11_leads_10 rfl rfl ?_
  refine ro_iconst (v := (-1)) dX11_leads_11 rfl ?_
  refine r_dref (fun p4 hp4 => ?_)
  subst hp4
  refine r_ccVNi (c := 4) (k2 := k_X1_goalOf) (n := 2) (rest := []) hG um_X11_294 rfl kv_X1_goalOf hc_X1 (by decide) (c_X1_goalOf hG _ _ _ _) (by decide) rfl (Nat.le_of_ble_eq_true rfl) dX11_leads_12 rfl (fun r6 C5 => ?_)
  exact r_iretX rfl dX11_leads_15
def k_X11_linkingTo : Kd := (yX11_linkingTo, cX11_linkingTo, 4, some .int, [])
theorem kv_X11_linkingTo : KV k_X11_linkingTo 1 := ⟨uw_mem 521 (by decide +kernel) rfl, uw_mem 161 (by decide +kernel) rfl, uw_mem 520 (by decide +kernel) rfl, uw_mem 3 (by decide +kernel) rfl, ⟨by decide +kernel, by decide +kernel⟩, by decide +kernel, by decide +kernel⟩
set_option maxHeartbeats 8000000 in
set_option maxRecDepth 100000 in
theorem c_X11_linkingTo {l : Launch} {Γ : Cx} {M0 : Md} (hG : GK Γ l) (a0 : Nat) (a1 : Int) (C : Cd) : Ct l Γ k_X11_linkingTo 2 encI (emC M0) [.ref a0, wi a1] C (fX11_linkingTo a0 a1 C) := by
  refine ct_of (by decide +kernel) rfl (Nat.le_of_ble_eq_true rfl) ?_
  refine r_lo [0, 1] (lo2 := [(0, .ref a0), (1, wi a1)]) rfl ?_
  unfold fX11_linkingTo
  refine ro_iconst (v := 0) dX11_linkingTo_0 rfl ?_
  refine r_istore_n (lo2 := [(2, wi 0), (0, .ref a0), (1, wi a1)]) dX11_linkingTo_1 rfl (by decide) rfl ?_
  refine ro_iconst (v := 0) dX11_linkingTo_2 rfl ?_
  refine r_istore_n (lo2 := [(3, wi 0), (2, wi 0), (0, .ref a0), (1, wi a1)]) dX11_linkingTo_3 rfl (by decide) rfl ?_
  refine r_loop (P := fun (J : Int → Int → Cd → Option (Int × Cd)) => ∀ (v2_4 : Int) (v3_4 : Int) (C_4 : Cd), RunO l Γ k_X11_linkingTo 2 encI (emC M0) 4 [(0, .ref a0), (1, wi a1), (2, wi v2_4), (3, wi v3_4)] [] C_4 (J v2_4 v3_4 C_4)) ?_ (fun L4 hL4 => ?_) (fun J4 hJ4 => ?_)
  · intros; exact ro_none
  · intro v2_4 v3_4 C_4
    refine r_iload_n (x := v3_4) dX11_linkingTo_4 rfl rfl ?_
    refine r_aload_n (x := a0) dX11_linkingTo_5 rfl rfl ?_
    refine r_cgetR (c := 14) (kk := 1) hc_X11 rfl (by decide) inU_X11 (by decide) uf_X11_20 rfl (by decide) dX11_linkingTo_6 (fun z1 => ?_)
    refine r_dref (fun p2 hp2 => ?_)
    subst hp2
    refine r_calen (t := 102) rfl (by decide) dX11_linkingTo_9 ?_
    refine r_icmp_ge (tgt := 44) dX11_linkingTo_10 (by decide) ?_ ?_
    · refine r_iload_n (x := v2_4) dX11_linkingTo_44 rfl rfl ?_
      exact r_iret rfl dX11_linkingTo_45
    · refine r_aload_n (x := a0) dX11_linkingTo_13 rfl rfl ?_
      refine r_cgetR (c := 14) (kk := 1) hc_X11 rfl (by decide) inU_X11 (by decide) uf_X11_20 rfl (by decide) dX11_linkingTo_14 (fun z3 => ?_)
      refine r_iload_n (x := v3_4) dX11_linkingTo_17 rfl rfl ?_
      refine r_dref (fun p4 hp4 => ?_)
      subst hp4
      refine r_caald (t := 102) rfl (by decide) (by decide) dX11_linkingTo_18 (fun z5 => ?_)
      refine r_dref (fun p6 hp6 => ?_)
      subst hp6
      refine r_cgetRN (c := 12) (kk := 0) hc_X9 rfl (by decide) inU_X9 (by decide) hG uf_X11_260 rfl (by decide) dX11_linkingTo_19 (fun z7 => ?_)
      refine r_dref (fun p8 hp8 => ?_)
      subst hp8
      refine r_cgetIN (c := 7) (kk := 3) hc_X4 rfl (by decide) inU_X4 (by decide) hG uf_X11_315 rfl (by decide) dX11_linkingTo_22 ?_
      refine r_iload_n (x := a1) dX11_linkingTo_25 rfl rfl ?_
      refine r_ccSi (k2 := k_X11_has) (n := 2) (rest := []) um_X11_198 rfl kv_X11_has (c_X11_has hG _ _ _) (by decide) rfl (Nat.le_of_ble_eq_true rfl) dX11_linkingTo_26 rfl (fun r10 C9 => ?_)
      refine r_join (P := fun (J : Int → Cd → Option (Int × Cd)) => ∀ (v2_38 : Int) (C_38 : Cd), RunO l Γ k_X11_linkingTo 2 encI (emC M0) 38 [(0, .ref a0), (1, wi a1), (2, wi v2_38), (3, wi v3_4)] [] C_38 (J v2_38 C_38)) ?_ (fun J38 hJ38 => ?_)
      · intro v2_38 C_38
        refine r_iinc (x := v3_4) (lo2 := [(3, wi (v3_4 + 1)), (0, .ref a0), (1, wi a1), (2, wi v2_38)]) dX11_linkingTo_38 rfl (by decide) rfl ?_
        refine r_goto (tgt := 4) dX11_linkingTo_41 (by decide) ?_
        refine r_lo [1, 2, 3, 0] (lo2 := [(0, .ref a0), (1, wi a1), (2, wi v2_38), (3, wi (v3_4 + 1))]) rfl ?_
        exact hL4 v2_38 (v3_4 + 1) C_38
      refine r_if_eq (tgt := 38) dX11_linkingTo_29 (by decide) ?_ ?_
      · exact hJ38 v2_4 C9
      · refine r_iload_n (x := v2_4) dX11_linkingTo_32 rfl rfl ?_
        refine ro_iconst (v := 1) dX11_linkingTo_33 rfl ?_
        refine r_iload_n (x := v3_4) dX11_linkingTo_34 rfl rfl ?_
        refine r_ishl dX11_linkingTo_35 ?_
        refine r_ior dX11_linkingTo_36 ?_
        refine r_nm (fun x2_37 => ?_)
        refine r_istore_n (lo2 := [(2, wi x2_37), (0, .ref a0), (1, wi a1), (3, wi v3_4)]) dX11_linkingTo_37 rfl (by decide) rfl ?_
        refine r_lo [1, 2, 0, 3] (lo2 := [(0, .ref a0), (1, wi a1), (2, wi x2_37), (3, wi v3_4)]) rfl ?_
        exact hJ38 x2_37 C9
  refine r_lo [2, 3, 1, 0] (lo2 := [(0, .ref a0), (1, wi a1), (2, wi 0), (3, wi 0)]) rfl ?_
  exact hJ4 0 0 C
def k_X11_linked : Kd := (yX11_linked, cX11_linked, 4, some .int, [])
theorem kv_X11_linked : KV k_X11_linked 2 := ⟨uw_mem 1620 (by decide +kernel) rfl, uw_mem 161 (by decide +kernel) rfl, uw_mem 1618 (by decide +kernel) rfl, uw_mem 1619 (by decide +kernel) rfl, ⟨by decide +kernel, by decide +kernel⟩, by decide +kernel, by decide +kernel⟩
set_option maxHeartbeats 8000000 in
set_option maxRecDepth 100000 in
theorem c_X11_linked {l : Launch} {Γ : Cx} {M0 : Md} (hG : GK Γ l) (a0 : Nat) (a1 : Int) (a2 : Int) (C : Cd) : Ct l Γ k_X11_linked 7 (encX gI) (emC M0) [.ref a0, wi a1, wi a2] C (fX11_linked a0 a1 a2 C) := by
  refine ct_of (by decide +kernel) rfl (Nat.le_of_ble_eq_true rfl) ?_
  refine r_lo [0, 1, 2] (lo2 := [(0, .ref a0), (1, wi a1), (2, wi a2)]) rfl ?_
  unfold fX11_linked
  refine r_aload_n (x := a0) dX11_linked_0 rfl rfl ?_
  refine r_iload_n (x := a1) dX11_linked_1 rfl rfl ?_
  refine r_cxV (c := 14) (h := gR) (k2 := k_X11_titleOf) (n := 1) (rest := []) um_X11_85 rfl kv_X11_titleOf hc_X11 (by decide) (c_X11_titleOf hG _ _ _) (by decide) rfl (Nat.le_of_ble_eq_true rfl) dX11_linked_2 rfl (fun r2 C1 => ?_)
  show RunO l Γ k_X11_linked 7 (encX gI) (emC M0) 5 [(0, .ref a0), (1, wi a1), (2, wi a2)] [va_rf r2] C1 _
  refine r_astoreq_n (lo2 := [(3, va_rf r2), (0, .ref a0), (1, wi a1), (2, wi a2)]) dX11_linked_5 rfl (by decide) rfl ?_
  refine r_iload_n (x := a2) dX11_linked_6 rfl rfl ?_
  refine r_tswC (v := 0) (off := 25) (tgt := 32) dX11_linked_7 (by decide) (by decide) rfl (by decide) ?_ (fun n0 => ?_)
  · refine r_aloadq_n (x := r2) dX11_linked_32 rfl rfl ?_
    refine r_dref (fun p3 hp3 => ?_)
    subst hp3
    refine r_cgetRN (c := 12) (kk := 0) hc_X9 rfl (by decide) inU_X9 (by decide) hG uf_X11_260 rfl (by decide) dX11_linked_33 (fun z4 => ?_)
    refine r_dref (fun p5 hp5 => ?_)
    subst hp5
    refine r_cgetIN (c := 7) (kk := 3) hc_X4 rfl (by decide) inU_X4 (by decide) hG uf_X11_315 rfl (by decide) dX11_linked_36 ?_
    exact r_iretX rfl dX11_linked_39
  refine r_tswC (v := 1) (off := 33) (tgt := 40) dX11_linked_7 (by decide) (by decide) rfl (by decide) ?_ (fun n1 => ?_)
  · refine r_aload_n (x := a0) dX11_linked_40 rfl rfl ?_
    refine r_iload_n (x := a1) dX11_linked_41 rfl rfl ?_
    refine r_ccVi (c := 14) (k2 := k_X11_linkingTo) (n := 1) (rest := []) um_X11_318 rfl kv_X11_linkingTo hc_X11 (by decide) (c_X11_linkingTo hG _ _ _) (by decide) rfl (Nat.le_of_ble_eq_true rfl) dX11_linked_42 rfl (fun r7 C6 => ?_)
    exact r_iretX rfl dX11_linked_45
  refine r_tswC (v := 2) (off := 39) (tgt := 46) dX11_linked_7 (by decide) (by decide) rfl (by decide) ?_ (fun n2 => ?_)
  · refine r_aloadq_n (x := r2) dX11_linked_46 rfl rfl ?_
    refine r_dref (fun p8 hp8 => ?_)
    subst hp8
    refine r_cgetRN (c := 12) (kk := 0) hc_X9 rfl (by decide) inU_X9 (by decide) hG uf_X11_260 rfl (by decide) dX11_linked_47 (fun z9 => ?_)
    refine r_dref (fun p10 hp10 => ?_)
    subst hp10
    refine r_cgetIN (c := 7) (kk := 5) hc_X4 rfl (by decide) inU_X4 (by decide) hG uf_X11_321 rfl (by decide) dX11_linked_50 ?_
    exact r_iretX rfl dX11_linked_53
  refine r_tswD (tgt := 54) dX11_linked_7 (by omega) (by decide) ?_
  exact r_throwW (e := 2) (text := "no such question") hG rfl rfl (by decide) (by decide) (by decide) (Nat.le_of_ble_eq_true rfl) dX11_linked_54 dX11_linked_57 dX11_linked_58 dX11_linked_61 dX11_linked_64
def k_X11_lonelyTitles : Kd := (yX11_lonelyTitles, cX11_lonelyTitles, 4, some .int, [])
theorem kv_X11_lonelyTitles : KV k_X11_lonelyTitles 0 := ⟨uw_mem 528 (by decide +kernel) rfl, uw_mem 161 (by decide +kernel) rfl, uw_mem 527 (by decide +kernel) rfl, uw_mem 4 (by decide +kernel) rfl, ⟨by decide +kernel, by decide +kernel⟩, by decide +kernel, by decide +kernel⟩
set_option maxHeartbeats 8000000 in
set_option maxRecDepth 100000 in
theorem c_X11_lonelyTitles {l : Launch} {Γ : Cx} {M0 : Md} (hG : GK Γ l) (a0 : Nat) (C : Cd) : Ct l Γ k_X11_lonelyTitles 4 encI (emC M0) [.ref a0] C (fX11_lonelyTitles a0 C) := by
  refine ct_of (by decide +kernel) rfl (Nat.le_of_ble_eq_true rfl) ?_
  refine r_lo [0] (lo2 := [(0, .ref a0)]) rfl ?_
  unfold fX11_lonelyTitles
  refine ro_iconst (v := 0) dX11_lonelyTitles_0 rfl ?_
  refine r_istore_n (lo2 := [(1, wi 0), (0, .ref a0)]) dX11_lonelyTitles_1 rfl (by decide) rfl ?_
  refine ro_iconst (v := 0) dX11_lonelyTitles_2 rfl ?_
  refine r_istore_n (lo2 := [(2, wi 0), (1, wi 0), (0, .ref a0)]) dX11_lonelyTitles_3 rfl (by decide) rfl ?_
  refine r_loop (P := fun (J : Int → Int → Cd → Option (Int × Cd)) => ∀ (v1_4 : Int) (v2_4 : Int) (C_4 : Cd), RunO l Γ k_X11_lonelyTitles 4 encI (emC M0) 4 [(0, .ref a0), (1, wi v1_4), (2, wi v2_4)] [] C_4 (J v1_4 v2_4 C_4)) ?_ (fun L4 hL4 => ?_) (fun J4 hJ4 => ?_)
  · intros; exact ro_none
  · intro v1_4 v2_4 C_4
    refine r_iload_n (x := v2_4) dX11_lonelyTitles_4 rfl rfl ?_
    refine r_aload_n (x := a0) dX11_lonelyTitles_5 rfl rfl ?_
    refine r_cgetR (c := 14) (kk := 1) hc_X11 rfl (by decide) inU_X11 (by decide) uf_X11_20 rfl (by decide) dX11_lonelyTitles_6 (fun z1 => ?_)
    refine r_dref (fun p2 hp2 => ?_)
    subst hp2
    refine r_calen (t := 102) rfl (by decide) dX11_lonelyTitles_9 ?_
    refine r_icmp_ge (tgt := 58) dX11_lonelyTitles_10 (by decide) ?_ ?_
    · refine ro_iconst (v := 0) dX11_lonelyTitles_58 rfl ?_
      refine r_istore_n (lo2 := [(2, wi 0), (0, .ref a0), (1, wi v1_4)]) dX11_lonelyTitles_59 rfl (by decide) rfl ?_
      refine r_loop (P := fun (J : Int → Int → Cd → Option (Int × Cd)) => ∀ (v1_60 : Int) (v2_60 : Int) (C_60 : Cd), RunO l Γ k_X11_lonelyTitles 4 encI (emC M0) 60 [(0, .ref a0), (1, wi v1_60), (2, wi v2_60)] [] C_60 (J v1_60 v2_60 C_60)) ?_ (fun L60 hL60 => ?_) (fun J60 hJ60 => ?_)
      · intros; exact ro_none
      · intro v1_60 v2_60 C_60
        refine r_iload_n (x := v2_60) dX11_lonelyTitles_60 rfl rfl ?_
        refine r_aload_n (x := a0) dX11_lonelyTitles_61 rfl rfl ?_
        refine r_cgetR (c := 14) (kk := 1) hc_X11 rfl (by decide) inU_X11 (by decide) uf_X11_20 rfl (by decide) dX11_lonelyTitles_62 (fun z3 => ?_)
        refine r_dref (fun p4 hp4 => ?_)
        subst hp4
        refine r_calen (t := 102) rfl (by decide) dX11_lonelyTitles_65 ?_
        refine r_icmp_ge (tgt := 112) dX11_lonelyTitles_66 (by decide) ?_ ?_
        · refine r_iload_n (x := v1_60) dX11_lonelyTitles_112 rfl rfl ?_
          exact r_iret rfl dX11_lonelyTitles_113
        · refine r_aload_n (x := a0) dX11_lonelyTitles_69 rfl rfl ?_
          refine r_cgetR (c := 14) (kk := 0) hc_X11 rfl (by decide) inU_X11 (by decide) uf_X11_10 rfl (by decide) dX11_lonelyTitles_70 (fun z5 => ?_)
          refine r_iload_n (x := v2_60) dX11_lonelyTitles_73 rfl rfl ?_
          refine ro_iconst (v := (-1)) dX11_lonelyTitles_74 rfl ?_
          refine r_dref (fun p6 hp6 => ?_)
          subst hp6
          refine r_ccVNi (c := 4) (k2 := k_X1_goalOf) (n := 2) (rest := []) hG um_X11_294 rfl kv_X1_goalOf hc_X1 (by decide) (c_X1_goalOf hG _ _ _ _) (by decide) rfl (Nat.le_of_ble_eq_true rfl) dX11_lonelyTitles_75 rfl (fun r8 C7 => ?_)
          refine r_istore_n (lo2 := [(3, wi r8), (0, .ref a0), (1, wi v1_60), (2, wi v2_60)]) dX11_lonelyTitles_78 rfl (by decide) rfl ?_
          refine r_iload_n (x := r8) dX11_lonelyTitles_79 rfl rfl ?_
          refine ro_iconst (v := (-1)) dX11_lonelyTitles_80 rfl ?_
          refine r_join (P := fun (J : Int → Cd → Option (Int × Cd)) => ∀ (v1_106 : Int) (C_106 : Cd), RunO l Γ k_X11_lonelyTitles 4 encI (emC M0) 106 [(0, .ref a0), (1, wi v1_106), (2, wi v2_60)] [] C_106 (J v1_106 C_106)) ?_ (fun J106 hJ106 => ?_)
          · intro v1_106 C_106
            refine r_iinc (x := v2_60) (lo2 := [(2, wi (v2_60 + 1)), (0, .ref a0), (1, wi v1_106)]) dX11_lonelyTitles_106 rfl (by decide) rfl ?_
            refine r_goto (tgt := 60) dX11_lonelyTitles_109 (by decide) ?_
            refine r_lo [1, 2, 0] (lo2 := [(0, .ref a0), (1, wi v1_106), (2, wi (v2_60 + 1))]) rfl ?_
            exact hL60 v1_106 (v2_60 + 1) C_106
          refine r_icmp_eq (tgt := 106) dX11_lonelyTitles_81 (by decide) ?_ ?_
          · refine r_lo [1, 2, 3] (lo2 := [(0, .ref a0), (1, wi v1_60), (2, wi v2_60)]) rfl ?_
            exact hJ106 v1_60 C7
          · refine r_aload_n (x := a0) dX11_lonelyTitles_84 rfl rfl ?_
            refine r_iload_n (x := v2_60) dX11_lonelyTitles_85 rfl rfl ?_
            refine r_ccVi (c := 14) (k2 := k_X11_linkingTo) (n := 1) (rest := []) um_X11_318 rfl kv_X11_linkingTo hc_X11 (by decide) (c_X11_linkingTo hG _ _ _) (by decide) rfl (Nat.le_of_ble_eq_true rfl) dX11_lonelyTitles_86 rfl (fun r10 C9 => ?_)
            refine ro_iconst (v := 1) dX11_lonelyTitles_89 rfl ?_
            refine r_iload_n (x := r8) dX11_lonelyTitles_90 rfl rfl ?_
            refine r_ishl dX11_lonelyTitles_91 ?_
            refine ro_iconst (v := (-1)) dX11_lonelyTitles_92 rfl ?_
            refine r_ixor dX11_lonelyTitles_93 ?_
            refine r_iand dX11_lonelyTitles_94 ?_
            refine r_if_eq (tgt := 106) dX11_lonelyTitles_95 (by decide) ?_ ?_
            · refine r_lo [1, 2, 3] (lo2 := [(0, .ref a0), (1, wi v1_60), (2, wi v2_60)]) rfl ?_
              exact hJ106 v1_60 C9
            · refine r_iload_n (x := v1_60) dX11_lonelyTitles_98 rfl rfl ?_
              refine ro_iconst (v := 1) dX11_lonelyTitles_99 rfl ?_
              refine r_iload_n (x := r8) dX11_lonelyTitles_100 rfl rfl ?_
              refine r_ishl dX11_lonelyTitles_101 ?_
              refine ro_iconst (v := (-1)) dX11_lonelyTitles_102 rfl ?_
              refine r_ixor dX11_lonelyTitles_103 ?_
              refine r_iand dX11_lonelyTitles_104 ?_
              refine r_nm (fun x1_105 => ?_)
              refine r_istore_n (lo2 := [(1, wi x1_105), (3, wi r8), (0, .ref a0), (2, wi v2_60)]) dX11_lonelyTitles_105 rfl (by decide) rfl ?_
              refine r_lo [2, 0, 3] (lo2 := [(0, .ref a0), (1, wi x1_105), (2, wi v2_60)]) rfl ?_
              exact hJ106 x1_105 C9
      refine r_lo [1, 2, 0] (lo2 := [(0, .ref a0), (1, wi v1_4), (2, wi 0)]) rfl ?_
      exact hJ60 v1_4 0 C_4
    · refine r_aload_n (x := a0) dX11_lonelyTitles_13 rfl rfl ?_
      refine r_cgetR (c := 14) (kk := 1) hc_X11 rfl (by decide) inU_X11 (by decide) uf_X11_20 rfl (by decide) dX11_lonelyTitles_14 (fun z11 => ?_)
      refine r_iload_n (x := v2_4) dX11_lonelyTitles_17 rfl rfl ?_
      refine r_dref (fun p12 hp12 => ?_)
      subst hp12
      refine r_caald (t := 102) rfl (by decide) (by decide) dX11_lonelyTitles_18 (fun z13 => ?_)
      refine r_dref (fun p14 hp14 => ?_)
      subst hp14
      refine r_cgetRN (c := 12) (kk := 3) hc_X9 rfl (by decide) inU_X9 (by decide) hG uf_X11_102 rfl (by decide) dX11_lonelyTitles_19 (fun z15 => ?_)
      refine r_join (P := fun (J : Int → Cd → Option (Int × Cd)) => ∀ (v1_52 : Int) (C_52 : Cd), RunO l Γ k_X11_lonelyTitles 4 encI (emC M0) 52 [(0, .ref a0), (1, wi v1_52), (2, wi v2_4)] [] C_52 (J v1_52 C_52)) ?_ (fun J52 hJ52 => ?_)
      · intro v1_52 C_52
        refine r_iinc (x := v2_4) (lo2 := [(2, wi (v2_4 + 1)), (0, .ref a0), (1, wi v1_52)]) dX11_lonelyTitles_52 rfl (by decide) rfl ?_
        refine r_goto (tgt := 4) dX11_lonelyTitles_55 (by decide) ?_
        refine r_lo [1, 2, 0] (lo2 := [(0, .ref a0), (1, wi v1_52), (2, wi (v2_4 + 1))]) rfl ?_
        exact hL4 v1_52 (v2_4 + 1) C_52
      refine r_opt (fun hn => ?_) (fun p16 hp16 => ?_)
      · subst hn
        refine r_ifnullN (tgt := 52) dX11_lonelyTitles_22 (by decide) ?_
        exact hJ52 v1_4 C_4
      · subst hp16
        refine r_ifnullS (a := p16) dX11_lonelyTitles_22 ?_
        refine r_aload_n (x := a0) dX11_lonelyTitles_25 rfl rfl ?_
        refine r_cgetR (c := 14) (kk := 1) hc_X11 rfl (by decide) inU_X11 (by decide) uf_X11_20 rfl (by decide) dX11_lonelyTitles_26 (fun z17 => ?_)
        refine r_iload_n (x := v2_4) dX11_lonelyTitles_29 rfl rfl ?_
        refine r_dref (fun p18 hp18 => ?_)
        subst hp18
        refine r_caald (t := 102) rfl (by decide) (by decide) dX11_lonelyTitles_30 (fun z19 => ?_)
        refine r_dref (fun p20 hp20 => ?_)
        subst hp20
        refine r_cgetRN (c := 12) (kk := 3) hc_X9 rfl (by decide) inU_X9 (by decide) hG uf_X11_102 rfl (by decide) dX11_lonelyTitles_31 (fun z21 => ?_)
        refine r_dref (fun p22 hp22 => ?_)
        subst hp22
        refine r_cgetRN (c := 6) (kk := 1) hc_X3 rfl (by decide) inU_X3 (by decide) hG uf_X11_148 rfl (by decide) dX11_lonelyTitles_34 (fun z23 => ?_)
        refine r_dref (fun p24 hp24 => ?_)
        subst hp24
        refine r_cgetRN (c := 13) (kk := 2) hc_X10 rfl (by decide) inU_X10 (by decide) hG uf_X11_130 rfl (by decide) dX11_lonelyTitles_37 (fun z25 => ?_)
        refine r_dref (fun p26 hp26 => ?_)
        subst hp26
        refine r_ccVNi (c := 11) (k2 := k_X8_isRedirect) (n := 0) (rest := []) hG um_X11_399 rfl kv_X8_isRedirect hc_X8 (by decide) (c_X8_isRedirect hG _ _) (by decide) rfl (Nat.le_of_ble_eq_true rfl) dX11_lonelyTitles_40 rfl (fun r28 C27 => ?_)
        refine r_if_ne (tgt := 52) dX11_lonelyTitles_43 (by decide) ?_ ?_
        · exact hJ52 v1_4 C27
        · refine r_iload_n (x := v1_4) dX11_lonelyTitles_46 rfl rfl ?_
          refine ro_iconst (v := 1) dX11_lonelyTitles_47 rfl ?_
          refine r_iload_n (x := v2_4) dX11_lonelyTitles_48 rfl rfl ?_
          refine r_ishl dX11_lonelyTitles_49 ?_
          refine r_ior dX11_lonelyTitles_50 ?_
          refine r_nm (fun x1_51 => ?_)
          refine r_istore_n (lo2 := [(1, wi x1_51), (0, .ref a0), (2, wi v2_4)]) dX11_lonelyTitles_51 rfl (by decide) rfl ?_
          refine r_lo [1, 0, 2] (lo2 := [(0, .ref a0), (1, wi x1_51), (2, wi v2_4)]) rfl ?_
          exact hJ52 x1_51 C27
  refine r_lo [2, 1, 0] (lo2 := [(0, .ref a0), (1, wi 0), (2, wi 0)]) rfl ?_
  exact hJ4 0 0 C
def k_X11_mayActInTree : Kd := (yX11_mayActInTree, cX11_mayActInTree, 3, some .boolean, [])
theorem kv_X11_mayActInTree : KV k_X11_mayActInTree 1 := ⟨uw_mem 1285 (by decide +kernel) rfl, uw_mem 161 (by decide +kernel) rfl, uw_mem 1284 (by decide +kernel) rfl, uw_mem 52 (by decide +kernel) rfl, ⟨by decide +kernel, by decide +kernel⟩, by decide +kernel, by decide +kernel⟩
set_option maxHeartbeats 8000000 in
set_option maxRecDepth 100000 in
theorem c_X11_mayActInTree {l : Launch} {Γ : Cx} {M0 : Md} (hG : GK Γ l) (a0 : Nat) (a1 : Int) (C : Cd) : Ct l Γ k_X11_mayActInTree 2 encI (emC M0) [.ref a0, wi a1] C (fX11_mayActInTree a0 a1 C) := by
  refine ct_of (by decide +kernel) rfl (Nat.le_of_ble_eq_true rfl) ?_
  refine r_lo [0, 1] (lo2 := [(0, .ref a0), (1, wi a1)]) rfl ?_
  unfold fX11_mayActInTree
  refine ro_iconst (v := 0) dX11_mayActInTree_0 rfl ?_
  refine r_istore_n (lo2 := [(2, wi 0), (0, .ref a0), (1, wi a1)]) dX11_mayActInTree_1 rfl (by decide) rfl ?_
  refine r_loop (P := fun (J : Int → Cd → Option (Int × Cd)) => ∀ (v2_2 : Int) (C_2 : Cd), RunO l Γ k_X11_mayActInTree 2 encI (emC M0) 2 [(0, .ref a0), (1, wi a1), (2, wi v2_2)] [] C_2 (J v2_2 C_2)) ?_ (fun L2 hL2 => ?_) (fun J2 hJ2 => ?_)
  · intros; exact ro_none
  · intro v2_2 C_2
    refine r_iload_n (x := v2_2) dX11_mayActInTree_2 rfl rfl ?_
    refine r_aload_n (x := a0) dX11_mayActInTree_3 rfl rfl ?_
    refine r_cgetR (c := 14) (kk := 1) hc_X11 rfl (by decide) inU_X11 (by decide) uf_X11_20 rfl (by decide) dX11_mayActInTree_4 (fun z1 => ?_)
    refine r_dref (fun p2 hp2 => ?_)
    subst hp2
    refine r_calen (t := 102) rfl (by decide) dX11_mayActInTree_7 ?_
    refine r_icmp_ge (tgt := 39) dX11_mayActInTree_8 (by decide) ?_ ?_
    · refine ro_iconst (v := 1) dX11_mayActInTree_39 rfl ?_
      exact r_zret0 (by first | exact Or.inl rfl | exact Or.inr rfl) rfl dX11_mayActInTree_40
    · refine r_iload_n (x := v2_2) dX11_mayActInTree_11 rfl rfl ?_
      refine ro_iconst (v := 4) dX11_mayActInTree_12 rfl ?_
      refine r_idiv dX11_mayActInTree_13 (by decide) ?_
      refine r_iload_n (x := a1) dX11_mayActInTree_14 rfl rfl ?_
      refine r_join (P := fun (J : Cd → Option (Int × Cd)) => ∀  (C_33 : Cd), RunO l Γ k_X11_mayActInTree 2 encI (emC M0) 33 [(0, .ref a0), (1, wi a1), (2, wi v2_2)] [] C_33 (J C_33)) ?_ (fun J33 hJ33 => ?_)
      · intro C_33
        refine r_iinc (x := v2_2) (lo2 := [(2, wi (v2_2 + 1)), (0, .ref a0), (1, wi a1)]) dX11_mayActInTree_33 rfl (by decide) rfl ?_
        refine r_goto (tgt := 2) dX11_mayActInTree_36 (by decide) ?_
        refine r_lo [1, 2, 0] (lo2 := [(0, .ref a0), (1, wi a1), (2, wi (v2_2 + 1))]) rfl ?_
        exact hL2 (v2_2 + 1) C_33
      refine r_icmp_ne (tgt := 33) dX11_mayActInTree_15 (by decide) ?_ ?_
      · exact hJ33  C_2
      · refine r_aload_n (x := a0) dX11_mayActInTree_18 rfl rfl ?_
        refine r_aload_n (x := a0) dX11_mayActInTree_19 rfl rfl ?_
        refine r_cgetR (c := 14) (kk := 1) hc_X11 rfl (by decide) inU_X11 (by decide) uf_X11_20 rfl (by decide) dX11_mayActInTree_20 (fun z3 => ?_)
        refine r_iload_n (x := v2_2) dX11_mayActInTree_23 rfl rfl ?_
        refine r_dref (fun p4 hp4 => ?_)
        subst hp4
        refine r_caald (t := 102) rfl (by decide) (by decide) dX11_mayActInTree_24 (fun z5 => ?_)
        refine r_ccVi (c := 14) (k2 := k_X11_mayActAt) (n := 1) (rest := []) um_X11_91 rfl kv_X11_mayActAt hc_X11 (by decide) (c_X11_mayActAt hG _ _ _) (by decide) rfl (Nat.le_of_ble_eq_true rfl) dX11_mayActInTree_25 rfl (fun r7 C6 => ?_)
        refine r_if_ne (tgt := 33) dX11_mayActInTree_28 (by decide) ?_ ?_
        · exact hJ33  C6
        · refine ro_iconst (v := 0) dX11_mayActInTree_31 rfl ?_
          exact r_zret0 (by first | exact Or.inl rfl | exact Or.inr rfl) rfl dX11_mayActInTree_32
  refine r_lo [1, 2, 0] (lo2 := [(0, .ref a0), (1, wi a1), (2, wi 0)]) rfl ?_
  exact hJ2 0 C
def k_X11_members : Kd := (yX11_members, cX11_members, 2, some .int, [])
theorem kv_X11_members : KV k_X11_members 1 := ⟨uw_mem 1628 (by decide +kernel) rfl, uw_mem 161 (by decide +kernel) rfl, uw_mem 1626 (by decide +kernel) rfl, uw_mem 1627 (by decide +kernel) rfl, ⟨by decide +kernel, by decide +kernel⟩, by decide +kernel, by decide +kernel⟩
set_option maxHeartbeats 8000000 in
set_option maxRecDepth 100000 in
theorem c_X11_members {l : Launch} {Γ : Cx} {M0 : Md} (hG : GK Γ l) (a0 : Nat) (a1 : Int) (C : Cd) : Ct l Γ k_X11_members 6 (encX gI) (emC M0) [.ref a0, wi a1] C (fX11_members a0 a1 C) := by
  refine ct_of (by decide +kernel) rfl (Nat.le_of_ble_eq_true rfl) ?_
  refine r_lo [0, 1] (lo2 := [(0, .ref a0), (1, wi a1)]) rfl ?_
  unfold fX11_members
  refine r_iload_n (x := a1) dX11_members_0 rfl rfl ?_
  refine r_join (P := fun (J : Cd → Option ((Int ⊕ Nat) × Cd)) => ∀  (C_10 : Cd), RunO l Γ k_X11_members 6 (encX gI) (emC M0) 10 [] [] C_10 (J C_10)) ?_ (fun J10 hJ10 => ?_)
  · intro C_10
    exact r_throwW (e := 2) (text := "no such category") hG rfl rfl (by decide) (by decide) (by decide) (Nat.le_of_ble_eq_true rfl) dX11_members_10 dX11_members_13 dX11_members_14 dX11_members_17 dX11_members_20
  refine r_if_lt (tgt := 10) dX11_members_1 (by decide) ?_ ?_
  · refine r_lo [] (lo2 := []) rfl ?_
    exact hJ10  C
  · refine r_iload_n (x := a1) dX11_members_4 rfl rfl ?_
    refine r_bipush (v := 8) dX11_members_5 rfl ?_
    refine r_icmp_lt (tgt := 21) dX11_members_7 (by decide) ?_ ?_
    · refine r_aload_n (x := a0) dX11_members_21 rfl rfl ?_
      refine r_cgetR (c := 14) (kk := 1) hc_X11 rfl (by decide) inU_X11 (by decide) uf_X11_20 rfl (by decide) dX11_members_22 (fun z1 => ?_)
      refine r_iload_n (x := a1) dX11_members_25 rfl rfl ?_
      refine r_ccSi (k2 := k_X11_membersOf) (n := 2) (rest := []) um_X11_328 rfl kv_X11_membersOf (c_X11_membersOf hG _ _ _) (by decide) rfl (Nat.le_of_ble_eq_true rfl) dX11_members_26 rfl (fun r3 C2 => ?_)
      exact r_iretX rfl dX11_members_29
    · refine r_lo [] (lo2 := []) rfl ?_
      exact hJ10  C
def k_X11_move : Kd := (yX11_move, cX11_move, 5, some .int, [])
theorem kv_X11_move : KV k_X11_move 2 := ⟨uw_mem 1238 (by decide +kernel) rfl, uw_mem 161 (by decide +kernel) rfl, uw_mem 1236 (by decide +kernel) rfl, uw_mem 1237 (by decide +kernel) rfl, ⟨by decide +kernel, by decide +kernel⟩, by decide +kernel, by decide +kernel⟩
set_option maxHeartbeats 8000000 in
set_option maxRecDepth 100000 in
theorem c_X11_move {l : Launch} {Γ : Cx} {M0 : Md} (hG : GK Γ l) (a0 : Nat) (a1 : Int) (a2 : Int) (C : Cd) : Ct l Γ k_X11_move 11 (encX gI) (emC M0) [.ref a0, wi a1, wi a2] C (fX11_move a0 a1 a2 C) := by
  refine ct_of (by decide +kernel) rfl (Nat.le_of_ble_eq_true rfl) ?_
  refine r_lo [0, 1, 2] (lo2 := [(0, .ref a0), (1, wi a1), (2, wi a2)]) rfl ?_
  unfold fX11_move
  refine r_aload_n (x := a0) dX11_move_0 rfl rfl ?_
  refine r_iload_n (x := a1) dX11_move_1 rfl rfl ?_
  refine r_cxV (c := 14) (h := gR) (k2 := k_X11_titleOf) (n := 1) (rest := []) um_X11_85 rfl kv_X11_titleOf hc_X11 (by decide) (c_X11_titleOf hG _ _ _) (by decide) rfl (Nat.le_of_ble_eq_true rfl) dX11_move_2 rfl (fun r2 C1 => ?_)
  show RunO l Γ k_X11_move 11 (encX gI) (emC M0) 5 [(0, .ref a0), (1, wi a1), (2, wi a2)] [va_rf r2] C1 _
  refine r_astoreq_n (lo2 := [(3, va_rf r2), (0, .ref a0), (1, wi a1), (2, wi a2)]) dX11_move_5 rfl (by decide) rfl ?_
  refine r_aload_n (x := a0) dX11_move_6 rfl rfl ?_
  refine r_iload_n (x := a2) dX11_move_7 rfl rfl ?_
  refine r_cxV (c := 14) (h := gR) (k2 := k_X11_titleOf) (n := 1) (rest := []) um_X11_85 rfl kv_X11_titleOf hc_X11 (by decide) (c_X11_titleOf hG _ _ _) (by decide) rfl (Nat.le_of_ble_eq_true rfl) dX11_move_8 rfl (fun r4 C3 => ?_)
  show RunO l Γ k_X11_move 11 (encX gI) (emC M0) 11 [(3, va_rf r2), (0, .ref a0), (1, wi a1), (2, wi a2)] [va_rf r4] C3 _
  refine r_astoreq (lo2 := [(4, va_rf r4), (3, va_rf r2), (0, .ref a0), (1, wi a1), (2, wi a2)]) dX11_move_11 (by decide) (by cases r2 <;> rfl) ?_
  refine r_aloadq_n (x := r2) dX11_move_13 rfl rfl ?_
  refine r_dref (fun p5 hp5 => ?_)
  subst hp5
  refine r_cgetRN (c := 12) (kk := 3) hc_X9 rfl (by decide) inU_X9 (by decide) hG uf_X11_102 rfl (by decide) dX11_move_14 (fun z6 => ?_)
  refine r_opt (fun hn => ?_) (fun p7 hp7 => ?_)
  · subst hn
    refine r_ifnonnullN dX11_move_17 ?_
    exact r_throw (e := 2) (text := "no page there") hG rfl rfl (by decide) (by decide) (by decide) (Nat.le_of_ble_eq_true rfl) dX11_move_20 dX11_move_23 dX11_move_24 dX11_move_26 dX11_move_29
  · subst hp7
    refine r_ifnonnullS (a := p7) (tgt := 30) dX11_move_17 (by decide) ?_
    refine r_aloadq (x := r4) dX11_move_30 rfl ?_
    refine r_dref (fun p8 hp8 => ?_)
    subst hp8
    refine r_cgetRN (c := 12) (kk := 3) hc_X9 rfl (by decide) inU_X9 (by decide) hG uf_X11_102 rfl (by decide) dX11_move_32 (fun z9 => ?_)
    refine r_join (P := fun (J : Cd → Option ((Int ⊕ Nat) × Cd)) => ∀  (C_64 : Cd), RunO l Γ k_X11_move 11 (encX gI) (emC M0) 64 [] [] C_64 (J C_64)) ?_ (fun J64 hJ64 => ?_)
    · intro C_64
      exact r_throw (e := 1) (text := "it cannot be moved") hG rfl rfl (by decide) (by decide) (by decide) (Nat.le_of_ble_eq_true rfl) dX11_move_64 dX11_move_67 dX11_move_68 dX11_move_70 dX11_move_73
    refine r_opt (fun hn => ?_) (fun p10 hp10 => ?_)
    · subst hn
      refine r_ifnonnullN dX11_move_35 ?_
      refine r_aload_n (x := a0) dX11_move_38 rfl rfl ?_
      refine r_aload_n (x := p5) dX11_move_39 rfl rfl ?_
      refine r_ccVi (c := 14) (k2 := k_X11_mayActAt) (n := 1) (rest := []) um_X11_91 rfl kv_X11_mayActAt hc_X11 (by decide) (c_X11_mayActAt hG _ _ _) (by decide) rfl (Nat.le_of_ble_eq_true rfl) dX11_move_40 rfl (fun r12 C11 => ?_)
      refine r_if_eq (tgt := 64) dX11_move_43 (by decide) ?_ ?_
      · refine r_lo [] (lo2 := []) rfl ?_
        exact hJ64  C11
      · refine r_aload_n (x := a0) dX11_move_46 rfl rfl ?_
        refine r_aload (x := p8) dX11_move_47 rfl ?_
        refine r_ccVi (c := 14) (k2 := k_X11_mayActAt) (n := 1) (rest := []) um_X11_91 rfl kv_X11_mayActAt hc_X11 (by decide) (c_X11_mayActAt hG _ _ _) (by decide) rfl (Nat.le_of_ble_eq_true rfl) dX11_move_49 rfl (fun r14 C13 => ?_)
        refine r_if_eq (tgt := 64) dX11_move_52 (by decide) ?_ ?_
        · refine r_lo [] (lo2 := []) rfl ?_
          exact hJ64  C13
        · refine r_aload_n (x := a0) dX11_move_55 rfl rfl ?_
          refine r_cgetI (c := 14) (kk := 7) hc_X11 rfl (by decide) inU_X11 (by decide) uf_X11_45 rfl (by decide) dX11_move_56 ?_
          refine r_bipush (v := 120) dX11_move_59 rfl ?_
          refine r_icmp_lt (tgt := 74) dX11_move_61 (by decide) ?_ ?_
          · refine r_aload_n (x := a0) dX11_move_74 rfl rfl ?_
            refine r_iload_n (x := a1) dX11_move_75 rfl rfl ?_
            refine r_iload_n (x := a2) dX11_move_76 rfl rfl ?_
            refine r_cxV (c := 14) (h := gV) (k2 := k_X11_bringOver) (n := 2) (rest := []) um_X11_182 rfl kv_X11_bringOver hc_X11 (by decide) (c_X11_bringOver hG _ _ _ _) (by decide) rfl (Nat.le_of_ble_eq_true rfl) dX11_move_77 rfl (fun r16 C15 => ?_)
            show RunO l Γ k_X11_move 11 (encX gI) (emC M0) 80 [(4, .ref p8), (3, .ref p5), (0, .ref a0), (1, wi a1), (2, wi a2)] [] C15 _
            refine r_aload_n (x := a0) dX11_move_80 rfl rfl ?_
            refine r_cgetR (c := 14) (kk := 5) hc_X11 rfl (by decide) inU_X11 (by decide) uf_X11_38 rfl (by decide) dX11_move_81 (fun z17 => ?_)
            refine r_dref (fun p18 hp18 => ?_)
            subst hp18
            refine r_ccVNv (c := 11) (k2 := k_X8_clear) (n := 0) (rest := []) hG um_X11_80 rfl kv_X8_clear hc_X8 (by decide) (c_X8_clear hG _ _) (by decide) rfl (Nat.le_of_ble_eq_true rfl) dX11_move_84 rfl (fun r20 C19 => ?_)
            refine r_aload_n (x := a0) dX11_move_87 rfl rfl ?_
            refine r_cgetR (c := 14) (kk := 5) hc_X11 rfl (by decide) inU_X11 (by decide) uf_X11_38 rfl (by decide) dX11_move_88 (fun z21 => ?_)
            refine r_sipush (v := 12000) dX11_move_91 rfl ?_
            refine r_iload_n (x := a2) dX11_move_94 rfl rfl ?_
            refine r_iadd dX11_move_95 ?_
            refine r_dref (fun p22 hp22 => ?_)
            subst hp22
            refine r_ccVNv (c := 11) (k2 := k_X8_add) (n := 1) (rest := []) hG um_X11_77 rfl kv_X8_add hc_X8 (by decide) (c_X8_add hG _ _ _) (by decide) rfl (Nat.le_of_ble_eq_true rfl) dX11_move_96 rfl (fun r24 C23 => ?_)
            refine r_aload_n (x := a0) dX11_move_99 rfl rfl ?_
            refine r_iload_n (x := a1) dX11_move_100 rfl rfl ?_
            refine r_aload_n (x := a0) dX11_move_101 rfl rfl ?_
            refine r_cgetR (c := 14) (kk := 5) hc_X11 rfl (by decide) inU_X11 (by decide) uf_X11_38 rfl (by decide) dX11_move_102 (fun z25 => ?_)
            refine r_ccVi (c := 14) (k2 := k_X11_makePage) (n := 2) (rest := []) um_X11_112 rfl kv_X11_makePage hc_X11 (by decide) (c_X11_makePage hG _ _ _ _) (by decide) rfl (Nat.le_of_ble_eq_true rfl) dX11_move_105 rfl (fun r27 C26 => ?_)
            exact r_iretX rfl dX11_move_108
          · refine r_lo [] (lo2 := []) rfl ?_
            exact hJ64  C13
    · subst hp10
      refine r_ifnonnullS (a := p10) (tgt := 64) dX11_move_35 (by decide) ?_
      refine r_lo [] (lo2 := []) rfl ?_
      exact hJ64  C3
def k_X11_pagesOfTree : Kd := (yX11_pagesOfTree, cX11_pagesOfTree, 4, some .int, [])
theorem kv_X11_pagesOfTree : KV k_X11_pagesOfTree 1 := ⟨uw_mem 1267 (by decide +kernel) rfl, uw_mem 161 (by decide +kernel) rfl, uw_mem 1266 (by decide +kernel) rfl, uw_mem 48 (by decide +kernel) rfl, ⟨by decide +kernel, by decide +kernel⟩, by decide +kernel, by decide +kernel⟩
set_option maxHeartbeats 8000000 in
set_option maxRecDepth 100000 in
theorem c_X11_pagesOfTree {l : Launch} {Γ : Cx} {M0 : Md} (hG : GK Γ l) (a0 : Nat) (a1 : Int) (C : Cd) : Ct l Γ k_X11_pagesOfTree 1 encI (emC M0) [.ref a0, wi a1] C (fX11_pagesOfTree a0 a1 C) := by
  refine ct_of (by decide +kernel) rfl (Nat.le_of_ble_eq_true rfl) ?_
  refine r_lo [0, 1] (lo2 := [(0, .ref a0), (1, wi a1)]) rfl ?_
  unfold fX11_pagesOfTree
  refine ro_iconst (v := 0) dX11_pagesOfTree_0 rfl ?_
  refine r_istore_n (lo2 := [(2, wi 0), (0, .ref a0), (1, wi a1)]) dX11_pagesOfTree_1 rfl (by decide) rfl ?_
  refine ro_iconst (v := 0) dX11_pagesOfTree_2 rfl ?_
  refine r_istore_n (lo2 := [(3, wi 0), (2, wi 0), (0, .ref a0), (1, wi a1)]) dX11_pagesOfTree_3 rfl (by decide) rfl ?_
  refine r_loop (P := fun (J : Int → Int → Cd → Option (Int × Cd)) => ∀ (v2_4 : Int) (v3_4 : Int) (C_4 : Cd), RunO l Γ k_X11_pagesOfTree 1 encI (emC M0) 4 [(0, .ref a0), (1, wi a1), (2, wi v2_4), (3, wi v3_4)] [] C_4 (J v2_4 v3_4 C_4)) ?_ (fun L4 hL4 => ?_) (fun J4 hJ4 => ?_)
  · intros; exact ro_none
  · intro v2_4 v3_4 C_4
    refine r_iload_n (x := v3_4) dX11_pagesOfTree_4 rfl rfl ?_
    refine r_aload_n (x := a0) dX11_pagesOfTree_5 rfl rfl ?_
    refine r_cgetR (c := 14) (kk := 1) hc_X11 rfl (by decide) inU_X11 (by decide) uf_X11_20 rfl (by decide) dX11_pagesOfTree_6 (fun z1 => ?_)
    refine r_dref (fun p2 hp2 => ?_)
    subst hp2
    refine r_calen (t := 102) rfl (by decide) dX11_pagesOfTree_9 ?_
    refine r_icmp_ge (tgt := 44) dX11_pagesOfTree_10 (by decide) ?_ ?_
    · refine r_iload_n (x := v2_4) dX11_pagesOfTree_44 rfl rfl ?_
      exact r_iret rfl dX11_pagesOfTree_45
    · refine r_iload_n (x := v3_4) dX11_pagesOfTree_13 rfl rfl ?_
      refine ro_iconst (v := 4) dX11_pagesOfTree_14 rfl ?_
      refine r_idiv dX11_pagesOfTree_15 (by decide) ?_
      refine r_iload_n (x := a1) dX11_pagesOfTree_16 rfl rfl ?_
      refine r_join (P := fun (J : Int → Cd → Option (Int × Cd)) => ∀ (v2_38 : Int) (C_38 : Cd), RunO l Γ k_X11_pagesOfTree 1 encI (emC M0) 38 [(0, .ref a0), (1, wi a1), (2, wi v2_38), (3, wi v3_4)] [] C_38 (J v2_38 C_38)) ?_ (fun J38 hJ38 => ?_)
      · intro v2_38 C_38
        refine r_iinc (x := v3_4) (lo2 := [(3, wi (v3_4 + 1)), (0, .ref a0), (1, wi a1), (2, wi v2_38)]) dX11_pagesOfTree_38 rfl (by decide) rfl ?_
        refine r_goto (tgt := 4) dX11_pagesOfTree_41 (by decide) ?_
        refine r_lo [1, 2, 3, 0] (lo2 := [(0, .ref a0), (1, wi a1), (2, wi v2_38), (3, wi (v3_4 + 1))]) rfl ?_
        exact hL4 v2_38 (v3_4 + 1) C_38
      refine r_icmp_ne (tgt := 38) dX11_pagesOfTree_17 (by decide) ?_ ?_
      · exact hJ38 v2_4 C_4
      · refine r_aload_n (x := a0) dX11_pagesOfTree_20 rfl rfl ?_
        refine r_cgetR (c := 14) (kk := 1) hc_X11 rfl (by decide) inU_X11 (by decide) uf_X11_20 rfl (by decide) dX11_pagesOfTree_21 (fun z3 => ?_)
        refine r_iload_n (x := v3_4) dX11_pagesOfTree_24 rfl rfl ?_
        refine r_dref (fun p4 hp4 => ?_)
        subst hp4
        refine r_caald (t := 102) rfl (by decide) (by decide) dX11_pagesOfTree_25 (fun z5 => ?_)
        refine r_dref (fun p6 hp6 => ?_)
        subst hp6
        refine r_cgetRN (c := 12) (kk := 3) hc_X9 rfl (by decide) inU_X9 (by decide) hG uf_X11_102 rfl (by decide) dX11_pagesOfTree_26 (fun z7 => ?_)
        refine r_opt (fun hn => ?_) (fun p8 hp8 => ?_)
        · subst hn
          refine r_ifnullN (tgt := 38) dX11_pagesOfTree_29 (by decide) ?_
          exact hJ38 v2_4 C_4
        · subst hp8
          refine r_ifnullS (a := p8) dX11_pagesOfTree_29 ?_
          refine r_iload_n (x := v2_4) dX11_pagesOfTree_32 rfl rfl ?_
          refine ro_iconst (v := 1) dX11_pagesOfTree_33 rfl ?_
          refine r_iload_n (x := v3_4) dX11_pagesOfTree_34 rfl rfl ?_
          refine r_ishl dX11_pagesOfTree_35 ?_
          refine r_ior dX11_pagesOfTree_36 ?_
          refine r_nm (fun x2_37 => ?_)
          refine r_istore_n (lo2 := [(2, wi x2_37), (0, .ref a0), (1, wi a1), (3, wi v3_4)]) dX11_pagesOfTree_37 rfl (by decide) rfl ?_
          refine r_lo [1, 2, 0, 3] (lo2 := [(0, .ref a0), (1, wi a1), (2, wi x2_37), (3, wi v3_4)]) rfl ?_
          exact hJ38 x2_37 C_4
  refine r_lo [2, 3, 1, 0] (lo2 := [(0, .ref a0), (1, wi a1), (2, wi 0), (3, wi 0)]) rfl ?_
  exact hJ4 0 0 C
