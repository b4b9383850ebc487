def k_X11_isStale : Kd := (yX11_isStale, cX11_isStale, 2, some .boolean, [])
theorem kv_X11_isStale : KV k_X11_isStale 1 := ⟨uw_mem 1506 (by decide +kernel) rfl, uw_mem 94 (by decide +kernel) rfl, uw_mem 1504 (by decide +kernel) rfl, uw_mem 1505 (by decide +kernel) rfl, ⟨by decide +kernel, by decide +kernel⟩, by decide +kernel, by decide +kernel⟩
set_option maxHeartbeats 8000000 in
set_option maxRecDepth 100000 in
theorem c_X11_isStale {l : Launch} {Γ : Cx} {M0 : Md} (hG : GK Γ l) (a0 : Nat) (a1 : Int) (C : Cd) : Ct l Γ k_X11_isStale 8 (encX gI) (emC M0) [.ref a0, wi a1] C (fX11_isStale a0 a1 C) := by
  refine ct_of (by decide +kernel) rfl (Nat.le_of_ble_eq_true rfl) ?_
  refine r_lo [0, 1] (lo2 := [(0, .ref a0), (1, wi a1)]) rfl ?_
  unfold fX11_isStale
  refine r_aload_n (x := a0) dX11_isStale_0 rfl rfl ?_
  refine r_iload_n (x := a1) dX11_isStale_1 rfl rfl ?_
  refine r_cxV (c := 14) (h := gR) (k2 := k_X11_pageOf) (n := 1) (rest := []) um_X11_116 rfl kv_X11_pageOf hc_X11 (by decide) (c_X11_pageOf hG _ _ _) (by decide) rfl (Nat.le_of_ble_eq_true rfl) dX11_isStale_2 rfl (fun r2 C1 => ?_)
  show RunO l Γ k_X11_isStale 8 (encX gI) (emC M0) 5 [(0, .ref a0), (1, wi a1)] [va_rf r2] C1 _
  refine r_pop dX11_isStale_5 (by cases r2 <;> rfl) ?_
  refine r_aload_n (x := a0) dX11_isStale_6 rfl rfl ?_
  refine r_cgetR (c := 14) (kk := 1) hc_X11 rfl (by decide) inU_X11 (by decide) uf_X11_20 rfl (by decide) dX11_isStale_7 (fun z3 => ?_)
  refine r_iload_n (x := a1) dX11_isStale_10 rfl rfl ?_
  refine r_dref (fun p4 hp4 => ?_)
  subst hp4
  refine r_caald (t := 102) rfl (by decide) (by decide) dX11_isStale_11 (fun z5 => ?_)
  refine r_dref (fun p6 hp6 => ?_)
  subst hp6
  refine r_ccVNi (c := 12) (k2 := k_X9_waits) (n := 0) (rest := []) hG um_X11_298 rfl kv_X9_waits hc_X9 (by decide) (c_X9_waits hG _ _) (by decide) rfl (Nat.le_of_ble_eq_true rfl) dX11_isStale_12 rfl (fun r8 C7 => ?_)
  exact r_zretX rfl dX11_isStale_15
def k_X11_leads : Kd := (yX11_leads, cX11_leads, 2, some .int, [])
theorem kv_X11_leads : KV k_X11_leads 1 := ⟨uw_mem 1492 (by decide +kernel) rfl, uw_mem 94 (by decide +kernel) rfl, uw_mem 1490 (by decide +kernel) rfl, uw_mem 1491 (by decide +kernel) rfl, ⟨by decide +kernel, by decide +kernel⟩, by decide +kernel, by decide +kernel⟩
set_option maxHeartbeats 8000000 in
set_option maxRecDepth 100000 in
theorem c_X11_leads {l : Launch} {Γ : Cx} {M0 : Md} (hG : GK Γ l) (a0 : Nat) (a1 : Int) (C : Cd) : Ct l Γ k_X11_leads 7 (encX gI) (emC M0) [.ref a0, wi a1] C (fX11_leads a0 a1 C) := by
  refine ct_of (by decide +kernel) rfl (Nat.le_of_ble_eq_true rfl) ?_
  refine r_lo [0, 1] (lo2 := [(0, .ref a0), (1, wi a1)]) rfl ?_
  unfold fX11_leads
  refine r_aload_n (x := a0) dX11_leads_0 rfl rfl ?_
  refine r_iload_n (x := a1) dX11_leads_1 rfl rfl ?_
  refine r_cxV (c := 14) (h := gR) (k2 := k_X11_titleOf) (n := 1) (rest := []) um_X11_85 rfl kv_X11_titleOf hc_X11 (by decide) (c_X11_titleOf hG _ _ _) (by decide) rfl (Nat.le_of_ble_eq_true rfl) dX11_leads_2 rfl (fun r2 C1 => ?_)
  show RunO l Γ k_X11_leads 7 (encX gI) (emC M0) 5 [(0, .ref a0), (1, wi a1)] [va_rf r2] C1 _
  refine r_pop dX11_leads_5 (by cases r2 <;> rfl) ?_
  refine r_aload_n (x := a0) dX11_leads_6 rfl rfl ?_
  refine r_cgetR (c := 14) (kk := 0) hc_X11 rfl (by decide) inU_X11 (by decide) uf_X11_10 rfl (by decide) dX11_leads_7 (fun z3 => ?_)
  refine r_iload_n (x := a1) dX11_leads_10 rfl rfl ?_
  refine ro_iconst (v := (-1)) dX11_leads_11 rfl ?_
  refine r_dref (fun p4 hp4 => ?_)
  subst hp4
  refine r_ccVNi (c := 4) (k2 := k_X1_goalOf) (n := 2) (rest := []) hG um_X11_294 rfl kv_X1_goalOf hc_X1 (by decide) (c_X1_goalOf hG _ _ _ _) (by decide) rfl (Nat.le_of_ble_eq_true rfl) dX11_leads_12 rfl (fun r6 C5 => ?_)
  exact r_iretX rfl dX11_leads_15
def k_X11_linkingTo : Kd := (yX11_linkingTo, cX11_linkingTo, 4, some .int, [])
theorem kv_X11_linkingTo : KV k_X11_linkingTo 1 := ⟨uw_mem 1501 (by decide +kernel) rfl, uw_mem 94 (by decide +kernel) rfl, uw_mem 1500 (by decide +kernel) rfl, uw_mem 89 (by decide +kernel) rfl, ⟨by decide +kernel, by decide +kernel⟩, by decide +kernel, by decide +kernel⟩
set_option maxHeartbeats 8000000 in
set_option maxRecDepth 100000 in
theorem c_X11_linkingTo {l : Launch} {Γ : Cx} {M0 : Md} (hG : GK Γ l) (a0 : Nat) (a1 : Int) (C : Cd) : Ct l Γ k_X11_linkingTo 2 encI (emC M0) [.ref a0, wi a1] C (fX11_linkingTo a0 a1 C) := by
  refine ct_of (by decide +kernel) rfl (Nat.le_of_ble_eq_true rfl) ?_
  refine r_lo [0, 1] (lo2 := [(0, .ref a0), (1, wi a1)]) rfl ?_
  unfold fX11_linkingTo
  refine ro_iconst (v := 0) dX11_linkingTo_0 rfl ?_
  refine r_istore_n (lo2 := [(2, wi 0), (0, .ref a0), (1, wi a1)]) dX11_linkingTo_1 rfl (by decide) rfl ?_
  refine ro_iconst (v := 0) dX11_linkingTo_2 rfl ?_
  refine r_istore_n (lo2 := [(3, wi 0), (2, wi 0), (0, .ref a0), (1, wi a1)]) dX11_linkingTo_3 rfl (by decide) rfl ?_
  refine r_loop (P := fun (J : Int → Int → Cd → Option (Int × Cd)) => ∀ (v2_4 : Int) (v3_4 : Int) (C_4 : Cd), RunO l Γ k_X11_linkingTo 2 encI (emC M0) 4 [(0, .ref a0), (1, wi a1), (2, wi v2_4), (3, wi v3_4)] [] C_4 (J v2_4 v3_4 C_4)) ?_ (fun L4 hL4 => ?_) (fun J4 hJ4 => ?_)
  · intros; exact ro_none
  · intro v2_4 v3_4 C_4
    refine r_iload_n (x := v3_4) dX11_linkingTo_4 rfl rfl ?_
    refine r_aload_n (x := a0) dX11_linkingTo_5 rfl rfl ?_
    refine r_cgetR (c := 14) (kk := 1) hc_X11 rfl (by decide) inU_X11 (by decide) uf_X11_20 rfl (by decide) dX11_linkingTo_6 (fun z1 => ?_)
    refine r_dref (fun p2 hp2 => ?_)
    subst hp2
    refine r_calen (t := 102) rfl (by decide) dX11_linkingTo_9 ?_
    refine r_icmp_ge (tgt := 44) dX11_linkingTo_10 (by decide) ?_ ?_
    · refine r_iload_n (x := v2_4) dX11_linkingTo_44 rfl rfl ?_
      exact r_iret rfl dX11_linkingTo_45
    · refine r_aload_n (x := a0) dX11_linkingTo_13 rfl rfl ?_
      refine r_cgetR (c := 14) (kk := 1) hc_X11 rfl (by decide) inU_X11 (by decide) uf_X11_20 rfl (by decide) dX11_linkingTo_14 (fun z3 => ?_)
      refine r_iload_n (x := v3_4) dX11_linkingTo_17 rfl rfl ?_
      refine r_dref (fun p4 hp4 => ?_)
      subst hp4
      refine r_caald (t := 102) rfl (by decide) (by decide) dX11_linkingTo_18 (fun z5 => ?_)
      refine r_dref (fun p6 hp6 => ?_)
      subst hp6
      refine r_cgetRN (c := 12) (kk := 0) hc_X9 rfl (by decide) inU_X9 (by decide) hG uf_X11_260 rfl (by decide) dX11_linkingTo_19 (fun z7 => ?_)
      refine r_dref (fun p8 hp8 => ?_)
      subst hp8
      refine r_cgetIN (c := 7) (kk := 3) hc_X4 rfl (by decide) inU_X4 (by decide) hG uf_X11_315 rfl (by decide) dX11_linkingTo_22 ?_
      refine r_iload_n (x := a1) dX11_linkingTo_25 rfl rfl ?_
      refine r_ccSi (k2 := k_X11_has) (n := 2) (rest := []) um_X11_198 rfl kv_X11_has (c_X11_has hG _ _ _) (by decide) rfl (Nat.le_of_ble_eq_true rfl) dX11_linkingTo_26 rfl (fun r10 C9 => ?_)
      refine r_join (P := fun (J : Int → Cd → Option (Int × Cd)) => ∀ (v2_38 : Int) (C_38 : Cd), RunO l Γ k_X11_linkingTo 2 encI (emC M0) 38 [(0, .ref a0), (1, wi a1), (2, wi v2_38), (3, wi v3_4)] [] C_38 (J v2_38 C_38)) ?_ (fun J38 hJ38 => ?_)
      · intro v2_38 C_38
        refine r_iinc (x := v3_4) (lo2 := [(3, wi (v3_4 + 1)), (0, .ref a0), (1, wi a1), (2, wi v2_38)]) dX11_linkingTo_38 rfl (by decide) rfl ?_
        refine r_goto (tgt := 4) dX11_linkingTo_41 (by decide) ?_
        refine r_lo [1, 2, 3, 0] (lo2 := [(0, .ref a0), (1, wi a1), (2, wi v2_38), (3, wi (v3_4 + 1))]) rfl ?_
        exact hL4 v2_38 (v3_4 + 1) C_38
      refine r_if_eq (tgt := 38) dX11_linkingTo_29 (by decide) ?_ ?_
      · exact hJ38 v2_4 C9
      · refine r_iload_n (x := v2_4) dX11_linkingTo_32 rfl rfl ?_
        refine ro_iconst (v := 1) dX11_linkingTo_33 rfl ?_
        refine r_iload_n (x := v3_4) dX11_linkingTo_34 rfl rfl ?_
        refine r_ishl dX11_linkingTo_35 ?_
        refine r_ior dX11_linkingTo_36 ?_
        refine r_nm (fun x2_37 => ?_)
        refine r_istore_n (lo2 := [(2, wi x2_37), (0, .ref a0), (1, wi a1), (3, wi v3_4)]) dX11_linkingTo_37 rfl (by decide) rfl ?_
        refine r_lo [1, 2, 0, 3] (lo2 := [(0, .ref a0), (1, wi a1), (2, wi x2_37), (3, wi v3_4)]) rfl ?_
        exact hJ38 x2_37 C9
  refine r_lo [2, 3, 1, 0] (lo2 := [(0, .ref a0), (1, wi a1), (2, wi 0), (3, wi 0)]) rfl ?_
  exact hJ4 0 0 C
def k_X11_linked : Kd := (yX11_linked, cX11_linked, 4, some .int, [])
theorem kv_X11_linked : KV k_X11_linked 2 := ⟨uw_mem 1497 (by decide +kernel) rfl, uw_mem 94 (by decide +kernel) rfl, uw_mem 1495 (by decide +kernel) rfl, uw_mem 1496 (by decide +kernel) rfl, ⟨by decide +kernel, by decide +kernel⟩, by decide +kernel, by decide +kernel⟩
set_option maxHeartbeats 8000000 in
set_option maxRecDepth 100000 in
theorem c_X11_linked {l : Launch} {Γ : Cx} {M0 : Md} (hG : GK Γ l) (a0 : Nat) (a1 : Int) (a2 : Int) (C : Cd) : Ct l Γ k_X11_linked 7 (encX gI) (emC M0) [.ref a0, wi a1, wi a2] C (fX11_linked a0 a1 a2 C) := by
  refine ct_of (by decide +kernel) rfl (Nat.le_of_ble_eq_true rfl) ?_
  refine r_lo [0, 1, 2] (lo2 := [(0, .ref a0), (1, wi a1), (2, wi a2)]) rfl ?_
  unfold fX11_linked
  refine r_aload_n (x := a0) dX11_linked_0 rfl rfl ?_
  refine r_iload_n (x := a1) dX11_linked_1 rfl rfl ?_
  refine r_cxV (c := 14) (h := gR) (k2 := k_X11_titleOf) (n := 1) (rest := []) um_X11_85 rfl kv_X11_titleOf hc_X11 (by decide) (c_X11_titleOf hG _ _ _) (by decide) rfl (Nat.le_of_ble_eq_true rfl) dX11_linked_2 rfl (fun r2 C1 => ?_)
  show RunO l Γ k_X11_linked 7 (encX gI) (emC M0) 5 [(0, .ref a0), (1, wi a1), (2, wi a2)] [va_rf r2] C1 _
  refine r_astoreq_n (lo2 := [(3, va_rf r2), (0, .ref a0), (1, wi a1), (2, wi a2)]) dX11_linked_5 rfl (by decide) rfl ?_
  refine r_iload_n (x := a2) dX11_linked_6 rfl rfl ?_
  refine r_tswC (v := 0) (off := 25) (tgt := 32) dX11_linked_7 (by decide) (by decide) rfl (by decide) ?_ (fun n0 => ?_)
  · refine r_aloadq_n (x := r2) dX11_linked_32 rfl rfl ?_
    refine r_dref (fun p3 hp3 => ?_)
    subst hp3
    refine r_cgetRN (c := 12) (kk := 0) hc_X9 rfl (by decide) inU_X9 (by decide) hG uf_X11_260 rfl (by decide) dX11_linked_33 (fun z4 => ?_)
    refine r_dref (fun p5 hp5 => ?_)
    subst hp5
    refine r_cgetIN (c := 7) (kk := 3) hc_X4 rfl (by decide) inU_X4 (by decide) hG uf_X11_315 rfl (by decide) dX11_linked_36 ?_
    exact r_iretX rfl dX11_linked_39
  refine r_tswC (v := 1) (off := 33) (tgt := 40) dX11_linked_7 (by decide) (by decide) rfl (by decide) ?_ (fun n1 => ?_)
  · refine r_aload_n (x := a0) dX11_linked_40 rfl rfl ?_
    refine r_iload_n (x := a1) dX11_linked_41 rfl rfl ?_
    refine r_ccVi (c := 14) (k2 := k_X11_linkingTo) (n := 1) (rest := []) um_X11_318 rfl kv_X11_linkingTo hc_X11 (by decide) (c_X11_linkingTo hG _ _ _) (by decide) rfl (Nat.le_of_ble_eq_true rfl) dX11_linked_42 rfl (fun r7 C6 => ?_)
    exact r_iretX rfl dX11_linked_45
  refine r_tswC (v := 2) (off := 39) (tgt := 46) dX11_linked_7 (by decide) (by decide) rfl (by decide) ?_ (fun n2 => ?_)
  · refine r_aloadq_n (x := r2) dX11_linked_46 rfl rfl ?_
    refine r_dref (fun p8 hp8 => ?_)
    subst hp8
    refine r_cgetRN (c := 12) (kk := 0) hc_X9 rfl (by decide) inU_X9 (by decide) hG uf_X11_260 rfl (by decide) dX11_linked_47 (fun z9 => ?_)
    refine r_dref (fun p10 hp10 => ?_)
    subst hp10
    refine r_cgetIN (c := 7) (kk := 5) hc_X4 rfl (by decide) inU_X4 (by decide) hG uf_X11_321 rfl (by decide) dX11_linked_50 ?_
    exact r_iretX rfl dX11_linked_53
  refine r_tswD (tgt := 54) dX11_linked_7 (by omega) (by decide) ?_
  exact r_throwW (e := 2) (text := "no such question") hG rfl rfl (by decide) (by decide) (by decide) (Nat.le_of_ble_eq_true rfl) dX11_linked_54 dX11_linked_57 dX11_linked_58 dX11_linked_61 dX11_linked_64
def k_X11_lonelyTitles : Kd := (yX11_lonelyTitles, cX11_lonelyTitles, 4, some .int, [])
theorem kv_X11_lonelyTitles : KV k_X11_lonelyTitles 0 := ⟨uw_mem 1547 (by decide +kernel) rfl, uw_mem 94 (by decide +kernel) rfl, uw_mem 1546 (by decide +kernel) rfl, uw_mem 92 (by decide +kernel) rfl, ⟨by decide +kernel, by decide +kernel⟩, by decide +kernel, by decide +kernel⟩
set_option maxHeartbeats 8000000 in
set_option maxRecDepth 100000 in
theorem c_X11_lonelyTitles {l : Launch} {Γ : Cx} {M0 : Md} (hG : GK Γ l) (a0 : Nat) (C : Cd) : Ct l Γ k_X11_lonelyTitles 4 encI (emC M0) [.ref a0] C (fX11_lonelyTitles a0 C) := by
  refine ct_of (by decide +kernel) rfl (Nat.le_of_ble_eq_true rfl) ?_
  refine r_lo [0] (lo2 := [(0, .ref a0)]) rfl ?_
  unfold fX11_lonelyTitles
  refine ro_iconst (v := 0) dX11_lonelyTitles_0 rfl ?_
  refine r_istore_n (lo2 := [(1, wi 0), (0, .ref a0)]) dX11_lonelyTitles_1 rfl (by decide) rfl ?_
  refine ro_iconst (v := 0) dX11_lonelyTitles_2 rfl ?_
  refine r_istore_n (lo2 := [(2, wi 0), (1, wi 0), (0, .ref a0)]) dX11_lonelyTitles_3 rfl (by decide) rfl ?_
  refine r_loop (P := fun (J : Int → Int → Cd → Option (Int × Cd)) => ∀ (v1_4 : Int) (v2_4 : Int) (C_4 : Cd), RunO l Γ k_X11_lonelyTitles 4 encI (emC M0) 4 [(0, .ref a0), (1, wi v1_4), (2, wi v2_4)] [] C_4 (J v1_4 v2_4 C_4)) ?_ (fun L4 hL4 => ?_) (fun J4 hJ4 => ?_)
  · intros; exact ro_none
  · intro v1_4 v2_4 C_4
    refine r_iload_n (x := v2_4) dX11_lonelyTitles_4 rfl rfl ?_
    refine r_aload_n (x := a0) dX11_lonelyTitles_5 rfl rfl ?_
    refine r_cgetR (c := 14) (kk := 1) hc_X11 rfl (by decide) inU_X11 (by decide) uf_X11_20 rfl (by decide) dX11_lonelyTitles_6 (fun z1 => ?_)
    refine r_dref (fun p2 hp2 => ?_)
    subst hp2
    refine r_calen (t := 102) rfl (by decide) dX11_lonelyTitles_9 ?_
    refine r_icmp_ge (tgt := 58) dX11_lonelyTitles_10 (by decide) ?_ ?_
    · refine ro_iconst (v := 0) dX11_lonelyTitles_58 rfl ?_
      refine r_istore_n (lo2 := [(2, wi 0), (0, .ref a0), (1, wi v1_4)]) dX11_lonelyTitles_59 rfl (by decide) rfl ?_
      refine r_loop (P := fun (J : Int → Int → Cd → Option (Int × Cd)) => ∀ (v1_60 : Int) (v2_60 : Int) (C_60 : Cd), RunO l Γ k_X11_lonelyTitles 4 encI (emC M0) 60 [(0, .ref a0), (1, wi v1_60), (2, wi v2_60)] [] C_60 (J v1_60 v2_60 C_60)) ?_ (fun L60 hL60 => ?_) (fun J60 hJ60 => ?_)
      · intros; exact ro_none
      · intro v1_60 v2_60 C_60
        refine r_iload_n (x := v2_60) dX11_lonelyTitles_60 rfl rfl ?_
        refine r_aload_n (x := a0) dX11_lonelyTitles_61 rfl rfl ?_
        refine r_cgetR (c := 14) (kk := 1) hc_X11 rfl (by decide) inU_X11 (by decide) uf_X11_20 rfl (by decide) dX11_lonelyTitles_62 (fun z3 => ?_)
        refine r_dref (fun p4 hp4 => ?_)
        subst hp4
        refine r_calen (t := 102) rfl (by decide) dX11_lonelyTitles_65 ?_
        refine r_icmp_ge (tgt := 112) dX11_lonelyTitles_66 (by decide) ?_ ?_
        · refine r_iload_n (x := v1_60) dX11_lonelyTitles_112 rfl rfl ?_
          exact r_iret rfl dX11_lonelyTitles_113
        · refine r_aload_n (x := a0) dX11_lonelyTitles_69 rfl rfl ?_
          refine r_cgetR (c := 14) (kk := 0) hc_X11 rfl (by decide) inU_X11 (by decide) uf_X11_10 rfl (by decide) dX11_lonelyTitles_70 (fun z5 => ?_)
          refine r_iload_n (x := v2_60) dX11_lonelyTitles_73 rfl rfl ?_
          refine ro_iconst (v := (-1)) dX11_lonelyTitles_74 rfl ?_
          refine r_dref (fun p6 hp6 => ?_)
          subst hp6
          refine r_ccVNi (c := 4) (k2 := k_X1_goalOf) (n := 2) (rest := []) hG um_X11_294 rfl kv_X1_goalOf hc_X1 (by decide) (c_X1_goalOf hG _ _ _ _) (by decide) rfl (Nat.le_of_ble_eq_true rfl) dX11_lonelyTitles_75 rfl (fun r8 C7 => ?_)
          refine r_istore_n (lo2 := [(3, wi r8), (0, .ref a0), (1, wi v1_60), (2, wi v2_60)]) dX11_lonelyTitles_78 rfl (by decide) rfl ?_
          refine r_iload_n (x := r8) dX11_lonelyTitles_79 rfl rfl ?_
          refine ro_iconst (v := (-1)) dX11_lonelyTitles_80 rfl ?_
          refine r_join (P := fun (J : Int → Cd → Option (Int × Cd)) => ∀ (v1_106 : Int) (C_106 : Cd), RunO l Γ k_X11_lonelyTitles 4 encI (emC M0) 106 [(0, .ref a0), (1, wi v1_106), (2, wi v2_60)] [] C_106 (J v1_106 C_106)) ?_ (fun J106 hJ106 => ?_)
          · intro v1_106 C_106
            refine r_iinc (x := v2_60) (lo2 := [(2, wi (v2_60 + 1)), (0, .ref a0), (1, wi v1_106)]) dX11_lonelyTitles_106 rfl (by decide) rfl ?_
            refine r_goto (tgt := 60) dX11_lonelyTitles_109 (by decide) ?_
            refine r_lo [1, 2, 0] (lo2 := [(0, .ref a0), (1, wi v1_106), (2, wi (v2_60 + 1))]) rfl ?_
            exact hL60 v1_106 (v2_60 + 1) C_106
          refine r_icmp_eq (tgt := 106) dX11_lonelyTitles_81 (by decide) ?_ ?_
          · refine r_lo [1, 2, 3] (lo2 := [(0, .ref a0), (1, wi v1_60), (2, wi v2_60)]) rfl ?_
            exact hJ106 v1_60 C7
          · refine r_aload_n (x := a0) dX11_lonelyTitles_84 rfl rfl ?_
            refine r_iload_n (x := v2_60) dX11_lonelyTitles_85 rfl rfl ?_
            refine r_ccVi (c := 14) (k2 := k_X11_linkingTo) (n := 1) (rest := []) um_X11_318 rfl kv_X11_linkingTo hc_X11 (by decide) (c_X11_linkingTo hG _ _ _) (by decide) rfl (Nat.le_of_ble_eq_true rfl) dX11_lonelyTitles_86 rfl (fun r10 C9 => ?_)
            refine ro_iconst (v := 1) dX11_lonelyTitles_89 rfl ?_
            refine r_iload_n (x := r8) dX11_lonelyTitles_90 rfl rfl ?_
            refine r_ishl dX11_lonelyTitles_91 ?_
            refine ro_iconst (v := (-1)) dX11_lonelyTitles_92 rfl ?_
            refine r_ixor dX11_lonelyTitles_93 ?_
            refine r_iand dX11_lonelyTitles_94 ?_
            refine r_if_eq (tgt := 106) dX11_lonelyTitles_95 (by decide) ?_ ?_
            · refine r_lo [1, 2, 3] (lo2 := [(0, .ref a0), (1, wi v1_60), (2, wi v2_60)]) rfl ?_
              exact hJ106 v1_60 C9
            · refine r_iload_n (x := v1_60) dX11_lonelyTitles_98 rfl rfl ?_
              refine ro_iconst (v := 1) dX11_lonelyTitles_99 rfl ?_
              refine r_iload_n (x := r8) dX11_lonelyTitles_100 rfl rfl ?_
              refine r_ishl dX11_lonelyTitles_101 ?_
              refine ro_iconst (v := (-1)) dX11_lonelyTitles_102 rfl ?_
              refine r_ixor dX11_lonelyTitles_103 ?_
              refine r_iand dX11_lonelyTitles_104 ?_
              refine r_nm (fun x1_105 => ?_)
              refine r_istore_n (lo2 := [(1, wi x1_105), (3, wi r8), (0, .ref a0), (2, wi v2_60)]) dX11_lonelyTitles_105 rfl (by decide) rfl ?_
              refine r_lo [2, 0, 3] (lo2 := [(0, .ref a0), (1, wi x1_105), (2, wi v2_60)]) rfl ?_
              exact hJ106 x1_105 C9
      refine r_lo [1, 2, 0] (lo2 := [(0, .ref a0), (1, wi v1_4), (2, wi 0)]) rfl ?_
      exact hJ60 v1_4 0 C_4
    · refine r_aload_n (x := a0) dX11_lonelyTitles_13 rfl rfl ?_
      refine r_cgetR (c := 14) (kk := 1) hc_X11 rfl (by decide) inU_X11 (by decide) uf_X11_20 rfl (by decide) dX11_lonelyTitles_14 (fun z11 => ?_)
      refine r_iload_n (x := v2_4) dX11_lonelyTitles_17 rfl rfl ?_
      refine r_dref (fun p12 hp12 => ?_)
      subst hp12
      refine r_caald (t := 102) rfl (by decide) (by decide) dX11_lonelyTitles_18 (fun z13 => ?_)
      refine r_dref (fun p14 hp14 => ?_)
      subst hp14
      refine r_cgetRN (c := 12) (kk := 3) hc_X9 rfl (by decide) inU_X9 (by decide) hG uf_X11_102 rfl (by decide) dX11_lonelyTitles_19 (fun z15 => ?_)
      refine r_join (P := fun (J : Int → Cd → Option (Int × Cd)) => ∀ (v1_52 : Int) (C_52 : Cd), RunO l Γ k_X11_lonelyTitles 4 encI (emC M0) 52 [(0, .ref a0), (1, wi v1_52), (2, wi v2_4)] [] C_52 (J v1_52 C_52)) ?_ (fun J52 hJ52 => ?_)
      · intro v1_52 C_52
        refine r_iinc (x := v2_4) (lo2 := [(2, wi (v2_4 + 1)), (0, .ref a0), (1, wi v1_52)]) dX11_lonelyTitles_52 rfl (by decide) rfl ?_
        refine r_goto (tgt := 4) dX11_lonelyTitles_55 (by decide) ?_
        refine r_lo [1, 2, 0] (lo2 := [(0, .ref a0), (1, wi v1_52), (2, wi (v2_4 + 1))]) rfl ?_
        exact hL4 v1_52 (v2_4 + 1) C_52
      refine r_opt (fun hn => ?_) (fun p16 hp16 => ?_)
      · subst hn
        refine r_ifnullN (tgt := 52) dX11_lonelyTitles_22 (by decide) ?_
        exact hJ52 v1_4 C_4
      · subst hp16
        refine r_ifnullS (a := p16) dX11_lonelyTitles_22 ?_
        refine r_aload_n (x := a0) dX11_lonelyTitles_25 rfl rfl ?_
        refine r_cgetR (c := 14) (kk := 1) hc_X11 rfl (by decide) inU_X11 (by decide) uf_X11_20 rfl (by decide) dX11_lonelyTitles_26 (fun z17 => ?_)
        refine r_iload_n (x := v2_4) dX11_lonelyTitles_29 rfl rfl ?_
        refine r_dref (fun p18 hp18 => ?_)
        subst hp18
        refine r_caald (t := 102) rfl (by decide) (by decide) dX11_lonelyTitles_30 (fun z19 => ?_)
        refine r_dref (fun p20 hp20 => ?_)
        subst hp20
        refine r_cgetRN (c := 12) (kk := 3) hc_X9 rfl (by decide) inU_X9 (by decide) hG uf_X11_102 rfl (by decide) dX11_lonelyTitles_31 (fun z21 => ?_)
        refine r_dref (fun p22 hp22 => ?_)
        subst hp22
        refine r_cgetRN (c := 6) (kk := 1) hc_X3 rfl (by decide) inU_X3 (by decide) hG uf_X11_148 rfl (by decide) dX11_lonelyTitles_34 (fun z23 => ?_)
        refine r_dref (fun p24 hp24 => ?_)
        subst hp24
        refine r_cgetRN (c := 13) (kk := 2) hc_X10 rfl (by decide) inU_X10 (by decide) hG uf_X11_130 rfl (by decide) dX11_lonelyTitles_37 (fun z25 => ?_)
        refine r_dref (fun p26 hp26 => ?_)
        subst hp26
        refine r_ccVNi (c := 11) (k2 := k_X8_isRedirect) (n := 0) (rest := []) hG um_X11_399 rfl kv_X8_isRedirect hc_X8 (by decide) (c_X8_isRedirect hG _ _) (by decide) rfl (Nat.le_of_ble_eq_true rfl) dX11_lonelyTitles_40 rfl (fun r28 C27 => ?_)
        refine r_if_ne (tgt := 52) dX11_lonelyTitles_43 (by decide) ?_ ?_
        · exact hJ52 v1_4 C27
        · refine r_iload_n (x := v1_4) dX11_lonelyTitles_46 rfl rfl ?_
          refine ro_iconst (v := 1) dX11_lonelyTitles_47 rfl ?_
          refine r_iload_n (x := v2_4) dX11_lonelyTitles_48 rfl rfl ?_
          refine r_ishl dX11_lonelyTitles_49 ?_
          refine r_ior dX11_lonelyTitles_50 ?_
          refine r_nm (fun x1_51 => ?_)
          refine r_istore_n (lo2 := [(1, wi x1_51), (0, .ref a0), (2, wi v2_4)]) dX11_lonelyTitles_51 rfl (by decide) rfl ?_
          refine r_lo [1, 0, 2] (lo2 := [(0, .ref a0), (1, wi x1_51), (2, wi v2_4)]) rfl ?_
          exact hJ52 x1_51 C27
  refine r_lo [2, 1, 0] (lo2 := [(0, .ref a0), (1, wi 0), (2, wi 0)]) rfl ?_
  exact hJ4 0 0 C
def k_X11_mayActInTree : Kd := (yX11_mayActInTree, cX11_mayActInTree, 3, some .boolean, [])
theorem kv_X11_mayActInTree : KV k_X11_mayActInTree 1 := ⟨uw_mem 1365 (by decide +kernel) rfl, uw_mem 94 (by decide +kernel) rfl, uw_mem 1364 (by decide +kernel) rfl, uw_mem 85 (by decide +kernel) rfl, ⟨by decide +kernel, by decide +kernel⟩, by decide +kernel, by decide +kernel⟩
set_option maxHeartbeats 8000000 in
set_option maxRecDepth 100000 in
theorem c_X11_mayActInTree {l : Launch} {Γ : Cx} {M0 : Md} (hG : GK Γ l) (a0 : Nat) (a1 : Int) (C : Cd) : Ct l Γ k_X11_mayActInTree 2 encI (emC M0) [.ref a0, wi a1] C (fX11_mayActInTree a0 a1 C) := by
  refine ct_of (by decide +kernel) rfl (Nat.le_of_ble_eq_true rfl) ?_
  refine r_lo [0, 1] (lo2 := [(0, .ref a0), (1, wi a1)]) rfl ?_
  unfold fX11_mayActInTree
  refine ro_iconst (v := 0) dX11_mayActInTree_0 rfl ?_
  refine r_istore_n (lo2 := [(2, wi 0), (0, .ref a0), (1, wi a1)]) dX11_mayActInTree_1 rfl (by decide) rfl ?_
  refine r_loop (P := fun (J : Int → Cd → Option (Int × Cd)) => ∀ (v2_2 : Int) (C_2 : Cd), RunO l Γ k_X11_mayActInTree 2 encI (emC M0) 2 [(0, .ref a0), (1, wi a1), (2, wi v2_2)] [] C_2 (J v2_2 C_2)) ?_ (fun L2 hL2 => ?_) (fun J2 hJ2 => ?_)
  · intros; exact ro_none
  · intro v2_2 C_2
    refine r_iload_n (x := v2_2) dX11_mayActInTree_2 rfl rfl ?_
    refine r_aload_n (x := a0) dX11_mayActInTree_3 rfl rfl ?_
    refine r_cgetR (c := 14) (kk := 1) hc_X11 rfl (by decide) inU_X11 (by decide) uf_X11_20 rfl (by decide) dX11_mayActInTree_4 (fun z1 => ?_)
    refine r_dref (fun p2 hp2 => ?_)
    subst hp2
    refine r_calen (t := 102) rfl (by decide) dX11_mayActInTree_7 ?_
    refine r_icmp_ge (tgt := 39) dX11_mayActInTree_8 (by decide) ?_ ?_
    · refine ro_iconst (v := 1) dX11_mayActInTree_39 rfl ?_
      exact r_zret0 (by first | exact Or.inl rfl | exact Or.inr rfl) rfl dX11_mayActInTree_40
    · refine r_iload_n (x := v2_2) dX11_mayActInTree_11 rfl rfl ?_
      refine ro_iconst (v := 4) dX11_mayActInTree_12 rfl ?_
      refine r_idiv dX11_mayActInTree_13 (by decide) ?_
      refine r_iload_n (x := a1) dX11_mayActInTree_14 rfl rfl ?_
      refine r_join (P := fun (J : Cd → Option (Int × Cd)) => ∀  (C_33 : Cd), RunO l Γ k_X11_mayActInTree 2 encI (emC M0) 33 [(0, .ref a0), (1, wi a1), (2, wi v2_2)] [] C_33 (J C_33)) ?_ (fun J33 hJ33 => ?_)
      · intro C_33
        refine r_iinc (x := v2_2) (lo2 := [(2, wi (v2_2 + 1)), (0, .ref a0), (1, wi a1)]) dX11_mayActInTree_33 rfl (by decide) rfl ?_
        refine r_goto (tgt := 2) dX11_mayActInTree_36 (by decide) ?_
        refine r_lo [1, 2, 0] (lo2 := [(0, .ref a0), (1, wi a1), (2, wi (v2_2 + 1))]) rfl ?_
        exact hL2 (v2_2 + 1) C_33
      refine r_icmp_ne (tgt := 33) dX11_mayActInTree_15 (by decide) ?_ ?_
      · exact hJ33  C_2
      · refine r_aload_n (x := a0) dX11_mayActInTree_18 rfl rfl ?_
        refine r_aload_n (x := a0) dX11_mayActInTree_19 rfl rfl ?_
        refine r_cgetR (c := 14) (kk := 1) hc_X11 rfl (by decide) inU_X11 (by decide) uf_X11_20 rfl (by decide) dX11_mayActInTree_20 (fun z3 => ?_)
        refine r_iload_n (x := v2_2) dX11_mayActInTree_23 rfl rfl ?_
        refine r_dref (fun p4 hp4 => ?_)
        subst hp4
        refine r_caald (t := 102) rfl (by decide) (by decide) dX11_mayActInTree_24 (fun z5 => ?_)
        refine r_ccVi (c := 14) (k2 := k_X11_mayActAt) (n := 1) (rest := []) um_X11_91 rfl kv_X11_mayActAt hc_X11 (by decide) (c_X11_mayActAt hG _ _ _) (by decide) rfl (Nat.le_of_ble_eq_true rfl) dX11_mayActInTree_25 rfl (fun r7 C6 => ?_)
        refine r_if_ne (tgt := 33) dX11_mayActInTree_28 (by decide) ?_ ?_
        · exact hJ33  C6
        · refine ro_iconst (v := 0) dX11_mayActInTree_31 rfl ?_
          exact r_zret0 (by first | exact Or.inl rfl | exact Or.inr rfl) rfl dX11_mayActInTree_32
  refine r_lo [1, 2, 0] (lo2 := [(0, .ref a0), (1, wi a1), (2, wi 0)]) rfl ?_
  exact hJ2 0 C
def k_X11_members : Kd := (yX11_members, cX11_members, 2, some .int, [])
theorem kv_X11_members : KV k_X11_members 1 := ⟨uw_mem 1529 (by decide +kernel) rfl, uw_mem 94 (by decide +kernel) rfl, uw_mem 1527 (by decide +kernel) rfl, uw_mem 1528 (by decide +kernel) rfl, ⟨by decide +kernel, by decide +kernel⟩, by decide +kernel, by decide +kernel⟩
set_option maxHeartbeats 8000000 in
set_option maxRecDepth 100000 in
theorem c_X11_members {l : Launch} {Γ : Cx} {M0 : Md} (hG : GK Γ l) (a0 : Nat) (a1 : Int) (C : Cd) : Ct l Γ k_X11_members 6 (encX gI) (emC M0) [.ref a0, wi a1] C (fX11_members a0 a1 C) := by
  refine ct_of (by decide +kernel) rfl (Nat.le_of_ble_eq_true rfl) ?_
  refine r_lo [0, 1] (lo2 := [(0, .ref a0), (1, wi a1)]) rfl ?_
  unfold fX11_members
  refine r_iload_n (x := a1) dX11_members_0 rfl rfl ?_
  refine r_join (P := fun (J : Cd → Option ((Int ⊕ Nat) × Cd)) => ∀  (C_10 : Cd), RunO l Γ k_X11_members 6 (encX gI) (emC M0) 10 [] [] C_10 (J C_10)) ?_ (fun J10 hJ10 => ?_)
  · intro C_10
    exact r_throwW (e := 2) (text := "no such category") hG rfl rfl (by decide) (by decide) (by decide) (Nat.le_of_ble_eq_true rfl) dX11_members_10 dX11_members_13 dX11_members_14 dX11_members_17 dX11_members_20
  refine r_if_lt (tgt := 10) dX11_members_1 (by decide) ?_ ?_
  · refine r_lo [] (lo2 := []) rfl ?_
    exact hJ10  C
  · refine r_iload_n (x := a1) dX11_members_4 rfl rfl ?_
    refine r_bipush (v := 8) dX11_members_5 rfl ?_
    refine r_icmp_lt (tgt := 21) dX11_members_7 (by decide) ?_ ?_
    · refine r_aload_n (x := a0) dX11_members_21 rfl rfl ?_
      refine r_cgetR (c := 14) (kk := 1) hc_X11 rfl (by decide) inU_X11 (by decide) uf_X11_20 rfl (by decide) dX11_members_22 (fun z1 => ?_)
      refine r_iload_n (x := a1) dX11_members_25 rfl rfl ?_
      refine r_ccSi (k2 := k_X11_membersOf) (n := 2) (rest := []) um_X11_328 rfl kv_X11_membersOf (c_X11_membersOf hG _ _ _) (by decide) rfl (Nat.le_of_ble_eq_true rfl) dX11_members_26 rfl (fun r3 C2 => ?_)
      exact r_iretX rfl dX11_members_29
    · refine r_lo [] (lo2 := []) rfl ?_
      exact hJ10  C
def k_X11_move : Kd := (yX11_move, cX11_move, 5, some .int, [])
theorem kv_X11_move : KV k_X11_move 2 := ⟨uw_mem 1331 (by decide +kernel) rfl, uw_mem 94 (by decide +kernel) rfl, uw_mem 1329 (by decide +kernel) rfl, uw_mem 1330 (by decide +kernel) rfl, ⟨by decide +kernel, by decide +kernel⟩, by decide +kernel, by decide +kernel⟩
set_option maxHeartbeats 8000000 in
set_option maxRecDepth 100000 in
theorem c_X11_move {l : Launch} {Γ : Cx} {M0 : Md} (hG : GK Γ l) (a0 : Nat) (a1 : Int) (a2 : Int) (C : Cd) : Ct l Γ k_X11_move 11 (encX gI) (emC M0) [.ref a0, wi a1, wi a2] C (fX11_move a0 a1 a2 C) := by
  refine ct_of (by decide +kernel) rfl (Nat.le_of_ble_eq_true rfl) ?_
  refine r_lo [0, 1, 2] (lo2 := [(0, .ref a0), (1, wi a1), (2, wi a2)]) rfl ?_
  unfold fX11_move
  refine r_aload_n (x := a0) dX11_move_0 rfl rfl ?_
  refine r_iload_n (x := a1) dX11_move_1 rfl rfl ?_
  refine r_cxV (c := 14) (h := gR) (k2 := k_X11_titleOf) (n := 1) (rest := []) um_X11_85 rfl kv_X11_titleOf hc_X11 (by decide) (c_X11_titleOf hG _ _ _) (by decide) rfl (Nat.le_of_ble_eq_true rfl) dX11_move_2 rfl (fun r2 C1 => ?_)
  show RunO l Γ k_X11_move 11 (encX gI) (emC M0) 5 [(0, .ref a0), (1, wi a1), (2, wi a2)] [va_rf r2] C1 _
  refine r_astoreq_n (lo2 := [(3, va_rf r2), (0, .ref a0), (1, wi a1), (2, wi a2)]) dX11_move_5 rfl (by decide) rfl ?_
  refine r_aload_n (x := a0) dX11_move_6 rfl rfl ?_
  refine r_iload_n (x := a2) dX11_move_7 rfl rfl ?_
  refine r_cxV (c := 14) (h := gR) (k2 := k_X11_titleOf) (n := 1) (rest := []) um_X11_85 rfl kv_X11_titleOf hc_X11 (by decide) (c_X11_titleOf hG _ _ _) (by decide) rfl (Nat.le_of_ble_eq_true rfl) dX11_move_8 rfl (fun r4 C3 => ?_)
  show RunO l Γ k_X11_move 11 (encX gI) (emC M0) 11 [(3, va_rf r2), (0, .ref a0), (1, wi a1), (2, wi a2)] [va_rf r4] C3 _
  refine r_astoreq (lo2 := [(4, va_rf r4), (3, va_rf r2), (0, .ref a0), (1, wi a1), (2, wi a2)]) dX11_move_11 (by decide) (by cases r2 <;> rfl) ?_
  refine r_aloadq_n (x := r2) dX11_move_13 rfl rfl ?_
  refine r_dref (fun p5 hp5 => ?_)
  subst hp5
  refine r_cgetRN (c := 12) (kk := 3) hc_X9 rfl (by decide) inU_X9 (by decide) hG uf_X11_102 rfl (by decide) dX11_move_14 (fun z6 => ?_)
  refine r_opt (fun hn => ?_) (fun p7 hp7 => ?_)
  · subst hn
    refine r_ifnonnullN dX11_move_17 ?_
    exact r_throw (e := 2) (text := "no page there") hG rfl rfl (by decide) (by decide) (by decide) (Nat.le_of_ble_eq_true rfl) dX11_move_20 dX11_move_23 dX11_move_24 dX11_move_26 dX11_move_29
  · subst hp7
    refine r_ifnonnullS (a := p7) (tgt := 30) dX11_move_17 (by decide) ?_
    refine r_aloadq (x := r4) dX11_move_30 rfl ?_
    refine r_dref (fun p8 hp8 => ?_)
    subst hp8
    refine r_cgetRN (c := 12) (kk := 3) hc_X9 rfl (by decide) inU_X9 (by decide) hG uf_X11_102 rfl (by decide) dX11_move_32 (fun z9 => ?_)
    refine r_join (P := fun (J : Cd → Option ((Int ⊕ Nat) × Cd)) => ∀  (C_64 : Cd), RunO l Γ k_X11_move 11 (encX gI) (emC M0) 64 [] [] C_64 (J C_64)) ?_ (fun J64 hJ64 => ?_)
    · intro C_64
      exact r_throw (e := 1) (text := "it cannot be moved") hG rfl rfl (by decide) (by decide) (by decide) (Nat.le_of_ble_eq_true rfl) dX11_move_64 dX11_move_67 dX11_move_68 dX11_move_70 dX11_move_73
    refine r_opt (fun hn => ?_) (fun p10 hp10 => ?_)
    · subst hn
      refine r_ifnonnullN dX11_move_35 ?_
      refine r_aload_n (x := a0) dX11_move_38 rfl rfl ?_
      refine r_aload_n (x := p5) dX11_move_39 rfl rfl ?_
      refine r_ccVi (c := 14) (k2 := k_X11_mayActAt) (n := 1) (rest := []) um_X11_91 rfl kv_X11_mayActAt hc_X11 (by decide) (c_X11_mayActAt hG _ _ _) (by decide) rfl (Nat.le_of_ble_eq_true rfl) dX11_move_40 rfl (fun r12 C11 => ?_)
      refine r_if_eq (tgt := 64) dX11_move_43 (by decide) ?_ ?_
      · refine r_lo [] (lo2 := []) rfl ?_
        exact hJ64  C11
      · refine r_aload_n (x := a0) dX11_move_46 rfl rfl ?_
        refine r_aload (x := p8) dX11_move_47 rfl ?_
        refine r_ccVi (c := 14) (k2 := k_X11_mayActAt) (n := 1) (rest := []) um_X11_91 rfl kv_X11_mayActAt hc_X11 (by decide) (c_X11_mayActAt hG _ _ _) (by decide) rfl (Nat.le_of_ble_eq_true rfl) dX11_move_49 rfl (fun r14 C13 => ?_)
        refine r_if_eq (tgt := 64) dX11_move_52 (by decide) ?_ ?_
        · refine r_lo [] (lo2 := []) rfl ?_
          exact hJ64  C13
        · refine r_aload_n (x := a0) dX11_move_55 rfl rfl ?_
          refine r_cgetI (c := 14) (kk := 7) hc_X11 rfl (by decide) inU_X11 (by decide) uf_X11_45 rfl (by decide) dX11_move_56 ?_
          refine r_bipush (v := 120) dX11_move_59 rfl ?_
          refine r_icmp_lt (tgt := 74) dX11_move_61 (by decide) ?_ ?_
          · refine r_aload_n (x := a0) dX11_move_74 rfl rfl ?_
            refine r_iload_n (x := a1) dX11_move_75 rfl rfl ?_
            refine r_iload_n (x := a2) dX11_move_76 rfl rfl ?_
            refine r_cxV (c := 14) (h := gV) (k2 := k_X11_bringOver) (n := 2) (rest := []) um_X11_182 rfl kv_X11_bringOver hc_X11 (by decide) (c_X11_bringOver hG _ _ _ _) (by decide) rfl (Nat.le_of_ble_eq_true rfl) dX11_move_77 rfl (fun r16 C15 => ?_)
            show RunO l Γ k_X11_move 11 (encX gI) (emC M0) 80 [(4, .ref p8), (3, .ref p5), (0, .ref a0), (1, wi a1), (2, wi a2)] [] C15 _
            refine r_aload_n (x := a0) dX11_move_80 rfl rfl ?_
            refine r_cgetR (c := 14) (kk := 5) hc_X11 rfl (by decide) inU_X11 (by decide) uf_X11_38 rfl (by decide) dX11_move_81 (fun z17 => ?_)
            refine r_dref (fun p18 hp18 => ?_)
            subst hp18
            refine r_ccVNv (c := 11) (k2 := k_X8_clear) (n := 0) (rest := []) hG um_X11_80 rfl kv_X8_clear hc_X8 (by decide) (c_X8_clear hG _ _) (by decide) rfl (Nat.le_of_ble_eq_true rfl) dX11_move_84 rfl (fun r20 C19 => ?_)
            refine r_aload_n (x := a0) dX11_move_87 rfl rfl ?_
            refine r_cgetR (c := 14) (kk := 5) hc_X11 rfl (by decide) inU_X11 (by decide) uf_X11_38 rfl (by decide) dX11_move_88 (fun z21 => ?_)
            refine r_sipush (v := 12000) dX11_move_91 rfl ?_
            refine r_iload_n (x := a2) dX11_move_94 rfl rfl ?_
            refine r_iadd dX11_move_95 ?_
            refine r_dref (fun p22 hp22 => ?_)
            subst hp22
            refine r_ccVNv (c := 11) (k2 := k_X8_add) (n := 1) (rest := []) hG um_X11_77 rfl kv_X8_add hc_X8 (by decide) (c_X8_add hG _ _ _) (by decide) rfl (Nat.le_of_ble_eq_true rfl) dX11_move_96 rfl (fun r24 C23 => ?_)
            refine r_aload_n (x := a0) dX11_move_99 rfl rfl ?_
            refine r_iload_n (x := a1) dX11_move_100 rfl rfl ?_
            refine r_aload_n (x := a0) dX11_move_101 rfl rfl ?_
            refine r_cgetR (c := 14) (kk := 5) hc_X11 rfl (by decide) inU_X11 (by decide) uf_X11_38 rfl (by decide) dX11_move_102 (fun z25 => ?_)
            refine r_ccVi (c := 14) (k2 := k_X11_makePage) (n := 2) (rest := []) um_X11_112 rfl kv_X11_makePage hc_X11 (by decide) (c_X11_makePage hG _ _ _ _) (by decide) rfl (Nat.le_of_ble_eq_true rfl) dX11_move_105 rfl (fun r27 C26 => ?_)
            exact r_iretX rfl dX11_move_108
          · refine r_lo [] (lo2 := []) rfl ?_
            exact hJ64  C13
    · subst hp10
      refine r_ifnonnullS (a := p10) (tgt := 64) dX11_move_35 (by decide) ?_
      refine r_lo [] (lo2 := []) rfl ?_
      exact hJ64  C3
def k_X11_pagesOfTree : Kd := (yX11_pagesOfTree, cX11_pagesOfTree, 4, some .int, [])
theorem kv_X11_pagesOfTree : KV k_X11_pagesOfTree 1 := ⟨uw_mem 1347 (by decide +kernel) rfl, uw_mem 94 (by decide +kernel) rfl, uw_mem 1346 (by decide +kernel) rfl, uw_mem 81 (by decide +kernel) rfl, ⟨by decide +kernel, by decide +kernel⟩, by decide +kernel, by decide +kernel⟩
set_option maxHeartbeats 8000000 in
set_option maxRecDepth 100000 in
theorem c_X11_pagesOfTree {l : Launch} {Γ : Cx} {M0 : Md} (hG : GK Γ l) (a0 : Nat) (a1 : Int) (C : Cd) : Ct l Γ k_X11_pagesOfTree 1 encI (emC M0) [.ref a0, wi a1] C (fX11_pagesOfTree a0 a1 C) := by
  refine ct_of (by decide +kernel) rfl (Nat.le_of_ble_eq_true rfl) ?_
  refine r_lo [0, 1] (lo2 := [(0, .ref a0), (1, wi a1)]) rfl ?_
  unfold fX11_pagesOfTree
  refine ro_iconst (v := 0) dX11_pagesOfTree_0 rfl ?_
  refine r_istore_n (lo2 := [(2, wi 0), (0, .ref a0), (1, wi a1)]) dX11_pagesOfTree_1 rfl (by decide) rfl ?_
  refine ro_iconst (v := 0) dX11_pagesOfTree_2 rfl ?_
  refine r_istore_n (lo2 := [(3, wi 0), (2, wi 0), (0, .ref a0), (1, wi a1)]) dX11_pagesOfTree_3 rfl (by decide) rfl ?_
  refine r_loop (P := fun (J : Int → Int → Cd → Option (Int × Cd)) => ∀ (v2_4 : Int) (v3_4 : Int) (C_4 : Cd), RunO l Γ k_X11_pagesOfTree 1 encI (emC M0) 4 [(0, .ref a0), (1, wi a1), (2, wi v2_4), (3, wi v3_4)] [] C_4 (J v2_4 v3_4 C_4)) ?_ (fun L4 hL4 => ?_) (fun J4 hJ4 => ?_)
  · intros; exact ro_none
  · intro v2_4 v3_4 C_4
    refine r_iload_n (x := v3_4) dX11_pagesOfTree_4 rfl rfl ?_
    refine r_aload_n (x := a0) dX11_pagesOfTree_5 rfl rfl ?_
    refine r_cgetR (c := 14) (kk := 1) hc_X11 rfl (by decide) inU_X11 (by decide) uf_X11_20 rfl (by decide) dX11_pagesOfTree_6 (fun z1 => ?_)
    refine r_dref (fun p2 hp2 => ?_)
    subst hp2
    refine r_calen (t := 102) rfl (by decide) dX11_pagesOfTree_9 ?_
    refine r_icmp_ge (tgt := 44) dX11_pagesOfTree_10 (by decide) ?_ ?_
    · refine r_iload_n (x := v2_4) dX11_pagesOfTree_44 rfl rfl ?_
      exact r_iret rfl dX11_pagesOfTree_45
    · refine r_iload_n (x := v3_4) dX11_pagesOfTree_13 rfl rfl ?_
      refine ro_iconst (v := 4) dX11_pagesOfTree_14 rfl ?_
      refine r_idiv dX11_pagesOfTree_15 (by decide) ?_
      refine r_iload_n (x := a1) dX11_pagesOfTree_16 rfl rfl ?_
      refine r_join (P := fun (J : Int → Cd → Option (Int × Cd)) => ∀ (v2_38 : Int) (C_38 : Cd), RunO l Γ k_X11_pagesOfTree 1 encI (emC M0) 38 [(0, .ref a0), (1, wi a1), (2, wi v2_38), (3, wi v3_4)] [] C_38 (J v2_38 C_38)) ?_ (fun J38 hJ38 => ?_)
      · intro v2_38 C_38
        refine r_iinc (x := v3_4) (lo2 := [(3, wi (v3_4 + 1)), (0, .ref a0), (1, wi a1), (2, wi v2_38)]) dX11_pagesOfTree_38 rfl (by decide) rfl ?_
        refine r_goto (tgt := 4) dX11_pagesOfTree_41 (by decide) ?_
        refine r_lo [1, 2, 3, 0] (lo2 := [(0, .ref a0), (1, wi a1), (2, wi v2_38), (3, wi (v3_4 + 1))]) rfl ?_
        exact hL4 v2_38 (v3_4 + 1) C_38
      refine r_icmp_ne (tgt := 38) dX11_pagesOfTree_17 (by decide) ?_ ?_
      · exact hJ38 v2_4 C_4
      · refine r_aload_n (x := a0) dX11_pagesOfTree_20 rfl rfl ?_
        refine r_cgetR (c := 14) (kk := 1) hc_X11 rfl (by decide) inU_X11 (by decide) uf_X11_20 rfl (by decide) dX11_pagesOfTree_21 (fun z3 => ?_)
        refine r_iload_n (x := v3_4) dX11_pagesOfTree_24 rfl rfl ?_
        refine r_dref (fun p4 hp4 => ?_)
        subst hp4
        refine r_caald (t := 102) rfl (by decide) (by decide) dX11_pagesOfTree_25 (fun z5 => ?_)
        refine r_dref (fun p6 hp6 => ?_)
        subst hp6
        refine r_cgetRN (c := 12) (kk := 3) hc_X9 rfl (by decide) inU_X9 (by decide) hG uf_X11_102 rfl (by decide) dX11_pagesOfTree_26 (fun z7 => ?_)
        refine r_opt (fun hn => ?_) (fun p8 hp8 => ?_)
        · subst hn
          refine r_ifnullN (tgt := 38) dX11_pagesOfTree_29 (by decide) ?_
          exact hJ38 v2_4 C_4
        · subst hp8
          refine r_ifnullS (a := p8) dX11_pagesOfTree_29 ?_
          refine r_iload_n (x := v2_4) dX11_pagesOfTree_32 rfl rfl ?_
          refine ro_iconst (v := 1) dX11_pagesOfTree_33 rfl ?_
          refine r_iload_n (x := v3_4) dX11_pagesOfTree_34 rfl rfl ?_
          refine r_ishl dX11_pagesOfTree_35 ?_
          refine r_ior dX11_pagesOfTree_36 ?_
          refine r_nm (fun x2_37 => ?_)
          refine r_istore_n (lo2 := [(2, wi x2_37), (0, .ref a0), (1, wi a1), (3, wi v3_4)]) dX11_pagesOfTree_37 rfl (by decide) rfl ?_
          refine r_lo [1, 2, 0, 3] (lo2 := [(0, .ref a0), (1, wi a1), (2, wi x2_37), (3, wi v3_4)]) rfl ?_
          exact hJ38 x2_37 C_4
  refine r_lo [2, 3, 1, 0] (lo2 := [(0, .ref a0), (1, wi a1), (2, wi 0), (3, wi 0)]) rfl ?_
  exact hJ4 0 0 C
def k_X11_pagesLeadingInto : Kd := (yX11_pagesLeadingInto, cX11_pagesLeadingInto, 5, some .int, [])
theorem kv_X11_pagesLeadingInto : KV k_X11_pagesLeadingInto 1 := ⟨uw_mem 1351 (by decide +kernel) rfl, uw_mem 94 (by decide +kernel) rfl, uw_mem 1350 (by decide +kernel) rfl, uw_mem 82 (by decide +kernel) rfl, ⟨by decide +kernel, by decide +kernel⟩, by decide +kernel, by decide +kernel⟩
set_option maxHeartbeats 8000000 in
set_option maxRecDepth 100000 in
theorem c_X11_pagesLeadingInto {l : Launch} {Γ : Cx} {M0 : Md} (hG : GK Γ l) (a0 : Nat) (a1 : Int) (C : Cd) : Ct l Γ k_X11_pagesLeadingInto 4 encI (emC M0) [.ref a0, wi a1] C (fX11_pagesLeadingInto a0 a1 C) := by
  refine ct_of (by decide +kernel) rfl (Nat.le_of_ble_eq_true rfl) ?_
  refine r_lo [0, 1] (lo2 := [(0, .ref a0), (1, wi a1)]) rfl ?_
  unfold fX11_pagesLeadingInto
  refine ro_iconst (v := 0) dX11_pagesLeadingInto_0 rfl ?_
  refine r_istore_n (lo2 := [(2, wi 0), (0, .ref a0), (1, wi a1)]) dX11_pagesLeadingInto_1 rfl (by decide) rfl ?_
  refine ro_iconst (v := 0) dX11_pagesLeadingInto_2 rfl ?_
  refine r_istore_n (lo2 := [(3, wi 0), (2, wi 0), (0, .ref a0), (1, wi a1)]) dX11_pagesLeadingInto_3 rfl (by decide) rfl ?_
  refine r_loop (P := fun (J : Int → Int → Cd → Option (Int × Cd)) => ∀ (v2_4 : Int) (v3_4 : Int) (C_4 : Cd), RunO l Γ k_X11_pagesLeadingInto 4 encI (emC M0) 4 [(0, .ref a0), (1, wi a1), (2, wi v2_4), (3, wi v3_4)] [] C_4 (J v2_4 v3_4 C_4)) ?_ (fun L4 hL4 => ?_) (fun J4 hJ4 => ?_)
  · intros; exact ro_none
  · intro v2_4 v3_4 C_4
    refine r_iload_n (x := v3_4) dX11_pagesLeadingInto_4 rfl rfl ?_
    refine r_aload_n (x := a0) dX11_pagesLeadingInto_5 rfl rfl ?_
    refine r_cgetR (c := 14) (kk := 1) hc_X11 rfl (by decide) inU_X11 (by decide) uf_X11_20 rfl (by decide) dX11_pagesLeadingInto_6 (fun z1 => ?_)
    refine r_dref (fun p2 hp2 => ?_)
    subst hp2
    refine r_calen (t := 102) rfl (by decide) dX11_pagesLeadingInto_9 ?_
    refine r_icmp_ge (tgt := 53) dX11_pagesLeadingInto_10 (by decide) ?_ ?_
    · refine r_iload_n (x := v2_4) dX11_pagesLeadingInto_53 rfl rfl ?_
      exact r_iret rfl dX11_pagesLeadingInto_54
    · refine r_aload_n (x := a0) dX11_pagesLeadingInto_13 rfl rfl ?_
      refine r_cgetR (c := 14) (kk := 1) hc_X11 rfl (by decide) inU_X11 (by decide) uf_X11_20 rfl (by decide) dX11_pagesLeadingInto_14 (fun z3 => ?_)
      refine r_iload_n (x := v3_4) dX11_pagesLeadingInto_17 rfl rfl ?_
      refine r_dref (fun p4 hp4 => ?_)
      subst hp4
      refine r_caald (t := 102) rfl (by decide) (by decide) dX11_pagesLeadingInto_18 (fun z5 => ?_)
      refine r_dref (fun p6 hp6 => ?_)
      subst hp6
      refine r_cgetRN (c := 12) (kk := 3) hc_X9 rfl (by decide) inU_X9 (by decide) hG uf_X11_102 rfl (by decide) dX11_pagesLeadingInto_19 (fun z7 => ?_)
      refine r_astoreq (lo2 := [(4, va_rf z7), (0, .ref a0), (1, wi a1), (2, wi v2_4), (3, wi v3_4)]) dX11_pagesLeadingInto_22 (by decide) rfl ?_
      refine r_aloadq (x := z7) dX11_pagesLeadingInto_24 rfl ?_
      refine r_join (P := fun (J : Int → Cd → Option (Int × Cd)) => ∀ (v2_47 : Int) (C_47 : Cd), RunO l Γ k_X11_pagesLeadingInto 4 encI (emC M0) 47 [(0, .ref a0), (1, wi a1), (2, wi v2_47), (3, wi v3_4)] [] C_47 (J v2_47 C_47)) ?_ (fun J47 hJ47 => ?_)
      · intro v2_47 C_47
        refine r_iinc (x := v3_4) (lo2 := [(3, wi (v3_4 + 1)), (0, .ref a0), (1, wi a1), (2, wi v2_47)]) dX11_pagesLeadingInto_47 rfl (by decide) rfl ?_
        refine r_goto (tgt := 4) dX11_pagesLeadingInto_50 (by decide) ?_
        refine r_lo [1, 2, 3, 0] (lo2 := [(0, .ref a0), (1, wi a1), (2, wi v2_47), (3, wi (v3_4 + 1))]) rfl ?_
        exact hL4 v2_47 (v3_4 + 1) C_47
      refine r_opt (fun hn => ?_) (fun p8 hp8 => ?_)
      · subst hn
        refine r_ifnullN (tgt := 47) dX11_pagesLeadingInto_26 (by decide) ?_
        refine r_lo [1, 2, 3, 4] (lo2 := [(0, .ref a0), (1, wi a1), (2, wi v2_4), (3, wi v3_4)]) rfl ?_
        exact hJ47 v2_4 C_4
      · subst hp8
        refine r_ifnullS (a := p8) dX11_pagesLeadingInto_26 ?_
        refine r_aload (x := p8) dX11_pagesLeadingInto_29 rfl ?_
        refine r_cgetRN (c := 6) (kk := 1) hc_X3 rfl (by decide) inU_X3 (by decide) hG uf_X11_148 rfl (by decide) dX11_pagesLeadingInto_31 (fun z9 => ?_)
        refine r_dref (fun p10 hp10 => ?_)
        subst hp10
        refine r_cgetRN (c := 13) (kk := 2) hc_X10 rfl (by decide) inU_X10 (by decide) hG uf_X11_130 rfl (by decide) dX11_pagesLeadingInto_34 (fun z11 => ?_)
        refine r_iload_n (x := a1) dX11_pagesLeadingInto_37 rfl rfl ?_
        refine r_dref (fun p12 hp12 => ?_)
        subst hp12
        refine r_ccVNi (c := 11) (k2 := k_X8_leadsInto_) (n := 1) (rest := []) hG um_X11_202 rfl kv_X8_leadsInto_ hc_X8 (by decide) (c_X8_leadsInto_ hG _ _ _) (by decide) rfl (Nat.le_of_ble_eq_true rfl) dX11_pagesLeadingInto_38 rfl (fun r14 C13 => ?_)
        refine r_if_eq (tgt := 47) dX11_pagesLeadingInto_41 (by decide) ?_ ?_
        · refine r_lo [1, 2, 3, 4] (lo2 := [(0, .ref a0), (1, wi a1), (2, wi v2_4), (3, wi v3_4)]) rfl ?_
          exact hJ47 v2_4 C13
        · refine r_iinc (x := v2_4) (lo2 := [(2, wi (v2_4 + 1)), (4, .ref p8), (0, .ref a0), (1, wi a1), (3, wi v3_4)]) dX11_pagesLeadingInto_44 rfl (by decide) rfl ?_
          refine r_lo [2, 3, 0, 4] (lo2 := [(0, .ref a0), (1, wi a1), (2, wi (v2_4 + 1)), (3, wi v3_4)]) rfl ?_
          exact hJ47 (v2_4 + 1) C13
  refine r_lo [2, 3, 1, 0] (lo2 := [(0, .ref a0), (1, wi a1), (2, wi 0), (3, wi 0)]) rfl ?_
  exact hJ4 0 0 C
def k_X11_moveTree : Kd := (yX11_moveTree, cX11_moveTree, 8, some .int, [])
theorem kv_X11_moveTree : KV k_X11_moveTree 2 := ⟨uw_mem 1342 (by decide +kernel) rfl, uw_mem 94 (by decide +kernel) rfl, uw_mem 1340 (by decide +kernel) rfl, uw_mem 1341 (by decide +kernel) rfl, ⟨by decide +kernel, by decide +kernel⟩, by decide +kernel, by decide +kernel⟩
set_option maxHeartbeats 8000000 in
set_option maxRecDepth 100000 in
theorem c_X11_moveTree {l : Launch} {Γ : Cx} {M0 : Md} (hG : GK Γ l) (a0 : Nat) (a1 : Int) (a2 : Int) (C : Cd) : Ct l Γ k_X11_moveTree 12 (encX gI) (emC M0) [.ref a0, wi a1, wi a2] C (fX11_moveTree a0 a1 a2 C) := by
  refine ct_of (by decide +kernel) rfl (Nat.le_of_ble_eq_true rfl) ?_
  refine r_lo [0, 1, 2] (lo2 := [(0, .ref a0), (1, wi a1), (2, wi a2)]) rfl ?_
  unfold fX11_moveTree
  refine r_iload_n (x := a1) dX11_moveTree_0 rfl rfl ?_
  refine r_join (P := fun (J : Cd → Option ((Int ⊕ Nat) × Cd)) => ∀  (C_20 : Cd), RunO l Γ k_X11_moveTree 12 (encX gI) (emC M0) 20 [] [] C_20 (J C_20)) ?_ (fun J20 hJ20 => ?_)
  · intro C_20
    exact r_throw (e := 2) (text := "no such tree") hG rfl rfl (by decide) (by decide) (by decide) (Nat.le_of_ble_eq_true rfl) dX11_moveTree_20 dX11_moveTree_23 dX11_moveTree_24 dX11_moveTree_26 dX11_moveTree_29
  refine r_if_lt (tgt := 20) dX11_moveTree_1 (by decide) ?_ ?_
  · refine r_lo [] (lo2 := []) rfl ?_
    exact hJ20  C
  · refine r_iload_n (x := a1) dX11_moveTree_4 rfl rfl ?_
    refine r_bipush (v := 6) dX11_moveTree_5 rfl ?_
    refine r_icmp_ge (tgt := 20) dX11_moveTree_7 (by decide) ?_ ?_
    · refine r_lo [] (lo2 := []) rfl ?_
      exact hJ20  C
    · refine r_iload_n (x := a2) dX11_moveTree_10 rfl rfl ?_
      refine r_if_lt (tgt := 20) dX11_moveTree_11 (by decide) ?_ ?_
      · refine r_lo [] (lo2 := []) rfl ?_
        exact hJ20  C
      · refine r_iload_n (x := a2) dX11_moveTree_14 rfl rfl ?_
        refine r_bipush (v := 6) dX11_moveTree_15 rfl ?_
        refine r_icmp_lt (tgt := 30) dX11_moveTree_17 (by decide) ?_ ?_
        · refine r_aload_n (x := a0) dX11_moveTree_30 rfl rfl ?_
          refine r_iload_n (x := a1) dX11_moveTree_31 rfl rfl ?_
          refine r_ccVi (c := 14) (k2 := k_X11_pagesOfTree) (n := 1) (rest := []) um_X11_188 rfl kv_X11_pagesOfTree hc_X11 (by decide) (c_X11_pagesOfTree hG _ _ _) (by decide) rfl (Nat.le_of_ble_eq_true rfl) dX11_moveTree_32 rfl (fun r2 C1 => ?_)
          refine r_istore_n (lo2 := [(3, wi r2), (0, .ref a0), (1, wi a1), (2, wi a2)]) dX11_moveTree_35 rfl (by decide) rfl ?_
          refine r_aload_n (x := a0) dX11_moveTree_36 rfl rfl ?_
          refine r_iload_n (x := r2) dX11_moveTree_37 rfl rfl ?_
          refine r_ccVi (c := 14) (k2 := k_X11_pagesLeadingInto) (n := 1) (rest := []) um_X11_191 rfl kv_X11_pagesLeadingInto hc_X11 (by decide) (c_X11_pagesLeadingInto hG _ _ _) (by decide) rfl (Nat.le_of_ble_eq_true rfl) dX11_moveTree_38 rfl (fun r4 C3 => ?_)
          refine r_istore (lo2 := [(4, wi r4), (3, wi r2), (0, .ref a0), (1, wi a1), (2, wi a2)]) dX11_moveTree_41 (by decide) rfl ?_
          refine r_iload_n (x := r2) dX11_moveTree_43 rfl rfl ?_
          refine r_join (P := fun (J : Cd → Option ((Int ⊕ Nat) × Cd)) => ∀  (C_83 : Cd), RunO l Γ k_X11_moveTree 12 (encX gI) (emC M0) 83 [] [] C_83 (J C_83)) ?_ (fun J83 hJ83 => ?_)
          · intro C_83
            exact r_throw (e := 1) (text := "it cannot be moved") hG rfl rfl (by decide) (by decide) (by decide) (Nat.le_of_ble_eq_true rfl) dX11_moveTree_83 dX11_moveTree_86 dX11_moveTree_87 dX11_moveTree_89 dX11_moveTree_92
          refine r_if_eq (tgt := 83) dX11_moveTree_44 (by decide) ?_ ?_
          · refine r_lo [] (lo2 := []) rfl ?_
            exact hJ83  C3
          · refine r_aload_n (x := a0) dX11_moveTree_47 rfl rfl ?_
            refine r_iload_n (x := a2) dX11_moveTree_48 rfl rfl ?_
            refine r_ccVi (c := 14) (k2 := k_X11_pagesOfTree) (n := 1) (rest := []) um_X11_188 rfl kv_X11_pagesOfTree hc_X11 (by decide) (c_X11_pagesOfTree hG _ _ _) (by decide) rfl (Nat.le_of_ble_eq_true rfl) dX11_moveTree_49 rfl (fun r6 C5 => ?_)
            refine r_if_ne (tgt := 83) dX11_moveTree_52 (by decide) ?_ ?_
            · refine r_lo [] (lo2 := []) rfl ?_
              exact hJ83  C5
            · refine r_aload_n (x := a0) dX11_moveTree_55 rfl rfl ?_
              refine r_iload_n (x := a1) dX11_moveTree_56 rfl rfl ?_
              refine r_ccVi (c := 14) (k2 := k_X11_mayActInTree) (n := 1) (rest := []) um_X11_194 rfl kv_X11_mayActInTree hc_X11 (by decide) (c_X11_mayActInTree hG _ _ _) (by decide) rfl (Nat.le_of_ble_eq_true rfl) dX11_moveTree_57 rfl (fun r8 C7 => ?_)
              refine r_if_eq (tgt := 83) dX11_moveTree_60 (by decide) ?_ ?_
              · refine r_lo [] (lo2 := []) rfl ?_
                exact hJ83  C7
              · refine r_aload_n (x := a0) dX11_moveTree_63 rfl rfl ?_
                refine r_iload_n (x := a2) dX11_moveTree_64 rfl rfl ?_
                refine r_ccVi (c := 14) (k2 := k_X11_mayActInTree) (n := 1) (rest := []) um_X11_194 rfl kv_X11_mayActInTree hc_X11 (by decide) (c_X11_mayActInTree hG _ _ _) (by decide) rfl (Nat.le_of_ble_eq_true rfl) dX11_moveTree_65 rfl (fun r10 C9 => ?_)
                refine r_if_eq (tgt := 83) dX11_moveTree_68 (by decide) ?_ ?_
                · refine r_lo [] (lo2 := []) rfl ?_
                  exact hJ83  C9
                · refine r_aload_n (x := a0) dX11_moveTree_71 rfl rfl ?_
                  refine r_cgetI (c := 14) (kk := 7) hc_X11 rfl (by decide) inU_X11 (by decide) uf_X11_45 rfl (by decide) dX11_moveTree_72 ?_
                  refine r_iload (x := r4) dX11_moveTree_75 rfl ?_
                  refine r_iadd dX11_moveTree_77 ?_
                  refine r_bipush (v := 120) dX11_moveTree_78 rfl ?_
                  refine r_icmp_le (tgt := 93) dX11_moveTree_80 (by decide) ?_ ?_
                  · refine r_iload_n (x := a2) dX11_moveTree_93 rfl rfl ?_
                    refine r_iload_n (x := a1) dX11_moveTree_94 rfl rfl ?_
                    refine r_isub dX11_moveTree_95 ?_
                    refine ro_iconst (v := 4) dX11_moveTree_96 rfl ?_
                    refine r_imul dX11_moveTree_97 ?_
                    refine r_nm (fun x5_98 => ?_)
                    refine r_istore (lo2 := [(5, wi x5_98), (4, wi r4), (3, wi r2), (0, .ref a0), (1, wi a1), (2, wi a2)]) dX11_moveTree_98 (by decide) rfl ?_
                    refine ro_iconst (v := 0) dX11_moveTree_100 rfl ?_
                    refine r_istore (lo2 := [(6, wi 0), (5, wi x5_98), (4, wi r4), (3, wi r2), (0, .ref a0), (1, wi a1), (2, wi a2)]) dX11_moveTree_101 (by decide) rfl ?_
                    refine r_loop (P := fun (J : Int → Cd → Option ((Int ⊕ Nat) × Cd)) => ∀ (v6_103 : Int) (C_103 : Cd), RunO l Γ k_X11_moveTree 12 (encX gI) (emC M0) 103 [(0, .ref a0), (3, wi r2), (4, wi r4), (5, wi x5_98), (6, wi v6_103)] [] C_103 (J v6_103 C_103)) ?_ (fun L103 hL103 => ?_) (fun J103 hJ103 => ?_)
                    · intros; exact ro_none
                    · intro v6_103 C_103
                      refine r_iload (x := v6_103) dX11_moveTree_103 rfl ?_
                      refine r_aload_n (x := a0) dX11_moveTree_105 rfl rfl ?_
                      refine r_cgetR (c := 14) (kk := 1) hc_X11 rfl (by decide) inU_X11 (by decide) uf_X11_20 rfl (by decide) dX11_moveTree_106 (fun z11 => ?_)
                      refine r_dref (fun p12 hp12 => ?_)
                      subst hp12
                      refine r_calen (t := 102) rfl (by decide) dX11_moveTree_109 ?_
                      refine r_icmp_ge (tgt := 139) dX11_moveTree_110 (by decide) ?_ ?_
                      · refine ro_iconst (v := 0) dX11_moveTree_139 rfl ?_
                        refine r_istore (lo2 := [(6, wi 0), (0, .ref a0), (3, wi r2), (4, wi r4), (5, wi x5_98)]) dX11_moveTree_140 (by decide) rfl ?_
                        refine r_loop (P := fun (J : Int → Cd → Option ((Int ⊕ Nat) × Cd)) => ∀ (v6_142 : Int) (C_142 : Cd), RunO l Γ k_X11_moveTree 12 (encX gI) (emC M0) 142 [(0, .ref a0), (3, wi r2), (4, wi r4), (5, wi x5_98), (6, wi v6_142)] [] C_142 (J v6_142 C_142)) ?_ (fun L142 hL142 => ?_) (fun J142 hJ142 => ?_)
                        · intros; exact ro_none
                        · intro v6_142 C_142
                          refine r_iload (x := v6_142) dX11_moveTree_142 rfl ?_
                          refine r_aload_n (x := a0) dX11_moveTree_144 rfl rfl ?_
                          refine r_cgetR (c := 14) (kk := 1) hc_X11 rfl (by decide) inU_X11 (by decide) uf_X11_20 rfl (by decide) dX11_moveTree_145 (fun z13 => ?_)
                          refine r_dref (fun p14 hp14 => ?_)
                          subst hp14
                          refine r_calen (t := 102) rfl (by decide) dX11_moveTree_148 ?_
                          refine r_icmp_ge (tgt := 221) dX11_moveTree_149 (by decide) ?_ ?_
                          · refine r_iload (x := r4) dX11_moveTree_221 rfl ?_
                            exact r_iretX rfl dX11_moveTree_223
                          · refine r_aload_n (x := a0) dX11_moveTree_152 rfl rfl ?_
                            refine r_cgetR (c := 14) (kk := 1) hc_X11 rfl (by decide) inU_X11 (by decide) uf_X11_20 rfl (by decide) dX11_moveTree_153 (fun z15 => ?_)
                            refine r_iload (x := v6_142) dX11_moveTree_156 rfl ?_
                            refine r_dref (fun p16 hp16 => ?_)
                            subst hp16
                            refine r_caald (t := 102) rfl (by decide) (by decide) dX11_moveTree_158 (fun z17 => ?_)
                            refine r_dref (fun p18 hp18 => ?_)
                            subst hp18
                            refine r_cgetRN (c := 12) (kk := 3) hc_X9 rfl (by decide) inU_X9 (by decide) hG uf_X11_102 rfl (by decide) dX11_moveTree_159 (fun z19 => ?_)
                            refine r_astoreq (lo2 := [(7, va_rf z19), (0, .ref a0), (3, wi r2), (4, wi r4), (5, wi x5_98), (6, wi v6_142)]) dX11_moveTree_162 (by decide) rfl ?_
                            refine r_aloadq (x := z19) dX11_moveTree_164 rfl ?_
                            refine r_join (P := fun (J : Cd → Option ((Int ⊕ Nat) × Cd)) => ∀  (C_215 : Cd), RunO l Γ k_X11_moveTree 12 (encX gI) (emC M0) 215 [(0, .ref a0), (3, wi r2), (4, wi r4), (5, wi x5_98), (6, wi v6_142)] [] C_215 (J C_215)) ?_ (fun J215 hJ215 => ?_)
                            · intro C_215
                              refine r_iinc (x := v6_142) (lo2 := [(6, wi (v6_142 + 1)), (0, .ref a0), (3, wi r2), (4, wi r4), (5, wi x5_98)]) dX11_moveTree_215 rfl (by decide) rfl ?_
                              refine r_goto (tgt := 142) dX11_moveTree_218 (by decide) ?_
                              refine r_lo [1, 2, 3, 4, 0] (lo2 := [(0, .ref a0), (3, wi r2), (4, wi r4), (5, wi x5_98), (6, wi (v6_142 + 1))]) rfl ?_
                              exact hL142 (v6_142 + 1) C_215
                            refine r_opt (fun hn => ?_) (fun p20 hp20 => ?_)
                            · subst hn
                              refine r_ifnullN (tgt := 215) dX11_moveTree_166 (by decide) ?_
                              refine r_lo [1, 2, 3, 4, 5] (lo2 := [(0, .ref a0), (3, wi r2), (4, wi r4), (5, wi x5_98), (6, wi v6_142)]) rfl ?_
                              exact hJ215  C_142
                            · subst hp20
                              refine r_ifnullS (a := p20) dX11_moveTree_166 ?_
                              refine r_aload (x := p20) dX11_moveTree_169 rfl ?_
                              refine r_cgetRN (c := 6) (kk := 1) hc_X3 rfl (by decide) inU_X3 (by decide) hG uf_X11_148 rfl (by decide) dX11_moveTree_171 (fun z21 => ?_)
                              refine r_dref (fun p22 hp22 => ?_)
                              subst hp22
                              refine r_cgetRN (c := 13) (kk := 2) hc_X10 rfl (by decide) inU_X10 (by decide) hG uf_X11_130 rfl (by decide) dX11_moveTree_174 (fun z23 => ?_)
                              refine r_iload_n (x := r2) dX11_moveTree_177 rfl rfl ?_
                              refine r_dref (fun p24 hp24 => ?_)
                              subst hp24
                              refine r_ccVNi (c := 11) (k2 := k_X8_leadsInto_) (n := 1) (rest := []) hG um_X11_202 rfl kv_X8_leadsInto_ hc_X8 (by decide) (c_X8_leadsInto_ hG _ _ _) (by decide) rfl (Nat.le_of_ble_eq_true rfl) dX11_moveTree_178 rfl (fun r26 C25 => ?_)
                              refine r_if_eq (tgt := 215) dX11_moveTree_181 (by decide) ?_ ?_
                              · refine r_lo [1, 2, 3, 4, 5] (lo2 := [(0, .ref a0), (3, wi r2), (4, wi r4), (5, wi x5_98), (6, wi v6_142)]) rfl ?_
                                exact hJ215  C25
                              · refine r_aload (x := p20) dX11_moveTree_184 rfl ?_
                                refine r_cgetRN (c := 6) (kk := 1) hc_X3 rfl (by decide) inU_X3 (by decide) hG uf_X11_148 rfl (by decide) dX11_moveTree_186 (fun z27 => ?_)
                                refine r_dref (fun p28 hp28 => ?_)
                                subst hp28
                                refine r_cgetRN (c := 13) (kk := 2) hc_X10 rfl (by decide) inU_X10 (by decide) hG uf_X11_130 rfl (by decide) dX11_moveTree_189 (fun z29 => ?_)
                                refine r_iload_n (x := r2) dX11_moveTree_192 rfl rfl ?_
                                refine r_iload (x := x5_98) dX11_moveTree_193 rfl ?_
                                refine r_aload_n (x := a0) dX11_moveTree_195 rfl rfl ?_
                                refine r_cgetR (c := 14) (kk := 5) hc_X11 rfl (by decide) inU_X11 (by decide) uf_X11_38 rfl (by decide) dX11_moveTree_196 (fun z30 => ?_)
                                refine r_dref (fun p31 hp31 => ?_)
                                subst hp31
                                refine r_ccVNv (c := 11) (k2 := k_X8_writeLeadingOn) (n := 3) (rest := []) hG um_X11_205 rfl kv_X8_writeLeadingOn hc_X8 (by decide) (c_X8_writeLeadingOn hG _ _ _ _ _) (by decide) rfl (Nat.le_of_ble_eq_true rfl) dX11_moveTree_199 rfl (fun r33 C32 => ?_)
                                refine r_aload_n (x := a0) dX11_moveTree_202 rfl rfl ?_
                                refine r_iload (x := v6_142) dX11_moveTree_203 rfl ?_
                                refine r_aload (x := p20) dX11_moveTree_205 rfl ?_
                                refine r_aload_n (x := a0) dX11_moveTree_207 rfl rfl ?_
                                refine r_cgetR (c := 14) (kk := 5) hc_X11 rfl (by decide) inU_X11 (by decide) uf_X11_38 rfl (by decide) dX11_moveTree_208 (fun z34 => ?_)
                                refine r_ccVi (c := 14) (k2 := k_X11_addNextVersion) (n := 3) (rest := []) um_X11_162 rfl kv_X11_addNextVersion hc_X11 (by decide) (c_X11_addNextVersion hG _ _ _ _ _) (by decide) rfl (Nat.le_of_ble_eq_true rfl) dX11_moveTree_211 rfl (fun r36 C35 => ?_)
                                refine r_pop dX11_moveTree_214 rfl ?_
                                refine r_lo [1, 2, 3, 4, 5] (lo2 := [(0, .ref a0), (3, wi r2), (4, wi r4), (5, wi x5_98), (6, wi v6_142)]) rfl ?_
                                exact hJ215  C35
                        refine r_lo [1, 2, 3, 4, 0] (lo2 := [(0, .ref a0), (3, wi r2), (4, wi r4), (5, wi x5_98), (6, wi 0)]) rfl ?_
                        exact hJ142 0 C_103
                      · refine r_iload_n (x := r2) dX11_moveTree_113 rfl rfl ?_
                        refine r_iload (x := v6_103) dX11_moveTree_114 rfl ?_
                        refine r_ccSi (k2 := k_X11_has) (n := 2) (rest := []) um_X11_198 rfl kv_X11_has (c_X11_has hG _ _ _) (by decide) rfl (Nat.le_of_ble_eq_true rfl) dX11_moveTree_116 rfl (fun r38 C37 => ?_)
                        refine r_join (P := fun (J : Cd → Option ((Int ⊕ Nat) × Cd)) => ∀  (C_133 : Cd), RunO l Γ k_X11_moveTree 12 (encX gI) (emC M0) 133 [(0, .ref a0), (3, wi r2), (4, wi r4), (5, wi x5_98), (6, wi v6_103)] [] C_133 (J C_133)) ?_ (fun J133 hJ133 => ?_)
                        · intro C_133
                          refine r_iinc (x := v6_103) (lo2 := [(6, wi (v6_103 + 1)), (0, .ref a0), (3, wi r2), (4, wi r4), (5, wi x5_98)]) dX11_moveTree_133 rfl (by decide) rfl ?_
                          refine r_goto (tgt := 103) dX11_moveTree_136 (by decide) ?_
                          refine r_lo [1, 2, 3, 4, 0] (lo2 := [(0, .ref a0), (3, wi r2), (4, wi r4), (5, wi x5_98), (6, wi (v6_103 + 1))]) rfl ?_
                          exact hL103 (v6_103 + 1) C_133
                        refine r_if_eq (tgt := 133) dX11_moveTree_119 (by decide) ?_ ?_
                        · exact hJ133  C37
                        · refine r_aload_n (x := a0) dX11_moveTree_122 rfl rfl ?_
                          refine r_iload (x := v6_103) dX11_moveTree_123 rfl ?_
                          refine r_iload (x := v6_103) dX11_moveTree_125 rfl ?_
                          refine r_iload (x := x5_98) dX11_moveTree_127 rfl ?_
                          refine r_iadd dX11_moveTree_129 ?_
                          refine r_cxV (c := 14) (h := gV) (k2 := k_X11_bringOver) (n := 2) (rest := []) um_X11_182 rfl kv_X11_bringOver hc_X11 (by decide) (c_X11_bringOver hG _ _ _ _) (by decide) rfl (Nat.le_of_ble_eq_true rfl) dX11_moveTree_130 rfl (fun r40 C39 => ?_)
                          show RunO l Γ k_X11_moveTree 12 (encX gI) (emC M0) 133 [(0, .ref a0), (3, wi r2), (4, wi r4), (5, wi x5_98), (6, wi v6_103)] [] C39 _
                          exact hJ133  C39
                    refine r_lo [4, 3, 2, 1, 0] (lo2 := [(0, .ref a0), (3, wi r2), (4, wi r4), (5, wi x5_98), (6, wi 0)]) rfl ?_
                    exact hJ103 0 C9
                  · refine r_lo [] (lo2 := []) rfl ?_
                    exact hJ83  C9
        · refine r_lo [] (lo2 := []) rfl ?_
          exact hJ20  C
def k_X11_wantedTitles : Kd := (yX11_wantedTitles, cX11_wantedTitles, 3, some .int, [])
theorem kv_X11_wantedTitles : KV k_X11_wantedTitles 0 := ⟨uw_mem 1543 (by decide +kernel) rfl, uw_mem 94 (by decide +kernel) rfl, uw_mem 1542 (by decide +kernel) rfl, uw_mem 91 (by decide +kernel) rfl, ⟨by decide +kernel, by decide +kernel⟩, by decide +kernel, by decide +kernel⟩
set_option maxHeartbeats 8000000 in
set_option maxRecDepth 100000 in
theorem c_X11_wantedTitles {l : Launch} {Γ : Cx} {M0 : Md} (hG : GK Γ l) (a0 : Nat) (C : Cd) : Ct l Γ k_X11_wantedTitles 3 encI (emC M0) [.ref a0] C (fX11_wantedTitles a0 C) := by
  refine ct_of (by decide +kernel) rfl (Nat.le_of_ble_eq_true rfl) ?_
  refine r_lo [0] (lo2 := [(0, .ref a0)]) rfl ?_
  unfold fX11_wantedTitles
  refine ro_iconst (v := 0) dX11_wantedTitles_0 rfl ?_
  refine r_istore_n (lo2 := [(1, wi 0), (0, .ref a0)]) dX11_wantedTitles_1 rfl (by decide) rfl ?_
  refine ro_iconst (v := 0) dX11_wantedTitles_2 rfl ?_
  refine r_istore_n (lo2 := [(2, wi 0), (1, wi 0), (0, .ref a0)]) dX11_wantedTitles_3 rfl (by decide) rfl ?_
  refine r_loop (P := fun (J : Int → Int → Cd → Option (Int × Cd)) => ∀ (v1_4 : Int) (v2_4 : Int) (C_4 : Cd), RunO l Γ k_X11_wantedTitles 3 encI (emC M0) 4 [(0, .ref a0), (1, wi v1_4), (2, wi v2_4)] [] C_4 (J v1_4 v2_4 C_4)) ?_ (fun L4 hL4 => ?_) (fun J4 hJ4 => ?_)
  · intros; exact ro_none
  · intro v1_4 v2_4 C_4
    refine r_iload_n (x := v2_4) dX11_wantedTitles_4 rfl rfl ?_
    refine r_aload_n (x := a0) dX11_wantedTitles_5 rfl rfl ?_
    refine r_cgetR (c := 14) (kk := 1) hc_X11 rfl (by decide) inU_X11 (by decide) uf_X11_20 rfl (by decide) dX11_wantedTitles_6 (fun z1 => ?_)
    refine r_dref (fun p2 hp2 => ?_)
    subst hp2
    refine r_calen (t := 102) rfl (by decide) dX11_wantedTitles_9 ?_
    refine r_icmp_ge (tgt := 45) dX11_wantedTitles_10 (by decide) ?_ ?_
    · refine r_iload_n (x := v1_4) dX11_wantedTitles_45 rfl rfl ?_
      exact r_iret rfl dX11_wantedTitles_46
    · refine r_aload_n (x := a0) dX11_wantedTitles_13 rfl rfl ?_
      refine r_cgetR (c := 14) (kk := 1) hc_X11 rfl (by decide) inU_X11 (by decide) uf_X11_20 rfl (by decide) dX11_wantedTitles_14 (fun z3 => ?_)
      refine r_iload_n (x := v2_4) dX11_wantedTitles_17 rfl rfl ?_
      refine r_dref (fun p4 hp4 => ?_)
      subst hp4
      refine r_caald (t := 102) rfl (by decide) (by decide) dX11_wantedTitles_18 (fun z5 => ?_)
      refine r_dref (fun p6 hp6 => ?_)
      subst hp6
      refine r_cgetRN (c := 12) (kk := 3) hc_X9 rfl (by decide) inU_X9 (by decide) hG uf_X11_102 rfl (by decide) dX11_wantedTitles_19 (fun z7 => ?_)
      refine r_join (P := fun (J : Int → Cd → Option (Int × Cd)) => ∀ (v1_39 : Int) (C_39 : Cd), RunO l Γ k_X11_wantedTitles 3 encI (emC M0) 39 [(0, .ref a0), (1, wi v1_39), (2, wi v2_4)] [] C_39 (J v1_39 C_39)) ?_ (fun J39 hJ39 => ?_)
      · intro v1_39 C_39
        refine r_iinc (x := v2_4) (lo2 := [(2, wi (v2_4 + 1)), (0, .ref a0), (1, wi v1_39)]) dX11_wantedTitles_39 rfl (by decide) rfl ?_
        refine r_goto (tgt := 4) dX11_wantedTitles_42 (by decide) ?_
        refine r_lo [1, 2, 0] (lo2 := [(0, .ref a0), (1, wi v1_39), (2, wi (v2_4 + 1))]) rfl ?_
        exact hL4 v1_39 (v2_4 + 1) C_39
      refine r_opt (fun hn => ?_) (fun p8 hp8 => ?_)
      · subst hn
        refine r_ifnonnullN dX11_wantedTitles_22 ?_
        refine r_aload_n (x := a0) dX11_wantedTitles_25 rfl rfl ?_
        refine r_iload_n (x := v2_4) dX11_wantedTitles_26 rfl rfl ?_
        refine r_ccVi (c := 14) (k2 := k_X11_linkingTo) (n := 1) (rest := []) um_X11_318 rfl kv_X11_linkingTo hc_X11 (by decide) (c_X11_linkingTo hG _ _ _) (by decide) rfl (Nat.le_of_ble_eq_true rfl) dX11_wantedTitles_27 rfl (fun r10 C9 => ?_)
        refine r_if_eq (tgt := 39) dX11_wantedTitles_30 (by decide) ?_ ?_
        · exact hJ39 v1_4 C9
        · refine r_iload_n (x := v1_4) dX11_wantedTitles_33 rfl rfl ?_
          refine ro_iconst (v := 1) dX11_wantedTitles_34 rfl ?_
          refine r_iload_n (x := v2_4) dX11_wantedTitles_35 rfl rfl ?_
          refine r_ishl dX11_wantedTitles_36 ?_
          refine r_ior dX11_wantedTitles_37 ?_
          refine r_nm (fun x1_38 => ?_)
          refine r_istore_n (lo2 := [(1, wi x1_38), (0, .ref a0), (2, wi v2_4)]) dX11_wantedTitles_38 rfl (by decide) rfl ?_
          refine r_lo [1, 0, 2] (lo2 := [(0, .ref a0), (1, wi x1_38), (2, wi v2_4)]) rfl ?_
          exact hJ39 x1_38 C9
      · subst hp8
        refine r_ifnonnullS (a := p8) (tgt := 39) dX11_wantedTitles_22 (by decide) ?_
        exact hJ39 v1_4 C_4
  refine r_lo [2, 1, 0] (lo2 := [(0, .ref a0), (1, wi 0), (2, wi 0)]) rfl ?_
  exact hJ4 0 0 C
