def k_X12_markFrom : Kd := (yX12_markFrom, cX12_markFrom, 5, some .int, [])
theorem kv_X12_markFrom : KV k_X12_markFrom 3 := ⟨uw_mem 2050 (by decide +kernel) rfl, uw_mem 170 (by decide +kernel) rfl, uw_mem 2049 (by decide +kernel) rfl, uw_mem 129 (by decide +kernel) rfl, ⟨by decide +kernel, by decide +kernel⟩, by decide +kernel, by decide +kernel⟩
set_option maxHeartbeats 4000000 in
set_option maxRecDepth 100000 in
theorem c_X12_markFrom {l : Launch} {Γ : Cx} {K0 : Cd} {mo : Nat} {ma : Nat → Nat} (h : mOn Γ mo ma) (a1 : Int) (a2 : Int) (a3 : Int) (M : Md) : Ct l Γ k_X12_markFrom 3 encI (emM K0) [.ref mo, wi a1, wi a2, wi a3] M (fX12_markFrom a1 a2 a3 M) := by
  refine ct_of (by decide +kernel) rfl (Nat.le_of_ble_eq_true rfl) ?_
  refine r_lo [0, 1, 2, 3] (lo2 := [(0, .ref mo), (1, wi a1), (2, wi a2), (3, wi a3)]) rfl ?_
  unfold fX12_markFrom
  refine r_iload_n (x := a2) dX12_markFrom_0 rfl rfl ?_
  refine r_istore (lo2 := [(4, wi a2), (0, .ref mo), (1, wi a1), (2, wi a2), (3, wi a3)]) dX12_markFrom_1 (by decide) rfl ?_
  refine r_loop (P := fun (J : Int → Md → Option (Int × Md)) => ∀ (v4_3 : Int) (M_3 : Md), RunO l Γ k_X12_markFrom 3 encI (emM K0) 3 [(0, .ref mo), (1, wi a1), (3, wi a3), (4, wi v4_3)] [] M_3 (J v4_3 M_3)) ?_ (fun L3 hL3 => ?_) (fun J3 hJ3 => ?_)
  · intros; exact ro_none
  · intro v4_3 M_3
    refine r_iload (x := v4_3) dX12_markFrom_3 rfl ?_
    refine r_iload_n (x := a3) dX12_markFrom_5 rfl rfl ?_
    refine r_join (P := fun (J : Md → Option (Int × Md)) => ∀ (M_78 : Md), RunO l Γ k_X12_markFrom 3 encI (emM K0) 78 [(4, wi v4_3)] [] M_78 (J M_78)) ?_ (fun J78 hJ78 => ?_)
    · intro M_78
      refine r_iload (x := v4_3) dX12_markFrom_78 rfl ?_
      exact r_iret rfl dX12_markFrom_80
    refine r_icmp_ge (tgt := 78) dX12_markFrom_6 (by decide) ?_ ?_
    · refine r_lo [3] (lo2 := [(4, wi v4_3)]) rfl ?_
      exact hJ78 _
    · refine r_aload_n (x := mo) dX12_markFrom_9 rfl rfl ?_
      refine r_iload_n (x := a1) dX12_markFrom_10 rfl rfl ?_
      refine r_iload (x := v4_3) dX12_markFrom_11 rfl ?_
      refine r_callVi (k2 := k_X12_codeAt) (n := 2) (rest := []) rfl kv_X12_codeAt (c_X12_codeAt h _ _ _) (by decide) um_257 rfl (Nat.le_of_ble_eq_true rfl) dX12_markFrom_13 (m_rec h) rfl (fun r2 M1 => ?_)
      refine r_sipush (v := 1000) dX12_markFrom_16 rfl ?_
      refine r_idiv dX12_markFrom_19 (by decide) ?_
      refine ro_iconst (v := 5) dX12_markFrom_20 rfl ?_
      refine r_icmp_eq (tgt := 78) dX12_markFrom_21 (by decide) ?_ ?_
      · refine r_lo [3] (lo2 := [(4, wi v4_3)]) rfl ?_
        exact hJ78 _
      · refine r_aload_n (x := mo) dX12_markFrom_24 rfl rfl ?_
        refine r_iload_n (x := a1) dX12_markFrom_25 rfl rfl ?_
        refine r_iload (x := v4_3) dX12_markFrom_26 rfl ?_
        refine r_callVi (k2 := k_X12_codeAt) (n := 2) (rest := []) rfl kv_X12_codeAt (c_X12_codeAt h _ _ _) (by decide) um_257 rfl (Nat.le_of_ble_eq_true rfl) dX12_markFrom_28 (m_rec h) rfl (fun r4 M3 => ?_)
        refine r_sipush (v := 1000) dX12_markFrom_31 rfl ?_
        refine r_idiv dX12_markFrom_34 (by decide) ?_
        refine r_bipush (v := 6) dX12_markFrom_35 rfl ?_
        refine r_icmp_eq (tgt := 78) dX12_markFrom_37 (by decide) ?_ ?_
        · refine r_lo [3] (lo2 := [(4, wi v4_3)]) rfl ?_
          exact hJ78 _
        · refine r_aload_n (x := mo) dX12_markFrom_40 rfl rfl ?_
          refine r_iload_n (x := a1) dX12_markFrom_41 rfl rfl ?_
          refine r_iload (x := v4_3) dX12_markFrom_42 rfl ?_
          refine r_callVi (k2 := k_X12_codeAt) (n := 2) (rest := []) rfl kv_X12_codeAt (c_X12_codeAt h _ _ _) (by decide) um_257 rfl (Nat.le_of_ble_eq_true rfl) dX12_markFrom_44 (m_rec h) rfl (fun r6 M5 => ?_)
          refine r_sipush (v := 1000) dX12_markFrom_47 rfl ?_
          refine r_idiv dX12_markFrom_50 (by decide) ?_
          refine r_callSi (k2 := k_X12_opens) (n := 1) (rest := []) rfl kv_X12_opens (c_X12_opens h _ _) (by decide) um_206 rfl (Nat.le_of_ble_eq_true rfl) dX12_markFrom_51 rfl (fun r8 M7 => ?_)
          refine r_join (P := fun (J : Int → Md → Option (Int × Md)) => ∀ (t0_73 : Int) (M_73 : Md), RunO l Γ k_X12_markFrom 3 encI (emM K0) 73 [(0, .ref mo), (1, wi a1), (3, wi a3)] [wi t0_73] M_73 (J t0_73 M_73)) ?_ (fun J73 hJ73 => ?_)
          · intro t0_73 M_73
            refine r_istore (lo2 := [(4, wi t0_73), (0, .ref mo), (1, wi a1), (3, wi a3)]) dX12_markFrom_73 (by decide) rfl ?_
            refine r_goto (tgt := 3) dX12_markFrom_75 (by decide) ?_
            refine r_lo [1, 2, 3, 0] (lo2 := [(0, .ref mo), (1, wi a1), (3, wi a3), (4, wi t0_73)]) rfl ?_
            exact hL3 _ _
          refine r_if_eq (tgt := 69) dX12_markFrom_54 (by decide) ?_ ?_
          · refine r_iload (x := v4_3) dX12_markFrom_69 rfl ?_
            refine ro_iconst (v := 1) dX12_markFrom_71 rfl ?_
            refine r_iadd dX12_markFrom_72 ?_
            refine r_lo [0, 1, 2] (lo2 := [(0, .ref mo), (1, wi a1), (3, wi a3)]) rfl ?_
            exact hJ73 _ _
          · refine r_aload_n (x := mo) dX12_markFrom_57 rfl rfl ?_
            refine r_iload_n (x := a1) dX12_markFrom_58 rfl rfl ?_
            refine r_iload (x := v4_3) dX12_markFrom_59 rfl ?_
            refine r_callVi (k2 := k_X12_closeOf) (n := 2) (rest := []) rfl kv_X12_closeOf (c_X12_closeOf h _ _ _) (by decide) um_260 rfl (Nat.le_of_ble_eq_true rfl) dX12_markFrom_61 (m_rec h) rfl (fun r10 M9 => ?_)
            refine ro_iconst (v := 1) dX12_markFrom_64 rfl ?_
            refine r_iadd dX12_markFrom_65 ?_
            refine r_goto (tgt := 73) dX12_markFrom_66 (by decide) ?_
            refine r_lo [0, 1, 2] (lo2 := [(0, .ref mo), (1, wi a1), (3, wi a3)]) rfl ?_
            exact hJ73 _ _
  refine r_lo [1, 2, 4, 0] (lo2 := [(0, .ref mo), (1, wi a1), (3, wi a3), (4, wi a2)]) rfl ?_
  exact hJ3 _ _
def k_X12_layArguments : Kd := (yX12_layArguments, cX12_layArguments, 9, none, [])
theorem kv_X12_layArguments : KV k_X12_layArguments 4 := ⟨uw_mem 2046 (by decide +kernel) rfl, uw_mem 170 (by decide +kernel) rfl, uw_mem 2045 (by decide +kernel) rfl, uw_mem 128 (by decide +kernel) rfl, ⟨by decide +kernel, by decide +kernel⟩, by decide +kernel, by decide +kernel⟩
set_option maxHeartbeats 4000000 in
set_option maxRecDepth 100000 in
theorem c_X12_layArguments {l : Launch} {Γ : Cx} {K0 : Cd} {mo : Nat} {ma : Nat → Nat} (h : mOn Γ mo ma) (a1 : Int) (a2 : Int) (a3 : Int) (a4 : Int) (M : Md) : Ct l Γ k_X12_layArguments 4 encV (emM K0) [.ref mo, wi a1, wi a2, wi a3, wi a4] M (fX12_layArguments a1 a2 a3 a4 M) := by
  refine ct_of (by decide +kernel) rfl (Nat.le_of_ble_eq_true rfl) ?_
  refine r_lo [0, 1, 2, 3, 4] (lo2 := [(0, .ref mo), (1, wi a1), (2, wi a2), (3, wi a3), (4, wi a4)]) rfl ?_
  unfold fX12_layArguments
  refine ro_iconst (v := 0) dX12_layArguments_0 rfl ?_
  refine r_istore (lo2 := [(5, wi 0), (0, .ref mo), (1, wi a1), (2, wi a2), (3, wi a3), (4, wi a4)]) dX12_layArguments_1 (by decide) rfl ?_
  refine r_iload_n (x := a3) dX12_layArguments_3 rfl rfl ?_
  refine r_istore (lo2 := [(6, wi a3), (5, wi 0), (0, .ref mo), (1, wi a1), (2, wi a2), (3, wi a3), (4, wi a4)]) dX12_layArguments_4 (by decide) rfl ?_
  refine r_loop (P := fun (J : Int → Int → Md → Option (Unit × Md)) => ∀ (v5_6 : Int) (v6_6 : Int) (M_6 : Md), RunO l Γ k_X12_layArguments 4 encV (emM K0) 6 [(0, .ref mo), (1, wi a1), (2, wi a2), (4, wi a4), (5, wi v5_6), (6, wi v6_6)] [] M_6 (J v5_6 v6_6 M_6)) ?_ (fun L6 hL6 => ?_) (fun J6 hJ6 => ?_)
  · intros; exact ro_none
  · intro v5_6 v6_6 M_6
    refine r_iload (x := v6_6) dX12_layArguments_6 rfl ?_
    refine r_iload (x := a4) dX12_layArguments_8 rfl ?_
    refine r_icmp_ge (tgt := 127) dX12_layArguments_10 (by decide) ?_ ?_
    · exact r_vret rfl dX12_layArguments_127
    · refine r_aload_n (x := mo) dX12_layArguments_13 rfl rfl ?_
      refine r_iload_n (x := a2) dX12_layArguments_14 rfl rfl ?_
      refine r_iload (x := v6_6) dX12_layArguments_15 rfl ?_
      refine r_callVi (k2 := k_X12_codeAt) (n := 2) (rest := []) rfl kv_X12_codeAt (c_X12_codeAt h _ _ _) (by decide) um_257 rfl (Nat.le_of_ble_eq_true rfl) dX12_layArguments_17 (m_rec h) rfl (fun r2 M1 => ?_)
      refine r_istore (lo2 := [(7, wi r2), (0, .ref mo), (1, wi a1), (2, wi a2), (4, wi a4), (5, wi v5_6), (6, wi v6_6)]) dX12_layArguments_20 (by decide) rfl ?_
      refine r_iload (x := v5_6) dX12_layArguments_22 rfl ?_
      refine r_iload (x := r2) dX12_layArguments_24 rfl ?_
      refine r_sipush (v := 1000) dX12_layArguments_26 rfl ?_
      refine r_idiv dX12_layArguments_29 (by decide) ?_
      refine ro_iconst (v := 5) dX12_layArguments_30 rfl ?_
      refine r_join (P := fun (J : Int → Md → Option (Unit × Md)) => ∀ (t0_39 : Int) (M_39 : Md), RunO l Γ k_X12_layArguments 4 encV (emM K0) 39 [(0, .ref mo), (1, wi a1), (2, wi a2), (4, wi a4), (6, wi v6_6), (7, wi r2)] [wi t0_39, wi v5_6] M_39 (J t0_39 M_39)) ?_ (fun J39 hJ39 => ?_)
      · intro t0_39 M_39
        refine r_iadd dX12_layArguments_39 ?_
        refine r_nm (fun x5_40 => ?_)
        refine r_istore (lo2 := [(5, wi x5_40), (0, .ref mo), (1, wi a1), (2, wi a2), (4, wi a4), (6, wi v6_6), (7, wi r2)]) dX12_layArguments_40 (by decide) rfl ?_
        refine r_iload (x := r2) dX12_layArguments_42 rfl ?_
        refine r_sipush (v := 1000) dX12_layArguments_44 rfl ?_
        refine r_idiv dX12_layArguments_47 (by decide) ?_
        refine ro_iconst (v := 5) dX12_layArguments_48 rfl ?_
        refine r_join (P := fun (J : Int → Md → Option (Unit × Md)) => ∀ (t0_63 : Int) (M_63 : Md), RunO l Γ k_X12_layArguments 4 encV (emM K0) 63 [(0, .ref mo), (1, wi a1), (2, wi a2), (4, wi a4), (5, wi x5_40), (6, wi v6_6)] [wi t0_63] M_63 (J t0_63 M_63)) ?_ (fun J63 hJ63 => ?_)
        · intro t0_63 M_63
          refine r_istore (lo2 := [(8, wi t0_63), (0, .ref mo), (1, wi a1), (2, wi a2), (4, wi a4), (5, wi x5_40), (6, wi v6_6)]) dX12_layArguments_63 (by decide) rfl ?_
          refine r_iload (x := t0_63) dX12_layArguments_65 rfl ?_
          refine r_bipush (v := 10) dX12_layArguments_67 rfl ?_
          refine r_join (P := fun (J : Md → Option (Unit × Md)) => ∀ (M_111 : Md), RunO l Γ k_X12_layArguments 4 encV (emM K0) 111 [(0, .ref mo), (1, wi a1), (2, wi a2), (4, wi a4), (5, wi x5_40), (6, wi v6_6)] [] M_111 (J M_111)) ?_ (fun J111 hJ111 => ?_)
          · intro M_111
            refine r_aload_n (x := mo) dX12_layArguments_111 rfl rfl ?_
            refine r_iload_n (x := a2) dX12_layArguments_112 rfl rfl ?_
            refine r_iload (x := v6_6) dX12_layArguments_113 rfl ?_
            refine ro_iconst (v := 1) dX12_layArguments_115 rfl ?_
            refine r_iadd dX12_layArguments_116 ?_
            refine r_iload (x := a4) dX12_layArguments_117 rfl ?_
            refine r_callVi (k2 := k_X12_markFrom) (n := 3) (rest := []) rfl kv_X12_markFrom (c_X12_markFrom h _ _ _ _) (by decide) um_266 rfl (Nat.le_of_ble_eq_true rfl) dX12_layArguments_119 (m_rec h) rfl (fun r4 M3 => ?_)
            refine r_istore (lo2 := [(6, wi r4), (0, .ref mo), (1, wi a1), (2, wi a2), (4, wi a4), (5, wi x5_40)]) dX12_layArguments_122 (by decide) rfl ?_
            refine r_goto (tgt := 6) dX12_layArguments_124 (by decide) ?_
            refine r_lo [1, 2, 3, 4, 5, 0] (lo2 := [(0, .ref mo), (1, wi a1), (2, wi a2), (4, wi a4), (5, wi x5_40), (6, wi r4)]) rfl ?_
            exact hL6 _ _ _
          refine r_icmp_ge (tgt := 111) dX12_layArguments_69 (by decide) ?_ ?_
          · refine r_lo [1, 2, 3, 4, 5, 6] (lo2 := [(0, .ref mo), (1, wi a1), (2, wi a2), (4, wi a4), (5, wi x5_40), (6, wi v6_6)]) rfl ?_
            exact hJ111 _
          · refine r_aload_n (x := mo) dX12_layArguments_72 rfl rfl ?_
            refine r_mgetA (kk := 45) h inU12 rfl (by decide) uf_116 rfl rfl dX12_layArguments_73 ?_
            refine r_bipush (v := 10) dX12_layArguments_76 rfl ?_
            refine r_iload_n (x := a1) dX12_layArguments_78 rfl rfl ?_
            refine r_imul dX12_layArguments_79 ?_
            refine r_iload (x := t0_63) dX12_layArguments_80 rfl ?_
            refine r_iadd dX12_layArguments_82 ?_
            refine r_iload (x := v6_6) dX12_layArguments_83 rfl ?_
            refine ro_iconst (v := 1) dX12_layArguments_85 rfl ?_
            refine r_iadd dX12_layArguments_86 ?_
            refine r_miast h (by decide) dX12_layArguments_87 (fun M5 => ?_)
            refine r_aload_n (x := mo) dX12_layArguments_88 rfl rfl ?_
            refine r_mgetA (kk := 46) h inU12 rfl (by decide) uf_119 rfl rfl dX12_layArguments_89 ?_
            refine r_bipush (v := 10) dX12_layArguments_92 rfl ?_
            refine r_iload_n (x := a1) dX12_layArguments_94 rfl rfl ?_
            refine r_imul dX12_layArguments_95 ?_
            refine r_iload (x := t0_63) dX12_layArguments_96 rfl ?_
            refine r_iadd dX12_layArguments_98 ?_
            refine r_aload_n (x := mo) dX12_layArguments_99 rfl rfl ?_
            refine r_iload_n (x := a2) dX12_layArguments_100 rfl rfl ?_
            refine r_iload (x := v6_6) dX12_layArguments_101 rfl ?_
            refine ro_iconst (v := 1) dX12_layArguments_103 rfl ?_
            refine r_iadd dX12_layArguments_104 ?_
            refine r_iload (x := a4) dX12_layArguments_105 rfl ?_
            refine r_callVi (k2 := k_X12_markFrom) (n := 3) (rest := [wi ((10 * a1) + t0_63), .ref (ma 46)]) rfl kv_X12_markFrom (c_X12_markFrom h _ _ _ _) (by decide) um_266 rfl (Nat.le_of_ble_eq_true rfl) dX12_layArguments_107 (m_rec h) rfl (fun r7 M6 => ?_)
            refine r_miast h (by decide) dX12_layArguments_110 (fun M8 => ?_)
            refine r_lo [1, 2, 3, 4, 5, 6] (lo2 := [(0, .ref mo), (1, wi a1), (2, wi a2), (4, wi a4), (5, wi x5_40), (6, wi v6_6)]) rfl ?_
            exact hJ111 _
        refine r_icmp_ne (tgt := 57) dX12_layArguments_49 (by decide) ?_ ?_
        · refine r_iload (x := r2) dX12_layArguments_57 rfl ?_
          refine r_sipush (v := 1000) dX12_layArguments_59 rfl ?_
          refine r_irem dX12_layArguments_62 (by decide) ?_
          refine r_lo [1, 2, 3, 4, 0, 5] (lo2 := [(0, .ref mo), (1, wi a1), (2, wi a2), (4, wi a4), (5, wi x5_40), (6, wi v6_6)]) rfl ?_
          exact hJ63 _ _
        · refine r_iload (x := x5_40) dX12_layArguments_52 rfl ?_
          refine r_goto (tgt := 63) dX12_layArguments_54 (by decide) ?_
          refine r_lo [1, 2, 3, 4, 0, 5] (lo2 := [(0, .ref mo), (1, wi a1), (2, wi a2), (4, wi a4), (5, wi x5_40), (6, wi v6_6)]) rfl ?_
          exact hJ63 _ _
      refine r_icmp_ne (tgt := 38) dX12_layArguments_31 (by decide) ?_ ?_
      · refine ro_iconst (v := 0) dX12_layArguments_38 rfl ?_
        refine r_lo [1, 2, 3, 4, 6, 0] (lo2 := [(0, .ref mo), (1, wi a1), (2, wi a2), (4, wi a4), (6, wi v6_6), (7, wi r2)]) rfl ?_
        exact hJ39 _ _
      · refine ro_iconst (v := 1) dX12_layArguments_34 rfl ?_
        refine r_goto (tgt := 39) dX12_layArguments_35 (by decide) ?_
        refine r_lo [1, 2, 3, 4, 6, 0] (lo2 := [(0, .ref mo), (1, wi a1), (2, wi a2), (4, wi a4), (6, wi v6_6), (7, wi r2)]) rfl ?_
        exact hJ39 _ _
  refine r_lo [2, 3, 4, 6, 1, 0] (lo2 := [(0, .ref mo), (1, wi a1), (2, wi a2), (4, wi a4), (5, wi 0), (6, wi a3)]) rfl ?_
  exact hJ6 _ _ _
def k_X12_expandCall : Kd := (yX12_expandCall, cX12_expandCall, 9, none, [])
theorem kv_X12_expandCall : KV k_X12_expandCall 4 := ⟨uw_mem 2030 (by decide +kernel) rfl, uw_mem 170 (by decide +kernel) rfl, uw_mem 2029 (by decide +kernel) rfl, uw_mem 124 (by decide +kernel) rfl, ⟨by decide +kernel, by decide +kernel⟩, by decide +kernel, by decide +kernel⟩
set_option maxHeartbeats 4000000 in
set_option maxRecDepth 100000 in
theorem c_X12_expandCall {l : Launch} {Γ : Cx} {K0 : Cd} {mo : Nat} {ma : Nat → Nat} (h : mOn Γ mo ma) (a1 : Int) (a2 : Int) (a3 : Int) (a4 : Int) (M : Md) : Ct l Γ k_X12_expandCall 6 encV (emM K0) [.ref mo, wi a1, wi a2, wi a3, wi a4] M (fX12_expandCall a1 a2 a3 a4 M) := by
  refine ct_of (by decide +kernel) rfl (Nat.le_of_ble_eq_true rfl) ?_
  refine r_lo [0, 1, 2, 3, 4] (lo2 := [(0, .ref mo), (1, wi a1), (2, wi a2), (3, wi a3), (4, wi a4)]) rfl ?_
  unfold fX12_expandCall
  refine r_aload_n (x := mo) dX12_expandCall_0 rfl rfl ?_
  refine r_iload_n (x := a1) dX12_expandCall_1 rfl rfl ?_
  refine r_iload_n (x := a2) dX12_expandCall_2 rfl rfl ?_
  refine r_callVi (k2 := k_X12_codeAt) (n := 2) (rest := []) rfl kv_X12_codeAt (c_X12_codeAt h _ _ _) (by decide) um_257 rfl (Nat.le_of_ble_eq_true rfl) dX12_expandCall_3 (m_rec h) rfl (fun r2 M1 => ?_)
  refine r_sipush (v := 1000) dX12_expandCall_6 rfl ?_
  refine r_irem dX12_expandCall_9 (by decide) ?_
  refine r_nm (fun x5_10 => ?_)
  refine r_istore (lo2 := [(5, wi x5_10), (0, .ref mo), (1, wi a1), (2, wi a2), (3, wi a3), (4, wi a4)]) dX12_expandCall_10 (by decide) rfl ?_
  refine r_aload_n (x := mo) dX12_expandCall_12 rfl rfl ?_
  refine r_mget (kk := 65) h inU12 rfl (by decide) uf_270 rfl rfl dX12_expandCall_13 ?_
  refine r_bipush (v := 40) dX12_expandCall_16 rfl ?_
  refine r_icmp_ne (tgt := 31) dX12_expandCall_18 (by decide) ?_ ?_
  · refine r_aload_n (x := mo) dX12_expandCall_31 rfl rfl ?_
    refine r_dup dX12_expandCall_32 rfl ?_
    refine r_mget (kk := 65) h inU12 rfl (by decide) uf_270 rfl rfl dX12_expandCall_33 ?_
    refine ro_iconst (v := 1) dX12_expandCall_36 rfl ?_
    refine r_iadd dX12_expandCall_37 ?_
    refine r_mput (kk := 65) h inU12 rfl (by decide) uf_270 rfl rfl rfl rfl dX12_expandCall_38 (fun M3 => ?_)
    refine r_aload_n (x := mo) dX12_expandCall_41 rfl rfl ?_
    refine r_iload (x := x5_10) dX12_expandCall_42 rfl ?_
    refine r_callVi (k2 := k_X12_wayOf) (n := 1) (rest := []) rfl kv_X12_wayOf (c_X12_wayOf h _ _) (by decide) um_273 rfl (Nat.le_of_ble_eq_true rfl) dX12_expandCall_44 (m_rec h) rfl (fun r5 M4 => ?_)
    refine r_istore (lo2 := [(6, wi r5), (5, wi x5_10), (0, .ref mo), (1, wi a1), (2, wi a2), (3, wi a3), (4, wi a4)]) dX12_expandCall_47 (by decide) rfl ?_
    refine r_iload (x := r5) dX12_expandCall_49 rfl ?_
    refine ro_iconst (v := (-1)) dX12_expandCall_51 rfl ?_
    refine r_join (P := fun (J : Md → Option (Unit × Md)) => ∀ (M_183 : Md), RunO l Γ k_X12_expandCall 6 encV (emM K0) 183 [] [] M_183 (J M_183)) ?_ (fun J183 hJ183 => ?_)
    · intro M_183
      exact r_vret rfl dX12_expandCall_183
    refine r_icmp_ne (tgt := 83) dX12_expandCall_52 (by decide) ?_ ?_
    · refine r_aload_n (x := mo) dX12_expandCall_83 rfl rfl ?_
      refine r_iload_n (x := a1) dX12_expandCall_84 rfl rfl ?_
      refine r_iload (x := r5) dX12_expandCall_85 rfl ?_
      refine r_callVi (k2 := k_X12_isCalledFrom) (n := 2) (rest := []) rfl kv_X12_isCalledFrom (c_X12_isCalledFrom h _ _ _) (by decide) um_279 rfl (Nat.le_of_ble_eq_true rfl) dX12_expandCall_87 (m_rec h) rfl (fun r7 M6 => ?_)
      refine r_if_eq (tgt := 105) dX12_expandCall_90 (by decide) ?_ ?_
      · refine r_aload_n (x := mo) dX12_expandCall_105 rfl rfl ?_
        refine r_mgetA (kk := 43) h inU12 rfl (by decide) uf_110 rfl rfl dX12_expandCall_106 ?_
        refine r_iload_n (x := a1) dX12_expandCall_109 rfl rfl ?_
        refine r_miald h (by decide) dX12_expandCall_110 ?_
        refine r_bipush (v := 6) dX12_expandCall_111 rfl ?_
        refine r_icmp_ne (tgt := 128) dX12_expandCall_113 (by decide) ?_ ?_
        · refine r_aload_n (x := mo) dX12_expandCall_128 rfl rfl ?_
          refine r_iload (x := r5) dX12_expandCall_129 rfl ?_
          refine r_callVi (k2 := k_X12_seenAt) (n := 1) (rest := []) rfl kv_X12_seenAt (c_X12_seenAt h _ _) (by decide) um_242 rfl (Nat.le_of_ble_eq_true rfl) dX12_expandCall_131 (m_rec h) rfl (fun r9 M8 => ?_)
          refine r_istore (lo2 := [(7, wi r9), (6, wi r5), (5, wi x5_10), (0, .ref mo), (1, wi a1), (2, wi a2), (3, wi a3), (4, wi a4)]) dX12_expandCall_134 (by decide) rfl ?_
          refine r_aload_n (x := mo) dX12_expandCall_136 rfl rfl ?_
          refine r_iload (x := r9) dX12_expandCall_137 rfl ?_
          refine r_iload (x := r5) dX12_expandCall_139 rfl ?_
          refine r_aload_n (x := mo) dX12_expandCall_141 rfl rfl ?_
          refine r_mgetA (kk := 43) h inU12 rfl (by decide) uf_110 rfl rfl dX12_expandCall_142 ?_
          refine r_iload_n (x := a1) dX12_expandCall_145 rfl rfl ?_
          refine r_miald h (by decide) dX12_expandCall_146 ?_
          refine ro_iconst (v := 1) dX12_expandCall_147 rfl ?_
          refine r_iadd dX12_expandCall_148 ?_
          refine r_iload_n (x := a1) dX12_expandCall_149 rfl rfl ?_
          refine r_callVi (k2 := k_X12_newFrame) (n := 4) (rest := []) rfl kv_X12_newFrame (c_X12_newFrame h _ _ _ _ _) (by decide) um_282 rfl (Nat.le_of_ble_eq_true rfl) dX12_expandCall_150 (m_rec h) rfl (fun r11 M10 => ?_)
          refine r_istore (lo2 := [(8, wi r11), (7, wi r9), (6, wi r5), (5, wi x5_10), (0, .ref mo), (1, wi a1), (2, wi a2), (3, wi a3), (4, wi a4)]) dX12_expandCall_153 (by decide) rfl ?_
          refine r_aload_n (x := mo) dX12_expandCall_155 rfl rfl ?_
          refine r_iload (x := r11) dX12_expandCall_156 rfl ?_
          refine r_iload_n (x := a1) dX12_expandCall_158 rfl rfl ?_
          refine r_iload_n (x := a2) dX12_expandCall_159 rfl rfl ?_
          refine ro_iconst (v := 1) dX12_expandCall_160 rfl ?_
          refine r_iadd dX12_expandCall_161 ?_
          refine r_iload_n (x := a3) dX12_expandCall_162 rfl rfl ?_
          refine r_callVv (k2 := k_X12_layArguments) (n := 4) (rest := []) rfl kv_X12_layArguments (c_X12_layArguments h _ _ _ _ _) (by decide) um_286 rfl (Nat.le_of_ble_eq_true rfl) dX12_expandCall_163 (m_rec h) rfl (fun r13 M12 => ?_)
          refine r_aload_n (x := mo) dX12_expandCall_166 rfl rfl ?_
          refine ro_iconst (v := 0) dX12_expandCall_167 rfl ?_
          refine r_iload (x := r11) dX12_expandCall_168 rfl ?_
          refine ro_iconst (v := 0) dX12_expandCall_170 rfl ?_
          refine r_aload_n (x := mo) dX12_expandCall_171 rfl rfl ?_
          refine r_mgetA (kk := 10) h inU12 rfl (by decide) uf_25 rfl rfl dX12_expandCall_172 ?_
          refine r_iload (x := r9) dX12_expandCall_175 rfl ?_
          refine r_miald h (by decide) dX12_expandCall_177 ?_
          refine r_iload (x := a4) dX12_expandCall_178 rfl ?_
          refine r_callVv (k2 := k_X12_task) (n := 5) (rest := []) rfl kv_X12_task (c_X12_task h _ _ _ _ _ _) (by decide) um_290 rfl (Nat.le_of_ble_eq_true rfl) dX12_expandCall_180 (m_rec h) rfl (fun r15 M14 => ?_)
          refine r_lo [] (lo2 := []) rfl ?_
          exact hJ183 _
        · refine r_aload_n (x := mo) dX12_expandCall_116 rfl rfl ?_
          refine r_iload (x := a4) dX12_expandCall_117 rfl ?_
          refine r_sipush (v := 9002) dX12_expandCall_119 rfl ?_
          refine r_callVv (k2 := k_X12_append) (n := 2) (rest := []) rfl kv_X12_append (c_X12_append h _ _ _) (by decide) um_251 rfl (Nat.le_of_ble_eq_true rfl) dX12_expandCall_122 (m_rec h) rfl (fun r17 M16 => ?_)
          refine r_goto (tgt := 183) dX12_expandCall_125 (by decide) ?_
          refine r_lo [] (lo2 := []) rfl ?_
          exact hJ183 _
      · refine r_aload_n (x := mo) dX12_expandCall_93 rfl rfl ?_
        refine r_iload (x := a4) dX12_expandCall_94 rfl ?_
        refine r_sipush (v := 9001) dX12_expandCall_96 rfl ?_
        refine r_callVv (k2 := k_X12_append) (n := 2) (rest := []) rfl kv_X12_append (c_X12_append h _ _ _) (by decide) um_251 rfl (Nat.le_of_ble_eq_true rfl) dX12_expandCall_99 (m_rec h) rfl (fun r19 M18 => ?_)
        refine r_goto (tgt := 183) dX12_expandCall_102 (by decide) ?_
        refine r_lo [] (lo2 := []) rfl ?_
        exact hJ183 _
    · refine r_aload_n (x := mo) dX12_expandCall_55 rfl rfl ?_
      refine r_iload (x := a4) dX12_expandCall_56 rfl ?_
      refine r_sipush (v := 2000) dX12_expandCall_58 rfl ?_
      refine r_iload (x := x5_10) dX12_expandCall_61 rfl ?_
      refine r_iadd dX12_expandCall_63 ?_
      refine r_callVv (k2 := k_X12_append) (n := 2) (rest := []) rfl kv_X12_append (c_X12_append h _ _ _) (by decide) um_251 rfl (Nat.le_of_ble_eq_true rfl) dX12_expandCall_64 (m_rec h) rfl (fun r21 M20 => ?_)
      refine r_aload_n (x := mo) dX12_expandCall_67 rfl rfl ?_
      refine r_dup dX12_expandCall_68 rfl ?_
      refine r_mget (kk := 66) h inU12 rfl (by decide) uf_276 rfl rfl dX12_expandCall_69 ?_
      refine ro_iconst (v := 1) dX12_expandCall_72 rfl ?_
      refine r_iload (x := x5_10) dX12_expandCall_73 rfl ?_
      refine r_ishl dX12_expandCall_75 ?_
      refine r_ior dX12_expandCall_76 ?_
      refine r_mput (kk := 66) h inU12 rfl (by decide) uf_276 rfl rfl rfl rfl dX12_expandCall_77 (fun M22 => ?_)
      refine r_goto (tgt := 183) dX12_expandCall_80 (by decide) ?_
      refine r_lo [] (lo2 := []) rfl ?_
      exact hJ183 _
  · refine r_aload_n (x := mo) dX12_expandCall_21 rfl rfl ?_
    refine r_iload (x := a4) dX12_expandCall_22 rfl ?_
    refine r_sipush (v := 9003) dX12_expandCall_24 rfl ?_
    refine r_callVv (k2 := k_X12_append) (n := 2) (rest := []) rfl kv_X12_append (c_X12_append h _ _ _) (by decide) um_251 rfl (Nat.le_of_ble_eq_true rfl) dX12_expandCall_27 (m_rec h) rfl (fun r24 M23 => ?_)
    exact r_vret rfl dX12_expandCall_30
def k_X12_expandParam : Kd := (yX12_expandParam, cX12_expandParam, 6, none, [])
theorem kv_X12_expandParam : KV k_X12_expandParam 4 := ⟨uw_mem 2054 (by decide +kernel) rfl, uw_mem 170 (by decide +kernel) rfl, uw_mem 2053 (by decide +kernel) rfl, uw_mem 130 (by decide +kernel) rfl, ⟨by decide +kernel, by decide +kernel⟩, by decide +kernel, by decide +kernel⟩
set_option maxHeartbeats 4000000 in
set_option maxRecDepth 100000 in
theorem c_X12_expandParam {l : Launch} {Γ : Cx} {K0 : Cd} {mo : Nat} {ma : Nat → Nat} (h : mOn Γ mo ma) (a1 : Int) (a2 : Int) (a3 : Int) (a4 : Int) (M : Md) : Ct l Γ k_X12_expandParam 3 encV (emM K0) [.ref mo, wi a1, wi a2, wi a3, wi a4] M (fX12_expandParam a1 a2 a3 a4 M) := by
  refine ct_of (by decide +kernel) rfl (Nat.le_of_ble_eq_true rfl) ?_
  refine r_lo [0, 1, 2, 3, 4] (lo2 := [(0, .ref mo), (1, wi a1), (2, wi a2), (3, wi a3), (4, wi a4)]) rfl ?_
  unfold fX12_expandParam
  refine r_bipush (v := 10) dX12_expandParam_0 rfl ?_
  refine r_iload_n (x := a1) dX12_expandParam_2 rfl rfl ?_
  refine r_imul dX12_expandParam_3 ?_
  refine r_aload_n (x := mo) dX12_expandParam_4 rfl rfl ?_
  refine r_iload_n (x := a1) dX12_expandParam_5 rfl rfl ?_
  refine r_iload_n (x := a2) dX12_expandParam_6 rfl rfl ?_
  refine r_callVi (k2 := k_X12_codeAt) (n := 2) (rest := [wi (10 * a1)]) rfl kv_X12_codeAt (c_X12_codeAt h _ _ _) (by decide) um_257 rfl (Nat.le_of_ble_eq_true rfl) dX12_expandParam_7 (m_rec h) rfl (fun r2 M1 => ?_)
  refine r_sipush (v := 1000) dX12_expandParam_10 rfl ?_
  refine r_irem dX12_expandParam_13 (by decide) ?_
  refine r_iadd dX12_expandParam_14 ?_
  refine r_nm (fun x5_15 => ?_)
  refine r_istore (lo2 := [(5, wi x5_15), (0, .ref mo), (1, wi a1), (2, wi a2), (3, wi a3), (4, wi a4)]) dX12_expandParam_15 (by decide) rfl ?_
  refine r_aload_n (x := mo) dX12_expandParam_17 rfl rfl ?_
  refine r_mgetA (kk := 45) h inU12 rfl (by decide) uf_116 rfl rfl dX12_expandParam_18 ?_
  refine r_iload (x := x5_15) dX12_expandParam_21 rfl ?_
  refine r_miald h (by decide) dX12_expandParam_23 ?_
  refine ro_iconst (v := (-1)) dX12_expandParam_24 rfl ?_
  refine r_join (P := fun (J : Md → Option (Unit × Md)) => ∀ (M_129 : Md), RunO l Γ k_X12_expandParam 3 encV (emM K0) 129 [] [] M_129 (J M_129)) ?_ (fun J129 hJ129 => ?_)
  · intro M_129
    exact r_vret rfl dX12_expandParam_129
  refine r_icmp_ne (tgt := 43) dX12_expandParam_25 (by decide) ?_ ?_
  · refine r_aload_n (x := mo) dX12_expandParam_43 rfl rfl ?_
    refine r_mgetA (kk := 47) h inU12 rfl (by decide) uf_122 rfl rfl dX12_expandParam_44 ?_
    refine r_iload (x := x5_15) dX12_expandParam_47 rfl ?_
    refine r_miald h (by decide) dX12_expandParam_49 ?_
    refine ro_iconst (v := (-1)) dX12_expandParam_50 rfl ?_
    refine r_icmp_eq (tgt := 70) dX12_expandParam_51 (by decide) ?_ ?_
    · refine r_aload_n (x := mo) dX12_expandParam_70 rfl rfl ?_
      refine r_mgetA (kk := 47) h inU12 rfl (by decide) uf_122 rfl rfl dX12_expandParam_71 ?_
      refine r_iload (x := x5_15) dX12_expandParam_74 rfl ?_
      refine r_aload_n (x := mo) dX12_expandParam_76 rfl rfl ?_
      refine r_callVi (k2 := k_X12_newRow) (n := 0) (rest := [wi x5_15, .ref (ma 47)]) rfl kv_X12_newRow (c_X12_newRow h _) (by decide) um_297 rfl (Nat.le_of_ble_eq_true rfl) dX12_expandParam_77 (m_rec h) rfl (fun r4 M3 => ?_)
      refine r_miast h (by decide) dX12_expandParam_80 (fun M5 => ?_)
      refine r_aload_n (x := mo) dX12_expandParam_81 rfl rfl ?_
      refine ro_iconst (v := 1) dX12_expandParam_82 rfl ?_
      refine r_aload_n (x := mo) dX12_expandParam_83 rfl rfl ?_
      refine r_mgetA (kk := 47) h inU12 rfl (by decide) uf_122 rfl rfl dX12_expandParam_84 ?_
      refine r_iload (x := x5_15) dX12_expandParam_87 rfl ?_
      refine r_miald h (by decide) dX12_expandParam_89 ?_
      refine ro_iconst (v := 0) dX12_expandParam_90 rfl ?_
      refine ro_iconst (v := 0) dX12_expandParam_91 rfl ?_
      refine r_iload (x := a4) dX12_expandParam_92 rfl ?_
      refine r_callVv (k2 := k_X12_task) (n := 5) (rest := []) rfl kv_X12_task (c_X12_task h _ _ _ _ _ _) (by decide) um_290 rfl (Nat.le_of_ble_eq_true rfl) dX12_expandParam_94 (m_rec h) rfl (fun r7 M6 => ?_)
      refine r_aload_n (x := mo) dX12_expandParam_97 rfl rfl ?_
      refine ro_iconst (v := 0) dX12_expandParam_98 rfl ?_
      refine r_aload_n (x := mo) dX12_expandParam_99 rfl rfl ?_
      refine r_mgetA (kk := 44) h inU12 rfl (by decide) uf_113 rfl rfl dX12_expandParam_100 ?_
      refine r_iload_n (x := a1) dX12_expandParam_103 rfl rfl ?_
      refine r_miald h (by decide) dX12_expandParam_104 ?_
      refine r_aload_n (x := mo) dX12_expandParam_105 rfl rfl ?_
      refine r_mgetA (kk := 45) h inU12 rfl (by decide) uf_116 rfl rfl dX12_expandParam_106 ?_
      refine r_iload (x := x5_15) dX12_expandParam_109 rfl ?_
      refine r_miald h (by decide) dX12_expandParam_111 ?_
      refine r_aload_n (x := mo) dX12_expandParam_112 rfl rfl ?_
      refine r_mgetA (kk := 46) h inU12 rfl (by decide) uf_119 rfl rfl dX12_expandParam_113 ?_
      refine r_iload (x := x5_15) dX12_expandParam_116 rfl ?_
      refine r_miald h (by decide) dX12_expandParam_118 ?_
      refine r_aload_n (x := mo) dX12_expandParam_119 rfl rfl ?_
      refine r_mgetA (kk := 47) h inU12 rfl (by decide) uf_122 rfl rfl dX12_expandParam_120 ?_
      refine r_iload (x := x5_15) dX12_expandParam_123 rfl ?_
      refine r_miald h (by decide) dX12_expandParam_125 ?_
      refine r_callVv (k2 := k_X12_task) (n := 5) (rest := []) rfl kv_X12_task (c_X12_task h _ _ _ _ _ _) (by decide) um_290 rfl (Nat.le_of_ble_eq_true rfl) dX12_expandParam_126 (m_rec h) rfl (fun r9 M8 => ?_)
      refine r_lo [] (lo2 := []) rfl ?_
      exact hJ129 _
    · refine r_aload_n (x := mo) dX12_expandParam_54 rfl rfl ?_
      refine r_iload (x := a4) dX12_expandParam_55 rfl ?_
      refine r_aload_n (x := mo) dX12_expandParam_57 rfl rfl ?_
      refine r_mgetA (kk := 47) h inU12 rfl (by decide) uf_122 rfl rfl dX12_expandParam_58 ?_
      refine r_iload (x := x5_15) dX12_expandParam_61 rfl ?_
      refine r_miald h (by decide) dX12_expandParam_63 ?_
      refine r_callVv (k2 := k_X12_appendRow) (n := 2) (rest := []) rfl kv_X12_appendRow (c_X12_appendRow h _ _ _) (by decide) um_294 rfl (Nat.le_of_ble_eq_true rfl) dX12_expandParam_64 (m_rec h) rfl (fun r11 M10 => ?_)
      refine r_goto (tgt := 129) dX12_expandParam_67 (by decide) ?_
      refine r_lo [] (lo2 := []) rfl ?_
      exact hJ129 _
  · refine r_aload_n (x := mo) dX12_expandParam_28 rfl rfl ?_
    refine ro_iconst (v := 0) dX12_expandParam_29 rfl ?_
    refine r_iload_n (x := a1) dX12_expandParam_30 rfl rfl ?_
    refine r_iload_n (x := a2) dX12_expandParam_31 rfl rfl ?_
    refine ro_iconst (v := 1) dX12_expandParam_32 rfl ?_
    refine r_iadd dX12_expandParam_33 ?_
    refine r_iload_n (x := a3) dX12_expandParam_34 rfl rfl ?_
    refine r_iload (x := a4) dX12_expandParam_35 rfl ?_
    refine r_callVv (k2 := k_X12_task) (n := 5) (rest := []) rfl kv_X12_task (c_X12_task h _ _ _ _ _ _) (by decide) um_290 rfl (Nat.le_of_ble_eq_true rfl) dX12_expandParam_37 (m_rec h) rfl (fun r13 M12 => ?_)
    refine r_goto (tgt := 129) dX12_expandParam_40 (by decide) ?_
    refine r_lo [] (lo2 := []) rfl ?_
    exact hJ129 _
def k_X12_expandFunction : Kd := (yX12_expandFunction, cX12_expandFunction, 8, none, [])
theorem kv_X12_expandFunction : KV k_X12_expandFunction 4 := ⟨uw_mem 2058 (by decide +kernel) rfl, uw_mem 170 (by decide +kernel) rfl, uw_mem 2057 (by decide +kernel) rfl, uw_mem 131 (by decide +kernel) rfl, ⟨by decide +kernel, by decide +kernel⟩, by decide +kernel, by decide +kernel⟩
set_option maxHeartbeats 4000000 in
set_option maxRecDepth 100000 in
theorem c_X12_expandFunction {l : Launch} {Γ : Cx} {K0 : Cd} {mo : Nat} {ma : Nat → Nat} (h : mOn Γ mo ma) (a1 : Int) (a2 : Int) (a3 : Int) (a4 : Int) (M : Md) : Ct l Γ k_X12_expandFunction 4 encV (emM K0) [.ref mo, wi a1, wi a2, wi a3, wi a4] M (fX12_expandFunction a1 a2 a3 a4 M) := by
  refine ct_of (by decide +kernel) rfl (Nat.le_of_ble_eq_true rfl) ?_
  refine r_lo [0, 1, 2, 3, 4] (lo2 := [(0, .ref mo), (1, wi a1), (2, wi a2), (3, wi a3), (4, wi a4)]) rfl ?_
  unfold fX12_expandFunction
  refine r_aload_n (x := mo) dX12_expandFunction_0 rfl rfl ?_
  refine r_mget (kk := 51) h inU12 rfl (by decide) uf_301 rfl rfl dX12_expandFunction_1 ?_
  refine r_nm (fun x5_4 => ?_)
  refine r_istore (lo2 := [(5, wi x5_4), (0, .ref mo), (1, wi a1), (2, wi a2), (3, wi a3), (4, wi a4)]) dX12_expandFunction_4 (by decide) rfl ?_
  refine r_aload_n (x := mo) dX12_expandFunction_6 rfl rfl ?_
  refine r_mgetA (kk := 52) h inU12 rfl (by decide) uf_132 rfl rfl dX12_expandFunction_7 ?_
  refine r_iload (x := x5_4) dX12_expandFunction_10 rfl ?_
  refine r_aload_n (x := mo) dX12_expandFunction_12 rfl rfl ?_
  refine r_iload_n (x := a1) dX12_expandFunction_13 rfl rfl ?_
  refine r_iload_n (x := a2) dX12_expandFunction_14 rfl rfl ?_
  refine r_callVi (k2 := k_X12_codeAt) (n := 2) (rest := [wi x5_4, .ref (ma 52)]) rfl kv_X12_codeAt (c_X12_codeAt h _ _ _) (by decide) um_257 rfl (Nat.le_of_ble_eq_true rfl) dX12_expandFunction_15 (m_rec h) rfl (fun r2 M1 => ?_)
  refine r_sipush (v := 1000) dX12_expandFunction_18 rfl ?_
  refine r_irem dX12_expandFunction_21 (by decide) ?_
  refine r_miast h (by decide) dX12_expandFunction_22 (fun M3 => ?_)
  refine r_aload_n (x := mo) dX12_expandFunction_23 rfl rfl ?_
  refine r_mgetA (kk := 53) h inU12 rfl (by decide) uf_135 rfl rfl dX12_expandFunction_24 ?_
  refine r_iload (x := x5_4) dX12_expandFunction_27 rfl ?_
  refine r_iload_n (x := a1) dX12_expandFunction_29 rfl rfl ?_
  refine r_miast h (by decide) dX12_expandFunction_30 (fun M4 => ?_)
  refine r_aload_n (x := mo) dX12_expandFunction_31 rfl rfl ?_
  refine r_mgetA (kk := 54) h inU12 rfl (by decide) uf_138 rfl rfl dX12_expandFunction_32 ?_
  refine r_iload (x := x5_4) dX12_expandFunction_35 rfl ?_
  refine r_iload (x := a4) dX12_expandFunction_37 rfl ?_
  refine r_miast h (by decide) dX12_expandFunction_39 (fun M5 => ?_)
  refine r_aload_n (x := mo) dX12_expandFunction_40 rfl rfl ?_
  refine r_mgetA (kk := 55) h inU12 rfl (by decide) uf_141 rfl rfl dX12_expandFunction_41 ?_
  refine r_iload (x := x5_4) dX12_expandFunction_44 rfl ?_
  refine ro_iconst (v := 0) dX12_expandFunction_46 rfl ?_
  refine r_miast h (by decide) dX12_expandFunction_47 (fun M6 => ?_)
  refine r_iload_n (x := a2) dX12_expandFunction_48 rfl rfl ?_
  refine ro_iconst (v := 1) dX12_expandFunction_49 rfl ?_
  refine r_iadd dX12_expandFunction_50 ?_
  refine r_nm (fun x6_51 => ?_)
  refine r_istore (lo2 := [(6, wi x6_51), (5, wi x5_4), (0, .ref mo), (1, wi a1), (2, wi a2), (3, wi a3), (4, wi a4)]) dX12_expandFunction_51 (by decide) rfl ?_
  refine r_loop (P := fun (J : Int → Md → Option (Unit × Md)) => ∀ (v6_53 : Int) (M_53 : Md), RunO l Γ k_X12_expandFunction 4 encV (emM K0) 53 [(0, .ref mo), (1, wi a1), (3, wi a3), (4, wi a4), (5, wi x5_4), (6, wi v6_53)] [] M_53 (J v6_53 M_53)) ?_ (fun L53 hL53 => ?_) (fun J53 hJ53 => ?_)
  · intros; exact ro_none
  · intro v6_53 M_53
    refine r_iload (x := v6_53) dX12_expandFunction_53 rfl ?_
    refine r_iload_n (x := a3) dX12_expandFunction_55 rfl rfl ?_
    refine r_icmp_ge (tgt := 136) dX12_expandFunction_56 (by decide) ?_ ?_
    · refine r_aload_n (x := mo) dX12_expandFunction_136 rfl rfl ?_
      refine r_dup dX12_expandFunction_137 rfl ?_
      refine r_mget (kk := 51) h inU12 rfl (by decide) uf_301 rfl rfl dX12_expandFunction_138 ?_
      refine ro_iconst (v := 1) dX12_expandFunction_141 rfl ?_
      refine r_iadd dX12_expandFunction_142 ?_
      refine r_mput (kk := 51) h inU12 rfl (by decide) uf_301 rfl rfl rfl rfl dX12_expandFunction_143 (fun M7 => ?_)
      refine r_aload_n (x := mo) dX12_expandFunction_146 rfl rfl ?_
      refine ro_iconst (v := 2) dX12_expandFunction_147 rfl ?_
      refine r_iload (x := x5_4) dX12_expandFunction_148 rfl ?_
      refine ro_iconst (v := 0) dX12_expandFunction_150 rfl ?_
      refine ro_iconst (v := 0) dX12_expandFunction_151 rfl ?_
      refine r_iload (x := a4) dX12_expandFunction_152 rfl ?_
      refine r_callVv (k2 := k_X12_task) (n := 5) (rest := []) rfl kv_X12_task (c_X12_task h _ _ _ _ _ _) (by decide) um_290 rfl (Nat.le_of_ble_eq_true rfl) dX12_expandFunction_154 (m_rec h) rfl (fun r9 M8 => ?_)
      exact r_vret rfl dX12_expandFunction_157
    · refine r_bipush (v := 32) dX12_expandFunction_59 rfl ?_
      refine r_iload (x := x5_4) dX12_expandFunction_61 rfl ?_
      refine r_imul dX12_expandFunction_63 ?_
      refine r_aload_n (x := mo) dX12_expandFunction_64 rfl rfl ?_
      refine r_mgetA (kk := 55) h inU12 rfl (by decide) uf_141 rfl rfl dX12_expandFunction_65 ?_
      refine r_iload (x := x5_4) dX12_expandFunction_68 rfl ?_
      refine r_miald h (by decide) dX12_expandFunction_70 ?_
      refine r_iadd dX12_expandFunction_71 ?_
      refine r_nm (fun x7_72 => ?_)
      refine r_istore (lo2 := [(7, wi x7_72), (0, .ref mo), (1, wi a1), (3, wi a3), (4, wi a4), (5, wi x5_4), (6, wi v6_53)]) dX12_expandFunction_72 (by decide) rfl ?_
      refine r_aload_n (x := mo) dX12_expandFunction_74 rfl rfl ?_
      refine r_mgetA (kk := 56) h inU12 rfl (by decide) uf_144 rfl rfl dX12_expandFunction_75 ?_
      refine r_iload (x := x7_72) dX12_expandFunction_78 rfl ?_
      refine r_iload (x := v6_53) dX12_expandFunction_80 rfl ?_
      refine ro_iconst (v := 1) dX12_expandFunction_82 rfl ?_
      refine r_iadd dX12_expandFunction_83 ?_
      refine r_miast h (by decide) dX12_expandFunction_84 (fun M10 => ?_)
      refine r_aload_n (x := mo) dX12_expandFunction_85 rfl rfl ?_
      refine r_mgetA (kk := 57) h inU12 rfl (by decide) uf_147 rfl rfl dX12_expandFunction_86 ?_
      refine r_iload (x := x7_72) dX12_expandFunction_89 rfl ?_
      refine r_aload_n (x := mo) dX12_expandFunction_91 rfl rfl ?_
      refine r_iload_n (x := a1) dX12_expandFunction_92 rfl rfl ?_
      refine r_iload (x := v6_53) dX12_expandFunction_93 rfl ?_
      refine ro_iconst (v := 1) dX12_expandFunction_95 rfl ?_
      refine r_iadd dX12_expandFunction_96 ?_
      refine r_iload_n (x := a3) dX12_expandFunction_97 rfl rfl ?_
      refine r_callVi (k2 := k_X12_markFrom) (n := 3) (rest := [wi x7_72, .ref (ma 57)]) rfl kv_X12_markFrom (c_X12_markFrom h _ _ _ _) (by decide) um_266 rfl (Nat.le_of_ble_eq_true rfl) dX12_expandFunction_98 (m_rec h) rfl (fun r12 M11 => ?_)
      refine r_miast h (by decide) dX12_expandFunction_101 (fun M13 => ?_)
      refine r_aload_n (x := mo) dX12_expandFunction_102 rfl rfl ?_
      refine r_mgetA (kk := 58) h inU12 rfl (by decide) uf_150 rfl rfl dX12_expandFunction_103 ?_
      refine r_iload (x := x7_72) dX12_expandFunction_106 rfl ?_
      refine ro_iconst (v := (-1)) dX12_expandFunction_108 rfl ?_
      refine r_miast h (by decide) dX12_expandFunction_109 (fun M14 => ?_)
      refine r_aload_n (x := mo) dX12_expandFunction_110 rfl rfl ?_
      refine r_mgetA (kk := 55) h inU12 rfl (by decide) uf_141 rfl rfl dX12_expandFunction_111 ?_
      refine r_iload (x := x5_4) dX12_expandFunction_114 rfl ?_
      refine r_dup2 dX12_expandFunction_116 rfl rfl ?_
      refine r_miald h (by decide) dX12_expandFunction_117 ?_
      refine ro_iconst (v := 1) dX12_expandFunction_118 rfl ?_
      refine r_iadd dX12_expandFunction_119 ?_
      refine r_miast h (by decide) dX12_expandFunction_120 (fun M15 => ?_)
      refine r_aload_n (x := mo) dX12_expandFunction_121 rfl rfl ?_
      refine r_iload_n (x := a1) dX12_expandFunction_122 rfl rfl ?_
      refine r_iload (x := v6_53) dX12_expandFunction_123 rfl ?_
      refine ro_iconst (v := 1) dX12_expandFunction_125 rfl ?_
      refine r_iadd dX12_expandFunction_126 ?_
      refine r_iload_n (x := a3) dX12_expandFunction_127 rfl rfl ?_
      refine r_callVi (k2 := k_X12_markFrom) (n := 3) (rest := []) rfl kv_X12_markFrom (c_X12_markFrom h _ _ _ _) (by decide) um_266 rfl (Nat.le_of_ble_eq_true rfl) dX12_expandFunction_128 (m_rec h) rfl (fun r17 M16 => ?_)
      refine r_istore (lo2 := [(6, wi r17), (7, wi x7_72), (0, .ref mo), (1, wi a1), (3, wi a3), (4, wi a4), (5, wi x5_4)]) dX12_expandFunction_131 (by decide) rfl ?_
      refine r_goto (tgt := 53) dX12_expandFunction_133 (by decide) ?_
      refine r_lo [2, 3, 4, 5, 6, 0] (lo2 := [(0, .ref mo), (1, wi a1), (3, wi a3), (4, wi a4), (5, wi x5_4), (6, wi r17)]) rfl ?_
      exact hL53 _ _
  refine r_lo [2, 3, 5, 6, 1, 0] (lo2 := [(0, .ref mo), (1, wi a1), (3, wi a3), (4, wi a4), (5, wi x5_4), (6, wi x6_51)]) rfl ?_
  exact hJ53 _ _
def k_X12_expandToken : Kd := (yX12_expandToken, cX12_expandToken, 7, none, [])
theorem kv_X12_expandToken : KV k_X12_expandToken 3 := ⟨uw_mem 2026 (by decide +kernel) rfl, uw_mem 170 (by decide +kernel) rfl, uw_mem 2025 (by decide +kernel) rfl, uw_mem 123 (by decide +kernel) rfl, ⟨by decide +kernel, by decide +kernel⟩, by decide +kernel, by decide +kernel⟩
set_option maxHeartbeats 4000000 in
set_option maxRecDepth 100000 in
theorem c_X12_expandToken {l : Launch} {Γ : Cx} {K0 : Cd} {mo : Nat} {ma : Nat → Nat} (h : mOn Γ mo ma) (a1 : Int) (a2 : Int) (a3 : Int) (M : Md) : Ct l Γ k_X12_expandToken 7 encV (emM K0) [.ref mo, wi a1, wi a2, wi a3] M (fX12_expandToken a1 a2 a3 M) := by
  refine ct_of (by decide +kernel) rfl (Nat.le_of_ble_eq_true rfl) ?_
  refine r_lo [0, 1, 2, 3] (lo2 := [(0, .ref mo), (1, wi a1), (2, wi a2), (3, wi a3)]) rfl ?_
  unfold fX12_expandToken
  refine r_aload_n (x := mo) dX12_expandToken_0 rfl rfl ?_
  refine r_iload_n (x := a1) dX12_expandToken_1 rfl rfl ?_
  refine r_iload_n (x := a2) dX12_expandToken_2 rfl rfl ?_
  refine r_callVi (k2 := k_X12_codeAt) (n := 2) (rest := []) rfl kv_X12_codeAt (c_X12_codeAt h _ _ _) (by decide) um_257 rfl (Nat.le_of_ble_eq_true rfl) dX12_expandToken_3 (m_rec h) rfl (fun r2 M1 => ?_)
  refine r_sipush (v := 1000) dX12_expandToken_6 rfl ?_
  refine r_idiv dX12_expandToken_9 (by decide) ?_
  refine r_nm (fun x4_10 => ?_)
  refine r_istore (lo2 := [(4, wi x4_10), (0, .ref mo), (1, wi a1), (2, wi a2), (3, wi a3)]) dX12_expandToken_10 (by decide) rfl ?_
  refine r_aload_n (x := mo) dX12_expandToken_12 rfl rfl ?_
  refine r_iload_n (x := a1) dX12_expandToken_13 rfl rfl ?_
  refine r_iload_n (x := a2) dX12_expandToken_14 rfl rfl ?_
  refine r_callVi (k2 := k_X12_codeAt) (n := 2) (rest := []) rfl kv_X12_codeAt (c_X12_codeAt h _ _ _) (by decide) um_257 rfl (Nat.le_of_ble_eq_true rfl) dX12_expandToken_15 (m_rec h) rfl (fun r4 M3 => ?_)
  refine r_sipush (v := 1000) dX12_expandToken_18 rfl ?_
  refine r_irem dX12_expandToken_21 (by decide) ?_
  refine r_nm (fun x5_22 => ?_)
  refine r_istore (lo2 := [(5, wi x5_22), (4, wi x4_10), (0, .ref mo), (1, wi a1), (2, wi a2), (3, wi a3)]) dX12_expandToken_22 (by decide) rfl ?_
  refine r_iload (x := x4_10) dX12_expandToken_24 rfl ?_
  refine r_callSi (k2 := k_X12_opens) (n := 1) (rest := []) rfl kv_X12_opens (c_X12_opens h _ _) (by decide) um_206 rfl (Nat.le_of_ble_eq_true rfl) dX12_expandToken_26 rfl (fun r6 M5 => ?_)
  refine r_join (P := fun (J : Int → Md → Option (Unit × Md)) => ∀ (t0_42 : Int) (M_42 : Md), RunO l Γ k_X12_expandToken 7 encV (emM K0) 42 [(0, .ref mo), (1, wi a1), (2, wi a2), (3, wi a3), (4, wi x4_10), (5, wi x5_22)] [wi t0_42] M_42 (J t0_42 M_42)) ?_ (fun J42 hJ42 => ?_)
  · intro t0_42 M_42
    refine r_istore (lo2 := [(6, wi t0_42), (0, .ref mo), (1, wi a1), (2, wi a2), (3, wi a3), (4, wi x4_10), (5, wi x5_22)]) dX12_expandToken_42 (by decide) rfl ?_
    refine r_iload (x := x4_10) dX12_expandToken_44 rfl ?_
    refine r_join (P := fun (J : Md → Option (Unit × Md)) => ∀ (M_227 : Md), RunO l Γ k_X12_expandToken 7 encV (emM K0) 227 [] [] M_227 (J M_227)) ?_ (fun J227 hJ227 => ?_)
    · intro M_227
      exact r_vret rfl dX12_expandToken_227
    refine r_if_ne (tgt := 59) dX12_expandToken_46 (by decide) ?_ ?_
    · refine r_iload (x := x4_10) dX12_expandToken_59 rfl ?_
      refine ro_iconst (v := 1) dX12_expandToken_61 rfl ?_
      refine r_join (P := fun (J : Md → Option (Unit × Md)) => ∀ (M_72 : Md), RunO l Γ k_X12_expandToken 7 encV (emM K0) 72 [(0, .ref mo), (3, wi a3), (5, wi x5_22)] [] M_72 (J M_72)) ?_ (fun J72 hJ72 => ?_)
      · intro M_72
        refine r_aload_n (x := mo) dX12_expandToken_72 rfl rfl ?_
        refine r_iload_n (x := a3) dX12_expandToken_73 rfl rfl ?_
        refine r_sipush (v := 1000) dX12_expandToken_74 rfl ?_
        refine r_iload (x := x5_22) dX12_expandToken_77 rfl ?_
        refine r_iadd dX12_expandToken_79 ?_
        refine r_callVv (k2 := k_X12_append) (n := 2) (rest := []) rfl kv_X12_append (c_X12_append h _ _ _) (by decide) um_251 rfl (Nat.le_of_ble_eq_true rfl) dX12_expandToken_80 (m_rec h) rfl (fun r8 M7 => ?_)
        refine r_aload_n (x := mo) dX12_expandToken_83 rfl rfl ?_
        refine r_dup dX12_expandToken_84 rfl ?_
        refine r_mget (kk := 66) h inU12 rfl (by decide) uf_276 rfl rfl dX12_expandToken_85 ?_
        refine ro_iconst (v := 1) dX12_expandToken_88 rfl ?_
        refine r_iload (x := x5_22) dX12_expandToken_89 rfl ?_
        refine r_ishl dX12_expandToken_91 ?_
        refine r_ior dX12_expandToken_92 ?_
        refine r_mput (kk := 66) h inU12 rfl (by decide) uf_276 rfl rfl rfl rfl dX12_expandToken_93 (fun M9 => ?_)
        refine r_goto (tgt := 227) dX12_expandToken_96 (by decide) ?_
        refine r_lo [] (lo2 := []) rfl ?_
        exact hJ227 _
      refine r_icmp_eq (tgt := 72) dX12_expandToken_62 (by decide) ?_ ?_
      · refine r_lo [1, 4, 6] (lo2 := [(0, .ref mo), (3, wi a3), (5, wi x5_22)]) rfl ?_
        exact hJ72 _
      · refine r_iload (x := x4_10) dX12_expandToken_65 rfl ?_
        refine r_bipush (v := 12) dX12_expandToken_67 rfl ?_
        refine r_icmp_ne (tgt := 99) dX12_expandToken_69 (by decide) ?_ ?_
        · refine r_iload (x := x4_10) dX12_expandToken_99 rfl ?_
          refine r_bipush (v := 11) dX12_expandToken_101 rfl ?_
          refine r_icmp_ne (tgt := 122) dX12_expandToken_103 (by decide) ?_ ?_
          · refine r_iload (x := x4_10) dX12_expandToken_122 rfl ?_
            refine r_bipush (v := 10) dX12_expandToken_124 rfl ?_
            refine r_join (P := fun (J : Md → Option (Unit × Md)) => ∀ (M_161 : Md), RunO l Γ k_X12_expandToken 7 encV (emM K0) 161 [(0, .ref mo), (1, wi a1), (2, wi a2), (3, wi a3), (6, wi t0_42)] [] M_161 (J M_161)) ?_ (fun J161 hJ161 => ?_)
            · intro M_161
              refine r_aload_n (x := mo) dX12_expandToken_161 rfl rfl ?_
              refine ro_iconst (v := 0) dX12_expandToken_162 rfl ?_
              refine r_iload_n (x := a1) dX12_expandToken_163 rfl rfl ?_
              refine r_iload_n (x := a2) dX12_expandToken_164 rfl rfl ?_
              refine ro_iconst (v := 1) dX12_expandToken_165 rfl ?_
              refine r_iadd dX12_expandToken_166 ?_
              refine r_iload (x := t0_42) dX12_expandToken_167 rfl ?_
              refine r_iload_n (x := a3) dX12_expandToken_169 rfl rfl ?_
              refine r_callVv (k2 := k_X12_task) (n := 5) (rest := []) rfl kv_X12_task (c_X12_task h _ _ _ _ _ _) (by decide) um_290 rfl (Nat.le_of_ble_eq_true rfl) dX12_expandToken_170 (m_rec h) rfl (fun r11 M10 => ?_)
              refine r_goto (tgt := 227) dX12_expandToken_173 (by decide) ?_
              refine r_lo [] (lo2 := []) rfl ?_
              exact hJ227 _
            refine r_icmp_eq (tgt := 161) dX12_expandToken_126 (by decide) ?_ ?_
            · refine r_lo [1, 2, 3, 4, 0] (lo2 := [(0, .ref mo), (1, wi a1), (2, wi a2), (3, wi a3), (6, wi t0_42)]) rfl ?_
              exact hJ161 _
            · refine r_iload (x := x4_10) dX12_expandToken_129 rfl ?_
              refine r_bipush (v := 8) dX12_expandToken_131 rfl ?_
              refine r_join (P := fun (J : Md → Option (Unit × Md)) => ∀ (M_145 : Md), RunO l Γ k_X12_expandToken 7 encV (emM K0) 145 [(0, .ref mo), (1, wi a1), (2, wi a2), (3, wi a3), (4, wi x4_10), (6, wi t0_42)] [] M_145 (J M_145)) ?_ (fun J145 hJ145 => ?_)
              · intro M_145
                refine r_iload (x := x4_10) dX12_expandToken_145 rfl ?_
                refine r_bipush (v := 9) dX12_expandToken_147 rfl ?_
                refine r_join (P := fun (J : Md → Option (Unit × Md)) => ∀ (M_176 : Md), RunO l Γ k_X12_expandToken 7 encV (emM K0) 176 [(0, .ref mo), (1, wi a1), (2, wi a2), (3, wi a3), (4, wi x4_10), (6, wi t0_42)] [] M_176 (J M_176)) ?_ (fun J176 hJ176 => ?_)
                · intro M_176
                  refine r_iload (x := x4_10) dX12_expandToken_176 rfl ?_
                  refine ro_iconst (v := 2) dX12_expandToken_178 rfl ?_
                  refine r_icmp_ne (tgt := 194) dX12_expandToken_179 (by decide) ?_ ?_
                  · refine r_iload (x := x4_10) dX12_expandToken_194 rfl ?_
                    refine ro_iconst (v := 3) dX12_expandToken_196 rfl ?_
                    refine r_icmp_ne (tgt := 212) dX12_expandToken_197 (by decide) ?_ ?_
                    · refine r_iload (x := x4_10) dX12_expandToken_212 rfl ?_
                      refine ro_iconst (v := 4) dX12_expandToken_214 rfl ?_
                      refine r_icmp_ne (tgt := 227) dX12_expandToken_215 (by decide) ?_ ?_
                      · refine r_lo [] (lo2 := []) rfl ?_
                        exact hJ227 _
                      · refine r_aload_n (x := mo) dX12_expandToken_218 rfl rfl ?_
                        refine r_iload_n (x := a1) dX12_expandToken_219 rfl rfl ?_
                        refine r_iload_n (x := a2) dX12_expandToken_220 rfl rfl ?_
                        refine r_iload (x := t0_42) dX12_expandToken_221 rfl ?_
                        refine r_iload_n (x := a3) dX12_expandToken_223 rfl rfl ?_
                        refine r_callVv (k2 := k_X12_expandFunction) (n := 4) (rest := []) rfl kv_X12_expandFunction (c_X12_expandFunction h _ _ _ _ _) (by decide) um_313 rfl (Nat.le_of_ble_eq_true rfl) dX12_expandToken_224 (m_rec h) rfl (fun r13 M12 => ?_)
                        refine r_lo [] (lo2 := []) rfl ?_
                        exact hJ227 _
                    · refine r_aload_n (x := mo) dX12_expandToken_200 rfl rfl ?_
                      refine r_iload_n (x := a1) dX12_expandToken_201 rfl rfl ?_
                      refine r_iload_n (x := a2) dX12_expandToken_202 rfl rfl ?_
                      refine r_iload (x := t0_42) dX12_expandToken_203 rfl ?_
                      refine r_iload_n (x := a3) dX12_expandToken_205 rfl rfl ?_
                      refine r_callVv (k2 := k_X12_expandParam) (n := 4) (rest := []) rfl kv_X12_expandParam (c_X12_expandParam h _ _ _ _ _) (by decide) um_310 rfl (Nat.le_of_ble_eq_true rfl) dX12_expandToken_206 (m_rec h) rfl (fun r15 M14 => ?_)
                      refine r_goto (tgt := 227) dX12_expandToken_209 (by decide) ?_
                      refine r_lo [] (lo2 := []) rfl ?_
                      exact hJ227 _
                  · refine r_aload_n (x := mo) dX12_expandToken_182 rfl rfl ?_
                    refine r_iload_n (x := a1) dX12_expandToken_183 rfl rfl ?_
                    refine r_iload_n (x := a2) dX12_expandToken_184 rfl rfl ?_
                    refine r_iload (x := t0_42) dX12_expandToken_185 rfl ?_
                    refine r_iload_n (x := a3) dX12_expandToken_187 rfl rfl ?_
                    refine r_callVv (k2 := k_X12_expandCall) (n := 4) (rest := []) rfl kv_X12_expandCall (c_X12_expandCall h _ _ _ _ _) (by decide) um_307 rfl (Nat.le_of_ble_eq_true rfl) dX12_expandToken_188 (m_rec h) rfl (fun r17 M16 => ?_)
                    refine r_goto (tgt := 227) dX12_expandToken_191 (by decide) ?_
                    refine r_lo [] (lo2 := []) rfl ?_
                    exact hJ227 _
                refine r_icmp_ne (tgt := 176) dX12_expandToken_149 (by decide) ?_ ?_
                · exact hJ176 _
                · refine r_aload_n (x := mo) dX12_expandToken_152 rfl rfl ?_
                  refine r_mgetA (kk := 43) h inU12 rfl (by decide) uf_110 rfl rfl dX12_expandToken_153 ?_
                  refine r_iload_n (x := a1) dX12_expandToken_156 rfl rfl ?_
                  refine r_miald h (by decide) dX12_expandToken_157 ?_
                  refine r_if_ne (tgt := 176) dX12_expandToken_158 (by decide) ?_ ?_
                  · exact hJ176 _
                  · refine r_lo [0, 1, 2, 3, 5] (lo2 := [(0, .ref mo), (1, wi a1), (2, wi a2), (3, wi a3), (6, wi t0_42)]) rfl ?_
                    exact hJ161 _
              refine r_icmp_ne (tgt := 145) dX12_expandToken_133 (by decide) ?_ ?_
              · refine r_lo [1, 2, 3, 4, 5, 0] (lo2 := [(0, .ref mo), (1, wi a1), (2, wi a2), (3, wi a3), (4, wi x4_10), (6, wi t0_42)]) rfl ?_
                exact hJ145 _
              · refine r_aload_n (x := mo) dX12_expandToken_136 rfl rfl ?_
                refine r_mgetA (kk := 43) h inU12 rfl (by decide) uf_110 rfl rfl dX12_expandToken_137 ?_
                refine r_iload_n (x := a1) dX12_expandToken_140 rfl rfl ?_
                refine r_miald h (by decide) dX12_expandToken_141 ?_
                refine r_if_gt (tgt := 161) dX12_expandToken_142 (by decide) ?_ ?_
                · refine r_lo [1, 2, 3, 4, 0] (lo2 := [(0, .ref mo), (1, wi a1), (2, wi a2), (3, wi a3), (6, wi t0_42)]) rfl ?_
                  exact hJ161 _
                · refine r_lo [1, 2, 3, 4, 5, 0] (lo2 := [(0, .ref mo), (1, wi a1), (2, wi a2), (3, wi a3), (4, wi x4_10), (6, wi t0_42)]) rfl ?_
                  exact hJ145 _
          · refine r_aload_n (x := mo) dX12_expandToken_106 rfl rfl ?_
            refine r_dup dX12_expandToken_107 rfl ?_
            refine r_mget (kk := 67) h inU12 rfl (by decide) uf_304 rfl rfl dX12_expandToken_108 ?_
            refine ro_iconst (v := 1) dX12_expandToken_111 rfl ?_
            refine r_iload (x := x5_22) dX12_expandToken_112 rfl ?_
            refine r_ishl dX12_expandToken_114 ?_
            refine r_ior dX12_expandToken_115 ?_
            refine r_mput (kk := 67) h inU12 rfl (by decide) uf_304 rfl rfl rfl rfl dX12_expandToken_116 (fun M18 => ?_)
            refine r_goto (tgt := 227) dX12_expandToken_119 (by decide) ?_
            refine r_lo [] (lo2 := []) rfl ?_
            exact hJ227 _
        · refine r_lo [1, 4, 6] (lo2 := [(0, .ref mo), (3, wi a3), (5, wi x5_22)]) rfl ?_
          exact hJ72 _
    · refine r_aload_n (x := mo) dX12_expandToken_49 rfl rfl ?_
      refine r_iload_n (x := a3) dX12_expandToken_50 rfl rfl ?_
      refine r_iload (x := x5_22) dX12_expandToken_51 rfl ?_
      refine r_callVv (k2 := k_X12_append) (n := 2) (rest := []) rfl kv_X12_append (c_X12_append h _ _ _) (by decide) um_251 rfl (Nat.le_of_ble_eq_true rfl) dX12_expandToken_53 (m_rec h) rfl (fun r20 M19 => ?_)
      refine r_goto (tgt := 227) dX12_expandToken_56 (by decide) ?_
      refine r_lo [] (lo2 := []) rfl ?_
      exact hJ227 _
  refine r_if_eq (tgt := 41) dX12_expandToken_29 (by decide) ?_ ?_
  · refine r_iload_n (x := a2) dX12_expandToken_41 rfl rfl ?_
    refine r_lo [2, 3, 4, 5, 1, 0] (lo2 := [(0, .ref mo), (1, wi a1), (2, wi a2), (3, wi a3), (4, wi x4_10), (5, wi x5_22)]) rfl ?_
    exact hJ42 _ _
  · refine r_aload_n (x := mo) dX12_expandToken_32 rfl rfl ?_
    refine r_iload_n (x := a1) dX12_expandToken_33 rfl rfl ?_
    refine r_iload_n (x := a2) dX12_expandToken_34 rfl rfl ?_
    refine r_callVi (k2 := k_X12_closeOf) (n := 2) (rest := []) rfl kv_X12_closeOf (c_X12_closeOf h _ _ _) (by decide) um_260 rfl (Nat.le_of_ble_eq_true rfl) dX12_expandToken_35 (m_rec h) rfl (fun r22 M21 => ?_)
    refine r_goto (tgt := 42) dX12_expandToken_38 (by decide) ?_
    refine r_lo [2, 3, 4, 5, 1, 0] (lo2 := [(0, .ref mo), (1, wi a1), (2, wi a2), (3, wi a3), (4, wi x4_10), (5, wi x5_22)]) rfl ?_
    exact hJ42 _ _
def k_X12_expand : Kd := (yX12_expand, cX12_expand, 10, none, [])
theorem kv_X12_expand : KV k_X12_expand 2 := ⟨uw_mem 1933 (by decide +kernel) rfl, uw_mem 170 (by decide +kernel) rfl, uw_mem 1932 (by decide +kernel) rfl, uw_mem 102 (by decide +kernel) rfl, ⟨by decide +kernel, by decide +kernel⟩, by decide +kernel, by decide +kernel⟩
set_option maxHeartbeats 4000000 in
set_option maxRecDepth 100000 in
theorem c_X12_expand {l : Launch} {Γ : Cx} {K0 : Cd} {mo : Nat} {ma : Nat → Nat} (h : mOn Γ mo ma) (a1 : Int) (a2 : Int) (M : Md) : Ct l Γ k_X12_expand 8 encV (emM K0) [.ref mo, wi a1, wi a2] M (fX12_expand a1 a2 M) := by
  refine ct_of (by decide +kernel) rfl (Nat.le_of_ble_eq_true rfl) ?_
  refine r_lo [0, 1, 2] (lo2 := [(0, .ref mo), (1, wi a1), (2, wi a2)]) rfl ?_
  unfold fX12_expand
  refine r_aload_n (x := mo) dX12_expand_0 rfl rfl ?_
  refine ro_iconst (v := 0) dX12_expand_1 rfl ?_
  refine r_mput (kk := 40) h inU12 rfl (by decide) uf_263 rfl rfl rfl rfl dX12_expand_2 (fun M1 => ?_)
  refine r_aload_n (x := mo) dX12_expand_5 rfl rfl ?_
  refine ro_iconst (v := 0) dX12_expand_6 rfl ?_
  refine r_mput (kk := 48) h inU12 rfl (by decide) uf_248 rfl rfl rfl rfl dX12_expand_7 (fun M2 => ?_)
  refine r_aload_n (x := mo) dX12_expand_10 rfl rfl ?_
  refine ro_iconst (v := 0) dX12_expand_11 rfl ?_
  refine r_mput (kk := 51) h inU12 rfl (by decide) uf_301 rfl rfl rfl rfl dX12_expand_12 (fun M3 => ?_)
  refine r_aload_n (x := mo) dX12_expand_15 rfl rfl ?_
  refine ro_iconst (v := 0) dX12_expand_16 rfl ?_
  refine r_mput (kk := 59) h inU12 rfl (by decide) uf_254 rfl rfl rfl rfl dX12_expand_17 (fun M4 => ?_)
  refine r_aload_n (x := mo) dX12_expand_20 rfl rfl ?_
  refine ro_iconst (v := 0) dX12_expand_21 rfl ?_
  refine r_mput (kk := 65) h inU12 rfl (by decide) uf_270 rfl rfl rfl rfl dX12_expand_22 (fun M5 => ?_)
  refine r_aload_n (x := mo) dX12_expand_25 rfl rfl ?_
  refine ro_iconst (v := 0) dX12_expand_26 rfl ?_
  refine r_mput (kk := 66) h inU12 rfl (by decide) uf_276 rfl rfl rfl rfl dX12_expand_27 (fun M6 => ?_)
  refine r_aload_n (x := mo) dX12_expand_30 rfl rfl ?_
  refine ro_iconst (v := 0) dX12_expand_31 rfl ?_
  refine r_mput (kk := 67) h inU12 rfl (by decide) uf_304 rfl rfl rfl rfl dX12_expand_32 (fun M7 => ?_)
  refine r_aload_n (x := mo) dX12_expand_35 rfl rfl ?_
  refine ro_iconst (v := 0) dX12_expand_36 rfl ?_
  refine r_mput (kk := 68) h inU12 rfl (by decide) uf_239 rfl rfl rfl rfl dX12_expand_37 (fun M8 => ?_)
  refine r_aload_n (x := mo) dX12_expand_40 rfl rfl ?_
  refine ro_iconst (v := 0) dX12_expand_41 rfl ?_
  refine r_mput (kk := 69) h inU12 rfl (by decide) uf_331 rfl rfl rfl rfl dX12_expand_42 (fun M9 => ?_)
  refine r_aload_n (x := mo) dX12_expand_45 rfl rfl ?_
  refine ro_iconst (v := 0) dX12_expand_46 rfl ?_
  refine r_mput (kk := 70) h inU12 rfl (by decide) uf_343 rfl rfl rfl rfl dX12_expand_47 (fun M10 => ?_)
  refine r_aload_n (x := mo) dX12_expand_50 rfl rfl ?_
  refine r_callVi (k2 := k_X12_newRow) (n := 0) (rest := []) rfl kv_X12_newRow (c_X12_newRow h _) (by decide) um_297 rfl (Nat.le_of_ble_eq_true rfl) dX12_expand_51 (m_rec h) rfl (fun r12 M11 => ?_)
  refine r_istore_n (lo2 := [(3, wi r12), (0, .ref mo), (1, wi a1), (2, wi a2)]) dX12_expand_54 rfl (by decide) rfl ?_
  refine r_aload_n (x := mo) dX12_expand_55 rfl rfl ?_
  refine r_callVi (k2 := k_X12_newRow) (n := 0) (rest := []) rfl kv_X12_newRow (c_X12_newRow h _) (by decide) um_297 rfl (Nat.le_of_ble_eq_true rfl) dX12_expand_56 (m_rec h) rfl (fun r14 M13 => ?_)
  refine r_istore (lo2 := [(4, wi r14), (3, wi r12), (0, .ref mo), (1, wi a1), (2, wi a2)]) dX12_expand_59 (by decide) rfl ?_
  refine r_aload_n (x := mo) dX12_expand_61 rfl rfl ?_
  refine ro_iconst (v := 0) dX12_expand_62 rfl ?_
  refine r_aload_n (x := mo) dX12_expand_63 rfl rfl ?_
  refine r_iload_n (x := a2) dX12_expand_64 rfl rfl ?_
  refine r_iload_n (x := a1) dX12_expand_65 rfl rfl ?_
  refine ro_iconst (v := 0) dX12_expand_66 rfl ?_
  refine ro_iconst (v := (-1)) dX12_expand_67 rfl ?_
  refine r_callVi (k2 := k_X12_newFrame) (n := 4) (rest := [wi 0, .ref mo]) rfl kv_X12_newFrame (c_X12_newFrame h _ _ _ _ _) (by decide) um_282 rfl (Nat.le_of_ble_eq_true rfl) dX12_expand_68 (m_rec h) rfl (fun r16 M15 => ?_)
  refine ro_iconst (v := 0) dX12_expand_71 rfl ?_
  refine r_aload_n (x := mo) dX12_expand_72 rfl rfl ?_
  refine r_mgetA (kk := 10) h inU12 rfl (by decide) uf_25 rfl rfl dX12_expand_73 ?_
  refine r_iload_n (x := a2) dX12_expand_76 rfl rfl ?_
  refine r_miald h (by decide) dX12_expand_77 ?_
  refine r_iload_n (x := r12) dX12_expand_78 rfl rfl ?_
  refine r_callVv (k2 := k_X12_task) (n := 5) (rest := []) rfl kv_X12_task (c_X12_task h _ _ _ _ _ _) (by decide) um_290 rfl (Nat.le_of_ble_eq_true rfl) dX12_expand_79 (m_rec h) rfl (fun r18 M17 => ?_)
  refine r_loop (P := fun (J : Md → Option (Unit × Md)) => ∀ (M_82 : Md), RunO l Γ k_X12_expand 8 encV (emM K0) 82 [(0, .ref mo)] [] M_82 (J M_82)) ?_ (fun L82 hL82 => ?_) (fun J82 hJ82 => ?_)
  · intros; exact ro_none
  · intro M_82
    refine r_aload_n (x := mo) dX12_expand_82 rfl rfl ?_
    refine r_mget (kk := 59) h inU12 rfl (by decide) uf_254 rfl rfl dX12_expand_83 ?_
    refine r_if_le (tgt := 252) dX12_expand_86 (by decide) ?_ ?_
    · exact r_vret rfl dX12_expand_252
    · refine r_aload_n (x := mo) dX12_expand_89 rfl rfl ?_
      refine r_dup dX12_expand_90 rfl ?_
      refine r_mget (kk := 59) h inU12 rfl (by decide) uf_254 rfl rfl dX12_expand_91 ?_
      refine ro_iconst (v := 1) dX12_expand_94 rfl ?_
      refine r_isub dX12_expand_95 ?_
      refine r_mput (kk := 59) h inU12 rfl (by decide) uf_254 rfl rfl rfl rfl dX12_expand_96 (fun M19 => ?_)
      refine r_aload_n (x := mo) dX12_expand_99 rfl rfl ?_
      refine r_mgetA (kk := 60) h inU12 rfl (by decide) uf_153 rfl rfl dX12_expand_100 ?_
      refine r_aload_n (x := mo) dX12_expand_103 rfl rfl ?_
      refine r_mget (kk := 59) h inU12 rfl (by decide) uf_254 rfl rfl dX12_expand_104 ?_
      refine r_miald h (by decide) dX12_expand_107 ?_
      refine r_nm (fun x5_108 => ?_)
      refine r_istore (lo2 := [(5, wi x5_108), (0, .ref mo)]) dX12_expand_108 (by decide) rfl ?_
      refine r_aload_n (x := mo) dX12_expand_110 rfl rfl ?_
      refine r_mgetA (kk := 61) h inU12 rfl (by decide) uf_156 rfl rfl dX12_expand_111 ?_
      refine r_aload_n (x := mo) dX12_expand_114 rfl rfl ?_
      refine r_mget (kk := 59) h inU12 rfl (by decide) uf_254 rfl rfl dX12_expand_115 ?_
      refine r_miald h (by decide) dX12_expand_118 ?_
      refine r_nm (fun x6_119 => ?_)
      refine r_istore (lo2 := [(6, wi x6_119), (5, wi x5_108), (0, .ref mo)]) dX12_expand_119 (by decide) rfl ?_
      refine r_aload_n (x := mo) dX12_expand_121 rfl rfl ?_
      refine r_mgetA (kk := 62) h inU12 rfl (by decide) uf_159 rfl rfl dX12_expand_122 ?_
      refine r_aload_n (x := mo) dX12_expand_125 rfl rfl ?_
      refine r_mget (kk := 59) h inU12 rfl (by decide) uf_254 rfl rfl dX12_expand_126 ?_
      refine r_miald h (by decide) dX12_expand_129 ?_
      refine r_nm (fun x7_130 => ?_)
      refine r_istore (lo2 := [(7, wi x7_130), (6, wi x6_119), (5, wi x5_108), (0, .ref mo)]) dX12_expand_130 (by decide) rfl ?_
      refine r_aload_n (x := mo) dX12_expand_132 rfl rfl ?_
      refine r_mgetA (kk := 63) h inU12 rfl (by decide) uf_162 rfl rfl dX12_expand_133 ?_
      refine r_aload_n (x := mo) dX12_expand_136 rfl rfl ?_
      refine r_mget (kk := 59) h inU12 rfl (by decide) uf_254 rfl rfl dX12_expand_137 ?_
      refine r_miald h (by decide) dX12_expand_140 ?_
      refine r_nm (fun x8_141 => ?_)
      refine r_istore (lo2 := [(8, wi x8_141), (7, wi x7_130), (6, wi x6_119), (5, wi x5_108), (0, .ref mo)]) dX12_expand_141 (by decide) rfl ?_
      refine r_aload_n (x := mo) dX12_expand_143 rfl rfl ?_
      refine r_mgetA (kk := 64) h inU12 rfl (by decide) uf_165 rfl rfl dX12_expand_144 ?_
      refine r_aload_n (x := mo) dX12_expand_147 rfl rfl ?_
      refine r_mget (kk := 59) h inU12 rfl (by decide) uf_254 rfl rfl dX12_expand_148 ?_
      refine r_miald h (by decide) dX12_expand_151 ?_
      refine r_nm (fun x9_152 => ?_)
      refine r_istore (lo2 := [(9, wi x9_152), (8, wi x8_141), (7, wi x7_130), (6, wi x6_119), (5, wi x5_108), (0, .ref mo)]) dX12_expand_152 (by decide) rfl ?_
      refine r_iload (x := x5_108) dX12_expand_154 rfl ?_
      refine ro_iconst (v := 1) dX12_expand_156 rfl ?_
      refine r_join (P := fun (J : Md → Option (Unit × Md)) => ∀ (M_249 : Md), RunO l Γ k_X12_expand 8 encV (emM K0) 249 [(0, .ref mo)] [] M_249 (J M_249)) ?_ (fun J249 hJ249 => ?_)
      · intro M_249
        refine r_goto (tgt := 82) dX12_expand_249 (by decide) ?_
        exact hL82 _
      refine r_icmp_ne (tgt := 171) dX12_expand_157 (by decide) ?_ ?_
      · refine r_iload (x := x5_108) dX12_expand_171 rfl ?_
        refine ro_iconst (v := 2) dX12_expand_173 rfl ?_
        refine r_icmp_ne (tgt := 186) dX12_expand_174 (by decide) ?_ ?_
        · refine r_iload (x := x7_130) dX12_expand_186 rfl ?_
          refine r_iload (x := x8_141) dX12_expand_188 rfl ?_
          refine r_icmp_ge (tgt := 249) dX12_expand_190 (by decide) ?_ ?_
          · refine r_lo [5] (lo2 := [(0, .ref mo)]) rfl ?_
            exact hJ249 _
          · refine r_aload_n (x := mo) dX12_expand_193 rfl rfl ?_
            refine ro_iconst (v := 0) dX12_expand_194 rfl ?_
            refine r_iload (x := x6_119) dX12_expand_195 rfl ?_
            refine r_aload_n (x := mo) dX12_expand_197 rfl rfl ?_
            refine r_iload (x := x6_119) dX12_expand_198 rfl ?_
            refine r_iload (x := x7_130) dX12_expand_200 rfl ?_
            refine r_callVi (k2 := k_X12_codeAt) (n := 2) (rest := [wi x6_119, wi 0, .ref mo]) rfl kv_X12_codeAt (c_X12_codeAt h _ _ _) (by decide) um_257 rfl (Nat.le_of_ble_eq_true rfl) dX12_expand_202 (m_rec h) rfl (fun r21 M20 => ?_)
            refine r_sipush (v := 1000) dX12_expand_205 rfl ?_
            refine r_idiv dX12_expand_208 (by decide) ?_
            refine r_callSi (k2 := k_X12_opens) (n := 1) (rest := [wi x6_119, wi 0, .ref mo]) rfl kv_X12_opens (c_X12_opens h _ _) (by decide) um_206 rfl (Nat.le_of_ble_eq_true rfl) dX12_expand_209 rfl (fun r23 M22 => ?_)
            refine r_join (P := fun (J : Int → Md → Option (Unit × Md)) => ∀ (t0_232 : Int) (M_232 : Md), RunO l Γ k_X12_expand 8 encV (emM K0) 232 [(0, .ref mo), (6, wi x6_119), (7, wi x7_130), (8, wi x8_141), (9, wi x9_152)] [wi t0_232, wi x6_119, wi 0, .ref mo] M_232 (J t0_232 M_232)) ?_ (fun J232 hJ232 => ?_)
            · intro t0_232 M_232
              refine r_iload (x := x8_141) dX12_expand_232 rfl ?_
              refine r_iload (x := x9_152) dX12_expand_234 rfl ?_
              refine r_callVv (k2 := k_X12_task) (n := 5) (rest := []) rfl kv_X12_task (c_X12_task h _ _ _ _ _ _) (by decide) um_290 rfl (Nat.le_of_ble_eq_true rfl) dX12_expand_236 (m_rec h) rfl (fun r25 M24 => ?_)
              refine r_aload_n (x := mo) dX12_expand_239 rfl rfl ?_
              refine r_iload (x := x6_119) dX12_expand_240 rfl ?_
              refine r_iload (x := x7_130) dX12_expand_242 rfl ?_
              refine r_iload (x := x9_152) dX12_expand_244 rfl ?_
              refine r_callVv (k2 := k_X12_expandToken) (n := 3) (rest := []) rfl kv_X12_expandToken (c_X12_expandToken h _ _ _ _) (by decide) um_365 rfl (Nat.le_of_ble_eq_true rfl) dX12_expand_246 (m_rec h) rfl (fun r27 M26 => ?_)
              refine r_lo [0] (lo2 := [(0, .ref mo)]) rfl ?_
              exact hJ249 _
            refine r_if_eq (tgt := 228) dX12_expand_212 (by decide) ?_ ?_
            · refine r_iload (x := x7_130) dX12_expand_228 rfl ?_
              refine ro_iconst (v := 1) dX12_expand_230 rfl ?_
              refine r_iadd dX12_expand_231 ?_
              refine r_lo [5, 3, 2, 1, 0] (lo2 := [(0, .ref mo), (6, wi x6_119), (7, wi x7_130), (8, wi x8_141), (9, wi x9_152)]) rfl ?_
              exact hJ232 _ _
            · refine r_aload_n (x := mo) dX12_expand_215 rfl rfl ?_
              refine r_iload (x := x6_119) dX12_expand_216 rfl ?_
              refine r_iload (x := x7_130) dX12_expand_218 rfl ?_
              refine r_callVi (k2 := k_X12_closeOf) (n := 2) (rest := [wi x6_119, wi 0, .ref mo]) rfl kv_X12_closeOf (c_X12_closeOf h _ _ _) (by decide) um_260 rfl (Nat.le_of_ble_eq_true rfl) dX12_expand_220 (m_rec h) rfl (fun r29 M28 => ?_)
              refine ro_iconst (v := 1) dX12_expand_223 rfl ?_
              refine r_iadd dX12_expand_224 ?_
              refine r_goto (tgt := 232) dX12_expand_225 (by decide) ?_
              refine r_lo [5, 3, 2, 1, 0] (lo2 := [(0, .ref mo), (6, wi x6_119), (7, wi x7_130), (8, wi x8_141), (9, wi x9_152)]) rfl ?_
              exact hJ232 _ _
        · refine r_aload_n (x := mo) dX12_expand_177 rfl rfl ?_
          refine r_iload (x := x6_119) dX12_expand_178 rfl ?_
          refine r_callVv (k2 := k_X12_give) (n := 1) (rest := []) rfl kv_X12_give (c_X12_give h _ _) (by decide) um_361 rfl (Nat.le_of_ble_eq_true rfl) dX12_expand_180 (m_rec h) rfl (fun r31 M30 => ?_)
          refine r_goto (tgt := 249) dX12_expand_183 (by decide) ?_
          refine r_lo [5] (lo2 := [(0, .ref mo)]) rfl ?_
          exact hJ249 _
      · refine r_aload_n (x := mo) dX12_expand_160 rfl rfl ?_
        refine r_iload (x := x9_152) dX12_expand_161 rfl ?_
        refine r_iload (x := x6_119) dX12_expand_163 rfl ?_
        refine r_callVv (k2 := k_X12_appendRow) (n := 2) (rest := []) rfl kv_X12_appendRow (c_X12_appendRow h _ _ _) (by decide) um_294 rfl (Nat.le_of_ble_eq_true rfl) dX12_expand_165 (m_rec h) rfl (fun r33 M32 => ?_)
        refine r_goto (tgt := 249) dX12_expand_168 (by decide) ?_
        refine r_lo [5] (lo2 := [(0, .ref mo)]) rfl ?_
        exact hJ249 _
  refine r_lo [2] (lo2 := [(0, .ref mo)]) rfl ?_
  exact hJ82 _
def k_X12_approvedAt : Kd := (yX12_approvedAt, cX12_approvedAt, 5, some .int, [])
theorem kv_X12_approvedAt : KV k_X12_approvedAt 2 := ⟨uw_mem 2277 (by decide +kernel) rfl, uw_mem 170 (by decide +kernel) rfl, uw_mem 2275 (by decide +kernel) rfl, uw_mem 2276 (by decide +kernel) rfl, ⟨by decide +kernel, by decide +kernel⟩, by decide +kernel, by decide +kernel⟩
set_option maxHeartbeats 4000000 in
set_option maxRecDepth 100000 in
theorem c_X12_approvedAt {l : Launch} {Γ : Cx} {K0 : Cd} {mo : Nat} {ma : Nat → Nat} (h : mOn Γ mo ma) (a1 : Int) (a2 : Int) (M : Md) : Ct l Γ k_X12_approvedAt 9 encI (emM K0) [.ref mo, wi a1, wi a2] M (fX12_approvedAt a1 a2 M) := by
  refine ct_of (by decide +kernel) rfl (Nat.le_of_ble_eq_true rfl) ?_
  refine r_lo [0, 1, 2] (lo2 := [(0, .ref mo), (1, wi a1), (2, wi a2)]) rfl ?_
  unfold fX12_approvedAt
  refine r_aload_n (x := mo) dX12_approvedAt_0 rfl rfl ?_
  refine r_iload_n (x := a1) dX12_approvedAt_1 rfl rfl ?_
  refine r_iload_n (x := a2) dX12_approvedAt_2 rfl rfl ?_
  refine r_callVi (k2 := k_X12_hasIndex) (n := 2) (rest := []) rfl kv_X12_hasIndex (c_X12_hasIndex h _ _ _) (by decide) um_476 rfl (Nat.le_of_ble_eq_true rfl) dX12_approvedAt_3 (m_rec h) rfl (fun r2 M1 => ?_)
  refine r_if_ne (tgt := 11) dX12_approvedAt_6 (by decide) ?_ ?_
  · refine r_aload_n (x := mo) dX12_approvedAt_11 rfl rfl ?_
    refine ro_iconst (v := (-1)) dX12_approvedAt_12 rfl ?_
    refine r_mput (kk := 39) h inU12 rfl (by decide) uf_232 rfl rfl rfl rfl dX12_approvedAt_13 (fun M3 => ?_)
    refine ro_iconst (v := (-1)) dX12_approvedAt_16 rfl ?_
    refine r_istore_n (lo2 := [(3, wi (-1)), (0, .ref mo), (1, wi a1), (2, wi a2)]) dX12_approvedAt_17 rfl (by decide) rfl ?_
    refine ro_iconst (v := 0) dX12_approvedAt_18 rfl ?_
    refine r_istore (lo2 := [(4, wi 0), (3, wi (-1)), (0, .ref mo), (1, wi a1), (2, wi a2)]) dX12_approvedAt_19 (by decide) rfl ?_
    refine r_loop (P := fun (J : Int → Int → Md → Option (Int × Md)) => ∀ (v3_21 : Int) (v4_21 : Int) (M_21 : Md), RunO l Γ k_X12_approvedAt 9 encI (emM K0) 21 [(0, .ref mo), (1, wi a1), (2, wi a2), (3, wi v3_21), (4, wi v4_21)] [] M_21 (J v3_21 v4_21 M_21)) ?_ (fun L21 hL21 => ?_) (fun J21 hJ21 => ?_)
    · intros; exact ro_none
    · intro v3_21 v4_21 M_21
      refine r_iload (x := v4_21) dX12_approvedAt_21 rfl ?_
      refine r_aload_n (x := mo) dX12_approvedAt_23 rfl rfl ?_
      refine r_mget (kk := 13) h inU12 rfl (by decide) uf_229 rfl rfl dX12_approvedAt_24 ?_
      refine r_icmp_ge (tgt := 71) dX12_approvedAt_27 (by decide) ?_ ?_
      · refine r_iload_n (x := v3_21) dX12_approvedAt_71 rfl rfl ?_
        refine ro_iconst (v := (-1)) dX12_approvedAt_72 rfl ?_
        refine r_icmp_ne (tgt := 78) dX12_approvedAt_73 (by decide) ?_ ?_
        · refine r_aload_n (x := mo) dX12_approvedAt_78 rfl rfl ?_
          refine r_iload_n (x := a1) dX12_approvedAt_79 rfl rfl ?_
          refine r_iload_n (x := v3_21) dX12_approvedAt_80 rfl rfl ?_
          refine r_callVv (k2 := k_X12_expand) (n := 2) (rest := []) rfl kv_X12_expand (c_X12_expand h _ _ _) (by decide) um_369 rfl (Nat.le_of_ble_eq_true rfl) dX12_approvedAt_81 (m_rec h) rfl (fun r5 M4 => ?_)
          refine r_iload_n (x := a2) dX12_approvedAt_84 rfl rfl ?_
          refine r_aload_n (x := mo) dX12_approvedAt_85 rfl rfl ?_
          refine r_mgetA (kk := 49) h inU12 rfl (by decide) uf_125 rfl rfl dX12_approvedAt_86 ?_
          refine ro_iconst (v := 0) dX12_approvedAt_89 rfl ?_
          refine r_miald h (by decide) dX12_approvedAt_90 ?_
          refine r_join (P := fun (J : Int → Md → Option (Int × Md)) => ∀ (t0_104 : Int) (M_104 : Md), RunO l Γ k_X12_approvedAt 9 encI (emM K0) 104 [] [wi t0_104] M_104 (J t0_104 M_104)) ?_ (fun J104 hJ104 => ?_)
          · intro t0_104 M_104
            exact r_iret rfl dX12_approvedAt_104
          refine r_icmp_ge (tgt := 103) dX12_approvedAt_91 (by decide) ?_ ?_
          · refine ro_iconst (v := (-1)) dX12_approvedAt_103 rfl ?_
            refine r_lo [] (lo2 := []) rfl ?_
            exact hJ104 _ _
          · refine r_aload_n (x := mo) dX12_approvedAt_94 rfl rfl ?_
            refine r_mgetA (kk := 50) h inU12 rfl (by decide) uf_129 rfl rfl dX12_approvedAt_95 ?_
            refine r_iload_n (x := a2) dX12_approvedAt_98 rfl rfl ?_
            refine r_miald h (by decide) dX12_approvedAt_99 ?_
            refine r_goto (tgt := 104) dX12_approvedAt_100 (by decide) ?_
            refine r_lo [] (lo2 := []) rfl ?_
            exact hJ104 _ _
        · refine ro_iconst (v := (-1)) dX12_approvedAt_76 rfl ?_
          exact r_iret rfl dX12_approvedAt_77
      · refine r_aload_n (x := mo) dX12_approvedAt_30 rfl rfl ?_
        refine r_mgetA (kk := 14) h inU12 rfl (by decide) uf_34 rfl rfl dX12_approvedAt_31 ?_
        refine r_iload (x := v4_21) dX12_approvedAt_34 rfl ?_
        refine r_miald h (by decide) dX12_approvedAt_36 ?_
        refine r_aload_n (x := mo) dX12_approvedAt_37 rfl rfl ?_
        refine r_mgetA (kk := 6) h inU12 rfl (by decide) uf_19 rfl rfl dX12_approvedAt_38 ?_
        refine r_iload_n (x := a1) dX12_approvedAt_41 rfl rfl ?_
        refine r_miald h (by decide) dX12_approvedAt_42 ?_
        refine r_join (P := fun (J : Int → Md → Option (Int × Md)) => ∀ (v3_65 : Int) (M_65 : Md), RunO l Γ k_X12_approvedAt 9 encI (emM K0) 65 [(0, .ref mo), (1, wi a1), (2, wi a2), (3, wi v3_65), (4, wi v4_21)] [] M_65 (J v3_65 M_65)) ?_ (fun J65 hJ65 => ?_)
        · intro v3_65 M_65
          refine r_iinc (x := v4_21) (lo2 := [(4, wi (v4_21 + 1)), (0, .ref mo), (1, wi a1), (2, wi a2), (3, wi v3_65)]) dX12_approvedAt_65 rfl (by decide) rfl ?_
          refine r_goto (tgt := 21) dX12_approvedAt_68 (by decide) ?_
          refine r_lo [1, 2, 3, 4, 0] (lo2 := [(0, .ref mo), (1, wi a1), (2, wi a2), (3, wi v3_65), (4, wi (v4_21 + 1))]) rfl ?_
          exact hL21 _ _ _
        refine r_icmp_ne (tgt := 65) dX12_approvedAt_43 (by decide) ?_ ?_
        · exact hJ65 _ _
        · refine r_aload_n (x := mo) dX12_approvedAt_46 rfl rfl ?_
          refine r_aload_n (x := mo) dX12_approvedAt_47 rfl rfl ?_
          refine r_mgetA (kk := 15) h inU12 rfl (by decide) uf_37 rfl rfl dX12_approvedAt_48 ?_
          refine r_iload (x := v4_21) dX12_approvedAt_51 rfl ?_
          refine r_miald h (by decide) dX12_approvedAt_53 ?_
          refine r_mput (kk := 39) h inU12 rfl (by decide) uf_232 rfl rfl rfl rfl dX12_approvedAt_54 (fun M6 => ?_)
          refine r_aload_n (x := mo) dX12_approvedAt_57 rfl rfl ?_
          refine r_mgetA (kk := 16) h inU12 rfl (by decide) uf_40 rfl rfl dX12_approvedAt_58 ?_
          refine r_iload (x := v4_21) dX12_approvedAt_61 rfl ?_
          refine r_miald h (by decide) dX12_approvedAt_63 ?_
          refine r_nm (fun x3_64 => ?_)
          refine r_istore_n (lo2 := [(3, wi x3_64), (0, .ref mo), (1, wi a1), (2, wi a2), (4, wi v4_21)]) dX12_approvedAt_64 rfl (by decide) rfl ?_
          refine r_lo [1, 2, 3, 0, 4] (lo2 := [(0, .ref mo), (1, wi a1), (2, wi a2), (3, wi x3_64), (4, wi v4_21)]) rfl ?_
          exact hJ65 _ _
    refine r_lo [2, 3, 4, 1, 0] (lo2 := [(0, .ref mo), (1, wi a1), (2, wi a2), (3, wi (-1)), (4, wi 0)]) rfl ?_
    exact hJ21 _ _ _
  · refine ro_iconst (v := 0) dX12_approvedAt_9 rfl ?_
    exact r_iret rfl dX12_approvedAt_10
def k_X12_sectionFrom : Kd := (yX12_sectionFrom, cX12_sectionFrom, 6, some .int, [])
theorem kv_X12_sectionFrom : KS k_X12_sectionFrom 4 := ⟨uw_mem 2143 (by decide +kernel) rfl, uw_mem 170 (by decide +kernel) rfl, uw_mem 2142 (by decide +kernel) rfl, ⟨by decide +kernel, by decide +kernel⟩, by decide +kernel, by decide +kernel⟩
set_option maxHeartbeats 4000000 in
set_option maxRecDepth 100000 in
theorem c_X12_sectionFrom {l : Launch} {Γ : Cx} {K0 : Cd} {mo : Nat} {ma : Nat → Nat} (h : mOn Γ mo ma) (a0 : Nat) (a1 : Int) (a2 : Int) (a3 : Int) (hA0 : a0 ∈ mAs) (M : Md) : Ct l Γ k_X12_sectionFrom 1 encI (emM K0) [.ref (ma a0), wi a1, wi a2, wi a3] M (fX12_sectionFrom a0 a1 a2 a3 M) := by
  refine ct_of (by decide +kernel) rfl (Nat.le_of_ble_eq_true rfl) ?_
  refine r_lo [0, 1, 2, 3] (lo2 := [(0, .ref (ma a0)), (1, wi a1), (2, wi a2), (3, wi a3)]) rfl ?_
  unfold fX12_sectionFrom
  refine r_iload_n (x := a3) dX12_sectionFrom_0 rfl rfl ?_
  refine r_istore (lo2 := [(4, wi a3), (0, .ref (ma a0)), (1, wi a1), (2, wi a2), (3, wi a3)]) dX12_sectionFrom_1 (by decide) rfl ?_
  refine ro_iconst (v := 0) dX12_sectionFrom_3 rfl ?_
  refine r_istore (lo2 := [(5, wi 0), (4, wi a3), (0, .ref (ma a0)), (1, wi a1), (2, wi a2), (3, wi a3)]) dX12_sectionFrom_4 (by decide) rfl ?_
  refine r_loop (P := fun (J : Int → Int → Md → Option (Int × Md)) => ∀ (v4_6 : Int) (v5_6 : Int) (M_6 : Md), RunO l Γ k_X12_sectionFrom 1 encI (emM K0) 6 [(0, .ref (ma a0)), (1, wi a1), (2, wi a2), (3, wi a3), (4, wi v4_6), (5, wi v5_6)] [] M_6 (J v4_6 v5_6 M_6)) ?_ (fun L6 hL6 => ?_) (fun J6 hJ6 => ?_)
  · intros; exact ro_none
  · intro v4_6 v5_6 M_6
    refine r_iload (x := v5_6) dX12_sectionFrom_6 rfl ?_
    refine r_iload_n (x := a2) dX12_sectionFrom_8 rfl rfl ?_
    refine r_join (P := fun (J : Md → Option (Int × Md)) => ∀ (M_55 : Md), RunO l Γ k_X12_sectionFrom 1 encI (emM K0) 55 [(2, wi a2), (3, wi a3)] [] M_55 (J M_55)) ?_ (fun J55 hJ55 => ?_)
    · intro M_55
      refine r_iload_n (x := a3) dX12_sectionFrom_55 rfl rfl ?_
      refine r_join (P := fun (J : Int → Md → Option (Int × Md)) => ∀ (t0_64 : Int) (M_64 : Md), RunO l Γ k_X12_sectionFrom 1 encI (emM K0) 64 [] [wi t0_64] M_64 (J t0_64 M_64)) ?_ (fun J64 hJ64 => ?_)
      · intro t0_64 M_64
        exact r_iret rfl dX12_sectionFrom_64
      refine r_if_ne (tgt := 63) dX12_sectionFrom_56 (by decide) ?_ ?_
      · refine r_iload_n (x := a2) dX12_sectionFrom_63 rfl rfl ?_
        refine r_lo [] (lo2 := []) rfl ?_
        exact hJ64 _ _
      · refine ro_iconst (v := 0) dX12_sectionFrom_59 rfl ?_
        refine r_goto (tgt := 64) dX12_sectionFrom_60 (by decide) ?_
        refine r_lo [] (lo2 := []) rfl ?_
        exact hJ64 _ _
    refine r_icmp_ge (tgt := 55) dX12_sectionFrom_9 (by decide) ?_ ?_
    · refine r_lo [2, 3] (lo2 := [(2, wi a2), (3, wi a3)]) rfl ?_
      exact hJ55 _
    · refine r_iload_n (x := a3) dX12_sectionFrom_12 rfl rfl ?_
      refine r_if_le (tgt := 55) dX12_sectionFrom_13 (by decide) ?_ ?_
      · refine r_lo [2, 3] (lo2 := [(2, wi a2), (3, wi a3)]) rfl ?_
        exact hJ55 _
      · refine r_iload (x := v4_6) dX12_sectionFrom_16 rfl ?_
        refine r_aload_n (x := ma a0) dX12_sectionFrom_18 rfl rfl ?_
        refine r_iload_n (x := a1) dX12_sectionFrom_19 rfl rfl ?_
        refine r_iload (x := v5_6) dX12_sectionFrom_20 rfl ?_
        refine r_iadd dX12_sectionFrom_22 ?_
        refine r_miald h hA0 dX12_sectionFrom_23 ?_
        refine r_sipush (v := 1000) dX12_sectionFrom_24 rfl ?_
        refine r_idiv dX12_sectionFrom_27 (by decide) ?_
        refine r_bipush (v := 13) dX12_sectionFrom_28 rfl ?_
        refine r_join (P := fun (J : Int → Md → Option (Int × Md)) => ∀ (t0_38 : Int) (M_38 : Md), RunO l Γ k_X12_sectionFrom 1 encI (emM K0) 38 [(0, .ref (ma a0)), (1, wi a1), (2, wi a2), (3, wi a3), (5, wi v5_6)] [wi t0_38, wi v4_6] M_38 (J t0_38 M_38)) ?_ (fun J38 hJ38 => ?_)
        · intro t0_38 M_38
          refine r_isub dX12_sectionFrom_38 ?_
          refine r_nm (fun x4_39 => ?_)
          refine r_istore (lo2 := [(4, wi x4_39), (0, .ref (ma a0)), (1, wi a1), (2, wi a2), (3, wi a3), (5, wi v5_6)]) dX12_sectionFrom_39 (by decide) rfl ?_
          refine r_iload (x := x4_39) dX12_sectionFrom_41 rfl ?_
          refine r_if_ne (tgt := 49) dX12_sectionFrom_43 (by decide) ?_ ?_
          · refine r_iinc (x := v5_6) (lo2 := [(5, wi (v5_6 + 1)), (4, wi x4_39), (0, .ref (ma a0)), (1, wi a1), (2, wi a2), (3, wi a3)]) dX12_sectionFrom_49 rfl (by decide) rfl ?_
            refine r_goto (tgt := 6) dX12_sectionFrom_52 (by decide) ?_
            refine r_lo [2, 3, 4, 5, 1, 0] (lo2 := [(0, .ref (ma a0)), (1, wi a1), (2, wi a2), (3, wi a3), (4, wi x4_39), (5, wi (v5_6 + 1))]) rfl ?_
            exact hL6 _ _ _
          · refine r_iload (x := v5_6) dX12_sectionFrom_46 rfl ?_
            exact r_iret rfl dX12_sectionFrom_48
        refine r_icmp_ne (tgt := 37) dX12_sectionFrom_30 (by decide) ?_ ?_
        · refine ro_iconst (v := 0) dX12_sectionFrom_37 rfl ?_
          refine r_lo [0, 1, 2, 3, 5] (lo2 := [(0, .ref (ma a0)), (1, wi a1), (2, wi a2), (3, wi a3), (5, wi v5_6)]) rfl ?_
          exact hJ38 _ _
        · refine ro_iconst (v := 1) dX12_sectionFrom_33 rfl ?_
          refine r_goto (tgt := 38) dX12_sectionFrom_34 (by decide) ?_
          refine r_lo [0, 1, 2, 3, 5] (lo2 := [(0, .ref (ma a0)), (1, wi a1), (2, wi a2), (3, wi a3), (5, wi v5_6)]) rfl ?_
          exact hJ38 _ _
  refine r_lo [2, 3, 4, 5, 1, 0] (lo2 := [(0, .ref (ma a0)), (1, wi a1), (2, wi a2), (3, wi a3), (4, wi a3), (5, wi 0)]) rfl ?_
  exact hJ6 _ _ _
def k_X12_areAlike : Kd := (yX12_areAlike, cX12_areAlike, 12, some .boolean, [])
theorem kv_X12_areAlike : KS k_X12_areAlike 7 := ⟨uw_mem 2150 (by decide +kernel) rfl, uw_mem 170 (by decide +kernel) rfl, uw_mem 2149 (by decide +kernel) rfl, ⟨by decide +kernel, by decide +kernel⟩, by decide +kernel, by decide +kernel⟩
set_option maxHeartbeats 4000000 in
set_option maxRecDepth 100000 in
theorem c_X12_areAlike {l : Launch} {Γ : Cx} {K0 : Cd} {mo : Nat} {ma : Nat → Nat} (h : mOn Γ mo ma) (a0 : Nat) (a1 : Int) (a2 : Int) (a3 : Nat) (a4 : Int) (a5 : Int) (a6 : Int) (hA0 : a0 ∈ mAs) (hA3 : a3 ∈ mAs) (M : Md) : Ct l Γ k_X12_areAlike 2 encI (emM K0) [.ref (ma a0), wi a1, wi a2, .ref (ma a3), wi a4, wi a5, wi a6] M (fX12_areAlike a0 a1 a2 a3 a4 a5 a6 M) := by
  refine ct_of (by decide +kernel) rfl (Nat.le_of_ble_eq_true rfl) ?_
  refine r_lo [0, 1, 2, 3, 4, 5, 6] (lo2 := [(0, .ref (ma a0)), (1, wi a1), (2, wi a2), (3, .ref (ma a3)), (4, wi a4), (5, wi a5), (6, wi a6)]) rfl ?_
  unfold fX12_areAlike
  refine r_aload_n (x := ma a0) dX12_areAlike_0 rfl rfl ?_
  refine r_iload_n (x := a1) dX12_areAlike_1 rfl rfl ?_
  refine r_iload_n (x := a2) dX12_areAlike_2 rfl rfl ?_
  refine r_iload (x := a6) dX12_areAlike_3 rfl ?_
  refine r_callSi (k2 := k_X12_sectionFrom) (n := 4) (rest := []) rfl kv_X12_sectionFrom (c_X12_sectionFrom h _ _ _ _ hA0 _) (by decide) um_416 rfl (Nat.le_of_ble_eq_true rfl) dX12_areAlike_5 rfl (fun r2 M1 => ?_)
  refine r_istore (lo2 := [(7, wi r2), (0, .ref (ma a0)), (1, wi a1), (2, wi a2), (3, .ref (ma a3)), (4, wi a4), (5, wi a5), (6, wi a6)]) dX12_areAlike_8 (by decide) rfl ?_
  refine r_aload_n (x := ma a0) dX12_areAlike_10 rfl rfl ?_
  refine r_iload_n (x := a1) dX12_areAlike_11 rfl rfl ?_
  refine r_iload_n (x := a2) dX12_areAlike_12 rfl rfl ?_
  refine r_iload (x := a6) dX12_areAlike_13 rfl ?_
  refine ro_iconst (v := 1) dX12_areAlike_15 rfl ?_
  refine r_iadd dX12_areAlike_16 ?_
  refine r_callSi (k2 := k_X12_sectionFrom) (n := 4) (rest := []) rfl kv_X12_sectionFrom (c_X12_sectionFrom h _ _ _ _ hA0 _) (by decide) um_416 rfl (Nat.le_of_ble_eq_true rfl) dX12_areAlike_17 rfl (fun r4 M3 => ?_)
  refine r_iload (x := r2) dX12_areAlike_20 rfl ?_
  refine r_isub dX12_areAlike_22 ?_
  refine r_nm (fun x8_23 => ?_)
  refine r_istore (lo2 := [(8, wi x8_23), (7, wi r2), (0, .ref (ma a0)), (1, wi a1), (2, wi a2), (3, .ref (ma a3)), (4, wi a4), (5, wi a5), (6, wi a6)]) dX12_areAlike_23 (by decide) rfl ?_
  refine r_aload_n (x := ma a3) dX12_areAlike_25 rfl rfl ?_
  refine r_iload (x := a4) dX12_areAlike_26 rfl ?_
  refine r_iload (x := a5) dX12_areAlike_28 rfl ?_
  refine r_iload (x := a6) dX12_areAlike_30 rfl ?_
  refine r_callSi (k2 := k_X12_sectionFrom) (n := 4) (rest := []) rfl kv_X12_sectionFrom (c_X12_sectionFrom h _ _ _ _ hA3 _) (by decide) um_416 rfl (Nat.le_of_ble_eq_true rfl) dX12_areAlike_32 rfl (fun r6 M5 => ?_)
  refine r_istore (lo2 := [(9, wi r6), (8, wi x8_23), (7, wi r2), (0, .ref (ma a0)), (1, wi a1), (2, wi a2), (3, .ref (ma a3)), (4, wi a4), (5, wi a5), (6, wi a6)]) dX12_areAlike_35 (by decide) rfl ?_
  refine r_iload (x := x8_23) dX12_areAlike_37 rfl ?_
  refine r_aload_n (x := ma a3) dX12_areAlike_39 rfl rfl ?_
  refine r_iload (x := a4) dX12_areAlike_40 rfl ?_
  refine r_iload (x := a5) dX12_areAlike_42 rfl ?_
  refine r_iload (x := a6) dX12_areAlike_44 rfl ?_
  refine ro_iconst (v := 1) dX12_areAlike_46 rfl ?_
  refine r_iadd dX12_areAlike_47 ?_
  refine r_callSi (k2 := k_X12_sectionFrom) (n := 4) (rest := [wi x8_23]) rfl kv_X12_sectionFrom (c_X12_sectionFrom h _ _ _ _ hA3 _) (by decide) um_416 rfl (Nat.le_of_ble_eq_true rfl) dX12_areAlike_48 rfl (fun r8 M7 => ?_)
  refine r_iload (x := r6) dX12_areAlike_51 rfl ?_
  refine r_isub dX12_areAlike_53 ?_
  refine r_join (P := fun (J : Int → Md → Option (Int × Md)) => ∀ (t0_62 : Int) (M_62 : Md), RunO l Γ k_X12_areAlike 2 encI (emM K0) 62 [(0, .ref (ma a0)), (1, wi a1), (3, .ref (ma a3)), (4, wi a4), (7, wi r2), (8, wi x8_23), (9, wi r6)] [wi t0_62] M_62 (J t0_62 M_62)) ?_ (fun J62 hJ62 => ?_)
  · intro t0_62 M_62
    refine r_istore (lo2 := [(10, wi t0_62), (0, .ref (ma a0)), (1, wi a1), (3, .ref (ma a3)), (4, wi a4), (7, wi r2), (8, wi x8_23), (9, wi r6)]) dX12_areAlike_62 (by decide) rfl ?_
    refine ro_iconst (v := 0) dX12_areAlike_64 rfl ?_
    refine r_istore (lo2 := [(11, wi 0), (10, wi t0_62), (0, .ref (ma a0)), (1, wi a1), (3, .ref (ma a3)), (4, wi a4), (7, wi r2), (8, wi x8_23), (9, wi r6)]) dX12_areAlike_65 (by decide) rfl ?_
    refine r_loop (P := fun (J : Int → Int → Md → Option (Int × Md)) => ∀ (v10_67 : Int) (v11_67 : Int) (M_67 : Md), RunO l Γ k_X12_areAlike 2 encI (emM K0) 67 [(0, .ref (ma a0)), (1, wi a1), (3, .ref (ma a3)), (4, wi a4), (7, wi r2), (8, wi x8_23), (9, wi r6), (10, wi v10_67), (11, wi v11_67)] [] M_67 (J v10_67 v11_67 M_67)) ?_ (fun L67 hL67 => ?_) (fun J67 hJ67 => ?_)
    · intros; exact ro_none
    · intro v10_67 v11_67 M_67
      refine r_iload (x := v11_67) dX12_areAlike_67 rfl ?_
      refine r_iload (x := x8_23) dX12_areAlike_69 rfl ?_
      refine r_join (P := fun (J : Md → Option (Int × Md)) => ∀ (M_114 : Md), RunO l Γ k_X12_areAlike 2 encI (emM K0) 114 [(10, wi v10_67)] [] M_114 (J M_114)) ?_ (fun J114 hJ114 => ?_)
      · intro M_114
        refine r_iload (x := v10_67) dX12_areAlike_114 rfl ?_
        exact r_zret rfl dX12_areAlike_116
      refine r_icmp_ge (tgt := 114) dX12_areAlike_71 (by decide) ?_ ?_
      · refine r_lo [7] (lo2 := [(10, wi v10_67)]) rfl ?_
        exact hJ114 _
      · refine r_iload (x := v10_67) dX12_areAlike_74 rfl ?_
        refine r_if_eq (tgt := 114) dX12_areAlike_76 (by decide) ?_ ?_
        · refine r_lo [7] (lo2 := [(10, wi v10_67)]) rfl ?_
          exact hJ114 _
        · refine r_aload_n (x := ma a0) dX12_areAlike_79 rfl rfl ?_
          refine r_iload_n (x := a1) dX12_areAlike_80 rfl rfl ?_
          refine r_iload (x := r2) dX12_areAlike_81 rfl ?_
          refine r_iadd dX12_areAlike_83 ?_
          refine r_iload (x := v11_67) dX12_areAlike_84 rfl ?_
          refine r_iadd dX12_areAlike_86 ?_
          refine r_miald h hA0 dX12_areAlike_87 ?_
          refine r_aload_n (x := ma a3) dX12_areAlike_88 rfl rfl ?_
          refine r_iload (x := a4) dX12_areAlike_89 rfl ?_
          refine r_iload (x := r6) dX12_areAlike_91 rfl ?_
          refine r_iadd dX12_areAlike_93 ?_
          refine r_iload (x := v11_67) dX12_areAlike_94 rfl ?_
          refine r_iadd dX12_areAlike_96 ?_
          refine r_miald h hA3 dX12_areAlike_97 ?_
          refine r_join (P := fun (J : Int → Md → Option (Int × Md)) => ∀ (t0_106 : Int) (M_106 : Md), RunO l Γ k_X12_areAlike 2 encI (emM K0) 106 [(0, .ref (ma a0)), (1, wi a1), (3, .ref (ma a3)), (4, wi a4), (7, wi r2), (8, wi x8_23), (9, wi r6), (11, wi v11_67)] [wi t0_106] M_106 (J t0_106 M_106)) ?_ (fun J106 hJ106 => ?_)
          · intro t0_106 M_106
            refine r_istore (lo2 := [(10, wi t0_106), (0, .ref (ma a0)), (1, wi a1), (3, .ref (ma a3)), (4, wi a4), (7, wi r2), (8, wi x8_23), (9, wi r6), (11, wi v11_67)]) dX12_areAlike_106 (by decide) rfl ?_
            refine r_iinc (x := v11_67) (lo2 := [(11, wi (v11_67 + 1)), (10, wi t0_106), (0, .ref (ma a0)), (1, wi a1), (3, .ref (ma a3)), (4, wi a4), (7, wi r2), (8, wi x8_23), (9, wi r6)]) dX12_areAlike_108 rfl (by decide) rfl ?_
            refine r_goto (tgt := 67) dX12_areAlike_111 (by decide) ?_
            refine r_lo [2, 3, 4, 5, 6, 7, 8, 1, 0] (lo2 := [(0, .ref (ma a0)), (1, wi a1), (3, .ref (ma a3)), (4, wi a4), (7, wi r2), (8, wi x8_23), (9, wi r6), (10, wi t0_106), (11, wi (v11_67 + 1))]) rfl ?_
            exact hL67 _ _ _
          refine r_icmp_ne (tgt := 105) dX12_areAlike_98 (by decide) ?_ ?_
          · refine ro_iconst (v := 0) dX12_areAlike_105 rfl ?_
            refine r_lo [0, 1, 2, 3, 4, 5, 6, 8] (lo2 := [(0, .ref (ma a0)), (1, wi a1), (3, .ref (ma a3)), (4, wi a4), (7, wi r2), (8, wi x8_23), (9, wi r6), (11, wi v11_67)]) rfl ?_
            exact hJ106 _ _
          · refine ro_iconst (v := 1) dX12_areAlike_101 rfl ?_
            refine r_goto (tgt := 106) dX12_areAlike_102 (by decide) ?_
            refine r_lo [0, 1, 2, 3, 4, 5, 6, 8] (lo2 := [(0, .ref (ma a0)), (1, wi a1), (3, .ref (ma a3)), (4, wi a4), (7, wi r2), (8, wi x8_23), (9, wi r6), (11, wi v11_67)]) rfl ?_
            exact hJ106 _ _
    refine r_lo [2, 3, 4, 5, 6, 7, 8, 1, 0] (lo2 := [(0, .ref (ma a0)), (1, wi a1), (3, .ref (ma a3)), (4, wi a4), (7, wi r2), (8, wi x8_23), (9, wi r6), (10, wi t0_62), (11, wi 0)]) rfl ?_
    exact hJ67 _ _ _
  refine r_icmp_ne (tgt := 61) dX12_areAlike_54 (by decide) ?_ ?_
  · refine ro_iconst (v := 0) dX12_areAlike_61 rfl ?_
    refine r_lo [3, 4, 6, 7, 2, 1, 0] (lo2 := [(0, .ref (ma a0)), (1, wi a1), (3, .ref (ma a3)), (4, wi a4), (7, wi r2), (8, wi x8_23), (9, wi r6)]) rfl ?_
    exact hJ62 _ _
  · refine ro_iconst (v := 1) dX12_areAlike_57 rfl ?_
    refine r_goto (tgt := 62) dX12_areAlike_58 (by decide) ?_
    refine r_lo [3, 4, 6, 7, 2, 1, 0] (lo2 := [(0, .ref (ma a0)), (1, wi a1), (3, .ref (ma a3)), (4, wi a4), (7, wi r2), (8, wi x8_23), (9, wi r6)]) rfl ?_
    exact hJ62 _ _
