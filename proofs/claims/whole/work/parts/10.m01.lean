def k_X12_membersOf : Kd := (yX12_membersOf, cX12_membersOf, 4, some .int, [])
theorem kv_X12_membersOf : KV k_X12_membersOf 1 := ⟨uw_mem 1996 (by decide +kernel) rfl, uw_mem 170 (by decide +kernel) rfl, uw_mem 1995 (by decide +kernel) rfl, uw_mem 117 (by decide +kernel) rfl, ⟨by decide +kernel, by decide +kernel⟩, by decide +kernel, by decide +kernel⟩
set_option maxHeartbeats 4000000 in
set_option maxRecDepth 100000 in
theorem c_X12_membersOf {l : Launch} {Γ : Cx} {K0 : Cd} {mo : Nat} {ma : Nat → Nat} (h : mOn Γ mo ma) (a1 : Int) (M : Md) : Ct l Γ k_X12_membersOf 1 encI (emM K0) [.ref mo, wi a1] M (fX12_membersOf a1 M) := by
  refine ct_of (by decide +kernel) rfl (Nat.le_of_ble_eq_true rfl) ?_
  refine r_lo [0, 1] (lo2 := [(0, .ref mo), (1, wi a1)]) rfl ?_
  unfold fX12_membersOf
  refine ro_iconst (v := 0) dX12_membersOf_0 rfl ?_
  refine r_istore_n (lo2 := [(2, wi 0), (0, .ref mo), (1, wi a1)]) dX12_membersOf_1 rfl (by decide) rfl ?_
  refine ro_iconst (v := 0) dX12_membersOf_2 rfl ?_
  refine r_istore_n (lo2 := [(3, wi 0), (2, wi 0), (0, .ref mo), (1, wi a1)]) dX12_membersOf_3 rfl (by decide) rfl ?_
  refine r_loop (P := fun (J : Int → Int → Md → Option (Int × Md)) => ∀ (v2_4 : Int) (v3_4 : Int) (M_4 : Md), RunO l Γ k_X12_membersOf 1 encI (emM K0) 4 [(0, .ref mo), (1, wi a1), (2, wi v2_4), (3, wi v3_4)] [] M_4 (J v2_4 v3_4 M_4)) ?_ (fun L4 hL4 => ?_) (fun J4 hJ4 => ?_)
  · intros; exact ro_none
  · intro v2_4 v3_4 M_4
    refine r_iload_n (x := v3_4) dX12_membersOf_4 rfl rfl ?_
    refine r_bipush (v := 24) dX12_membersOf_5 rfl ?_
    refine r_icmp_ge (tgt := 31) dX12_membersOf_7 (by decide) ?_ ?_
    · refine r_iload_n (x := v2_4) dX12_membersOf_31 rfl rfl ?_
      exact r_iret rfl dX12_membersOf_32
    · refine r_iload_n (x := v2_4) dX12_membersOf_10 rfl rfl ?_
      refine r_aload_n (x := mo) dX12_membersOf_11 rfl rfl ?_
      refine r_mgetA (kk := 32) h inU12 rfl (by decide) uf_86 rfl rfl dX12_membersOf_12 ?_
      refine r_iload_n (x := v3_4) dX12_membersOf_15 rfl rfl ?_
      refine r_miald h (by decide) dX12_membersOf_16 ?_
      refine r_iload_n (x := a1) dX12_membersOf_17 rfl rfl ?_
      refine r_ishr dX12_membersOf_18 ?_
      refine ro_iconst (v := 1) dX12_membersOf_19 rfl ?_
      refine r_iand dX12_membersOf_20 ?_
      refine r_iload_n (x := v3_4) dX12_membersOf_21 rfl rfl ?_
      refine r_ishl dX12_membersOf_22 ?_
      refine r_ior dX12_membersOf_23 ?_
      refine r_nm (fun x2_24 => ?_)
      refine r_istore_n (lo2 := [(2, wi x2_24), (0, .ref mo), (1, wi a1), (3, wi v3_4)]) dX12_membersOf_24 rfl (by decide) rfl ?_
      refine r_iinc (x := v3_4) (lo2 := [(3, wi (v3_4 + 1)), (2, wi x2_24), (0, .ref mo), (1, wi a1)]) dX12_membersOf_25 rfl (by decide) rfl ?_
      refine r_goto (tgt := 4) dX12_membersOf_28 (by decide) ?_
      refine r_lo [2, 3, 1, 0] (lo2 := [(0, .ref mo), (1, wi a1), (2, wi x2_24), (3, wi (v3_4 + 1))]) rfl ?_
      exact hL4 _ _ _
  refine r_lo [2, 3, 1, 0] (lo2 := [(0, .ref mo), (1, wi a1), (2, wi 0), (3, wi 0)]) rfl ?_
  exact hJ4 _ _ _
def k_X12_countOf : Kd := (yX12_countOf, cX12_countOf, 3, some .int, [])
theorem kv_X12_countOf : KS k_X12_countOf 1 := ⟨uw_mem 1999 (by decide +kernel) rfl, uw_mem 170 (by decide +kernel) rfl, uw_mem 1998 (by decide +kernel) rfl, ⟨by decide +kernel, by decide +kernel⟩, by decide +kernel, by decide +kernel⟩
set_option maxHeartbeats 4000000 in
set_option maxRecDepth 100000 in
theorem c_X12_countOf {l : Launch} {Γ : Cx} {K0 : Cd} {mo : Nat} {ma : Nat → Nat} (h : mOn Γ mo ma) (a0 : Int) (M : Md) : Ct l Γ k_X12_countOf 1 encI (emM K0) [wi a0] M (fX12_countOf a0 M) := by
  refine ct_of (by decide +kernel) rfl (Nat.le_of_ble_eq_true rfl) ?_
  refine r_lo [0] (lo2 := [(0, wi a0)]) rfl ?_
  unfold fX12_countOf
  refine ro_iconst (v := 0) dX12_countOf_0 rfl ?_
  refine r_istore_n (lo2 := [(1, wi 0), (0, wi a0)]) dX12_countOf_1 rfl (by decide) rfl ?_
  refine r_iload_n (x := a0) dX12_countOf_2 rfl rfl ?_
  refine r_istore_n (lo2 := [(2, wi a0), (1, wi 0), (0, wi a0)]) dX12_countOf_3 rfl (by decide) rfl ?_
  refine r_loop (P := fun (J : Int → Int → Md → Option (Int × Md)) => ∀ (v1_4 : Int) (v2_4 : Int) (M_4 : Md), RunO l Γ k_X12_countOf 1 encI (emM K0) 4 [(1, wi v1_4), (2, wi v2_4)] [] M_4 (J v1_4 v2_4 M_4)) ?_ (fun L4 hL4 => ?_) (fun J4 hJ4 => ?_)
  · intros; exact ro_none
  · intro v1_4 v2_4 M_4
    refine r_iload_n (x := v2_4) dX12_countOf_4 rfl rfl ?_
    refine r_if_le (tgt := 21) dX12_countOf_5 (by decide) ?_ ?_
    · refine r_iload_n (x := v1_4) dX12_countOf_21 rfl rfl ?_
      exact r_iret rfl dX12_countOf_22
    · refine r_iload_n (x := v1_4) dX12_countOf_8 rfl rfl ?_
      refine r_iload_n (x := v2_4) dX12_countOf_9 rfl rfl ?_
      refine ro_iconst (v := 1) dX12_countOf_10 rfl ?_
      refine r_iand dX12_countOf_11 ?_
      refine r_iadd dX12_countOf_12 ?_
      refine r_nm (fun x1_13 => ?_)
      refine r_istore_n (lo2 := [(1, wi x1_13), (2, wi v2_4)]) dX12_countOf_13 rfl (by decide) rfl ?_
      refine r_iload_n (x := v2_4) dX12_countOf_14 rfl rfl ?_
      refine ro_iconst (v := 1) dX12_countOf_15 rfl ?_
      refine r_ishr dX12_countOf_16 ?_
      refine r_nm (fun x2_17 => ?_)
      refine r_istore_n (lo2 := [(2, wi x2_17), (1, wi x1_13)]) dX12_countOf_17 rfl (by decide) rfl ?_
      refine r_goto (tgt := 4) dX12_countOf_18 (by decide) ?_
      refine r_lo [1, 0] (lo2 := [(1, wi x1_13), (2, wi x2_17)]) rfl ?_
      exact hL4 _ _ _
  refine r_lo [1, 0] (lo2 := [(1, wi 0), (2, wi a0)]) rfl ?_
  exact hJ4 _ _ _
def k_X12_listMembers : Kd := (yX12_listMembers, cX12_listMembers, 4, none, [])
theorem kv_X12_listMembers : KV k_X12_listMembers 2 := ⟨uw_mem 2003 (by decide +kernel) rfl, uw_mem 170 (by decide +kernel) rfl, uw_mem 2002 (by decide +kernel) rfl, uw_mem 118 (by decide +kernel) rfl, ⟨by decide +kernel, by decide +kernel⟩, by decide +kernel, by decide +kernel⟩
set_option maxHeartbeats 4000000 in
set_option maxRecDepth 100000 in
theorem c_X12_listMembers {l : Launch} {Γ : Cx} {K0 : Cd} {mo : Nat} {ma : Nat → Nat} (h : mOn Γ mo ma) (a1 : Int) (a2 : Int) (M : Md) : Ct l Γ k_X12_listMembers 2 encV (emM K0) [.ref mo, wi a1, wi a2] M (fX12_listMembers a1 a2 M) := by
  refine ct_of (by decide +kernel) rfl (Nat.le_of_ble_eq_true rfl) ?_
  refine r_lo [0, 1, 2] (lo2 := [(0, .ref mo), (1, wi a1), (2, wi a2)]) rfl ?_
  unfold fX12_listMembers
  refine ro_iconst (v := 0) dX12_listMembers_0 rfl ?_
  refine r_istore_n (lo2 := [(3, wi 0), (0, .ref mo), (1, wi a1), (2, wi a2)]) dX12_listMembers_1 rfl (by decide) rfl ?_
  refine r_loop (P := fun (J : Int → Md → Option (Unit × Md)) => ∀ (v3_2 : Int) (M_2 : Md), RunO l Γ k_X12_listMembers 2 encV (emM K0) 2 [(0, .ref mo), (1, wi a1), (2, wi a2), (3, wi v3_2)] [] M_2 (J v3_2 M_2)) ?_ (fun L2 hL2 => ?_) (fun J2 hJ2 => ?_)
  · intros; exact ro_none
  · intro v3_2 M_2
    refine r_iload_n (x := v3_2) dX12_listMembers_2 rfl rfl ?_
    refine r_bipush (v := 24) dX12_listMembers_3 rfl ?_
    refine r_icmp_ge (tgt := 45) dX12_listMembers_5 (by decide) ?_ ?_
    · exact r_vret rfl dX12_listMembers_45
    · refine r_iload_n (x := a2) dX12_listMembers_8 rfl rfl ?_
      refine r_iload_n (x := v3_2) dX12_listMembers_9 rfl rfl ?_
      refine r_ishr dX12_listMembers_10 ?_
      refine ro_iconst (v := 1) dX12_listMembers_11 rfl ?_
      refine r_iand dX12_listMembers_12 ?_
      refine ro_iconst (v := 1) dX12_listMembers_13 rfl ?_
      refine r_join (P := fun (J : Md → Option (Unit × Md)) => ∀ (M_39 : Md), RunO l Γ k_X12_listMembers 2 encV (emM K0) 39 [(0, .ref mo), (1, wi a1), (2, wi a2), (3, wi v3_2)] [] M_39 (J M_39)) ?_ (fun J39 hJ39 => ?_)
      · intro M_39
        refine r_iinc (x := v3_2) (lo2 := [(3, wi (v3_2 + 1)), (0, .ref mo), (1, wi a1), (2, wi a2)]) dX12_listMembers_39 rfl (by decide) rfl ?_
        refine r_goto (tgt := 2) dX12_listMembers_42 (by decide) ?_
        refine r_lo [1, 2, 3, 0] (lo2 := [(0, .ref mo), (1, wi a1), (2, wi a2), (3, wi (v3_2 + 1))]) rfl ?_
        exact hL2 _ _
      refine r_icmp_ne (tgt := 39) dX12_listMembers_14 (by decide) ?_ ?_
      · exact hJ39 _
      · refine r_aload_n (x := mo) dX12_listMembers_17 rfl rfl ?_
        refine r_iload_n (x := a1) dX12_listMembers_18 rfl rfl ?_
        refine r_sipush (v := 1000) dX12_listMembers_19 rfl ?_
        refine r_iload_n (x := v3_2) dX12_listMembers_22 rfl rfl ?_
        refine r_iadd dX12_listMembers_23 ?_
        refine r_callVv (k2 := k_X12_append) (n := 2) (rest := []) rfl kv_X12_append (c_X12_append h _ _ _) (by decide) um_251 rfl (Nat.le_of_ble_eq_true rfl) dX12_listMembers_24 (m_rec h) rfl (fun r2 M1 => ?_)
        refine r_aload_n (x := mo) dX12_listMembers_27 rfl rfl ?_
        refine r_dup dX12_listMembers_28 rfl ?_
        refine r_mget (kk := 66) h inU12 rfl (by decide) uf_276 rfl rfl dX12_listMembers_29 ?_
        refine ro_iconst (v := 1) dX12_listMembers_32 rfl ?_
        refine r_iload_n (x := v3_2) dX12_listMembers_33 rfl rfl ?_
        refine r_ishl dX12_listMembers_34 ?_
        refine r_ior dX12_listMembers_35 ?_
        refine r_mput (kk := 66) h inU12 rfl (by decide) uf_276 rfl rfl rfl rfl dX12_listMembers_36 (fun M3 => ?_)
        exact hJ39 _
  refine r_lo [1, 2, 3, 0] (lo2 := [(0, .ref mo), (1, wi a1), (2, wi a2), (3, wi 0)]) rfl ?_
  exact hJ2 _ _
def k_X12_takesTwo : Kd := (yX12_takesTwo, cX12_takesTwo, 4, some .boolean, [])
theorem kv_X12_takesTwo : KV k_X12_takesTwo 1 := ⟨uw_mem 2011 (by decide +kernel) rfl, uw_mem 170 (by decide +kernel) rfl, uw_mem 2010 (by decide +kernel) rfl, uw_mem 120 (by decide +kernel) rfl, ⟨by decide +kernel, by decide +kernel⟩, by decide +kernel, by decide +kernel⟩
set_option maxHeartbeats 4000000 in
set_option maxRecDepth 100000 in
theorem c_X12_takesTwo {l : Launch} {Γ : Cx} {K0 : Cd} {mo : Nat} {ma : Nat → Nat} (h : mOn Γ mo ma) (a1 : Int) (M : Md) : Ct l Γ k_X12_takesTwo 1 encI (emM K0) [.ref mo, wi a1] M (fX12_takesTwo a1 M) := by
  refine ct_of (by decide +kernel) rfl (Nat.le_of_ble_eq_true rfl) ?_
  refine r_lo [0, 1] (lo2 := [(0, .ref mo), (1, wi a1)]) rfl ?_
  unfold fX12_takesTwo
  refine r_aload_n (x := mo) dX12_takesTwo_0 rfl rfl ?_
  refine r_mget (kk := 73) h inU12 rfl (by decide) uf_322 rfl rfl dX12_takesTwo_1 ?_
  refine ro_iconst (v := 2) dX12_takesTwo_4 rfl ?_
  refine r_icmp_ge (tgt := 10) dX12_takesTwo_5 (by decide) ?_ ?_
  · refine r_aload_n (x := mo) dX12_takesTwo_10 rfl rfl ?_
    refine r_mgetA (kk := 72) h inU12 rfl (by decide) uf_168 rfl rfl dX12_takesTwo_11 ?_
    refine r_aload_n (x := mo) dX12_takesTwo_14 rfl rfl ?_
    refine r_mget (kk := 73) h inU12 rfl (by decide) uf_322 rfl rfl dX12_takesTwo_15 ?_
    refine ro_iconst (v := 1) dX12_takesTwo_18 rfl ?_
    refine r_isub dX12_takesTwo_19 ?_
    refine r_miald h (by decide) dX12_takesTwo_20 ?_
    refine r_nm (fun x2_21 => ?_)
    refine r_istore_n (lo2 := [(2, wi x2_21), (0, .ref mo), (1, wi a1)]) dX12_takesTwo_21 rfl (by decide) rfl ?_
    refine r_aload_n (x := mo) dX12_takesTwo_22 rfl rfl ?_
    refine r_mgetA (kk := 72) h inU12 rfl (by decide) uf_168 rfl rfl dX12_takesTwo_23 ?_
    refine r_aload_n (x := mo) dX12_takesTwo_26 rfl rfl ?_
    refine r_mget (kk := 73) h inU12 rfl (by decide) uf_322 rfl rfl dX12_takesTwo_27 ?_
    refine ro_iconst (v := 2) dX12_takesTwo_30 rfl ?_
    refine r_isub dX12_takesTwo_31 ?_
    refine r_miald h (by decide) dX12_takesTwo_32 ?_
    refine r_nm (fun x3_33 => ?_)
    refine r_istore_n (lo2 := [(3, wi x3_33), (2, wi x2_21), (0, .ref mo), (1, wi a1)]) dX12_takesTwo_33 rfl (by decide) rfl ?_
    refine r_aload_n (x := mo) dX12_takesTwo_34 rfl rfl ?_
    refine r_dup dX12_takesTwo_35 rfl ?_
    refine r_mget (kk := 73) h inU12 rfl (by decide) uf_322 rfl rfl dX12_takesTwo_36 ?_
    refine ro_iconst (v := 1) dX12_takesTwo_39 rfl ?_
    refine r_isub dX12_takesTwo_40 ?_
    refine r_mput (kk := 73) h inU12 rfl (by decide) uf_322 rfl rfl rfl rfl dX12_takesTwo_41 (fun M1 => ?_)
    refine r_aload_n (x := mo) dX12_takesTwo_44 rfl rfl ?_
    refine r_mgetA (kk := 72) h inU12 rfl (by decide) uf_168 rfl rfl dX12_takesTwo_45 ?_
    refine r_aload_n (x := mo) dX12_takesTwo_48 rfl rfl ?_
    refine r_mget (kk := 73) h inU12 rfl (by decide) uf_322 rfl rfl dX12_takesTwo_49 ?_
    refine ro_iconst (v := 1) dX12_takesTwo_52 rfl ?_
    refine r_isub dX12_takesTwo_53 ?_
    refine r_iload_n (x := a1) dX12_takesTwo_54 rfl rfl ?_
    refine ro_iconst (v := 2) dX12_takesTwo_55 rfl ?_
    refine r_join (P := fun (J : Int → Md → Option (Int × Md)) => ∀ (t0_113 : Int) (M_113 : Md), RunO l Γ k_X12_takesTwo 1 encI (emM K0) 113 [] [wi t0_113, wi ((M1.1 73) - 1), .ref (ma 72)] M_113 (J t0_113 M_113)) ?_ (fun J113 hJ113 => ?_)
    · intro t0_113 M_113
      refine r_miast h (by decide) dX12_takesTwo_113 (fun M2 => ?_)
      refine ro_iconst (v := 1) dX12_takesTwo_114 rfl ?_
      exact r_zret0 (by first | exact Or.inl rfl | exact Or.inr rfl) rfl dX12_takesTwo_115
    refine r_icmp_ne (tgt := 69) dX12_takesTwo_56 (by decide) ?_ ?_
    · refine r_iload_n (x := a1) dX12_takesTwo_69 rfl rfl ?_
      refine ro_iconst (v := 3) dX12_takesTwo_70 rfl ?_
      refine r_icmp_ne (tgt := 88) dX12_takesTwo_71 (by decide) ?_ ?_
      · refine r_iload_n (x := a1) dX12_takesTwo_88 rfl rfl ?_
        refine ro_iconst (v := 4) dX12_takesTwo_89 rfl ?_
        refine r_icmp_ne (tgt := 103) dX12_takesTwo_90 (by decide) ?_ ?_
        · refine r_iload_n (x := x3_33) dX12_takesTwo_103 rfl rfl ?_
          refine r_iload_n (x := x2_21) dX12_takesTwo_104 rfl rfl ?_
          refine r_icmp_ge (tgt := 112) dX12_takesTwo_105 (by decide) ?_ ?_
          · refine ro_iconst (v := 0) dX12_takesTwo_112 rfl ?_
            refine r_lo [] (lo2 := []) rfl ?_
            exact hJ113 _ _
          · refine ro_iconst (v := 1) dX12_takesTwo_108 rfl ?_
            refine r_goto (tgt := 113) dX12_takesTwo_109 (by decide) ?_
            refine r_lo [] (lo2 := []) rfl ?_
            exact hJ113 _ _
        · refine r_iload_n (x := x3_33) dX12_takesTwo_93 rfl rfl ?_
          refine r_iload_n (x := x2_21) dX12_takesTwo_94 rfl rfl ?_
          refine r_imul dX12_takesTwo_95 ?_
          refine r_sipush (v := 1000) dX12_takesTwo_96 rfl ?_
          refine r_irem dX12_takesTwo_99 (by decide) ?_
          refine r_goto (tgt := 113) dX12_takesTwo_100 (by decide) ?_
          refine r_lo [] (lo2 := []) rfl ?_
          exact hJ113 _ _
      · refine r_iload_n (x := x3_33) dX12_takesTwo_74 rfl rfl ?_
        refine r_iload_n (x := x2_21) dX12_takesTwo_75 rfl rfl ?_
        refine r_isub dX12_takesTwo_76 ?_
        refine r_sipush (v := 1000) dX12_takesTwo_77 rfl ?_
        refine r_iadd dX12_takesTwo_80 ?_
        refine r_sipush (v := 1000) dX12_takesTwo_81 rfl ?_
        refine r_irem dX12_takesTwo_84 (by decide) ?_
        refine r_goto (tgt := 113) dX12_takesTwo_85 (by decide) ?_
        refine r_lo [] (lo2 := []) rfl ?_
        exact hJ113 _ _
    · refine r_iload_n (x := x3_33) dX12_takesTwo_59 rfl rfl ?_
      refine r_iload_n (x := x2_21) dX12_takesTwo_60 rfl rfl ?_
      refine r_iadd dX12_takesTwo_61 ?_
      refine r_sipush (v := 1000) dX12_takesTwo_62 rfl ?_
      refine r_irem dX12_takesTwo_65 (by decide) ?_
      refine r_goto (tgt := 113) dX12_takesTwo_66 (by decide) ?_
      refine r_lo [] (lo2 := []) rfl ?_
      exact hJ113 _ _
  · refine ro_iconst (v := 0) dX12_takesTwo_8 rfl ?_
    exact r_zret0 (by first | exact Or.inl rfl | exact Or.inr rfl) rfl dX12_takesTwo_9
def k_X12_moduleResult : Kd := (yX12_moduleResult, cX12_moduleResult, 9, some .int, [])
theorem kv_X12_moduleResult : KV k_X12_moduleResult 2 := ⟨uw_mem 2007 (by decide +kernel) rfl, uw_mem 170 (by decide +kernel) rfl, uw_mem 2006 (by decide +kernel) rfl, uw_mem 119 (by decide +kernel) rfl, ⟨by decide +kernel, by decide +kernel⟩, by decide +kernel, by decide +kernel⟩
set_option maxHeartbeats 4000000 in
set_option maxRecDepth 100000 in
theorem c_X12_moduleResult {l : Launch} {Γ : Cx} {K0 : Cd} {mo : Nat} {ma : Nat → Nat} (h : mOn Γ mo ma) (a1 : Int) (a2 : Int) (M : Md) : Ct l Γ k_X12_moduleResult 2 encI (emM K0) [.ref mo, wi a1, wi a2] M (fX12_moduleResult a1 a2 M) := by
  refine ct_of (by decide +kernel) rfl (Nat.le_of_ble_eq_true rfl) ?_
  refine r_lo [0, 1, 2] (lo2 := [(0, .ref mo), (1, wi a1), (2, wi a2)]) rfl ?_
  unfold fX12_moduleResult
  refine r_aload_n (x := mo) dX12_moduleResult_0 rfl rfl ?_
  refine ro_iconst (v := 0) dX12_moduleResult_1 rfl ?_
  refine r_mput (kk := 73) h inU12 rfl (by decide) uf_322 rfl rfl rfl rfl dX12_moduleResult_2 (fun M1 => ?_)
  refine ro_iconst (v := 0) dX12_moduleResult_5 rfl ?_
  refine r_istore_n (lo2 := [(3, wi 0), (0, .ref mo), (1, wi a1), (2, wi a2)]) dX12_moduleResult_6 rfl (by decide) rfl ?_
  refine ro_iconst (v := 0) dX12_moduleResult_7 rfl ?_
  refine r_istore (lo2 := [(4, wi 0), (3, wi 0), (0, .ref mo), (1, wi a1), (2, wi a2)]) dX12_moduleResult_8 (by decide) rfl ?_
  refine r_loop (P := fun (J : Int → Int → Md → Option (Int × Md)) => ∀ (v3_10 : Int) (v4_10 : Int) (M_10 : Md), RunO l Γ k_X12_moduleResult 2 encI (emM K0) 10 [(0, .ref mo), (1, wi a1), (2, wi a2), (3, wi v3_10), (4, wi v4_10)] [] M_10 (J v3_10 v4_10 M_10)) ?_ (fun L10 hL10 => ?_) (fun J10 hJ10 => ?_)
  · intros; exact ro_none
  · intro v3_10 v4_10 M_10
    refine r_iload (x := v4_10) dX12_moduleResult_10 rfl ?_
    refine r_bipush (v := 50) dX12_moduleResult_12 rfl ?_
    refine r_join (P := fun (J : Md → Option (Int × Md)) => ∀ (M_277 : Md), RunO l Γ k_X12_moduleResult 2 encI (emM K0) 277 [] [] M_277 (J M_277)) ?_ (fun J277 hJ277 => ?_)
    · intro M_277
      refine r_sipush (v := 9004) dX12_moduleResult_277 rfl ?_
      exact r_iret rfl dX12_moduleResult_280
    refine r_icmp_ge (tgt := 277) dX12_moduleResult_14 (by decide) ?_ ?_
    · refine r_lo [] (lo2 := []) rfl ?_
      exact hJ277 _
    · refine r_iload_n (x := v3_10) dX12_moduleResult_17 rfl rfl ?_
      refine r_aload_n (x := mo) dX12_moduleResult_18 rfl rfl ?_
      refine r_mgetA (kk := 21) h inU12 rfl (by decide) uf_55 rfl rfl dX12_moduleResult_19 ?_
      refine r_iload_n (x := a2) dX12_moduleResult_22 rfl rfl ?_
      refine r_miald h (by decide) dX12_moduleResult_23 ?_
      refine r_icmp_ge (tgt := 277) dX12_moduleResult_24 (by decide) ?_ ?_
      · refine r_lo [] (lo2 := []) rfl ?_
        exact hJ277 _
      · refine r_aload_n (x := mo) dX12_moduleResult_27 rfl rfl ?_
        refine r_mgetA (kk := 19) h inU12 rfl (by decide) uf_49 rfl rfl dX12_moduleResult_28 ?_
        refine r_bipush (v := 16) dX12_moduleResult_31 rfl ?_
        refine r_iload_n (x := a2) dX12_moduleResult_33 rfl rfl ?_
        refine r_imul dX12_moduleResult_34 ?_
        refine r_iload_n (x := v3_10) dX12_moduleResult_35 rfl rfl ?_
        refine r_iadd dX12_moduleResult_36 ?_
        refine r_miald h (by decide) dX12_moduleResult_37 ?_
        refine r_nm (fun x5_38 => ?_)
        refine r_istore (lo2 := [(5, wi x5_38), (0, .ref mo), (1, wi a1), (2, wi a2), (3, wi v3_10), (4, wi v4_10)]) dX12_moduleResult_38 (by decide) rfl ?_
        refine r_aload_n (x := mo) dX12_moduleResult_40 rfl rfl ?_
        refine r_mgetA (kk := 20) h inU12 rfl (by decide) uf_52 rfl rfl dX12_moduleResult_41 ?_
        refine r_bipush (v := 16) dX12_moduleResult_44 rfl ?_
        refine r_iload_n (x := a2) dX12_moduleResult_46 rfl rfl ?_
        refine r_imul dX12_moduleResult_47 ?_
        refine r_iload_n (x := v3_10) dX12_moduleResult_48 rfl rfl ?_
        refine r_iadd dX12_moduleResult_49 ?_
        refine r_miald h (by decide) dX12_moduleResult_50 ?_
        refine r_nm (fun x6_51 => ?_)
        refine r_istore (lo2 := [(6, wi x6_51), (5, wi x5_38), (0, .ref mo), (1, wi a1), (2, wi a2), (3, wi v3_10), (4, wi v4_10)]) dX12_moduleResult_51 (by decide) rfl ?_
        refine r_iinc (x := v3_10) (lo2 := [(3, wi (v3_10 + 1)), (6, wi x6_51), (5, wi x5_38), (0, .ref mo), (1, wi a1), (2, wi a2), (4, wi v4_10)]) dX12_moduleResult_53 rfl (by decide) rfl ?_
        refine ro_iconst (v := 1) dX12_moduleResult_56 rfl ?_
        refine r_istore (lo2 := [(7, wi 1), (3, wi (v3_10 + 1)), (6, wi x6_51), (5, wi x5_38), (0, .ref mo), (1, wi a1), (2, wi a2), (4, wi v4_10)]) dX12_moduleResult_57 (by decide) rfl ?_
        refine r_iload (x := x5_38) dX12_moduleResult_59 rfl ?_
        refine ro_iconst (v := 2) dX12_moduleResult_61 rfl ?_
        refine r_join (P := fun (J : Md → Option (Int × Md)) => ∀ (M_78 : Md), RunO l Γ k_X12_moduleResult 2 encI (emM K0) 78 [(0, .ref mo), (1, wi a1), (2, wi a2), (3, wi (v3_10 + 1)), (4, wi v4_10), (5, wi x5_38), (6, wi x6_51), (7, wi 1)] [] M_78 (J M_78)) ?_ (fun J78 hJ78 => ?_)
        · intro M_78
          refine r_iload (x := x5_38) dX12_moduleResult_78 rfl ?_
          refine ro_iconst (v := 2) dX12_moduleResult_80 rfl ?_
          refine r_join (P := fun (J : Int → Int → Md → Option (Int × Md)) => ∀ (v3_262 : Int) (v7_262 : Int) (M_262 : Md), RunO l Γ k_X12_moduleResult 2 encI (emM K0) 262 [(0, .ref mo), (1, wi a1), (2, wi a2), (3, wi v3_262), (4, wi v4_10), (7, wi v7_262)] [] M_262 (J v3_262 v7_262 M_262)) ?_ (fun J262 hJ262 => ?_)
          · intro v3_262 v7_262 M_262
            refine r_iload (x := v7_262) dX12_moduleResult_262 rfl ?_
            refine r_if_ne (tgt := 271) dX12_moduleResult_264 (by decide) ?_ ?_
            · refine r_iinc (x := v4_10) (lo2 := [(4, wi (v4_10 + 1)), (0, .ref mo), (1, wi a1), (2, wi a2), (3, wi v3_262), (7, wi v7_262)]) dX12_moduleResult_271 rfl (by decide) rfl ?_
              refine r_goto (tgt := 10) dX12_moduleResult_274 (by decide) ?_
              refine r_lo [1, 2, 3, 4, 0] (lo2 := [(0, .ref mo), (1, wi a1), (2, wi a2), (3, wi v3_262), (4, wi (v4_10 + 1))]) rfl ?_
              exact hL10 _ _ _
            · refine r_sipush (v := 9004) dX12_moduleResult_267 rfl ?_
              exact r_iret rfl dX12_moduleResult_270
          refine r_icmp_ge (tgt := 152) dX12_moduleResult_81 (by decide) ?_ ?_
          · refine r_iload (x := x5_38) dX12_moduleResult_152 rfl ?_
            refine r_bipush (v := 6) dX12_moduleResult_154 rfl ?_
            refine r_icmp_ge (tgt := 170) dX12_moduleResult_156 (by decide) ?_ ?_
            · refine r_iload (x := x5_38) dX12_moduleResult_170 rfl ?_
              refine r_bipush (v := 6) dX12_moduleResult_172 rfl ?_
              refine r_icmp_ne (tgt := 183) dX12_moduleResult_174 (by decide) ?_ ?_
              · refine r_aload_n (x := mo) dX12_moduleResult_183 rfl rfl ?_
                refine r_mget (kk := 73) h inU12 rfl (by decide) uf_322 rfl rfl dX12_moduleResult_184 ?_
                refine r_join (P := fun (J : Int → Md → Option (Int × Md)) => ∀ (t0_195 : Int) (M_195 : Md), RunO l Γ k_X12_moduleResult 2 encI (emM K0) 195 [(0, .ref mo), (1, wi a1), (2, wi a2), (3, wi (v3_10 + 1)), (4, wi v4_10), (5, wi x5_38), (6, wi x6_51)] [wi t0_195] M_195 (J t0_195 M_195)) ?_ (fun J195 hJ195 => ?_)
                · intro t0_195 M_195
                  refine r_istore (lo2 := [(7, wi t0_195), (0, .ref mo), (1, wi a1), (2, wi a2), (3, wi (v3_10 + 1)), (4, wi v4_10), (5, wi x5_38), (6, wi x6_51)]) dX12_moduleResult_195 (by decide) rfl ?_
                  refine r_aload_n (x := mo) dX12_moduleResult_197 rfl rfl ?_
                  refine r_dup dX12_moduleResult_198 rfl ?_
                  refine r_mget (kk := 73) h inU12 rfl (by decide) uf_322 rfl rfl dX12_moduleResult_199 ?_
                  refine r_iload (x := t0_195) dX12_moduleResult_202 rfl ?_
                  refine r_join (P := fun (J : Int → Md → Option (Int × Md)) => ∀ (t0_212 : Int) (M_212 : Md), RunO l Γ k_X12_moduleResult 2 encI (emM K0) 212 [(0, .ref mo), (1, wi a1), (2, wi a2), (3, wi (v3_10 + 1)), (4, wi v4_10), (5, wi x5_38), (6, wi x6_51), (7, wi t0_195)] [wi t0_212, wi (M_195.1 73), .ref mo] M_212 (J t0_212 M_212)) ?_ (fun J212 hJ212 => ?_)
                  · intro t0_212 M_212
                    refine r_isub dX12_moduleResult_212 ?_
                    refine r_mput (kk := 73) h inU12 rfl (by decide) uf_322 rfl rfl rfl rfl dX12_moduleResult_213 (fun M2 => ?_)
                    refine r_iload (x := t0_195) dX12_moduleResult_216 rfl ?_
                    refine r_join (P := fun (J : Md → Option (Int × Md)) => ∀ (M_238 : Md), RunO l Γ k_X12_moduleResult 2 encI (emM K0) 238 [(0, .ref mo), (1, wi a1), (2, wi a2), (3, wi (v3_10 + 1)), (4, wi v4_10), (6, wi x6_51), (7, wi t0_195)] [] M_238 (J M_238)) ?_ (fun J238 hJ238 => ?_)
                    · intro M_238
                      refine r_iload (x := t0_195) dX12_moduleResult_238 rfl ?_
                      refine r_join (P := fun (J : Int → Md → Option (Int × Md)) => ∀ (t0_261 : Int) (M_261 : Md), RunO l Γ k_X12_moduleResult 2 encI (emM K0) 261 [(0, .ref mo), (1, wi a1), (2, wi a2), (4, wi v4_10), (7, wi t0_195)] [wi t0_261] M_261 (J t0_261 M_261)) ?_ (fun J261 hJ261 => ?_)
                      · intro t0_261 M_261
                        refine r_istore_n (lo2 := [(3, wi t0_261), (0, .ref mo), (1, wi a1), (2, wi a2), (4, wi v4_10), (7, wi t0_195)]) dX12_moduleResult_261 rfl (by decide) rfl ?_
                        refine r_lo [1, 2, 3, 0, 4, 5] (lo2 := [(0, .ref mo), (1, wi a1), (2, wi a2), (3, wi t0_261), (4, wi v4_10), (7, wi t0_195)]) rfl ?_
                        exact hJ262 _ _ _
                      refine r_join (P := fun (J : Md → Option (Int × Md)) => ∀ (M_260 : Md), RunO l Γ k_X12_moduleResult 2 encI (emM K0) 260 [(0, .ref mo), (1, wi a1), (2, wi a2), (3, wi (v3_10 + 1)), (4, wi v4_10), (7, wi t0_195)] [] M_260 (J M_260)) ?_ (fun J260 hJ260 => ?_)
                      · intro M_260
                        refine r_iload_n (x := v3_10 + 1) dX12_moduleResult_260 rfl rfl ?_
                        refine r_lo [0, 1, 2, 4, 5] (lo2 := [(0, .ref mo), (1, wi a1), (2, wi a2), (4, wi v4_10), (7, wi t0_195)]) rfl ?_
                        exact hJ261 _ _
                      refine r_if_eq (tgt := 260) dX12_moduleResult_240 (by decide) ?_ ?_
                      · refine r_lo [0, 1, 2, 3, 4, 6] (lo2 := [(0, .ref mo), (1, wi a1), (2, wi a2), (3, wi (v3_10 + 1)), (4, wi v4_10), (7, wi t0_195)]) rfl ?_
                        exact hJ260 _
                      · refine r_aload_n (x := mo) dX12_moduleResult_243 rfl rfl ?_
                        refine r_mgetA (kk := 72) h inU12 rfl (by decide) uf_168 rfl rfl dX12_moduleResult_244 ?_
                        refine r_aload_n (x := mo) dX12_moduleResult_247 rfl rfl ?_
                        refine r_mget (kk := 73) h inU12 rfl (by decide) uf_322 rfl rfl dX12_moduleResult_248 ?_
                        refine r_miald h (by decide) dX12_moduleResult_251 ?_
                        refine r_if_ne (tgt := 260) dX12_moduleResult_252 (by decide) ?_ ?_
                        · refine r_lo [0, 1, 2, 3, 4, 6] (lo2 := [(0, .ref mo), (1, wi a1), (2, wi a2), (3, wi (v3_10 + 1)), (4, wi v4_10), (7, wi t0_195)]) rfl ?_
                          exact hJ260 _
                        · refine r_iload (x := x6_51) dX12_moduleResult_255 rfl ?_
                          refine r_goto (tgt := 261) dX12_moduleResult_257 (by decide) ?_
                          refine r_lo [0, 1, 2, 4, 6] (lo2 := [(0, .ref mo), (1, wi a1), (2, wi a2), (4, wi v4_10), (7, wi t0_195)]) rfl ?_
                          exact hJ261 _ _
                    refine r_if_eq (tgt := 238) dX12_moduleResult_218 (by decide) ?_ ?_
                    · refine r_lo [0, 1, 2, 3, 4, 6, 7] (lo2 := [(0, .ref mo), (1, wi a1), (2, wi a2), (3, wi (v3_10 + 1)), (4, wi v4_10), (6, wi x6_51), (7, wi t0_195)]) rfl ?_
                      exact hJ238 _
                    · refine r_iload (x := x5_38) dX12_moduleResult_221 rfl ?_
                      refine r_bipush (v := 8) dX12_moduleResult_223 rfl ?_
                      refine r_icmp_ne (tgt := 238) dX12_moduleResult_225 (by decide) ?_ ?_
                      · refine r_lo [0, 1, 2, 3, 4, 6, 7] (lo2 := [(0, .ref mo), (1, wi a1), (2, wi a2), (3, wi (v3_10 + 1)), (4, wi v4_10), (6, wi x6_51), (7, wi t0_195)]) rfl ?_
                        exact hJ238 _
                      · refine r_aload_n (x := mo) dX12_moduleResult_228 rfl rfl ?_
                        refine r_mgetA (kk := 72) h inU12 rfl (by decide) uf_168 rfl rfl dX12_moduleResult_229 ?_
                        refine r_aload_n (x := mo) dX12_moduleResult_232 rfl rfl ?_
                        refine r_mget (kk := 73) h inU12 rfl (by decide) uf_322 rfl rfl dX12_moduleResult_233 ?_
                        refine r_miald h (by decide) dX12_moduleResult_236 ?_
                        exact r_iret rfl dX12_moduleResult_237
                  refine r_if_eq (tgt := 211) dX12_moduleResult_204 (by decide) ?_ ?_
                  · refine ro_iconst (v := 0) dX12_moduleResult_211 rfl ?_
                    refine r_lo [1, 2, 3, 4, 5, 6, 7, 0] (lo2 := [(0, .ref mo), (1, wi a1), (2, wi a2), (3, wi (v3_10 + 1)), (4, wi v4_10), (5, wi x5_38), (6, wi x6_51), (7, wi t0_195)]) rfl ?_
                    exact hJ212 _ _
                  · refine ro_iconst (v := 1) dX12_moduleResult_207 rfl ?_
                    refine r_goto (tgt := 212) dX12_moduleResult_208 (by decide) ?_
                    refine r_lo [1, 2, 3, 4, 5, 6, 7, 0] (lo2 := [(0, .ref mo), (1, wi a1), (2, wi a2), (3, wi (v3_10 + 1)), (4, wi v4_10), (5, wi x5_38), (6, wi x6_51), (7, wi t0_195)]) rfl ?_
                    exact hJ212 _ _
                refine r_if_le (tgt := 194) dX12_moduleResult_187 (by decide) ?_ ?_
                · refine ro_iconst (v := 0) dX12_moduleResult_194 rfl ?_
                  refine r_lo [0, 1, 2, 3, 4, 5, 6] (lo2 := [(0, .ref mo), (1, wi a1), (2, wi a2), (3, wi (v3_10 + 1)), (4, wi v4_10), (5, wi x5_38), (6, wi x6_51)]) rfl ?_
                  exact hJ195 _ _
                · refine ro_iconst (v := 1) dX12_moduleResult_190 rfl ?_
                  refine r_goto (tgt := 195) dX12_moduleResult_191 (by decide) ?_
                  refine r_lo [0, 1, 2, 3, 4, 5, 6] (lo2 := [(0, .ref mo), (1, wi a1), (2, wi a2), (3, wi (v3_10 + 1)), (4, wi v4_10), (5, wi x5_38), (6, wi x6_51)]) rfl ?_
                  exact hJ195 _ _
              · refine r_iload (x := x6_51) dX12_moduleResult_177 rfl ?_
                refine r_istore_n (lo2 := [(3, wi x6_51), (0, .ref mo), (1, wi a1), (2, wi a2), (4, wi v4_10), (5, wi x5_38), (6, wi x6_51), (7, wi 1)]) dX12_moduleResult_179 rfl (by decide) rfl ?_
                refine r_goto (tgt := 262) dX12_moduleResult_180 (by decide) ?_
                refine r_lo [1, 2, 3, 0, 4, 7] (lo2 := [(0, .ref mo), (1, wi a1), (2, wi a2), (3, wi x6_51), (4, wi v4_10), (7, wi 1)]) rfl ?_
                exact hJ262 _ _ _
            · refine r_aload_n (x := mo) dX12_moduleResult_159 rfl rfl ?_
              refine r_iload (x := x5_38) dX12_moduleResult_160 rfl ?_
              refine r_callVi (k2 := k_X12_takesTwo) (n := 1) (rest := []) rfl kv_X12_takesTwo (c_X12_takesTwo h _ _) (by decide) um_328 rfl (Nat.le_of_ble_eq_true rfl) dX12_moduleResult_162 (m_rec h) rfl (fun r4 M3 => ?_)
              refine r_istore (lo2 := [(7, wi r4), (0, .ref mo), (1, wi a1), (2, wi a2), (3, wi (v3_10 + 1)), (4, wi v4_10), (5, wi x5_38), (6, wi x6_51)]) dX12_moduleResult_165 (by decide) rfl ?_
              refine r_goto (tgt := 262) dX12_moduleResult_167 (by decide) ?_
              refine r_lo [1, 2, 3, 4, 5, 0] (lo2 := [(0, .ref mo), (1, wi a1), (2, wi a2), (3, wi (v3_10 + 1)), (4, wi v4_10), (7, wi r4)]) rfl ?_
              exact hJ262 _ _ _
          · refine r_iload (x := x5_38) dX12_moduleResult_84 rfl ?_
            refine r_join (P := fun (J : Int → Md → Option (Int × Md)) => ∀ (t0_107 : Int) (M_107 : Md), RunO l Γ k_X12_moduleResult 2 encI (emM K0) 107 [(0, .ref mo), (1, wi a1), (2, wi a2), (3, wi (v3_10 + 1)), (4, wi v4_10), (7, wi 1)] [wi t0_107] M_107 (J t0_107 M_107)) ?_ (fun J107 hJ107 => ?_)
            · intro t0_107 M_107
              refine r_istore (lo2 := [(8, wi t0_107), (0, .ref mo), (1, wi a1), (2, wi a2), (3, wi (v3_10 + 1)), (4, wi v4_10), (7, wi 1)]) dX12_moduleResult_107 (by decide) rfl ?_
              refine r_aload_n (x := mo) dX12_moduleResult_109 rfl rfl ?_
              refine r_mget (kk := 71) h inU12 rfl (by decide) uf_316 rfl rfl dX12_moduleResult_110 ?_
              refine r_if_le (tgt := 118) dX12_moduleResult_113 (by decide) ?_ ?_
              · refine r_aload_n (x := mo) dX12_moduleResult_118 rfl rfl ?_
                refine r_mgetA (kk := 72) h inU12 rfl (by decide) uf_168 rfl rfl dX12_moduleResult_119 ?_
                refine r_aload_n (x := mo) dX12_moduleResult_122 rfl rfl ?_
                refine r_mget (kk := 73) h inU12 rfl (by decide) uf_322 rfl rfl dX12_moduleResult_123 ?_
                refine r_iload (x := t0_107) dX12_moduleResult_126 rfl ?_
                refine ro_iconst (v := (-1)) dX12_moduleResult_128 rfl ?_
                refine r_join (P := fun (J : Int → Md → Option (Int × Md)) => ∀ (t0_138 : Int) (M_138 : Md), RunO l Γ k_X12_moduleResult 2 encI (emM K0) 138 [(0, .ref mo), (1, wi a1), (2, wi a2), (3, wi (v3_10 + 1)), (4, wi v4_10), (7, wi 1)] [wi t0_138, wi (M_107.1 73), .ref (ma 72)] M_138 (J t0_138 M_138)) ?_ (fun J138 hJ138 => ?_)
                · intro t0_138 M_138
                  refine r_miast h (by decide) dX12_moduleResult_138 (fun M5 => ?_)
                  refine r_aload_n (x := mo) dX12_moduleResult_139 rfl rfl ?_
                  refine r_dup dX12_moduleResult_140 rfl ?_
                  refine r_mget (kk := 73) h inU12 rfl (by decide) uf_322 rfl rfl dX12_moduleResult_141 ?_
                  refine ro_iconst (v := 1) dX12_moduleResult_144 rfl ?_
                  refine r_iadd dX12_moduleResult_145 ?_
                  refine r_mput (kk := 73) h inU12 rfl (by decide) uf_322 rfl rfl rfl rfl dX12_moduleResult_146 (fun M6 => ?_)
                  refine r_goto (tgt := 262) dX12_moduleResult_149 (by decide) ?_
                  exact hJ262 _ _ _
                refine r_icmp_ne (tgt := 136) dX12_moduleResult_129 (by decide) ?_ ?_
                · refine r_iload (x := t0_107) dX12_moduleResult_136 rfl ?_
                  refine r_lo [1, 2, 3, 4, 5, 6] (lo2 := [(0, .ref mo), (1, wi a1), (2, wi a2), (3, wi (v3_10 + 1)), (4, wi v4_10), (7, wi 1)]) rfl ?_
                  exact hJ138 _ _
                · refine ro_iconst (v := 0) dX12_moduleResult_132 rfl ?_
                  refine r_goto (tgt := 138) dX12_moduleResult_133 (by decide) ?_
                  refine r_lo [1, 2, 3, 4, 5, 6] (lo2 := [(0, .ref mo), (1, wi a1), (2, wi a2), (3, wi (v3_10 + 1)), (4, wi v4_10), (7, wi 1)]) rfl ?_
                  exact hJ138 _ _
              · refine ro_iconst (v := 0) dX12_moduleResult_116 rfl ?_
                exact r_iret rfl dX12_moduleResult_117
            refine r_if_ne (tgt := 94) dX12_moduleResult_86 (by decide) ?_ ?_
            · refine r_aload_n (x := mo) dX12_moduleResult_94 rfl rfl ?_
              refine r_aload_n (x := mo) dX12_moduleResult_95 rfl rfl ?_
              refine r_iload_n (x := a1) dX12_moduleResult_96 rfl rfl ?_
              refine r_iload (x := x6_51) dX12_moduleResult_97 rfl ?_
              refine ro_iconst (v := 2) dX12_moduleResult_99 rfl ?_
              refine r_iadd dX12_moduleResult_100 ?_
              refine r_callVi (k2 := k_X12_partOf) (n := 2) (rest := [.ref mo]) rfl kv_X12_partOf (c_X12_partOf h _ _ _) (by decide) um_319 rfl (Nat.le_of_ble_eq_true rfl) dX12_moduleResult_101 (m_rec h) rfl (fun r8 M7 => ?_)
              refine r_callVi (k2 := k_X12_numberOf) (n := 1) (rest := []) rfl kv_X12_numberOf (c_X12_numberOf h _ _) (by decide) um_325 rfl (Nat.le_of_ble_eq_true rfl) dX12_moduleResult_104 (m_rec h) rfl (fun r10 M9 => ?_)
              refine r_lo [0, 1, 2, 3, 4, 7] (lo2 := [(0, .ref mo), (1, wi a1), (2, wi a2), (3, wi (v3_10 + 1)), (4, wi v4_10), (7, wi 1)]) rfl ?_
              exact hJ107 _ _
            · refine r_iload (x := x6_51) dX12_moduleResult_89 rfl ?_
              refine r_goto (tgt := 107) dX12_moduleResult_91 (by decide) ?_
              refine r_lo [0, 1, 2, 3, 4, 7] (lo2 := [(0, .ref mo), (1, wi a1), (2, wi a2), (3, wi (v3_10 + 1)), (4, wi v4_10), (7, wi 1)]) rfl ?_
              exact hJ107 _ _
        refine r_icmp_ge (tgt := 78) dX12_moduleResult_62 (by decide) ?_ ?_
        · refine r_lo [4, 5, 6, 1, 7, 3, 2, 0] (lo2 := [(0, .ref mo), (1, wi a1), (2, wi a2), (3, wi (v3_10 + 1)), (4, wi v4_10), (5, wi x5_38), (6, wi x6_51), (7, wi 1)]) rfl ?_
          exact hJ78 _
        · refine r_aload_n (x := mo) dX12_moduleResult_65 rfl rfl ?_
          refine r_mget (kk := 73) h inU12 rfl (by decide) uf_322 rfl rfl dX12_moduleResult_66 ?_
          refine r_bipush (v := 8) dX12_moduleResult_69 rfl ?_
          refine r_icmp_ne (tgt := 78) dX12_moduleResult_71 (by decide) ?_ ?_
          · refine r_lo [4, 5, 6, 1, 7, 3, 2, 0] (lo2 := [(0, .ref mo), (1, wi a1), (2, wi a2), (3, wi (v3_10 + 1)), (4, wi v4_10), (5, wi x5_38), (6, wi x6_51), (7, wi 1)]) rfl ?_
            exact hJ78 _
          · refine r_sipush (v := 9004) dX12_moduleResult_74 rfl ?_
            exact r_iret rfl dX12_moduleResult_77
  refine r_lo [2, 3, 4, 1, 0] (lo2 := [(0, .ref mo), (1, wi a1), (2, wi a2), (3, wi 0), (4, wi 0)]) rfl ?_
  exact hJ10 _ _ _
def k_X12_giveByNumber : Kd := (yX12_giveByNumber, cX12_giveByNumber, 7, none, [])
theorem kv_X12_giveByNumber : KV k_X12_giveByNumber 2 := ⟨uw_mem 1981 (by decide +kernel) rfl, uw_mem 170 (by decide +kernel) rfl, uw_mem 1980 (by decide +kernel) rfl, uw_mem 114 (by decide +kernel) rfl, ⟨by decide +kernel, by decide +kernel⟩, by decide +kernel, by decide +kernel⟩
set_option maxHeartbeats 4000000 in
set_option maxRecDepth 100000 in
theorem c_X12_giveByNumber {l : Launch} {Γ : Cx} {K0 : Cd} {mo : Nat} {ma : Nat → Nat} (h : mOn Γ mo ma) (a1 : Int) (a2 : Int) (M : Md) : Ct l Γ k_X12_giveByNumber 5 encV (emM K0) [.ref mo, wi a1, wi a2] M (fX12_giveByNumber a1 a2 M) := by
  refine ct_of (by decide +kernel) rfl (Nat.le_of_ble_eq_true rfl) ?_
  refine r_lo [0, 1, 2] (lo2 := [(0, .ref mo), (1, wi a1), (2, wi a2)]) rfl ?_
  unfold fX12_giveByNumber
  refine r_aload_n (x := mo) dX12_giveByNumber_0 rfl rfl ?_
  refine r_mgetA (kk := 54) h inU12 rfl (by decide) uf_138 rfl rfl dX12_giveByNumber_1 ?_
  refine r_iload_n (x := a1) dX12_giveByNumber_4 rfl rfl ?_
  refine r_miald h (by decide) dX12_giveByNumber_5 ?_
  refine r_nm (fun x3_6 => ?_)
  refine r_istore_n (lo2 := [(3, wi x3_6), (0, .ref mo), (1, wi a1), (2, wi a2)]) dX12_giveByNumber_6 rfl (by decide) rfl ?_
  refine r_aload_n (x := mo) dX12_giveByNumber_7 rfl rfl ?_
  refine r_mgetA (kk := 52) h inU12 rfl (by decide) uf_132 rfl rfl dX12_giveByNumber_8 ?_
  refine r_iload_n (x := a1) dX12_giveByNumber_11 rfl rfl ?_
  refine r_miald h (by decide) dX12_giveByNumber_12 ?_
  refine r_nm (fun x4_13 => ?_)
  refine r_istore (lo2 := [(4, wi x4_13), (3, wi x3_6), (0, .ref mo), (1, wi a1), (2, wi a2)]) dX12_giveByNumber_13 (by decide) rfl ?_
  refine r_iload (x := x4_13) dX12_giveByNumber_15 rfl ?_
  refine ro_iconst (v := 3) dX12_giveByNumber_17 rfl ?_
  refine r_join (P := fun (J : Md → Option (Unit × Md)) => ∀ (M_224 : Md), RunO l Γ k_X12_giveByNumber 5 encV (emM K0) 224 [] [] M_224 (J M_224)) ?_ (fun J224 hJ224 => ?_)
  · intro M_224
    exact r_vret rfl dX12_giveByNumber_224
  refine r_icmp_ne (tgt := 75) dX12_giveByNumber_18 (by decide) ?_ ?_
  · refine r_iload (x := x4_13) dX12_giveByNumber_75 rfl ?_
    refine ro_iconst (v := 4) dX12_giveByNumber_77 rfl ?_
    refine r_join (P := fun (J : Md → Option (Unit × Md)) => ∀ (M_87 : Md), RunO l Γ k_X12_giveByNumber 5 encV (emM K0) 87 [(0, .ref mo), (2, wi a2), (3, wi x3_6), (4, wi x4_13)] [] M_87 (J M_87)) ?_ (fun J87 hJ87 => ?_)
    · intro M_87
      refine r_iload_n (x := a2) dX12_giveByNumber_87 rfl rfl ?_
      refine ro_iconst (v := 0) dX12_giveByNumber_88 rfl ?_
      refine r_bipush (v := 7) dX12_giveByNumber_89 rfl ?_
      refine r_callSi (k2 := k_X12_in) (n := 3) (rest := []) rfl kv_X12_in (c_X12_in h _ _ _ _) (by decide) um_184 rfl (Nat.le_of_ble_eq_true rfl) dX12_giveByNumber_91 rfl (fun r2 M1 => ?_)
      refine r_istore (lo2 := [(5, wi r2), (0, .ref mo), (2, wi a2), (3, wi x3_6), (4, wi x4_13)]) dX12_giveByNumber_94 (by decide) rfl ?_
      refine r_aload_n (x := mo) dX12_giveByNumber_96 rfl rfl ?_
      refine r_dup dX12_giveByNumber_97 rfl ?_
      refine r_mget (kk := 69) h inU12 rfl (by decide) uf_331 rfl rfl dX12_giveByNumber_98 ?_
      refine r_iload (x := r2) dX12_giveByNumber_101 rfl ?_
      refine r_join (P := fun (J : Int → Md → Option (Unit × Md)) => ∀ (t0_113 : Int) (M_113 : Md), RunO l Γ k_X12_giveByNumber 5 encV (emM K0) 113 [(0, .ref mo), (2, wi a2), (3, wi x3_6), (4, wi x4_13), (5, wi r2)] [wi t0_113, wi (M1.1 69), .ref mo] M_113 (J t0_113 M_113)) ?_ (fun J113 hJ113 => ?_)
      · intro t0_113 M_113
        refine r_ior dX12_giveByNumber_113 ?_
        refine r_mput (kk := 69) h inU12 rfl (by decide) uf_331 rfl rfl rfl rfl dX12_giveByNumber_114 (fun M3 => ?_)
        refine r_iload (x := r2) dX12_giveByNumber_117 rfl ?_
        refine r_join (P := fun (J : Int → Md → Option (Unit × Md)) => ∀ (t0_131 : Int) (M_131 : Md), RunO l Γ k_X12_giveByNumber 5 encV (emM K0) 131 [(0, .ref mo), (3, wi x3_6), (4, wi x4_13)] [wi t0_131] M_131 (J t0_131 M_131)) ?_ (fun J131 hJ131 => ?_)
        · intro t0_131 M_131
          refine r_istore (lo2 := [(6, wi t0_131), (0, .ref mo), (3, wi x3_6), (4, wi x4_13)]) dX12_giveByNumber_131 (by decide) rfl ?_
          refine r_iload (x := x4_13) dX12_giveByNumber_133 rfl ?_
          refine ro_iconst (v := 4) dX12_giveByNumber_135 rfl ?_
          refine r_join (P := fun (J : Md → Option (Unit × Md)) => ∀ (M_159 : Md), RunO l Γ k_X12_giveByNumber 5 encV (emM K0) 159 [] [] M_159 (J M_159)) ?_ (fun J159 hJ159 => ?_)
          · intro M_159
            refine r_goto (tgt := 224) dX12_giveByNumber_159 (by decide) ?_
            exact hJ224 _
          refine r_icmp_ne (tgt := 152) dX12_giveByNumber_136 (by decide) ?_ ?_
          · refine r_aload_n (x := mo) dX12_giveByNumber_152 rfl rfl ?_
            refine r_iload_n (x := x3_6) dX12_giveByNumber_153 rfl rfl ?_
            refine r_iload (x := t0_131) dX12_giveByNumber_154 rfl ?_
            refine r_callVv (k2 := k_X12_listMembers) (n := 2) (rest := []) rfl kv_X12_listMembers (c_X12_listMembers h _ _ _) (by decide) um_340 rfl (Nat.le_of_ble_eq_true rfl) dX12_giveByNumber_156 (m_rec h) rfl (fun r5 M4 => ?_)
            refine r_lo [] (lo2 := []) rfl ?_
            exact hJ159 _
          · refine r_aload_n (x := mo) dX12_giveByNumber_139 rfl rfl ?_
            refine r_iload_n (x := x3_6) dX12_giveByNumber_140 rfl rfl ?_
            refine r_iload (x := t0_131) dX12_giveByNumber_141 rfl ?_
            refine r_callSi (k2 := k_X12_countOf) (n := 1) (rest := [wi x3_6, .ref mo]) rfl kv_X12_countOf (c_X12_countOf h _ _) (by decide) um_337 rfl (Nat.le_of_ble_eq_true rfl) dX12_giveByNumber_143 rfl (fun r7 M6 => ?_)
            refine r_callVv (k2 := k_X12_append) (n := 2) (rest := []) rfl kv_X12_append (c_X12_append h _ _ _) (by decide) um_251 rfl (Nat.le_of_ble_eq_true rfl) dX12_giveByNumber_146 (m_rec h) rfl (fun r9 M8 => ?_)
            refine r_goto (tgt := 159) dX12_giveByNumber_149 (by decide) ?_
            refine r_lo [] (lo2 := []) rfl ?_
            exact hJ159 _
        refine r_if_eq (tgt := 130) dX12_giveByNumber_119 (by decide) ?_ ?_
        · refine ro_iconst (v := 0) dX12_giveByNumber_130 rfl ?_
          refine r_lo [0, 2, 3] (lo2 := [(0, .ref mo), (3, wi x3_6), (4, wi x4_13)]) rfl ?_
          exact hJ131 _ _
        · refine r_aload_n (x := mo) dX12_giveByNumber_122 rfl rfl ?_
          refine r_iload_n (x := a2) dX12_giveByNumber_123 rfl rfl ?_
          refine r_callVi (k2 := k_X12_membersOf) (n := 1) (rest := []) rfl kv_X12_membersOf (c_X12_membersOf h _ _) (by decide) um_334 rfl (Nat.le_of_ble_eq_true rfl) dX12_giveByNumber_124 (m_rec h) rfl (fun r11 M10 => ?_)
          refine r_goto (tgt := 131) dX12_giveByNumber_127 (by decide) ?_
          refine r_lo [0, 2, 3] (lo2 := [(0, .ref mo), (3, wi x3_6), (4, wi x4_13)]) rfl ?_
          exact hJ131 _ _
      refine r_if_eq (tgt := 112) dX12_giveByNumber_103 (by decide) ?_ ?_
      · refine ro_iconst (v := 0) dX12_giveByNumber_112 rfl ?_
        refine r_lo [1, 2, 3, 4, 0] (lo2 := [(0, .ref mo), (2, wi a2), (3, wi x3_6), (4, wi x4_13), (5, wi r2)]) rfl ?_
        exact hJ113 _ _
      · refine ro_iconst (v := 1) dX12_giveByNumber_106 rfl ?_
        refine r_iload_n (x := a2) dX12_giveByNumber_107 rfl rfl ?_
        refine r_ishl dX12_giveByNumber_108 ?_
        refine r_goto (tgt := 113) dX12_giveByNumber_109 (by decide) ?_
        refine r_lo [1, 2, 3, 4, 0] (lo2 := [(0, .ref mo), (2, wi a2), (3, wi x3_6), (4, wi x4_13), (5, wi r2)]) rfl ?_
        exact hJ113 _ _
    refine r_icmp_eq (tgt := 87) dX12_giveByNumber_78 (by decide) ?_ ?_
    · refine r_lo [2, 4, 1, 0] (lo2 := [(0, .ref mo), (2, wi a2), (3, wi x3_6), (4, wi x4_13)]) rfl ?_
      exact hJ87 _
    · refine r_iload (x := x4_13) dX12_giveByNumber_81 rfl ?_
      refine ro_iconst (v := 5) dX12_giveByNumber_83 rfl ?_
      refine r_icmp_ne (tgt := 162) dX12_giveByNumber_84 (by decide) ?_ ?_
      · refine r_iload_n (x := a2) dX12_giveByNumber_162 rfl rfl ?_
        refine ro_iconst (v := 0) dX12_giveByNumber_163 rfl ?_
        refine ro_iconst (v := 3) dX12_giveByNumber_164 rfl ?_
        refine r_callSi (k2 := k_X12_in) (n := 3) (rest := []) rfl kv_X12_in (c_X12_in h _ _ _ _) (by decide) um_184 rfl (Nat.le_of_ble_eq_true rfl) dX12_giveByNumber_165 rfl (fun r13 M12 => ?_)
        refine r_istore (lo2 := [(5, wi r13), (4, wi x4_13), (3, wi x3_6), (0, .ref mo), (1, wi a1), (2, wi a2)]) dX12_giveByNumber_168 (by decide) rfl ?_
        refine r_aload_n (x := mo) dX12_giveByNumber_170 rfl rfl ?_
        refine r_dup dX12_giveByNumber_171 rfl ?_
        refine r_mget (kk := 70) h inU12 rfl (by decide) uf_343 rfl rfl dX12_giveByNumber_172 ?_
        refine r_iload (x := r13) dX12_giveByNumber_175 rfl ?_
        refine r_join (P := fun (J : Int → Md → Option (Unit × Md)) => ∀ (t0_187 : Int) (M_187 : Md), RunO l Γ k_X12_giveByNumber 5 encV (emM K0) 187 [(0, .ref mo), (1, wi a1), (2, wi a2), (3, wi x3_6), (5, wi r13)] [wi t0_187, wi (M12.1 70), .ref mo] M_187 (J t0_187 M_187)) ?_ (fun J187 hJ187 => ?_)
        · intro t0_187 M_187
          refine r_ior dX12_giveByNumber_187 ?_
          refine r_mput (kk := 70) h inU12 rfl (by decide) uf_343 rfl rfl rfl rfl dX12_giveByNumber_188 (fun M14 => ?_)
          refine r_iload (x := r13) dX12_giveByNumber_191 rfl ?_
          refine r_join (P := fun (J : Int → Md → Option (Unit × Md)) => ∀ (t0_208 : Int) (M_208 : Md), RunO l Γ k_X12_giveByNumber 5 encV (emM K0) 208 [(0, .ref mo), (3, wi x3_6)] [wi t0_208] M_208 (J t0_208 M_208)) ?_ (fun J208 hJ208 => ?_)
          · intro t0_208 M_208
            refine r_istore (lo2 := [(6, wi t0_208), (0, .ref mo), (3, wi x3_6)]) dX12_giveByNumber_208 (by decide) rfl ?_
            refine r_aload_n (x := mo) dX12_giveByNumber_210 rfl rfl ?_
            refine r_mget (kk := 71) h inU12 rfl (by decide) uf_316 rfl rfl dX12_giveByNumber_211 ?_
            refine r_if_ne (tgt := 224) dX12_giveByNumber_214 (by decide) ?_ ?_
            · refine r_lo [] (lo2 := []) rfl ?_
              exact hJ224 _
            · refine r_aload_n (x := mo) dX12_giveByNumber_217 rfl rfl ?_
              refine r_iload_n (x := x3_6) dX12_giveByNumber_218 rfl rfl ?_
              refine r_iload (x := t0_208) dX12_giveByNumber_219 rfl ?_
              refine r_callVv (k2 := k_X12_append) (n := 2) (rest := []) rfl kv_X12_append (c_X12_append h _ _ _) (by decide) um_251 rfl (Nat.le_of_ble_eq_true rfl) dX12_giveByNumber_221 (m_rec h) rfl (fun r16 M15 => ?_)
              refine r_lo [] (lo2 := []) rfl ?_
              exact hJ224 _
          refine r_if_eq (tgt := 205) dX12_giveByNumber_193 (by decide) ?_ ?_
          · refine r_sipush (v := 9004) dX12_giveByNumber_205 rfl ?_
            refine r_lo [0, 3] (lo2 := [(0, .ref mo), (3, wi x3_6)]) rfl ?_
            exact hJ208 _ _
          · refine r_aload_n (x := mo) dX12_giveByNumber_196 rfl rfl ?_
            refine r_iload_n (x := a1) dX12_giveByNumber_197 rfl rfl ?_
            refine r_iload_n (x := a2) dX12_giveByNumber_198 rfl rfl ?_
            refine r_callVi (k2 := k_X12_moduleResult) (n := 2) (rest := []) rfl kv_X12_moduleResult (c_X12_moduleResult h _ _ _) (by decide) um_346 rfl (Nat.le_of_ble_eq_true rfl) dX12_giveByNumber_199 (m_rec h) rfl (fun r18 M17 => ?_)
            refine r_goto (tgt := 208) dX12_giveByNumber_202 (by decide) ?_
            refine r_lo [0, 3] (lo2 := [(0, .ref mo), (3, wi x3_6)]) rfl ?_
            exact hJ208 _ _
        refine r_if_eq (tgt := 186) dX12_giveByNumber_177 (by decide) ?_ ?_
        · refine ro_iconst (v := 0) dX12_giveByNumber_186 rfl ?_
          refine r_lo [3, 4, 5, 2, 0] (lo2 := [(0, .ref mo), (1, wi a1), (2, wi a2), (3, wi x3_6), (5, wi r13)]) rfl ?_
          exact hJ187 _ _
        · refine ro_iconst (v := 1) dX12_giveByNumber_180 rfl ?_
          refine r_iload_n (x := a2) dX12_giveByNumber_181 rfl rfl ?_
          refine r_ishl dX12_giveByNumber_182 ?_
          refine r_goto (tgt := 187) dX12_giveByNumber_183 (by decide) ?_
          refine r_lo [3, 4, 5, 2, 0] (lo2 := [(0, .ref mo), (1, wi a1), (2, wi a2), (3, wi x3_6), (5, wi r13)]) rfl ?_
          exact hJ187 _ _
      · refine r_lo [2, 4, 1, 0] (lo2 := [(0, .ref mo), (2, wi a2), (3, wi x3_6), (4, wi x4_13)]) rfl ?_
        exact hJ87 _
  · refine r_iload_n (x := a2) dX12_giveByNumber_21 rfl rfl ?_
    refine r_callSi (k2 := k_X12_isTitle) (n := 1) (rest := []) rfl kv_X12_isTitle (c_X12_isTitle h _ _) (by decide) um_188 rfl (Nat.le_of_ble_eq_true rfl) dX12_giveByNumber_22 rfl (fun r20 M19 => ?_)
    refine r_istore (lo2 := [(5, wi r20), (4, wi x4_13), (3, wi x3_6), (0, .ref mo), (1, wi a1), (2, wi a2)]) dX12_giveByNumber_25 (by decide) rfl ?_
    refine r_aload_n (x := mo) dX12_giveByNumber_27 rfl rfl ?_
    refine r_dup dX12_giveByNumber_28 rfl ?_
    refine r_mget (kk := 68) h inU12 rfl (by decide) uf_239 rfl rfl dX12_giveByNumber_29 ?_
    refine r_iload (x := r20) dX12_giveByNumber_32 rfl ?_
    refine r_join (P := fun (J : Int → Md → Option (Unit × Md)) => ∀ (t0_44 : Int) (M_44 : Md), RunO l Γ k_X12_giveByNumber 5 encV (emM K0) 44 [(0, .ref mo), (2, wi a2), (3, wi x3_6), (5, wi r20)] [wi t0_44, wi (M19.1 68), .ref mo] M_44 (J t0_44 M_44)) ?_ (fun J44 hJ44 => ?_)
    · intro t0_44 M_44
      refine r_ior dX12_giveByNumber_44 ?_
      refine r_mput (kk := 68) h inU12 rfl (by decide) uf_239 rfl rfl rfl rfl dX12_giveByNumber_45 (fun M21 => ?_)
      refine r_aload_n (x := mo) dX12_giveByNumber_48 rfl rfl ?_
      refine r_iload_n (x := x3_6) dX12_giveByNumber_49 rfl rfl ?_
      refine r_iload (x := r20) dX12_giveByNumber_50 rfl ?_
      refine r_join (P := fun (J : Int → Md → Option (Unit × Md)) => ∀ (t0_69 : Int) (M_69 : Md), RunO l Γ k_X12_giveByNumber 5 encV (emM K0) 69 [] [wi t0_69, wi x3_6, .ref mo] M_69 (J t0_69 M_69)) ?_ (fun J69 hJ69 => ?_)
      · intro t0_69 M_69
        refine r_callVv (k2 := k_X12_append) (n := 2) (rest := []) rfl kv_X12_append (c_X12_append h _ _ _) (by decide) um_251 rfl (Nat.le_of_ble_eq_true rfl) dX12_giveByNumber_69 (m_rec h) rfl (fun r23 M22 => ?_)
        refine r_goto (tgt := 224) dX12_giveByNumber_72 (by decide) ?_
        exact hJ224 _
      refine r_join (P := fun (J : Md → Option (Unit × Md)) => ∀ (M_68 : Md), RunO l Γ k_X12_giveByNumber 5 encV (emM K0) 68 [] [wi x3_6, .ref mo] M_68 (J M_68)) ?_ (fun J68 hJ68 => ?_)
      · intro M_68
        refine ro_iconst (v := 0) dX12_giveByNumber_68 rfl ?_
        exact hJ69 _ _
      refine r_if_eq (tgt := 68) dX12_giveByNumber_52 (by decide) ?_ ?_
      · refine r_lo [] (lo2 := []) rfl ?_
        exact hJ68 _
      · refine r_aload_n (x := mo) dX12_giveByNumber_55 rfl rfl ?_
        refine r_iload_n (x := a2) dX12_giveByNumber_56 rfl rfl ?_
        refine r_callVi (k2 := k_X12_seenAt) (n := 1) (rest := [wi x3_6, .ref mo]) rfl kv_X12_seenAt (c_X12_seenAt h _ _) (by decide) um_242 rfl (Nat.le_of_ble_eq_true rfl) dX12_giveByNumber_57 (m_rec h) rfl (fun r25 M24 => ?_)
        refine ro_iconst (v := (-1)) dX12_giveByNumber_60 rfl ?_
        refine r_icmp_eq (tgt := 68) dX12_giveByNumber_61 (by decide) ?_ ?_
        · refine r_lo [] (lo2 := []) rfl ?_
          exact hJ68 _
        · refine ro_iconst (v := 1) dX12_giveByNumber_64 rfl ?_
          refine r_goto (tgt := 69) dX12_giveByNumber_65 (by decide) ?_
          refine r_lo [] (lo2 := []) rfl ?_
          exact hJ69 _ _
    refine r_if_eq (tgt := 43) dX12_giveByNumber_34 (by decide) ?_ ?_
    · refine ro_iconst (v := 0) dX12_giveByNumber_43 rfl ?_
      refine r_lo [3, 5, 2, 0] (lo2 := [(0, .ref mo), (2, wi a2), (3, wi x3_6), (5, wi r20)]) rfl ?_
      exact hJ44 _ _
    · refine ro_iconst (v := 1) dX12_giveByNumber_37 rfl ?_
      refine r_iload_n (x := a2) dX12_giveByNumber_38 rfl rfl ?_
      refine r_ishl dX12_giveByNumber_39 ?_
      refine r_goto (tgt := 44) dX12_giveByNumber_40 (by decide) ?_
      refine r_lo [3, 5, 2, 0] (lo2 := [(0, .ref mo), (2, wi a2), (3, wi x3_6), (5, wi r20)]) rfl ?_
      exact hJ44 _ _
def k_X12_give : Kd := (yX12_give, cX12_give, 8, none, [])
theorem kv_X12_give : KV k_X12_give 1 := ⟨uw_mem 1957 (by decide +kernel) rfl, uw_mem 170 (by decide +kernel) rfl, uw_mem 1956 (by decide +kernel) rfl, uw_mem 108 (by decide +kernel) rfl, ⟨by decide +kernel, by decide +kernel⟩, by decide +kernel, by decide +kernel⟩
set_option maxHeartbeats 4000000 in
set_option maxRecDepth 100000 in
theorem c_X12_give {l : Launch} {Γ : Cx} {K0 : Cd} {mo : Nat} {ma : Nat → Nat} (h : mOn Γ mo ma) (a1 : Int) (M : Md) : Ct l Γ k_X12_give 6 encV (emM K0) [.ref mo, wi a1] M (fX12_give a1 M) := by
  refine ct_of (by decide +kernel) rfl (Nat.le_of_ble_eq_true rfl) ?_
  refine r_lo [0, 1] (lo2 := [(0, .ref mo), (1, wi a1)]) rfl ?_
  unfold fX12_give
  refine r_aload_n (x := mo) dX12_give_0 rfl rfl ?_
  refine r_mgetA (kk := 54) h inU12 rfl (by decide) uf_138 rfl rfl dX12_give_1 ?_
  refine r_iload_n (x := a1) dX12_give_4 rfl rfl ?_
  refine r_miald h (by decide) dX12_give_5 ?_
  refine r_nm (fun x2_6 => ?_)
  refine r_istore_n (lo2 := [(2, wi x2_6), (0, .ref mo), (1, wi a1)]) dX12_give_6 rfl (by decide) rfl ?_
  refine r_aload_n (x := mo) dX12_give_7 rfl rfl ?_
  refine r_mgetA (kk := 52) h inU12 rfl (by decide) uf_132 rfl rfl dX12_give_8 ?_
  refine r_iload_n (x := a1) dX12_give_11 rfl rfl ?_
  refine r_miald h (by decide) dX12_give_12 ?_
  refine r_nm (fun x3_13 => ?_)
  refine r_istore_n (lo2 := [(3, wi x3_13), (2, wi x2_6), (0, .ref mo), (1, wi a1)]) dX12_give_13 rfl (by decide) rfl ?_
  refine r_aload_n (x := mo) dX12_give_14 rfl rfl ?_
  refine ro_iconst (v := 0) dX12_give_15 rfl ?_
  refine r_mput (kk := 71) h inU12 rfl (by decide) uf_316 rfl rfl rfl rfl dX12_give_16 (fun M1 => ?_)
  refine r_iload_n (x := x3_13) dX12_give_19 rfl rfl ?_
  refine ro_iconst (v := 2) dX12_give_20 rfl ?_
  refine r_join (P := fun (J : Int → Md → Option (Unit × Md)) => ∀ (t0_34 : Int) (M_34 : Md), RunO l Γ k_X12_give 6 encV (emM K0) 34 [(0, .ref mo), (1, wi a1), (2, wi x2_6), (3, wi x3_13)] [wi t0_34] M_34 (J t0_34 M_34)) ?_ (fun J34 hJ34 => ?_)
  · intro t0_34 M_34
    refine r_istore (lo2 := [(4, wi t0_34), (0, .ref mo), (1, wi a1), (2, wi x2_6), (3, wi x3_13)]) dX12_give_34 (by decide) rfl ?_
    refine r_iload_n (x := x3_13) dX12_give_36 rfl rfl ?_
    refine ro_iconst (v := 2) dX12_give_37 rfl ?_
    refine r_join (P := fun (J : Md → Option (Unit × Md)) => ∀ (M_182 : Md), RunO l Γ k_X12_give 6 encV (emM K0) 182 [(0, .ref mo), (1, wi a1), (2, wi x2_6)] [] M_182 (J M_182)) ?_ (fun J182 hJ182 => ?_)
    · intro M_182
      refine r_aload_n (x := mo) dX12_give_182 rfl rfl ?_
      refine r_mget (kk := 71) h inU12 rfl (by decide) uf_316 rfl rfl dX12_give_183 ?_
      refine r_join (P := fun (J : Md → Option (Unit × Md)) => ∀ (M_254 : Md), RunO l Γ k_X12_give 6 encV (emM K0) 254 [] [] M_254 (J M_254)) ?_ (fun J254 hJ254 => ?_)
      · intro M_254
        exact r_vret rfl dX12_give_254
      refine r_if_le (tgt := 254) dX12_give_186 (by decide) ?_ ?_
      · refine r_lo [] (lo2 := []) rfl ?_
        exact hJ254 _
      · refine r_bipush (v := 32) dX12_give_189 rfl ?_
        refine r_iload_n (x := a1) dX12_give_191 rfl rfl ?_
        refine r_imul dX12_give_192 ?_
        refine r_aload_n (x := mo) dX12_give_193 rfl rfl ?_
        refine r_mget (kk := 71) h inU12 rfl (by decide) uf_316 rfl rfl dX12_give_194 ?_
        refine r_iadd dX12_give_197 ?_
        refine ro_iconst (v := 1) dX12_give_198 rfl ?_
        refine r_isub dX12_give_199 ?_
        refine r_nm (fun x5_200 => ?_)
        refine r_istore (lo2 := [(5, wi x5_200), (0, .ref mo), (1, wi a1), (2, wi x2_6)]) dX12_give_200 (by decide) rfl ?_
        refine r_aload_n (x := mo) dX12_give_202 rfl rfl ?_
        refine r_mgetA (kk := 58) h inU12 rfl (by decide) uf_150 rfl rfl dX12_give_203 ?_
        refine r_iload (x := x5_200) dX12_give_206 rfl ?_
        refine r_aload_n (x := mo) dX12_give_208 rfl rfl ?_
        refine r_callVi (k2 := k_X12_newRow) (n := 0) (rest := [wi x5_200, .ref (ma 58)]) rfl kv_X12_newRow (c_X12_newRow h _) (by decide) um_297 rfl (Nat.le_of_ble_eq_true rfl) dX12_give_209 (m_rec h) rfl (fun r3 M2 => ?_)
        refine r_miast h (by decide) dX12_give_212 (fun M4 => ?_)
        refine r_aload_n (x := mo) dX12_give_213 rfl rfl ?_
        refine ro_iconst (v := 2) dX12_give_214 rfl ?_
        refine r_iload_n (x := a1) dX12_give_215 rfl rfl ?_
        refine ro_iconst (v := 0) dX12_give_216 rfl ?_
        refine ro_iconst (v := 0) dX12_give_217 rfl ?_
        refine r_iload_n (x := x2_6) dX12_give_218 rfl rfl ?_
        refine r_callVv (k2 := k_X12_task) (n := 5) (rest := []) rfl kv_X12_task (c_X12_task h _ _ _ _ _ _) (by decide) um_290 rfl (Nat.le_of_ble_eq_true rfl) dX12_give_219 (m_rec h) rfl (fun r6 M5 => ?_)
        refine r_aload_n (x := mo) dX12_give_222 rfl rfl ?_
        refine ro_iconst (v := 0) dX12_give_223 rfl ?_
        refine r_aload_n (x := mo) dX12_give_224 rfl rfl ?_
        refine r_mgetA (kk := 53) h inU12 rfl (by decide) uf_135 rfl rfl dX12_give_225 ?_
        refine r_iload_n (x := a1) dX12_give_228 rfl rfl ?_
        refine r_miald h (by decide) dX12_give_229 ?_
        refine r_aload_n (x := mo) dX12_give_230 rfl rfl ?_
        refine r_mgetA (kk := 56) h inU12 rfl (by decide) uf_144 rfl rfl dX12_give_231 ?_
        refine r_iload (x := x5_200) dX12_give_234 rfl ?_
        refine r_miald h (by decide) dX12_give_236 ?_
        refine r_aload_n (x := mo) dX12_give_237 rfl rfl ?_
        refine r_mgetA (kk := 57) h inU12 rfl (by decide) uf_147 rfl rfl dX12_give_238 ?_
        refine r_iload (x := x5_200) dX12_give_241 rfl ?_
        refine r_miald h (by decide) dX12_give_243 ?_
        refine r_aload_n (x := mo) dX12_give_244 rfl rfl ?_
        refine r_mgetA (kk := 58) h inU12 rfl (by decide) uf_150 rfl rfl dX12_give_245 ?_
        refine r_iload (x := x5_200) dX12_give_248 rfl ?_
        refine r_miald h (by decide) dX12_give_250 ?_
        refine r_callVv (k2 := k_X12_task) (n := 5) (rest := []) rfl kv_X12_task (c_X12_task h _ _ _ _ _ _) (by decide) um_290 rfl (Nat.le_of_ble_eq_true rfl) dX12_give_251 (m_rec h) rfl (fun r8 M7 => ?_)
        refine r_lo [] (lo2 := []) rfl ?_
        exact hJ254 _
    refine r_join (P := fun (J : Md → Option (Unit × Md)) => ∀ (M_135 : Md), RunO l Γ k_X12_give 6 encV (emM K0) 135 [(0, .ref mo), (1, wi a1), (2, wi x2_6), (3, wi x3_13), (4, wi t0_34)] [] M_135 (J M_135)) ?_ (fun J135 hJ135 => ?_)
    · intro M_135
      refine r_iload_n (x := x3_13) dX12_give_135 rfl rfl ?_
      refine ro_iconst (v := 2) dX12_give_136 rfl ?_
      refine r_icmp_ne (tgt := 164) dX12_give_137 (by decide) ?_ ?_
      · refine r_aload_n (x := mo) dX12_give_164 rfl rfl ?_
        refine r_mget (kk := 71) h inU12 rfl (by decide) uf_316 rfl rfl dX12_give_165 ?_
        refine r_if_ne (tgt := 182) dX12_give_168 (by decide) ?_ ?_
        · refine r_lo [0, 1, 2] (lo2 := [(0, .ref mo), (1, wi a1), (2, wi x2_6)]) rfl ?_
          exact hJ182 _
        · refine r_aload_n (x := mo) dX12_give_171 rfl rfl ?_
          refine r_iload_n (x := a1) dX12_give_172 rfl rfl ?_
          refine r_aload_n (x := mo) dX12_give_173 rfl rfl ?_
          refine r_iload (x := t0_34) dX12_give_174 rfl ?_
          refine r_callVi (k2 := k_X12_numberOf) (n := 1) (rest := [wi a1, .ref mo]) rfl kv_X12_numberOf (c_X12_numberOf h _ _) (by decide) um_325 rfl (Nat.le_of_ble_eq_true rfl) dX12_give_176 (m_rec h) rfl (fun r10 M9 => ?_)
          refine r_callVv (k2 := k_X12_giveByNumber) (n := 2) (rest := []) rfl kv_X12_giveByNumber (c_X12_giveByNumber h _ _ _) (by decide) um_358 rfl (Nat.le_of_ble_eq_true rfl) dX12_give_179 (m_rec h) rfl (fun r12 M11 => ?_)
          refine r_lo [0, 1, 2] (lo2 := [(0, .ref mo), (1, wi a1), (2, wi x2_6)]) rfl ?_
          exact hJ182 _
      · refine r_aload_n (x := mo) dX12_give_140 rfl rfl ?_
        refine r_iload_n (x := a1) dX12_give_141 rfl rfl ?_
        refine r_callVi (k2 := k_X12_sumOf) (n := 1) (rest := []) rfl kv_X12_sumOf (c_X12_sumOf h _ _) (by decide) um_355 rfl (Nat.le_of_ble_eq_true rfl) dX12_give_142 (m_rec h) rfl (fun r14 M13 => ?_)
        refine r_istore (lo2 := [(5, wi r14), (0, .ref mo), (1, wi a1), (2, wi x2_6), (3, wi x3_13), (4, wi t0_34)]) dX12_give_145 (by decide) rfl ?_
        refine r_aload_n (x := mo) dX12_give_147 rfl rfl ?_
        refine r_mget (kk := 71) h inU12 rfl (by decide) uf_316 rfl rfl dX12_give_148 ?_
        refine r_join (P := fun (J : Md → Option (Unit × Md)) => ∀ (M_161 : Md), RunO l Γ k_X12_give 6 encV (emM K0) 161 [(0, .ref mo), (1, wi a1), (2, wi x2_6)] [] M_161 (J M_161)) ?_ (fun J161 hJ161 => ?_)
        · intro M_161
          refine r_goto (tgt := 182) dX12_give_161 (by decide) ?_
          exact hJ182 _
        refine r_if_ne (tgt := 161) dX12_give_151 (by decide) ?_ ?_
        · refine r_lo [1, 2, 3] (lo2 := [(0, .ref mo), (1, wi a1), (2, wi x2_6)]) rfl ?_
          exact hJ161 _
        · refine r_aload_n (x := mo) dX12_give_154 rfl rfl ?_
          refine r_iload_n (x := x2_6) dX12_give_155 rfl rfl ?_
          refine r_iload (x := r14) dX12_give_156 rfl ?_
          refine r_callVv (k2 := k_X12_append) (n := 2) (rest := []) rfl kv_X12_append (c_X12_append h _ _ _) (by decide) um_251 rfl (Nat.le_of_ble_eq_true rfl) dX12_give_158 (m_rec h) rfl (fun r16 M15 => ?_)
          refine r_lo [1, 2, 3] (lo2 := [(0, .ref mo), (1, wi a1), (2, wi x2_6)]) rfl ?_
          exact hJ161 _
    refine r_icmp_ge (tgt := 135) dX12_give_38 (by decide) ?_ ?_
    · refine r_lo [1, 2, 3, 4, 0] (lo2 := [(0, .ref mo), (1, wi a1), (2, wi x2_6), (3, wi x3_13), (4, wi t0_34)]) rfl ?_
      exact hJ135 _
    · refine r_aload_n (x := mo) dX12_give_41 rfl rfl ?_
      refine r_mget (kk := 71) h inU12 rfl (by decide) uf_316 rfl rfl dX12_give_42 ?_
      refine r_if_ne (tgt := 135) dX12_give_45 (by decide) ?_ ?_
      · refine r_lo [1, 2, 3, 4, 0] (lo2 := [(0, .ref mo), (1, wi a1), (2, wi x2_6), (3, wi x3_13), (4, wi t0_34)]) rfl ?_
        exact hJ135 _
      · refine r_iload_n (x := x3_13) dX12_give_48 rfl rfl ?_
        refine ro_iconst (v := 1) dX12_give_49 rfl ?_
        refine r_join (P := fun (J : Int → Md → Option (Unit × Md)) => ∀ (t0_63 : Int) (M_63 : Md), RunO l Γ k_X12_give 6 encV (emM K0) 63 [(0, .ref mo), (1, wi a1), (2, wi x2_6), (3, wi x3_13), (4, wi t0_34)] [wi t0_63] M_63 (J t0_63 M_63)) ?_ (fun J63 hJ63 => ?_)
        · intro t0_63 M_63
          refine r_istore (lo2 := [(5, wi t0_63), (0, .ref mo), (1, wi a1), (2, wi x2_6), (3, wi x3_13), (4, wi t0_34)]) dX12_give_63 (by decide) rfl ?_
          refine r_iload_n (x := x3_13) dX12_give_65 rfl rfl ?_
          refine r_join (P := fun (J : Int → Md → Option (Unit × Md)) => ∀ (t0_86 : Int) (M_86 : Md), RunO l Γ k_X12_give 6 encV (emM K0) 86 [(0, .ref mo), (1, wi a1), (2, wi x2_6), (3, wi x3_13)] [wi t0_86] M_86 (J t0_86 M_86)) ?_ (fun J86 hJ86 => ?_)
          · intro t0_86 M_86
            refine r_istore (lo2 := [(6, wi t0_86), (0, .ref mo), (1, wi a1), (2, wi x2_6), (3, wi x3_13)]) dX12_give_86 (by decide) rfl ?_
            refine r_aload_n (x := mo) dX12_give_88 rfl rfl ?_
            refine r_mget (kk := 71) h inU12 rfl (by decide) uf_316 rfl rfl dX12_give_89 ?_
            refine r_join (P := fun (J : Int → Md → Option (Unit × Md)) => ∀ (t0_116 : Int) (M_116 : Md), RunO l Γ k_X12_give 6 encV (emM K0) 116 [(0, .ref mo), (1, wi a1), (2, wi x2_6)] [wi t0_116] M_116 (J t0_116 M_116)) ?_ (fun J116 hJ116 => ?_)
            · intro t0_116 M_116
              refine r_istore (lo2 := [(7, wi t0_116), (0, .ref mo), (1, wi a1), (2, wi x2_6)]) dX12_give_116 (by decide) rfl ?_
              refine r_aload_n (x := mo) dX12_give_118 rfl rfl ?_
              refine r_mget (kk := 71) h inU12 rfl (by decide) uf_316 rfl rfl dX12_give_119 ?_
              refine r_join (P := fun (J : Md → Option (Unit × Md)) => ∀ (M_132 : Md), RunO l Γ k_X12_give 6 encV (emM K0) 132 [(0, .ref mo), (1, wi a1), (2, wi x2_6)] [] M_132 (J M_132)) ?_ (fun J132 hJ132 => ?_)
              · intro M_132
                refine r_goto (tgt := 182) dX12_give_132 (by decide) ?_
                exact hJ182 _
              refine r_if_ne (tgt := 132) dX12_give_122 (by decide) ?_ ?_
              · refine r_lo [1, 2, 3] (lo2 := [(0, .ref mo), (1, wi a1), (2, wi x2_6)]) rfl ?_
                exact hJ132 _
              · refine r_aload_n (x := mo) dX12_give_125 rfl rfl ?_
                refine r_iload_n (x := x2_6) dX12_give_126 rfl rfl ?_
                refine r_iload (x := t0_116) dX12_give_127 rfl ?_
                refine r_callVv (k2 := k_X12_appendRow) (n := 2) (rest := []) rfl kv_X12_appendRow (c_X12_appendRow h _ _ _) (by decide) um_294 rfl (Nat.le_of_ble_eq_true rfl) dX12_give_129 (m_rec h) rfl (fun r18 M17 => ?_)
                refine r_lo [1, 2, 3] (lo2 := [(0, .ref mo), (1, wi a1), (2, wi x2_6)]) rfl ?_
                exact hJ132 _
            refine r_if_le (tgt := 99) dX12_give_92 (by decide) ?_ ?_
            · refine r_aload_n (x := mo) dX12_give_99 rfl rfl ?_
              refine r_iload_n (x := a1) dX12_give_100 rfl rfl ?_
              refine r_iload_n (x := x3_13) dX12_give_101 rfl rfl ?_
              refine r_iload (x := t0_86) dX12_give_102 rfl ?_
              refine r_join (P := fun (J : Int → Md → Option (Unit × Md)) => ∀ (t0_112 : Int) (M_112 : Md), RunO l Γ k_X12_give 6 encV (emM K0) 112 [(0, .ref mo), (1, wi a1), (2, wi x2_6)] [wi t0_112, wi x3_13, wi a1, .ref mo] M_112 (J t0_112 M_112)) ?_ (fun J112 hJ112 => ?_)
              · intro t0_112 M_112
                refine r_iadd dX12_give_112 ?_
                refine r_callVi (k2 := k_X12_partOf) (n := 2) (rest := []) rfl kv_X12_partOf (c_X12_partOf h _ _ _) (by decide) um_319 rfl (Nat.le_of_ble_eq_true rfl) dX12_give_113 (m_rec h) rfl (fun r20 M19 => ?_)
                exact hJ116 _ _
              refine r_if_eq (tgt := 111) dX12_give_104 (by decide) ?_ ?_
              · refine ro_iconst (v := 3) dX12_give_111 rfl ?_
                refine r_lo [1, 2, 3] (lo2 := [(0, .ref mo), (1, wi a1), (2, wi x2_6)]) rfl ?_
                exact hJ112 _ _
              · refine ro_iconst (v := 2) dX12_give_107 rfl ?_
                refine r_goto (tgt := 112) dX12_give_108 (by decide) ?_
                refine r_lo [1, 2, 3] (lo2 := [(0, .ref mo), (1, wi a1), (2, wi x2_6)]) rfl ?_
                exact hJ112 _ _
            · refine ro_iconst (v := 1) dX12_give_95 rfl ?_
              refine r_goto (tgt := 116) dX12_give_96 (by decide) ?_
              refine r_lo [1, 2, 3] (lo2 := [(0, .ref mo), (1, wi a1), (2, wi x2_6)]) rfl ?_
              exact hJ116 _ _
          refine r_if_ne (tgt := 78) dX12_give_66 (by decide) ?_ ?_
          · refine r_aload_n (x := mo) dX12_give_78 rfl rfl ?_
            refine r_iload (x := t0_34) dX12_give_79 rfl ?_
            refine r_iload (x := t0_63) dX12_give_81 rfl ?_
            refine r_callVi (k2 := k_X12_areSame) (n := 2) (rest := []) rfl kv_X12_areSame (c_X12_areSame h _ _ _) (by decide) um_352 rfl (Nat.le_of_ble_eq_true rfl) dX12_give_83 (m_rec h) rfl (fun r22 M21 => ?_)
            refine r_lo [1, 2, 3, 4] (lo2 := [(0, .ref mo), (1, wi a1), (2, wi x2_6), (3, wi x3_13)]) rfl ?_
            exact hJ86 _ _
          · refine r_aload_n (x := mo) dX12_give_69 rfl rfl ?_
            refine r_iload (x := t0_34) dX12_give_70 rfl ?_
            refine r_callVi (k2 := k_X12_hasOther) (n := 1) (rest := []) rfl kv_X12_hasOther (c_X12_hasOther h _ _) (by decide) um_349 rfl (Nat.le_of_ble_eq_true rfl) dX12_give_72 (m_rec h) rfl (fun r24 M23 => ?_)
            refine r_goto (tgt := 86) dX12_give_75 (by decide) ?_
            refine r_lo [1, 2, 3, 4] (lo2 := [(0, .ref mo), (1, wi a1), (2, wi x2_6), (3, wi x3_13)]) rfl ?_
            exact hJ86 _ _
        refine r_icmp_ne (tgt := 62) dX12_give_50 (by decide) ?_ ?_
        · refine ro_iconst (v := 1) dX12_give_62 rfl ?_
          refine r_lo [1, 2, 3, 4, 0] (lo2 := [(0, .ref mo), (1, wi a1), (2, wi x2_6), (3, wi x3_13), (4, wi t0_34)]) rfl ?_
          exact hJ63 _ _
        · refine r_aload_n (x := mo) dX12_give_53 rfl rfl ?_
          refine r_iload_n (x := a1) dX12_give_54 rfl rfl ?_
          refine ro_iconst (v := 2) dX12_give_55 rfl ?_
          refine r_callVi (k2 := k_X12_partOf) (n := 2) (rest := []) rfl kv_X12_partOf (c_X12_partOf h _ _ _) (by decide) um_319 rfl (Nat.le_of_ble_eq_true rfl) dX12_give_56 (m_rec h) rfl (fun r26 M25 => ?_)
          refine r_goto (tgt := 63) dX12_give_59 (by decide) ?_
          refine r_lo [1, 2, 3, 4, 0] (lo2 := [(0, .ref mo), (1, wi a1), (2, wi x2_6), (3, wi x3_13), (4, wi t0_34)]) rfl ?_
          exact hJ63 _ _
  refine r_icmp_ne (tgt := 28) dX12_give_21 (by decide) ?_ ?_
  · refine r_aload_n (x := mo) dX12_give_28 rfl rfl ?_
    refine r_iload_n (x := a1) dX12_give_29 rfl rfl ?_
    refine ro_iconst (v := 1) dX12_give_30 rfl ?_
    refine r_callVi (k2 := k_X12_partOf) (n := 2) (rest := []) rfl kv_X12_partOf (c_X12_partOf h _ _ _) (by decide) um_319 rfl (Nat.le_of_ble_eq_true rfl) dX12_give_31 (m_rec h) rfl (fun r28 M27 => ?_)
    refine r_lo [2, 3, 1, 0] (lo2 := [(0, .ref mo), (1, wi a1), (2, wi x2_6), (3, wi x3_13)]) rfl ?_
    exact hJ34 _ _
  · refine ro_iconst (v := 1) dX12_give_24 rfl ?_
    refine r_goto (tgt := 34) dX12_give_25 (by decide) ?_
    refine r_lo [2, 3, 1, 0] (lo2 := [(0, .ref mo), (1, wi a1), (2, wi x2_6), (3, wi x3_13)]) rfl ?_
    exact hJ34 _ _
def k_X12_codeAt : Kd := (yX12_codeAt, cX12_codeAt, 3, some .int, [])
theorem kv_X12_codeAt : KV k_X12_codeAt 2 := ⟨uw_mem 2015 (by decide +kernel) rfl, uw_mem 170 (by decide +kernel) rfl, uw_mem 2014 (by decide +kernel) rfl, uw_mem 121 (by decide +kernel) rfl, ⟨by decide +kernel, by decide +kernel⟩, by decide +kernel, by decide +kernel⟩
set_option maxHeartbeats 4000000 in
set_option maxRecDepth 100000 in
theorem c_X12_codeAt {l : Launch} {Γ : Cx} {K0 : Cd} {mo : Nat} {ma : Nat → Nat} (h : mOn Γ mo ma) (a1 : Int) (a2 : Int) (M : Md) : Ct l Γ k_X12_codeAt 1 encI (emM K0) [.ref mo, wi a1, wi a2] M (fX12_codeAt a1 a2 M) := by
  refine ct_of (by decide +kernel) rfl (Nat.le_of_ble_eq_true rfl) ?_
  refine r_lo [0, 1, 2] (lo2 := [(0, .ref mo), (1, wi a1), (2, wi a2)]) rfl ?_
  unfold fX12_codeAt
  refine r_aload_n (x := mo) dX12_codeAt_0 rfl rfl ?_
  refine r_mgetA (kk := 9) h inU12 rfl (by decide) uf_22 rfl rfl dX12_codeAt_1 ?_
  refine r_bipush (v := 30) dX12_codeAt_4 rfl ?_
  refine r_aload_n (x := mo) dX12_codeAt_6 rfl rfl ?_
  refine r_mgetA (kk := 41) h inU12 rfl (by decide) uf_104 rfl rfl dX12_codeAt_7 ?_
  refine r_iload_n (x := a1) dX12_codeAt_10 rfl rfl ?_
  refine r_miald h (by decide) dX12_codeAt_11 ?_
  refine r_imul dX12_codeAt_12 ?_
  refine r_iload_n (x := a2) dX12_codeAt_13 rfl rfl ?_
  refine r_iadd dX12_codeAt_14 ?_
  refine r_miald h (by decide) dX12_codeAt_15 ?_
  exact r_iret rfl dX12_codeAt_16
def k_X12_opens : Kd := (yX12_opens, cX12_opens, 1, some .boolean, [])
theorem kv_X12_opens : KS k_X12_opens 1 := ⟨uw_mem 2018 (by decide +kernel) rfl, uw_mem 170 (by decide +kernel) rfl, uw_mem 2017 (by decide +kernel) rfl, ⟨by decide +kernel, by decide +kernel⟩, by decide +kernel, by decide +kernel⟩
set_option maxHeartbeats 4000000 in
set_option maxRecDepth 100000 in
theorem c_X12_opens {l : Launch} {Γ : Cx} {K0 : Cd} {mo : Nat} {ma : Nat → Nat} (h : mOn Γ mo ma) (a0 : Int) (M : Md) : Ct l Γ k_X12_opens 1 encI (emM K0) [wi a0] M (fX12_opens a0 M) := by
  refine ct_of (by decide +kernel) rfl (Nat.le_of_ble_eq_true rfl) ?_
  refine r_lo [0] (lo2 := [(0, wi a0)]) rfl ?_
  unfold fX12_opens
  refine r_iload_n (x := a0) dX12_opens_0 rfl rfl ?_
  refine ro_iconst (v := 2) dX12_opens_1 rfl ?_
  refine r_join (P := fun (J : Int → Md → Option (Int × Md)) => ∀ (t0_38 : Int) (M_38 : Md), RunO l Γ k_X12_opens 1 encI (emM K0) 38 [] [wi t0_38] M_38 (J t0_38 M_38)) ?_ (fun J38 hJ38 => ?_)
  · intro t0_38 M_38
    exact r_zret rfl dX12_opens_38
  refine r_join (P := fun (J : Md → Option (Int × Md)) => ∀ (M_33 : Md), RunO l Γ k_X12_opens 1 encI (emM K0) 33 [] [] M_33 (J M_33)) ?_ (fun J33 hJ33 => ?_)
  · intro M_33
    refine ro_iconst (v := 1) dX12_opens_33 rfl ?_
    refine r_goto (tgt := 38) dX12_opens_34 (by decide) ?_
    exact hJ38 _ _
  refine r_icmp_eq (tgt := 33) dX12_opens_2 (by decide) ?_ ?_
  · refine r_lo [] (lo2 := []) rfl ?_
    exact hJ33 _
  · refine r_iload_n (x := a0) dX12_opens_5 rfl rfl ?_
    refine ro_iconst (v := 3) dX12_opens_6 rfl ?_
    refine r_icmp_eq (tgt := 33) dX12_opens_7 (by decide) ?_ ?_
    · refine r_lo [] (lo2 := []) rfl ?_
      exact hJ33 _
    · refine r_iload_n (x := a0) dX12_opens_10 rfl rfl ?_
      refine ro_iconst (v := 4) dX12_opens_11 rfl ?_
      refine r_icmp_eq (tgt := 33) dX12_opens_12 (by decide) ?_ ?_
      · refine r_lo [] (lo2 := []) rfl ?_
        exact hJ33 _
      · refine r_iload_n (x := a0) dX12_opens_15 rfl rfl ?_
        refine r_bipush (v := 8) dX12_opens_16 rfl ?_
        refine r_icmp_eq (tgt := 33) dX12_opens_18 (by decide) ?_ ?_
        · refine r_lo [] (lo2 := []) rfl ?_
          exact hJ33 _
        · refine r_iload_n (x := a0) dX12_opens_21 rfl rfl ?_
          refine r_bipush (v := 9) dX12_opens_22 rfl ?_
          refine r_icmp_eq (tgt := 33) dX12_opens_24 (by decide) ?_ ?_
          · refine r_lo [] (lo2 := []) rfl ?_
            exact hJ33 _
          · refine r_iload_n (x := a0) dX12_opens_27 rfl rfl ?_
            refine r_bipush (v := 10) dX12_opens_28 rfl ?_
            refine r_icmp_ne (tgt := 37) dX12_opens_30 (by decide) ?_ ?_
            · refine ro_iconst (v := 0) dX12_opens_37 rfl ?_
              refine r_lo [] (lo2 := []) rfl ?_
              exact hJ38 _ _
            · refine r_lo [] (lo2 := []) rfl ?_
              exact hJ33 _
def k_X12_closeOf : Kd := (yX12_closeOf, cX12_closeOf, 6, some .int, [])
theorem kv_X12_closeOf : KV k_X12_closeOf 2 := ⟨uw_mem 2022 (by decide +kernel) rfl, uw_mem 170 (by decide +kernel) rfl, uw_mem 2021 (by decide +kernel) rfl, uw_mem 122 (by decide +kernel) rfl, ⟨by decide +kernel, by decide +kernel⟩, by decide +kernel, by decide +kernel⟩
set_option maxHeartbeats 4000000 in
set_option maxRecDepth 100000 in
theorem c_X12_closeOf {l : Launch} {Γ : Cx} {K0 : Cd} {mo : Nat} {ma : Nat → Nat} (h : mOn Γ mo ma) (a1 : Int) (a2 : Int) (M : Md) : Ct l Γ k_X12_closeOf 2 encI (emM K0) [.ref mo, wi a1, wi a2] M (fX12_closeOf a1 a2 M) := by
  refine ct_of (by decide +kernel) rfl (Nat.le_of_ble_eq_true rfl) ?_
  refine r_lo [0, 1, 2] (lo2 := [(0, .ref mo), (1, wi a1), (2, wi a2)]) rfl ?_
  unfold fX12_closeOf
  refine ro_iconst (v := 1) dX12_closeOf_0 rfl ?_
  refine r_istore_n (lo2 := [(3, wi 1), (0, .ref mo), (1, wi a1), (2, wi a2)]) dX12_closeOf_1 rfl (by decide) rfl ?_
  refine r_iload_n (x := a2) dX12_closeOf_2 rfl rfl ?_
  refine r_istore (lo2 := [(4, wi a2), (3, wi 1), (0, .ref mo), (1, wi a1), (2, wi a2)]) dX12_closeOf_3 (by decide) rfl ?_
  refine r_loop (P := fun (J : Int → Int → Md → Option (Int × Md)) => ∀ (v3_5 : Int) (v4_5 : Int) (M_5 : Md), RunO l Γ k_X12_closeOf 2 encI (emM K0) 5 [(0, .ref mo), (1, wi a1), (3, wi v3_5), (4, wi v4_5)] [] M_5 (J v3_5 v4_5 M_5)) ?_ (fun L5 hL5 => ?_) (fun J5 hJ5 => ?_)
  · intros; exact ro_none
  · intro v3_5 v4_5 M_5
    refine r_iload_n (x := v3_5) dX12_closeOf_5 rfl rfl ?_
    refine r_if_le (tgt := 55) dX12_closeOf_6 (by decide) ?_ ?_
    · refine r_iload (x := v4_5) dX12_closeOf_55 rfl ?_
      exact r_iret rfl dX12_closeOf_57
    · refine r_iinc (x := v4_5) (lo2 := [(4, wi (v4_5 + 1)), (0, .ref mo), (1, wi a1), (3, wi v3_5)]) dX12_closeOf_9 rfl (by decide) rfl ?_
      refine r_aload_n (x := mo) dX12_closeOf_12 rfl rfl ?_
      refine r_iload_n (x := a1) dX12_closeOf_13 rfl rfl ?_
      refine r_iload (x := v4_5 + 1) dX12_closeOf_14 rfl ?_
      refine r_callVi (k2 := k_X12_codeAt) (n := 2) (rest := []) rfl kv_X12_codeAt (c_X12_codeAt h _ _ _) (by decide) um_257 rfl (Nat.le_of_ble_eq_true rfl) dX12_closeOf_16 (m_rec h) rfl (fun r2 M1 => ?_)
      refine r_sipush (v := 1000) dX12_closeOf_19 rfl ?_
      refine r_idiv dX12_closeOf_22 (by decide) ?_
      refine r_nm (fun x5_23 => ?_)
      refine r_istore (lo2 := [(5, wi x5_23), (4, wi (v4_5 + 1)), (0, .ref mo), (1, wi a1), (3, wi v3_5)]) dX12_closeOf_23 (by decide) rfl ?_
      refine r_iload_n (x := v3_5) dX12_closeOf_25 rfl rfl ?_
      refine r_iload (x := x5_23) dX12_closeOf_26 rfl ?_
      refine r_callSi (k2 := k_X12_opens) (n := 1) (rest := [wi v3_5]) rfl kv_X12_opens (c_X12_opens h _ _) (by decide) um_206 rfl (Nat.le_of_ble_eq_true rfl) dX12_closeOf_28 rfl (fun r4 M3 => ?_)
      refine r_join (P := fun (J : Int → Md → Option (Int × Md)) => ∀ (t0_50 : Int) (M_50 : Md), RunO l Γ k_X12_closeOf 2 encI (emM K0) 50 [(0, .ref mo), (1, wi a1), (4, wi (v4_5 + 1))] [wi t0_50, wi v3_5] M_50 (J t0_50 M_50)) ?_ (fun J50 hJ50 => ?_)
      · intro t0_50 M_50
        refine r_iadd dX12_closeOf_50 ?_
        refine r_nm (fun x3_51 => ?_)
        refine r_istore_n (lo2 := [(3, wi x3_51), (0, .ref mo), (1, wi a1), (4, wi (v4_5 + 1))]) dX12_closeOf_51 rfl (by decide) rfl ?_
        refine r_goto (tgt := 5) dX12_closeOf_52 (by decide) ?_
        refine r_lo [1, 2, 0, 3] (lo2 := [(0, .ref mo), (1, wi a1), (3, wi x3_51), (4, wi (v4_5 + 1))]) rfl ?_
        exact hL5 _ _ _
      refine r_if_eq (tgt := 38) dX12_closeOf_31 (by decide) ?_ ?_
      · refine r_iload (x := x5_23) dX12_closeOf_38 rfl ?_
        refine r_bipush (v := 7) dX12_closeOf_40 rfl ?_
        refine r_icmp_ne (tgt := 49) dX12_closeOf_42 (by decide) ?_ ?_
        · refine ro_iconst (v := 0) dX12_closeOf_49 rfl ?_
          refine r_lo [2, 3, 1] (lo2 := [(0, .ref mo), (1, wi a1), (4, wi (v4_5 + 1))]) rfl ?_
          exact hJ50 _ _
        · refine ro_iconst (v := (-1)) dX12_closeOf_45 rfl ?_
          refine r_goto (tgt := 50) dX12_closeOf_46 (by decide) ?_
          refine r_lo [2, 3, 1] (lo2 := [(0, .ref mo), (1, wi a1), (4, wi (v4_5 + 1))]) rfl ?_
          exact hJ50 _ _
      · refine ro_iconst (v := 1) dX12_closeOf_34 rfl ?_
        refine r_goto (tgt := 50) dX12_closeOf_35 (by decide) ?_
        refine r_lo [2, 3, 1] (lo2 := [(0, .ref mo), (1, wi a1), (4, wi (v4_5 + 1))]) rfl ?_
        exact hJ50 _ _
  refine r_lo [2, 3, 1, 0] (lo2 := [(0, .ref mo), (1, wi a1), (3, wi 1), (4, wi a2)]) rfl ?_
  exact hJ5 _ _ _
def k_X12_redirectOf : Kd := (yX12_redirectOf, cX12_redirectOf, 3, some .int, [])
theorem kv_X12_redirectOf : KV k_X12_redirectOf 1 := ⟨uw_mem 2038 (by decide +kernel) rfl, uw_mem 170 (by decide +kernel) rfl, uw_mem 2037 (by decide +kernel) rfl, uw_mem 126 (by decide +kernel) rfl, ⟨by decide +kernel, by decide +kernel⟩, by decide +kernel, by decide +kernel⟩
set_option maxHeartbeats 4000000 in
set_option maxRecDepth 100000 in
theorem c_X12_redirectOf {l : Launch} {Γ : Cx} {K0 : Cd} {mo : Nat} {ma : Nat → Nat} (h : mOn Γ mo ma) (a1 : Int) (M : Md) : Ct l Γ k_X12_redirectOf 1 encI (emM K0) [.ref mo, wi a1] M (fX12_redirectOf a1 M) := by
  refine ct_of (by decide +kernel) rfl (Nat.le_of_ble_eq_true rfl) ?_
  refine r_lo [0, 1] (lo2 := [(0, .ref mo), (1, wi a1)]) rfl ?_
  unfold fX12_redirectOf
  refine r_aload_n (x := mo) dX12_redirectOf_0 rfl rfl ?_
  refine r_mgetA (kk := 9) h inU12 rfl (by decide) uf_22 rfl rfl dX12_redirectOf_1 ?_
  refine r_bipush (v := 30) dX12_redirectOf_4 rfl ?_
  refine r_iload_n (x := a1) dX12_redirectOf_6 rfl rfl ?_
  refine r_imul dX12_redirectOf_7 ?_
  refine r_miald h (by decide) dX12_redirectOf_8 ?_
  refine r_nm (fun x2_9 => ?_)
  refine r_istore_n (lo2 := [(2, wi x2_9), (0, .ref mo), (1, wi a1)]) dX12_redirectOf_9 rfl (by decide) rfl ?_
  refine r_iload_n (x := x2_9) dX12_redirectOf_10 rfl rfl ?_
  refine r_sipush (v := 1000) dX12_redirectOf_11 rfl ?_
  refine r_idiv dX12_redirectOf_14 (by decide) ?_
  refine r_bipush (v := 12) dX12_redirectOf_15 rfl ?_
  refine r_join (P := fun (J : Int → Md → Option (Int × Md)) => ∀ (t0_29 : Int) (M_29 : Md), RunO l Γ k_X12_redirectOf 1 encI (emM K0) 29 [] [wi t0_29] M_29 (J t0_29 M_29)) ?_ (fun J29 hJ29 => ?_)
  · intro t0_29 M_29
    exact r_iret rfl dX12_redirectOf_29
  refine r_icmp_ne (tgt := 28) dX12_redirectOf_17 (by decide) ?_ ?_
  · refine ro_iconst (v := (-1)) dX12_redirectOf_28 rfl ?_
    refine r_lo [] (lo2 := []) rfl ?_
    exact hJ29 _ _
  · refine r_iload_n (x := x2_9) dX12_redirectOf_20 rfl rfl ?_
    refine r_sipush (v := 1000) dX12_redirectOf_21 rfl ?_
    refine r_irem dX12_redirectOf_24 (by decide) ?_
    refine r_goto (tgt := 29) dX12_redirectOf_25 (by decide) ?_
    refine r_lo [] (lo2 := []) rfl ?_
    exact hJ29 _ _
def k_X12_wayOf : Kd := (yX12_wayOf, cX12_wayOf, 6, some .int, [])
theorem kv_X12_wayOf : KV k_X12_wayOf 1 := ⟨uw_mem 2034 (by decide +kernel) rfl, uw_mem 170 (by decide +kernel) rfl, uw_mem 2033 (by decide +kernel) rfl, uw_mem 125 (by decide +kernel) rfl, ⟨by decide +kernel, by decide +kernel⟩, by decide +kernel, by decide +kernel⟩
set_option maxHeartbeats 4000000 in
set_option maxRecDepth 100000 in
theorem c_X12_wayOf {l : Launch} {Γ : Cx} {K0 : Cd} {mo : Nat} {ma : Nat → Nat} (h : mOn Γ mo ma) (a1 : Int) (M : Md) : Ct l Γ k_X12_wayOf 5 encI (emM K0) [.ref mo, wi a1] M (fX12_wayOf a1 M) := by
  refine ct_of (by decide +kernel) rfl (Nat.le_of_ble_eq_true rfl) ?_
  refine r_lo [0, 1] (lo2 := [(0, .ref mo), (1, wi a1)]) rfl ?_
  unfold fX12_wayOf
  refine r_iload_n (x := a1) dX12_wayOf_0 rfl rfl ?_
  refine r_istore_n (lo2 := [(2, wi a1), (0, .ref mo), (1, wi a1)]) dX12_wayOf_1 rfl (by decide) rfl ?_
  refine ro_iconst (v := 0) dX12_wayOf_2 rfl ?_
  refine r_istore_n (lo2 := [(3, wi 0), (2, wi a1), (0, .ref mo), (1, wi a1)]) dX12_wayOf_3 rfl (by decide) rfl ?_
  refine r_loop (P := fun (J : Int → Int → Md → Option (Int × Md)) => ∀ (v2_4 : Int) (v3_4 : Int) (M_4 : Md), RunO l Γ k_X12_wayOf 5 encI (emM K0) 4 [(0, .ref mo), (2, wi v2_4), (3, wi v3_4)] [] M_4 (J v2_4 v3_4 M_4)) ?_ (fun L4 hL4 => ?_) (fun J4 hJ4 => ?_)
  · intros; exact ro_none
  · intro v2_4 v3_4 M_4
    refine r_iload_n (x := v3_4) dX12_wayOf_4 rfl rfl ?_
    refine ro_iconst (v := 5) dX12_wayOf_5 rfl ?_
    refine r_icmp_ge (tgt := 61) dX12_wayOf_6 (by decide) ?_ ?_
    · refine ro_iconst (v := (-1)) dX12_wayOf_61 rfl ?_
      exact r_iret rfl dX12_wayOf_62
    · refine r_aload_n (x := mo) dX12_wayOf_9 rfl rfl ?_
      refine r_dup dX12_wayOf_10 rfl ?_
      refine r_mget (kk := 68) h inU12 rfl (by decide) uf_239 rfl rfl dX12_wayOf_11 ?_
      refine ro_iconst (v := 1) dX12_wayOf_14 rfl ?_
      refine r_iload_n (x := v2_4) dX12_wayOf_15 rfl rfl ?_
      refine r_ishl dX12_wayOf_16 ?_
      refine r_ior dX12_wayOf_17 ?_
      refine r_mput (kk := 68) h inU12 rfl (by decide) uf_239 rfl rfl rfl rfl dX12_wayOf_18 (fun M1 => ?_)
      refine r_aload_n (x := mo) dX12_wayOf_21 rfl rfl ?_
      refine r_iload_n (x := v2_4) dX12_wayOf_22 rfl rfl ?_
      refine r_callVi (k2 := k_X12_seenAt) (n := 1) (rest := []) rfl kv_X12_seenAt (c_X12_seenAt h _ _) (by decide) um_242 rfl (Nat.le_of_ble_eq_true rfl) dX12_wayOf_23 (m_rec h) rfl (fun r3 M2 => ?_)
      refine r_istore (lo2 := [(4, wi r3), (0, .ref mo), (2, wi v2_4), (3, wi v3_4)]) dX12_wayOf_26 (by decide) rfl ?_
      refine r_iload (x := r3) dX12_wayOf_28 rfl ?_
      refine ro_iconst (v := (-1)) dX12_wayOf_30 rfl ?_
      refine r_icmp_ne (tgt := 36) dX12_wayOf_31 (by decide) ?_ ?_
      · refine r_aload_n (x := mo) dX12_wayOf_36 rfl rfl ?_
        refine r_iload (x := r3) dX12_wayOf_37 rfl ?_
        refine r_callVi (k2 := k_X12_redirectOf) (n := 1) (rest := []) rfl kv_X12_redirectOf (c_X12_redirectOf h _ _) (by decide) um_245 rfl (Nat.le_of_ble_eq_true rfl) dX12_wayOf_39 (m_rec h) rfl (fun r5 M4 => ?_)
        refine r_istore (lo2 := [(5, wi r5), (4, wi r3), (0, .ref mo), (2, wi v2_4), (3, wi v3_4)]) dX12_wayOf_42 (by decide) rfl ?_
        refine r_iload (x := r5) dX12_wayOf_44 rfl ?_
        refine ro_iconst (v := (-1)) dX12_wayOf_46 rfl ?_
        refine r_icmp_ne (tgt := 52) dX12_wayOf_47 (by decide) ?_ ?_
        · refine r_iload (x := r5) dX12_wayOf_52 rfl ?_
          refine r_istore_n (lo2 := [(2, wi r5), (5, wi r5), (4, wi r3), (0, .ref mo), (3, wi v3_4)]) dX12_wayOf_54 rfl (by decide) rfl ?_
          refine r_iinc (x := v3_4) (lo2 := [(3, wi (v3_4 + 1)), (2, wi r5), (5, wi r5), (4, wi r3), (0, .ref mo)]) dX12_wayOf_55 rfl (by decide) rfl ?_
          refine r_goto (tgt := 4) dX12_wayOf_58 (by decide) ?_
          refine r_lo [4, 1, 0] (lo2 := [(0, .ref mo), (2, wi r5), (3, wi (v3_4 + 1))]) rfl ?_
          exact hL4 _ _ _
        · refine r_iload_n (x := v2_4) dX12_wayOf_50 rfl rfl ?_
          exact r_iret rfl dX12_wayOf_51
      · refine ro_iconst (v := (-1)) dX12_wayOf_34 rfl ?_
        exact r_iret rfl dX12_wayOf_35
  refine r_lo [2, 1, 0] (lo2 := [(0, .ref mo), (2, wi a1), (3, wi 0)]) rfl ?_
  exact hJ4 _ _ _
def k_X12_isCalledFrom : Kd := (yX12_isCalledFrom, cX12_isCalledFrom, 5, some .boolean, [])
theorem kv_X12_isCalledFrom : KV k_X12_isCalledFrom 2 := ⟨uw_mem 2042 (by decide +kernel) rfl, uw_mem 170 (by decide +kernel) rfl, uw_mem 2041 (by decide +kernel) rfl, uw_mem 127 (by decide +kernel) rfl, ⟨by decide +kernel, by decide +kernel⟩, by decide +kernel, by decide +kernel⟩
set_option maxHeartbeats 4000000 in
set_option maxRecDepth 100000 in
theorem c_X12_isCalledFrom {l : Launch} {Γ : Cx} {K0 : Cd} {mo : Nat} {ma : Nat → Nat} (h : mOn Γ mo ma) (a1 : Int) (a2 : Int) (M : Md) : Ct l Γ k_X12_isCalledFrom 1 encI (emM K0) [.ref mo, wi a1, wi a2] M (fX12_isCalledFrom a1 a2 M) := by
  refine ct_of (by decide +kernel) rfl (Nat.le_of_ble_eq_true rfl) ?_
  refine r_lo [0, 1, 2] (lo2 := [(0, .ref mo), (1, wi a1), (2, wi a2)]) rfl ?_
  unfold fX12_isCalledFrom
  refine ro_iconst (v := 0) dX12_isCalledFrom_0 rfl ?_
  refine r_istore_n (lo2 := [(3, wi 0), (0, .ref mo), (1, wi a1), (2, wi a2)]) dX12_isCalledFrom_1 rfl (by decide) rfl ?_
  refine r_iload_n (x := a1) dX12_isCalledFrom_2 rfl rfl ?_
  refine r_istore (lo2 := [(4, wi a1), (3, wi 0), (0, .ref mo), (1, wi a1), (2, wi a2)]) dX12_isCalledFrom_3 (by decide) rfl ?_
  refine r_loop (P := fun (J : Int → Int → Md → Option (Int × Md)) => ∀ (v3_5 : Int) (v4_5 : Int) (M_5 : Md), RunO l Γ k_X12_isCalledFrom 1 encI (emM K0) 5 [(0, .ref mo), (2, wi a2), (3, wi v3_5), (4, wi v4_5)] [] M_5 (J v3_5 v4_5 M_5)) ?_ (fun L5 hL5 => ?_) (fun J5 hJ5 => ?_)
  · intros; exact ro_none
  · intro v3_5 v4_5 M_5
    refine r_iload (x := v4_5) dX12_isCalledFrom_5 rfl ?_
    refine ro_iconst (v := (-1)) dX12_isCalledFrom_7 rfl ?_
    refine r_icmp_eq (tgt := 44) dX12_isCalledFrom_8 (by decide) ?_ ?_
    · refine r_iload_n (x := v3_5) dX12_isCalledFrom_44 rfl rfl ?_
      exact r_zret rfl dX12_isCalledFrom_45
    · refine r_iload_n (x := v3_5) dX12_isCalledFrom_11 rfl rfl ?_
      refine r_join (P := fun (J : Int → Md → Option (Int × Md)) => ∀ (t0_31 : Int) (M_31 : Md), RunO l Γ k_X12_isCalledFrom 1 encI (emM K0) 31 [(0, .ref mo), (2, wi a2), (4, wi v4_5)] [wi t0_31] M_31 (J t0_31 M_31)) ?_ (fun J31 hJ31 => ?_)
      · intro t0_31 M_31
        refine r_istore_n (lo2 := [(3, wi t0_31), (0, .ref mo), (2, wi a2), (4, wi v4_5)]) dX12_isCalledFrom_31 rfl (by decide) rfl ?_
        refine r_aload_n (x := mo) dX12_isCalledFrom_32 rfl rfl ?_
        refine r_mgetA (kk := 44) h inU12 rfl (by decide) uf_113 rfl rfl dX12_isCalledFrom_33 ?_
        refine r_iload (x := v4_5) dX12_isCalledFrom_36 rfl ?_
        refine r_miald h (by decide) dX12_isCalledFrom_38 ?_
        refine r_nm (fun x4_39 => ?_)
        refine r_istore (lo2 := [(4, wi x4_39), (3, wi t0_31), (0, .ref mo), (2, wi a2)]) dX12_isCalledFrom_39 (by decide) rfl ?_
        refine r_goto (tgt := 5) dX12_isCalledFrom_41 (by decide) ?_
        refine r_lo [2, 3, 1, 0] (lo2 := [(0, .ref mo), (2, wi a2), (3, wi t0_31), (4, wi x4_39)]) rfl ?_
        exact hL5 _ _ _
      refine r_join (P := fun (J : Md → Option (Int × Md)) => ∀ (M_26 : Md), RunO l Γ k_X12_isCalledFrom 1 encI (emM K0) 26 [(0, .ref mo), (2, wi a2), (4, wi v4_5)] [] M_26 (J M_26)) ?_ (fun J26 hJ26 => ?_)
      · intro M_26
        refine ro_iconst (v := 1) dX12_isCalledFrom_26 rfl ?_
        refine r_goto (tgt := 31) dX12_isCalledFrom_27 (by decide) ?_
        exact hJ31 _ _
      refine r_if_ne (tgt := 26) dX12_isCalledFrom_12 (by decide) ?_ ?_
      · refine r_lo [0, 1, 3] (lo2 := [(0, .ref mo), (2, wi a2), (4, wi v4_5)]) rfl ?_
        exact hJ26 _
      · refine r_aload_n (x := mo) dX12_isCalledFrom_15 rfl rfl ?_
        refine r_mgetA (kk := 42) h inU12 rfl (by decide) uf_107 rfl rfl dX12_isCalledFrom_16 ?_
        refine r_iload (x := v4_5) dX12_isCalledFrom_19 rfl ?_
        refine r_miald h (by decide) dX12_isCalledFrom_21 ?_
        refine r_iload_n (x := a2) dX12_isCalledFrom_22 rfl rfl ?_
        refine r_icmp_ne (tgt := 30) dX12_isCalledFrom_23 (by decide) ?_ ?_
        · refine ro_iconst (v := 0) dX12_isCalledFrom_30 rfl ?_
          refine r_lo [0, 1, 3] (lo2 := [(0, .ref mo), (2, wi a2), (4, wi v4_5)]) rfl ?_
          exact hJ31 _ _
        · refine r_lo [0, 1, 3] (lo2 := [(0, .ref mo), (2, wi a2), (4, wi v4_5)]) rfl ?_
          exact hJ26 _
  refine r_lo [2, 4, 1, 0] (lo2 := [(0, .ref mo), (2, wi a2), (3, wi 0), (4, wi a1)]) rfl ?_
  exact hJ5 _ _ _
