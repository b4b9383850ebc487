def k_X12_in : Kd := (yX12_in, cX12_in, 3, some .boolean, [])
theorem kv_X12_in : KS k_X12_in 3 := ⟨uw_mem 1905 (by decide +kernel) rfl, uw_mem 170 (by decide +kernel) rfl, uw_mem 1904 (by decide +kernel) rfl, ⟨by decide +kernel, by decide +kernel⟩, by decide +kernel, by decide +kernel⟩
set_option maxHeartbeats 4000000 in
set_option maxRecDepth 100000 in
theorem c_X12_in {l : Launch} {Γ : Cx} {K0 : Cd} {mo : Nat} {ma : Nat → Nat} (h : mOn Γ mo ma) (a0 : Int) (a1 : Int) (a2 : Int) (M : Md) : Ct l Γ k_X12_in 1 encI (emM K0) [wi a0, wi a1, wi a2] M (fX12_in a0 a1 a2 M) := by
  refine ct_of (by decide +kernel) rfl (Nat.le_of_ble_eq_true rfl) ?_
  refine r_lo [0, 1, 2] (lo2 := [(0, wi a0), (1, wi a1), (2, wi a2)]) rfl ?_
  unfold fX12_in
  refine r_iload_n (x := a0) dX12_in_0 rfl rfl ?_
  refine r_iload_n (x := a1) dX12_in_1 rfl rfl ?_
  refine r_join (P := fun (J : Int → Md → Option (Int × Md)) => ∀ (t0_15 : Int) (M_15 : Md), RunO l Γ k_X12_in 1 encI (emM K0) 15 [] [wi t0_15] M_15 (J t0_15 M_15)) ?_ (fun J15 hJ15 => ?_)
  · intro t0_15 M_15
    exact r_zret rfl dX12_in_15
  refine r_join (P := fun (J : Md → Option (Int × Md)) => ∀ (M_14 : Md), RunO l Γ k_X12_in 1 encI (emM K0) 14 [] [] M_14 (J M_14)) ?_ (fun J14 hJ14 => ?_)
  · intro M_14
    refine ro_iconst (v := 0) dX12_in_14 rfl ?_
    exact hJ15 _ _
  refine r_icmp_lt (tgt := 14) dX12_in_2 (by decide) ?_ ?_
  · refine r_lo [] (lo2 := []) rfl ?_
    exact hJ14 _
  · refine r_iload_n (x := a0) dX12_in_5 rfl rfl ?_
    refine r_iload_n (x := a2) dX12_in_6 rfl rfl ?_
    refine r_icmp_gt (tgt := 14) dX12_in_7 (by decide) ?_ ?_
    · refine r_lo [] (lo2 := []) rfl ?_
      exact hJ14 _
    · refine ro_iconst (v := 1) dX12_in_10 rfl ?_
      refine r_goto (tgt := 15) dX12_in_11 (by decide) ?_
      refine r_lo [] (lo2 := []) rfl ?_
      exact hJ15 _ _
def k_X12_act : Kd := (yX12_act, cX12_act, 3, some .int, [])
theorem kv_X12_act : KV k_X12_act 1 := ⟨uw_mem 2085 (by decide +kernel) rfl, uw_mem 170 (by decide +kernel) rfl, uw_mem 2083 (by decide +kernel) rfl, uw_mem 2084 (by decide +kernel) rfl, ⟨by decide +kernel, by decide +kernel⟩, by decide +kernel, by decide +kernel⟩
set_option maxHeartbeats 4000000 in
set_option maxRecDepth 100000 in
theorem c_X12_act {l : Launch} {Γ : Cx} {K0 : Cd} {mo : Nat} {ma : Nat → Nat} (h : mOn Γ mo ma) (a1 : Int) (M : Md) : Ct l Γ k_X12_act 2 encI (emM K0) [.ref mo, wi a1] M (fX12_act a1 M) := by
  refine ct_of (by decide +kernel) rfl (Nat.le_of_ble_eq_true rfl) ?_
  refine r_lo [0, 1] (lo2 := [(0, .ref mo), (1, wi a1)]) rfl ?_
  unfold fX12_act
  refine r_aload_n (x := mo) dX12_act_0 rfl rfl ?_
  refine r_iload_n (x := a1) dX12_act_1 rfl rfl ?_
  refine ro_iconst (v := 0) dX12_act_2 rfl ?_
  refine ro_iconst (v := 2) dX12_act_3 rfl ?_
  refine r_callSi (k2 := k_X12_in) (n := 3) (rest := [.ref mo]) rfl kv_X12_in (c_X12_in h _ _ _ _) (by decide) um_184 rfl (Nat.le_of_ble_eq_true rfl) dX12_act_4 rfl (fun r2 M1 => ?_)
  refine r_join (P := fun (J : Int → Md → Option (Int × Md)) => ∀ (t0_15 : Int) (M_15 : Md), RunO l Γ k_X12_act 2 encI (emM K0) 15 [(0, .ref mo), (1, wi a1)] [wi t0_15, .ref mo] M_15 (J t0_15 M_15)) ?_ (fun J15 hJ15 => ?_)
  · intro t0_15 M_15
    refine r_mput (kk := 36) h inU12 rfl (by decide) uf_180 rfl rfl rfl rfl dX12_act_15 (fun M3 => ?_)
    refine r_aload_n (x := mo) dX12_act_18 rfl rfl ?_
    refine r_mget (kk := 36) h inU12 rfl (by decide) uf_180 rfl rfl dX12_act_19 ?_
    refine r_if_le (tgt := 27) dX12_act_22 (by decide) ?_ ?_
    · refine r_aload_n (x := mo) dX12_act_27 rfl rfl ?_
      refine r_mget (kk := 2) h inU12 rfl (by decide) uf_390 rfl rfl dX12_act_28 ?_
      refine r_nm (fun x2_31 => ?_)
      refine r_istore_n (lo2 := [(2, wi x2_31), (0, .ref mo), (1, wi a1)]) dX12_act_31 rfl (by decide) rfl ?_
      refine r_aload_n (x := mo) dX12_act_32 rfl rfl ?_
      refine r_iload_n (x := a1) dX12_act_33 rfl rfl ?_
      refine r_mput (kk := 2) h inU12 rfl (by decide) uf_390 rfl rfl rfl rfl dX12_act_34 (fun M4 => ?_)
      refine r_iload_n (x := x2_31) dX12_act_37 rfl rfl ?_
      exact r_iret rfl dX12_act_38
    · refine ro_iconst (v := 0) dX12_act_25 rfl ?_
      exact r_iret rfl dX12_act_26
  refine r_if_eq (tgt := 14) dX12_act_7 (by decide) ?_ ?_
  · refine ro_iconst (v := 1) dX12_act_14 rfl ?_
    exact hJ15 _ _
  · refine ro_iconst (v := 0) dX12_act_10 rfl ?_
    refine r_goto (tgt := 15) dX12_act_11 (by decide) ?_
    exact hJ15 _ _
def k_X12_isAhead : Kd := (yX12_isAhead, cX12_isAhead, 3, some .boolean, [])
theorem kv_X12_isAhead : KV k_X12_isAhead 2 := ⟨uw_mem 1929 (by decide +kernel) rfl, uw_mem 170 (by decide +kernel) rfl, uw_mem 1928 (by decide +kernel) rfl, uw_mem 101 (by decide +kernel) rfl, ⟨by decide +kernel, by decide +kernel⟩, by decide +kernel, by decide +kernel⟩
set_option maxHeartbeats 4000000 in
set_option maxRecDepth 100000 in
theorem c_X12_isAhead {l : Launch} {Γ : Cx} {K0 : Cd} {mo : Nat} {ma : Nat → Nat} (h : mOn Γ mo ma) (a1 : Int) (a2 : Int) (M : Md) : Ct l Γ k_X12_isAhead 1 encI (emM K0) [.ref mo, wi a1, wi a2] M (fX12_isAhead a1 a2 M) := by
  refine ct_of (by decide +kernel) rfl (Nat.le_of_ble_eq_true rfl) ?_
  refine r_lo [0, 1, 2] (lo2 := [(0, .ref mo), (1, wi a1), (2, wi a2)]) rfl ?_
  unfold fX12_isAhead
  refine r_aload_n (x := mo) dX12_isAhead_0 rfl rfl ?_
  refine r_mgetA (kk := 11) h inU12 rfl (by decide) uf_28 rfl rfl dX12_isAhead_1 ?_
  refine r_iload_n (x := a1) dX12_isAhead_4 rfl rfl ?_
  refine r_miald h (by decide) dX12_isAhead_5 ?_
  refine r_aload_n (x := mo) dX12_isAhead_6 rfl rfl ?_
  refine r_mgetA (kk := 11) h inU12 rfl (by decide) uf_28 rfl rfl dX12_isAhead_7 ?_
  refine r_iload_n (x := a2) dX12_isAhead_10 rfl rfl ?_
  refine r_miald h (by decide) dX12_isAhead_11 ?_
  refine r_join (P := fun (J : Int → Md → Option (Int × Md)) => ∀ (t0_40 : Int) (M_40 : Md), RunO l Γ k_X12_isAhead 1 encI (emM K0) 40 [] [wi t0_40] M_40 (J t0_40 M_40)) ?_ (fun J40 hJ40 => ?_)
  · intro t0_40 M_40
    exact r_zret rfl dX12_isAhead_40
  refine r_join (P := fun (J : Md → Option (Int × Md)) => ∀ (M_35 : Md), RunO l Γ k_X12_isAhead 1 encI (emM K0) 35 [] [] M_35 (J M_35)) ?_ (fun J35 hJ35 => ?_)
  · intro M_35
    refine ro_iconst (v := 1) dX12_isAhead_35 rfl ?_
    refine r_goto (tgt := 40) dX12_isAhead_36 (by decide) ?_
    exact hJ40 _ _
  refine r_icmp_lt (tgt := 35) dX12_isAhead_12 (by decide) ?_ ?_
  · refine r_lo [] (lo2 := []) rfl ?_
    exact hJ35 _
  · refine r_aload_n (x := mo) dX12_isAhead_15 rfl rfl ?_
    refine r_mgetA (kk := 11) h inU12 rfl (by decide) uf_28 rfl rfl dX12_isAhead_16 ?_
    refine r_iload_n (x := a1) dX12_isAhead_19 rfl rfl ?_
    refine r_miald h (by decide) dX12_isAhead_20 ?_
    refine r_aload_n (x := mo) dX12_isAhead_21 rfl rfl ?_
    refine r_mgetA (kk := 11) h inU12 rfl (by decide) uf_28 rfl rfl dX12_isAhead_22 ?_
    refine r_iload_n (x := a2) dX12_isAhead_25 rfl rfl ?_
    refine r_miald h (by decide) dX12_isAhead_26 ?_
    refine r_join (P := fun (J : Md → Option (Int × Md)) => ∀ (M_39 : Md), RunO l Γ k_X12_isAhead 1 encI (emM K0) 39 [] [] M_39 (J M_39)) ?_ (fun J39 hJ39 => ?_)
    · intro M_39
      refine ro_iconst (v := 0) dX12_isAhead_39 rfl ?_
      exact hJ40 _ _
    refine r_icmp_ne (tgt := 39) dX12_isAhead_27 (by decide) ?_ ?_
    · refine r_lo [] (lo2 := []) rfl ?_
      exact hJ39 _
    · refine r_iload_n (x := a1) dX12_isAhead_30 rfl rfl ?_
      refine r_iload_n (x := a2) dX12_isAhead_31 rfl rfl ?_
      refine r_icmp_ge (tgt := 39) dX12_isAhead_32 (by decide) ?_ ?_
      · refine r_lo [] (lo2 := []) rfl ?_
        exact hJ39 _
      · refine r_lo [] (lo2 := []) rfl ?_
        exact hJ35 _
def k_X12_aheadOf : Kd := (yX12_aheadOf, cX12_aheadOf, 4, some .int, [])
theorem kv_X12_aheadOf : KV k_X12_aheadOf 1 := ⟨uw_mem 2170 (by decide +kernel) rfl, uw_mem 170 (by decide +kernel) rfl, uw_mem 2169 (by decide +kernel) rfl, uw_mem 148 (by decide +kernel) rfl, ⟨by decide +kernel, by decide +kernel⟩, by decide +kernel, by decide +kernel⟩
set_option maxHeartbeats 4000000 in
set_option maxRecDepth 100000 in
theorem c_X12_aheadOf {l : Launch} {Γ : Cx} {K0 : Cd} {mo : Nat} {ma : Nat → Nat} (h : mOn Γ mo ma) (a1 : Int) (M : Md) : Ct l Γ k_X12_aheadOf 2 encI (emM K0) [.ref mo, wi a1] M (fX12_aheadOf a1 M) := by
  refine ct_of (by decide +kernel) rfl (Nat.le_of_ble_eq_true rfl) ?_
  refine r_lo [0, 1] (lo2 := [(0, .ref mo), (1, wi a1)]) rfl ?_
  unfold fX12_aheadOf
  refine ro_iconst (v := 0) dX12_aheadOf_0 rfl ?_
  refine r_istore_n (lo2 := [(2, wi 0), (0, .ref mo), (1, wi a1)]) dX12_aheadOf_1 rfl (by decide) rfl ?_
  refine ro_iconst (v := 0) dX12_aheadOf_2 rfl ?_
  refine r_istore_n (lo2 := [(3, wi 0), (2, wi 0), (0, .ref mo), (1, wi a1)]) dX12_aheadOf_3 rfl (by decide) rfl ?_
  refine r_loop (P := fun (J : Int → Int → Md → Option (Int × Md)) => ∀ (v2_4 : Int) (v3_4 : Int) (M_4 : Md), RunO l Γ k_X12_aheadOf 2 encI (emM K0) 4 [(0, .ref mo), (1, wi a1), (2, wi v2_4), (3, wi v3_4)] [] M_4 (J v2_4 v3_4 M_4)) ?_ (fun L4 hL4 => ?_) (fun J4 hJ4 => ?_)
  · intros; exact ro_none
  · intro v2_4 v3_4 M_4
    refine r_iload_n (x := v3_4) dX12_aheadOf_4 rfl rfl ?_
    refine r_aload_n (x := mo) dX12_aheadOf_5 rfl rfl ?_
    refine r_mget (kk := 8) h inU12 rfl (by decide) uf_192 rfl rfl dX12_aheadOf_6 ?_
    refine r_icmp_ge (tgt := 50) dX12_aheadOf_9 (by decide) ?_ ?_
    · refine r_iload_n (x := v2_4) dX12_aheadOf_50 rfl rfl ?_
      exact r_iret rfl dX12_aheadOf_51
    · refine r_iload_n (x := v2_4) dX12_aheadOf_12 rfl rfl ?_
      refine r_aload_n (x := mo) dX12_aheadOf_13 rfl rfl ?_
      refine r_mgetA (kk := 12) h inU12 rfl (by decide) uf_31 rfl rfl dX12_aheadOf_14 ?_
      refine r_iload_n (x := v3_4) dX12_aheadOf_17 rfl rfl ?_
      refine r_miald h (by decide) dX12_aheadOf_18 ?_
      refine r_aload_n (x := mo) dX12_aheadOf_19 rfl rfl ?_
      refine r_mgetA (kk := 12) h inU12 rfl (by decide) uf_31 rfl rfl dX12_aheadOf_20 ?_
      refine r_iload_n (x := a1) dX12_aheadOf_23 rfl rfl ?_
      refine r_miald h (by decide) dX12_aheadOf_24 ?_
      refine r_join (P := fun (J : Int → Md → Option (Int × Md)) => ∀ (t0_42 : Int) (M_42 : Md), RunO l Γ k_X12_aheadOf 2 encI (emM K0) 42 [(0, .ref mo), (1, wi a1), (3, wi v3_4)] [wi t0_42, wi v2_4] M_42 (J t0_42 M_42)) ?_ (fun J42 hJ42 => ?_)
      · intro t0_42 M_42
        refine r_iadd dX12_aheadOf_42 ?_
        refine r_nm (fun x2_43 => ?_)
        refine r_istore_n (lo2 := [(2, wi x2_43), (0, .ref mo), (1, wi a1), (3, wi v3_4)]) dX12_aheadOf_43 rfl (by decide) rfl ?_
        refine r_iinc (x := v3_4) (lo2 := [(3, wi (v3_4 + 1)), (2, wi x2_43), (0, .ref mo), (1, wi a1)]) dX12_aheadOf_44 rfl (by decide) rfl ?_
        refine r_goto (tgt := 4) dX12_aheadOf_47 (by decide) ?_
        refine r_lo [2, 3, 1, 0] (lo2 := [(0, .ref mo), (1, wi a1), (2, wi x2_43), (3, wi (v3_4 + 1))]) rfl ?_
        exact hL4 _ _ _
      refine r_join (P := fun (J : Md → Option (Int × Md)) => ∀ (M_41 : Md), RunO l Γ k_X12_aheadOf 2 encI (emM K0) 41 [(0, .ref mo), (1, wi a1), (3, wi v3_4)] [wi v2_4] M_41 (J M_41)) ?_ (fun J41 hJ41 => ?_)
      · intro M_41
        refine ro_iconst (v := 0) dX12_aheadOf_41 rfl ?_
        exact hJ42 _ _
      refine r_icmp_ne (tgt := 41) dX12_aheadOf_25 (by decide) ?_ ?_
      · refine r_lo [0, 1, 3] (lo2 := [(0, .ref mo), (1, wi a1), (3, wi v3_4)]) rfl ?_
        exact hJ41 _
      · refine r_aload_n (x := mo) dX12_aheadOf_28 rfl rfl ?_
        refine r_iload_n (x := v3_4) dX12_aheadOf_29 rfl rfl ?_
        refine r_iload_n (x := a1) dX12_aheadOf_30 rfl rfl ?_
        refine r_callVi (k2 := k_X12_isAhead) (n := 2) (rest := [wi v2_4]) rfl kv_X12_isAhead (c_X12_isAhead h _ _ _) (by decide) um_195 rfl (Nat.le_of_ble_eq_true rfl) dX12_aheadOf_31 (m_rec h) rfl (fun r2 M1 => ?_)
        refine r_if_eq (tgt := 41) dX12_aheadOf_34 (by decide) ?_ ?_
        · refine r_lo [0, 1, 3] (lo2 := [(0, .ref mo), (1, wi a1), (3, wi v3_4)]) rfl ?_
          exact hJ41 _
        · refine ro_iconst (v := 1) dX12_aheadOf_37 rfl ?_
          refine r_goto (tgt := 42) dX12_aheadOf_38 (by decide) ?_
          refine r_lo [0, 1, 3] (lo2 := [(0, .ref mo), (1, wi a1), (3, wi v3_4)]) rfl ?_
          exact hJ42 _ _
  refine r_lo [2, 3, 1, 0] (lo2 := [(0, .ref mo), (1, wi a1), (2, wi 0), (3, wi 0)]) rfl ?_
  exact hJ4 _ _ _
def k_X12_append : Kd := (yX12_append, cX12_append, 3, none, [])
theorem kv_X12_append : KV k_X12_append 2 := ⟨uw_mem 1953 (by decide +kernel) rfl, uw_mem 170 (by decide +kernel) rfl, uw_mem 1952 (by decide +kernel) rfl, uw_mem 107 (by decide +kernel) rfl, ⟨by decide +kernel, by decide +kernel⟩, by decide +kernel, by decide +kernel⟩
set_option maxHeartbeats 4000000 in
set_option maxRecDepth 100000 in
theorem c_X12_append {l : Launch} {Γ : Cx} {K0 : Cd} {mo : Nat} {ma : Nat → Nat} (h : mOn Γ mo ma) (a1 : Int) (a2 : Int) (M : Md) : Ct l Γ k_X12_append 1 encV (emM K0) [.ref mo, wi a1, wi a2] M (fX12_append a1 a2 M) := by
  refine ct_of (by decide +kernel) rfl (Nat.le_of_ble_eq_true rfl) ?_
  refine r_lo [0, 1, 2] (lo2 := [(0, .ref mo), (1, wi a1), (2, wi a2)]) rfl ?_
  unfold fX12_append
  refine r_aload_n (x := mo) dX12_append_0 rfl rfl ?_
  refine r_mgetA (kk := 49) h inU12 rfl (by decide) uf_125 rfl rfl dX12_append_1 ?_
  refine r_iload_n (x := a1) dX12_append_4 rfl rfl ?_
  refine r_miald h (by decide) dX12_append_5 ?_
  refine r_sipush (v := 150) dX12_append_6 rfl ?_
  refine r_join (P := fun (J : Md → Option (Unit × Md)) => ∀ (M_40 : Md), RunO l Γ k_X12_append 1 encV (emM K0) 40 [] [] M_40 (J M_40)) ?_ (fun J40 hJ40 => ?_)
  · intro M_40
    exact r_vret rfl dX12_append_40
  refine r_icmp_ge (tgt := 40) dX12_append_9 (by decide) ?_ ?_
  · refine r_lo [] (lo2 := []) rfl ?_
    exact hJ40 _
  · refine r_aload_n (x := mo) dX12_append_12 rfl rfl ?_
    refine r_mgetA (kk := 50) h inU12 rfl (by decide) uf_129 rfl rfl dX12_append_13 ?_
    refine r_sipush (v := 150) dX12_append_16 rfl ?_
    refine r_iload_n (x := a1) dX12_append_19 rfl rfl ?_
    refine r_imul dX12_append_20 ?_
    refine r_aload_n (x := mo) dX12_append_21 rfl rfl ?_
    refine r_mgetA (kk := 49) h inU12 rfl (by decide) uf_125 rfl rfl dX12_append_22 ?_
    refine r_iload_n (x := a1) dX12_append_25 rfl rfl ?_
    refine r_miald h (by decide) dX12_append_26 ?_
    refine r_iadd dX12_append_27 ?_
    refine r_iload_n (x := a2) dX12_append_28 rfl rfl ?_
    refine r_miast h (by decide) dX12_append_29 (fun M1 => ?_)
    refine r_aload_n (x := mo) dX12_append_30 rfl rfl ?_
    refine r_mgetA (kk := 49) h inU12 rfl (by decide) uf_125 rfl rfl dX12_append_31 ?_
    refine r_iload_n (x := a1) dX12_append_34 rfl rfl ?_
    refine r_dup2 dX12_append_35 rfl rfl ?_
    refine r_miald h (by decide) dX12_append_36 ?_
    refine ro_iconst (v := 1) dX12_append_37 rfl ?_
    refine r_iadd dX12_append_38 ?_
    refine r_miast h (by decide) dX12_append_39 (fun M2 => ?_)
    refine r_lo [] (lo2 := []) rfl ?_
    exact hJ40 _
def k_X12_appendRow : Kd := (yX12_appendRow, cX12_appendRow, 4, none, [])
theorem kv_X12_appendRow : KV k_X12_appendRow 2 := ⟨uw_mem 1949 (by decide +kernel) rfl, uw_mem 170 (by decide +kernel) rfl, uw_mem 1948 (by decide +kernel) rfl, uw_mem 106 (by decide +kernel) rfl, ⟨by decide +kernel, by decide +kernel⟩, by decide +kernel, by decide +kernel⟩
set_option maxHeartbeats 4000000 in
set_option maxRecDepth 100000 in
theorem c_X12_appendRow {l : Launch} {Γ : Cx} {K0 : Cd} {mo : Nat} {ma : Nat → Nat} (h : mOn Γ mo ma) (a1 : Int) (a2 : Int) (M : Md) : Ct l Γ k_X12_appendRow 2 encV (emM K0) [.ref mo, wi a1, wi a2] M (fX12_appendRow a1 a2 M) := by
  refine ct_of (by decide +kernel) rfl (Nat.le_of_ble_eq_true rfl) ?_
  refine r_lo [0, 1, 2] (lo2 := [(0, .ref mo), (1, wi a1), (2, wi a2)]) rfl ?_
  unfold fX12_appendRow
  refine ro_iconst (v := 0) dX12_appendRow_0 rfl ?_
  refine r_istore_n (lo2 := [(3, wi 0), (0, .ref mo), (1, wi a1), (2, wi a2)]) dX12_appendRow_1 rfl (by decide) rfl ?_
  refine r_loop (P := fun (J : Int → Md → Option (Unit × Md)) => ∀ (v3_2 : Int) (M_2 : Md), RunO l Γ k_X12_appendRow 2 encV (emM K0) 2 [(0, .ref mo), (1, wi a1), (2, wi a2), (3, wi v3_2)] [] M_2 (J v3_2 M_2)) ?_ (fun L2 hL2 => ?_) (fun J2 hJ2 => ?_)
  · intros; exact ro_none
  · intro v3_2 M_2
    refine r_iload_n (x := v3_2) dX12_appendRow_2 rfl rfl ?_
    refine r_aload_n (x := mo) dX12_appendRow_3 rfl rfl ?_
    refine r_mgetA (kk := 49) h inU12 rfl (by decide) uf_125 rfl rfl dX12_appendRow_4 ?_
    refine r_iload_n (x := a2) dX12_appendRow_7 rfl rfl ?_
    refine r_miald h (by decide) dX12_appendRow_8 ?_
    refine r_icmp_ge (tgt := 35) dX12_appendRow_9 (by decide) ?_ ?_
    · exact r_vret rfl dX12_appendRow_35
    · refine r_aload_n (x := mo) dX12_appendRow_12 rfl rfl ?_
      refine r_iload_n (x := a1) dX12_appendRow_13 rfl rfl ?_
      refine r_aload_n (x := mo) dX12_appendRow_14 rfl rfl ?_
      refine r_mgetA (kk := 50) h inU12 rfl (by decide) uf_129 rfl rfl dX12_appendRow_15 ?_
      refine r_sipush (v := 150) dX12_appendRow_18 rfl ?_
      refine r_iload_n (x := a2) dX12_appendRow_21 rfl rfl ?_
      refine r_imul dX12_appendRow_22 ?_
      refine r_iload_n (x := v3_2) dX12_appendRow_23 rfl rfl ?_
      refine r_iadd dX12_appendRow_24 ?_
      refine r_miald h (by decide) dX12_appendRow_25 ?_
      refine r_callVv (k2 := k_X12_append) (n := 2) (rest := []) rfl kv_X12_append (c_X12_append h _ _ _) (by decide) um_251 rfl (Nat.le_of_ble_eq_true rfl) dX12_appendRow_26 (m_rec h) rfl (fun r2 M1 => ?_)
      refine r_iinc (x := v3_2) (lo2 := [(3, wi (v3_2 + 1)), (0, .ref mo), (1, wi a1), (2, wi a2)]) dX12_appendRow_29 rfl (by decide) rfl ?_
      refine r_goto (tgt := 2) dX12_appendRow_32 (by decide) ?_
      refine r_lo [1, 2, 3, 0] (lo2 := [(0, .ref mo), (1, wi a1), (2, wi a2), (3, wi (v3_2 + 1))]) rfl ?_
      exact hL2 _ _
  refine r_lo [1, 2, 3, 0] (lo2 := [(0, .ref mo), (1, wi a1), (2, wi a2), (3, wi 0)]) rfl ?_
  exact hJ2 _ _
def k_X12_isTitle : Kd := (yX12_isTitle, cX12_isTitle, 1, some .boolean, [])
theorem kv_X12_isTitle : KS k_X12_isTitle 1 := ⟨uw_mem 1984 (by decide +kernel) rfl, uw_mem 170 (by decide +kernel) rfl, uw_mem 1983 (by decide +kernel) rfl, ⟨by decide +kernel, by decide +kernel⟩, by decide +kernel, by decide +kernel⟩
set_option maxHeartbeats 4000000 in
set_option maxRecDepth 100000 in
theorem c_X12_isTitle {l : Launch} {Γ : Cx} {K0 : Cd} {mo : Nat} {ma : Nat → Nat} (h : mOn Γ mo ma) (a0 : Int) (M : Md) : Ct l Γ k_X12_isTitle 2 encI (emM K0) [wi a0] M (fX12_isTitle a0 M) := by
  refine ct_of (by decide +kernel) rfl (Nat.le_of_ble_eq_true rfl) ?_
  refine r_lo [0] (lo2 := [(0, wi a0)]) rfl ?_
  unfold fX12_isTitle
  refine r_iload_n (x := a0) dX12_isTitle_0 rfl rfl ?_
  refine ro_iconst (v := 0) dX12_isTitle_1 rfl ?_
  refine r_bipush (v := 23) dX12_isTitle_2 rfl ?_
  refine r_callSi (k2 := k_X12_in) (n := 3) (rest := []) rfl kv_X12_in (c_X12_in h _ _ _ _) (by decide) um_184 rfl (Nat.le_of_ble_eq_true rfl) dX12_isTitle_4 rfl (fun r2 M1 => ?_)
  exact r_zret rfl dX12_isTitle_7
def k_X12_hasPage : Kd := (yX12_hasPage, cX12_hasPage, 2, some .boolean, [])
theorem kv_X12_hasPage : KV k_X12_hasPage 1 := ⟨uw_mem 2070 (by decide +kernel) rfl, uw_mem 170 (by decide +kernel) rfl, uw_mem 2069 (by decide +kernel) rfl, uw_mem 133 (by decide +kernel) rfl, ⟨by decide +kernel, by decide +kernel⟩, by decide +kernel, by decide +kernel⟩
set_option maxHeartbeats 4000000 in
set_option maxRecDepth 100000 in
theorem c_X12_hasPage {l : Launch} {Γ : Cx} {K0 : Cd} {mo : Nat} {ma : Nat → Nat} (h : mOn Γ mo ma) (a1 : Int) (M : Md) : Ct l Γ k_X12_hasPage 3 encI (emM K0) [.ref mo, wi a1] M (fX12_hasPage a1 M) := by
  refine ct_of (by decide +kernel) rfl (Nat.le_of_ble_eq_true rfl) ?_
  refine r_lo [0, 1] (lo2 := [(0, .ref mo), (1, wi a1)]) rfl ?_
  unfold fX12_hasPage
  refine r_iload_n (x := a1) dX12_hasPage_0 rfl rfl ?_
  refine r_callSi (k2 := k_X12_isTitle) (n := 1) (rest := []) rfl kv_X12_isTitle (c_X12_isTitle h _ _) (by decide) um_188 rfl (Nat.le_of_ble_eq_true rfl) dX12_hasPage_1 rfl (fun r2 M1 => ?_)
  refine r_join (P := fun (J : Int → Md → Option (Int × Md)) => ∀ (t0_22 : Int) (M_22 : Md), RunO l Γ k_X12_hasPage 3 encI (emM K0) 22 [] [wi t0_22] M_22 (J t0_22 M_22)) ?_ (fun J22 hJ22 => ?_)
  · intro t0_22 M_22
    exact r_zret rfl dX12_hasPage_22
  refine r_join (P := fun (J : Md → Option (Int × Md)) => ∀ (M_21 : Md), RunO l Γ k_X12_hasPage 3 encI (emM K0) 21 [] [] M_21 (J M_21)) ?_ (fun J21 hJ21 => ?_)
  · intro M_21
    refine ro_iconst (v := 0) dX12_hasPage_21 rfl ?_
    exact hJ22 _ _
  refine r_if_eq (tgt := 21) dX12_hasPage_4 (by decide) ?_ ?_
  · refine r_lo [] (lo2 := []) rfl ?_
    exact hJ21 _
  · refine r_aload_n (x := mo) dX12_hasPage_7 rfl rfl ?_
    refine r_mgetA (kk := 6) h inU12 rfl (by decide) uf_19 rfl rfl dX12_hasPage_8 ?_
    refine r_iload_n (x := a1) dX12_hasPage_11 rfl rfl ?_
    refine r_miald h (by decide) dX12_hasPage_12 ?_
    refine ro_iconst (v := (-1)) dX12_hasPage_13 rfl ?_
    refine r_icmp_eq (tgt := 21) dX12_hasPage_14 (by decide) ?_ ?_
    · refine r_lo [] (lo2 := []) rfl ?_
      exact hJ21 _
    · refine ro_iconst (v := 1) dX12_hasPage_17 rfl ?_
      refine r_goto (tgt := 22) dX12_hasPage_18 (by decide) ?_
      refine r_lo [] (lo2 := []) rfl ?_
      exact hJ22 _ _
def k_X12_mayAt : Kd := (yX12_mayAt, cX12_mayAt, 2, some .boolean, [])
theorem kv_X12_mayAt : KV k_X12_mayAt 1 := ⟨uw_mem 2093 (by decide +kernel) rfl, uw_mem 170 (by decide +kernel) rfl, uw_mem 2092 (by decide +kernel) rfl, uw_mem 134 (by decide +kernel) rfl, ⟨by decide +kernel, by decide +kernel⟩, by decide +kernel, by decide +kernel⟩
set_option maxHeartbeats 4000000 in
set_option maxRecDepth 100000 in
theorem c_X12_mayAt {l : Launch} {Γ : Cx} {K0 : Cd} {mo : Nat} {ma : Nat → Nat} (h : mOn Γ mo ma) (a1 : Int) (M : Md) : Ct l Γ k_X12_mayAt 1 encI (emM K0) [.ref mo, wi a1] M (fX12_mayAt a1 M) := by
  refine ct_of (by decide +kernel) rfl (Nat.le_of_ble_eq_true rfl) ?_
  refine r_lo [0, 1] (lo2 := [(0, .ref mo), (1, wi a1)]) rfl ?_
  unfold fX12_mayAt
  refine r_aload_n (x := mo) dX12_mayAt_0 rfl rfl ?_
  refine r_mget (kk := 2) h inU12 rfl (by decide) uf_390 rfl rfl dX12_mayAt_1 ?_
  refine r_aload_n (x := mo) dX12_mayAt_4 rfl rfl ?_
  refine r_mgetA (kk := 3) h inU12 rfl (by decide) uf_13 rfl rfl dX12_mayAt_5 ?_
  refine r_iload_n (x := a1) dX12_mayAt_8 rfl rfl ?_
  refine r_miald h (by decide) dX12_mayAt_9 ?_
  refine r_join (P := fun (J : Int → Md → Option (Int × Md)) => ∀ (t0_18 : Int) (M_18 : Md), RunO l Γ k_X12_mayAt 1 encI (emM K0) 18 [] [wi t0_18] M_18 (J t0_18 M_18)) ?_ (fun J18 hJ18 => ?_)
  · intro t0_18 M_18
    exact r_zret rfl dX12_mayAt_18
  refine r_icmp_lt (tgt := 17) dX12_mayAt_10 (by decide) ?_ ?_
  · refine ro_iconst (v := 0) dX12_mayAt_17 rfl ?_
    refine r_lo [] (lo2 := []) rfl ?_
    exact hJ18 _ _
  · refine ro_iconst (v := 1) dX12_mayAt_13 rfl ?_
    refine r_goto (tgt := 18) dX12_mayAt_14 (by decide) ?_
    refine r_lo [] (lo2 := []) rfl ?_
    exact hJ18 _ _
def k_X12_presentOf : Kd := (yX12_presentOf, cX12_presentOf, 4, some .int, [])
theorem kv_X12_presentOf : KV k_X12_presentOf 1 := ⟨uw_mem 1925 (by decide +kernel) rfl, uw_mem 170 (by decide +kernel) rfl, uw_mem 1924 (by decide +kernel) rfl, uw_mem 100 (by decide +kernel) rfl, ⟨by decide +kernel, by decide +kernel⟩, by decide +kernel, by decide +kernel⟩
set_option maxHeartbeats 4000000 in
set_option maxRecDepth 100000 in
theorem c_X12_presentOf {l : Launch} {Γ : Cx} {K0 : Cd} {mo : Nat} {ma : Nat → Nat} (h : mOn Γ mo ma) (a1 : Int) (M : Md) : Ct l Γ k_X12_presentOf 2 encI (emM K0) [.ref mo, wi a1] M (fX12_presentOf a1 M) := by
  refine ct_of (by decide +kernel) rfl (Nat.le_of_ble_eq_true rfl) ?_
  refine r_lo [0, 1] (lo2 := [(0, .ref mo), (1, wi a1)]) rfl ?_
  unfold fX12_presentOf
  refine ro_iconst (v := (-1)) dX12_presentOf_0 rfl ?_
  refine r_istore_n (lo2 := [(2, wi (-1)), (0, .ref mo), (1, wi a1)]) dX12_presentOf_1 rfl (by decide) rfl ?_
  refine ro_iconst (v := 0) dX12_presentOf_2 rfl ?_
  refine r_istore_n (lo2 := [(3, wi 0), (2, wi (-1)), (0, .ref mo), (1, wi a1)]) dX12_presentOf_3 rfl (by decide) rfl ?_
  refine r_loop (P := fun (J : Int → Int → Md → Option (Int × Md)) => ∀ (v2_4 : Int) (v3_4 : Int) (M_4 : Md), RunO l Γ k_X12_presentOf 2 encI (emM K0) 4 [(0, .ref mo), (1, wi a1), (2, wi v2_4), (3, wi v3_4)] [] M_4 (J v2_4 v3_4 M_4)) ?_ (fun L4 hL4 => ?_) (fun J4 hJ4 => ?_)
  · intros; exact ro_none
  · intro v2_4 v3_4 M_4
    refine r_iload_n (x := v3_4) dX12_presentOf_4 rfl rfl ?_
    refine r_aload_n (x := mo) dX12_presentOf_5 rfl rfl ?_
    refine r_mget (kk := 8) h inU12 rfl (by decide) uf_192 rfl rfl dX12_presentOf_6 ?_
    refine r_icmp_ge (tgt := 44) dX12_presentOf_9 (by decide) ?_ ?_
    · refine r_iload_n (x := v2_4) dX12_presentOf_44 rfl rfl ?_
      exact r_iret rfl dX12_presentOf_45
    · refine r_aload_n (x := mo) dX12_presentOf_12 rfl rfl ?_
      refine r_mgetA (kk := 12) h inU12 rfl (by decide) uf_31 rfl rfl dX12_presentOf_13 ?_
      refine r_iload_n (x := v3_4) dX12_presentOf_16 rfl rfl ?_
      refine r_miald h (by decide) dX12_presentOf_17 ?_
      refine r_iload_n (x := a1) dX12_presentOf_18 rfl rfl ?_
      refine r_join (P := fun (J : Int → Md → Option (Int × Md)) => ∀ (v2_38 : Int) (M_38 : Md), RunO l Γ k_X12_presentOf 2 encI (emM K0) 38 [(0, .ref mo), (1, wi a1), (2, wi v2_38), (3, wi v3_4)] [] M_38 (J v2_38 M_38)) ?_ (fun J38 hJ38 => ?_)
      · intro v2_38 M_38
        refine r_iinc (x := v3_4) (lo2 := [(3, wi (v3_4 + 1)), (0, .ref mo), (1, wi a1), (2, wi v2_38)]) dX12_presentOf_38 rfl (by decide) rfl ?_
        refine r_goto (tgt := 4) dX12_presentOf_41 (by decide) ?_
        refine r_lo [1, 2, 3, 0] (lo2 := [(0, .ref mo), (1, wi a1), (2, wi v2_38), (3, wi (v3_4 + 1))]) rfl ?_
        exact hL4 _ _ _
      refine r_icmp_ne (tgt := 38) dX12_presentOf_19 (by decide) ?_ ?_
      · exact hJ38 _ _
      · refine r_iload_n (x := v2_4) dX12_presentOf_22 rfl rfl ?_
        refine ro_iconst (v := (-1)) dX12_presentOf_23 rfl ?_
        refine r_join (P := fun (J : Md → Option (Int × Md)) => ∀ (M_36 : Md), RunO l Γ k_X12_presentOf 2 encI (emM K0) 36 [(0, .ref mo), (1, wi a1), (3, wi v3_4)] [] M_36 (J M_36)) ?_ (fun J36 hJ36 => ?_)
        · intro M_36
          refine r_iload_n (x := v3_4) dX12_presentOf_36 rfl rfl ?_
          refine r_istore_n (lo2 := [(2, wi v3_4), (0, .ref mo), (1, wi a1), (3, wi v3_4)]) dX12_presentOf_37 rfl (by decide) rfl ?_
          refine r_lo [1, 2, 0, 3] (lo2 := [(0, .ref mo), (1, wi a1), (2, wi v3_4), (3, wi v3_4)]) rfl ?_
          exact hJ38 _ _
        refine r_icmp_eq (tgt := 36) dX12_presentOf_24 (by decide) ?_ ?_
        · refine r_lo [0, 1, 3] (lo2 := [(0, .ref mo), (1, wi a1), (3, wi v3_4)]) rfl ?_
          exact hJ36 _
        · refine r_aload_n (x := mo) dX12_presentOf_27 rfl rfl ?_
          refine r_iload_n (x := v2_4) dX12_presentOf_28 rfl rfl ?_
          refine r_iload_n (x := v3_4) dX12_presentOf_29 rfl rfl ?_
          refine r_callVi (k2 := k_X12_isAhead) (n := 2) (rest := []) rfl kv_X12_isAhead (c_X12_isAhead h _ _ _) (by decide) um_195 rfl (Nat.le_of_ble_eq_true rfl) dX12_presentOf_30 (m_rec h) rfl (fun r2 M1 => ?_)
          refine r_if_eq (tgt := 38) dX12_presentOf_33 (by decide) ?_ ?_
          · exact hJ38 _ _
          · refine r_lo [0, 1, 3] (lo2 := [(0, .ref mo), (1, wi a1), (3, wi v3_4)]) rfl ?_
            exact hJ36 _
  refine r_lo [2, 3, 1, 0] (lo2 := [(0, .ref mo), (1, wi a1), (2, wi (-1)), (3, wi 0)]) rfl ?_
  exact hJ4 _ _ _
def k_X12_presentAt : Kd := (yX12_presentAt, cX12_presentAt, 2, some .int, [])
theorem kv_X12_presentAt : KV k_X12_presentAt 1 := ⟨uw_mem 1921 (by decide +kernel) rfl, uw_mem 170 (by decide +kernel) rfl, uw_mem 1920 (by decide +kernel) rfl, uw_mem 99 (by decide +kernel) rfl, ⟨by decide +kernel, by decide +kernel⟩, by decide +kernel, by decide +kernel⟩
set_option maxHeartbeats 4000000 in
set_option maxRecDepth 100000 in
theorem c_X12_presentAt {l : Launch} {Γ : Cx} {K0 : Cd} {mo : Nat} {ma : Nat → Nat} (h : mOn Γ mo ma) (a1 : Int) (M : Md) : Ct l Γ k_X12_presentAt 3 encI (emM K0) [.ref mo, wi a1] M (fX12_presentAt a1 M) := by
  refine ct_of (by decide +kernel) rfl (Nat.le_of_ble_eq_true rfl) ?_
  refine r_lo [0, 1] (lo2 := [(0, .ref mo), (1, wi a1)]) rfl ?_
  unfold fX12_presentAt
  refine r_aload_n (x := mo) dX12_presentAt_0 rfl rfl ?_
  refine r_mgetA (kk := 6) h inU12 rfl (by decide) uf_19 rfl rfl dX12_presentAt_1 ?_
  refine r_iload_n (x := a1) dX12_presentAt_4 rfl rfl ?_
  refine r_miald h (by decide) dX12_presentAt_5 ?_
  refine ro_iconst (v := (-1)) dX12_presentAt_6 rfl ?_
  refine r_join (P := fun (J : Int → Md → Option (Int × Md)) => ∀ (t0_24 : Int) (M_24 : Md), RunO l Γ k_X12_presentAt 3 encI (emM K0) 24 [] [wi t0_24] M_24 (J t0_24 M_24)) ?_ (fun J24 hJ24 => ?_)
  · intro t0_24 M_24
    exact r_iret rfl dX12_presentAt_24
  refine r_icmp_ne (tgt := 14) dX12_presentAt_7 (by decide) ?_ ?_
  · refine r_aload_n (x := mo) dX12_presentAt_14 rfl rfl ?_
    refine r_aload_n (x := mo) dX12_presentAt_15 rfl rfl ?_
    refine r_mgetA (kk := 6) h inU12 rfl (by decide) uf_19 rfl rfl dX12_presentAt_16 ?_
    refine r_iload_n (x := a1) dX12_presentAt_19 rfl rfl ?_
    refine r_miald h (by decide) dX12_presentAt_20 ?_
    refine r_callVi (k2 := k_X12_presentOf) (n := 1) (rest := []) rfl kv_X12_presentOf (c_X12_presentOf h _ _) (by decide) um_203 rfl (Nat.le_of_ble_eq_true rfl) dX12_presentAt_21 (m_rec h) rfl (fun r2 M1 => ?_)
    refine r_lo [] (lo2 := []) rfl ?_
    exact hJ24 _ _
  · refine ro_iconst (v := (-1)) dX12_presentAt_10 rfl ?_
    refine r_goto (tgt := 24) dX12_presentAt_11 (by decide) ?_
    refine r_lo [] (lo2 := []) rfl ?_
    exact hJ24 _ _
def k_X12_approve : Kd := (yX12_approve, cX12_approve, 2, some .int, [])
theorem kv_X12_approve : KV k_X12_approve 1 := ⟨uw_mem 2205 (by decide +kernel) rfl, uw_mem 170 (by decide +kernel) rfl, uw_mem 2203 (by decide +kernel) rfl, uw_mem 2204 (by decide +kernel) rfl, ⟨by decide +kernel, by decide +kernel⟩, by decide +kernel, by decide +kernel⟩
set_option maxHeartbeats 4000000 in
set_option maxRecDepth 100000 in
theorem c_X12_approve {l : Launch} {Γ : Cx} {K0 : Cd} {mo : Nat} {ma : Nat → Nat} (h : mOn Γ mo ma) (a1 : Int) (M : Md) : Ct l Γ k_X12_approve 4 encI (emM K0) [.ref mo, wi a1] M (fX12_approve a1 M) := by
  refine ct_of (by decide +kernel) rfl (Nat.le_of_ble_eq_true rfl) ?_
  refine r_lo [0, 1] (lo2 := [(0, .ref mo), (1, wi a1)]) rfl ?_
  unfold fX12_approve
  refine r_aload_n (x := mo) dX12_approve_0 rfl rfl ?_
  refine r_aload_n (x := mo) dX12_approve_1 rfl rfl ?_
  refine r_iload_n (x := a1) dX12_approve_2 rfl rfl ?_
  refine r_callVi (k2 := k_X12_hasPage) (n := 1) (rest := [.ref mo]) rfl kv_X12_hasPage (c_X12_hasPage h _ _) (by decide) um_381 rfl (Nat.le_of_ble_eq_true rfl) dX12_approve_3 (m_rec h) rfl (fun r2 M1 => ?_)
  refine r_join (P := fun (J : Int → Md → Option (Int × Md)) => ∀ (t0_26 : Int) (M_26 : Md), RunO l Γ k_X12_approve 4 encI (emM K0) 26 [(0, .ref mo), (1, wi a1)] [wi t0_26, .ref mo] M_26 (J t0_26 M_26)) ?_ (fun J26 hJ26 => ?_)
  · intro t0_26 M_26
    refine r_mput (kk := 36) h inU12 rfl (by decide) uf_180 rfl rfl rfl rfl dX12_approve_26 (fun M3 => ?_)
    refine r_aload_n (x := mo) dX12_approve_29 rfl rfl ?_
    refine r_mget (kk := 36) h inU12 rfl (by decide) uf_180 rfl rfl dX12_approve_30 ?_
    refine r_if_le (tgt := 38) dX12_approve_33 (by decide) ?_ ?_
    · refine r_aload_n (x := mo) dX12_approve_38 rfl rfl ?_
      refine r_dup dX12_approve_39 rfl ?_
      refine r_mget (kk := 5) h inU12 rfl (by decide) uf_215 rfl rfl dX12_approve_40 ?_
      refine ro_iconst (v := 1) dX12_approve_43 rfl ?_
      refine r_iadd dX12_approve_44 ?_
      refine r_mput (kk := 5) h inU12 rfl (by decide) uf_215 rfl rfl rfl rfl dX12_approve_45 (fun M4 => ?_)
      refine r_aload_n (x := mo) dX12_approve_48 rfl rfl ?_
      refine r_mgetA (kk := 14) h inU12 rfl (by decide) uf_34 rfl rfl dX12_approve_49 ?_
      refine r_aload_n (x := mo) dX12_approve_52 rfl rfl ?_
      refine r_mget (kk := 13) h inU12 rfl (by decide) uf_229 rfl rfl dX12_approve_53 ?_
      refine r_aload_n (x := mo) dX12_approve_56 rfl rfl ?_
      refine r_mgetA (kk := 6) h inU12 rfl (by decide) uf_19 rfl rfl dX12_approve_57 ?_
      refine r_iload_n (x := a1) dX12_approve_60 rfl rfl ?_
      refine r_miald h (by decide) dX12_approve_61 ?_
      refine r_miast h (by decide) dX12_approve_62 (fun M5 => ?_)
      refine r_aload_n (x := mo) dX12_approve_63 rfl rfl ?_
      refine r_mgetA (kk := 15) h inU12 rfl (by decide) uf_37 rfl rfl dX12_approve_64 ?_
      refine r_aload_n (x := mo) dX12_approve_67 rfl rfl ?_
      refine r_mget (kk := 13) h inU12 rfl (by decide) uf_229 rfl rfl dX12_approve_68 ?_
      refine r_aload_n (x := mo) dX12_approve_71 rfl rfl ?_
      refine r_mget (kk := 5) h inU12 rfl (by decide) uf_215 rfl rfl dX12_approve_72 ?_
      refine r_miast h (by decide) dX12_approve_75 (fun M6 => ?_)
      refine r_aload_n (x := mo) dX12_approve_76 rfl rfl ?_
      refine r_mgetA (kk := 16) h inU12 rfl (by decide) uf_40 rfl rfl dX12_approve_77 ?_
      refine r_aload_n (x := mo) dX12_approve_80 rfl rfl ?_
      refine r_mget (kk := 13) h inU12 rfl (by decide) uf_229 rfl rfl dX12_approve_81 ?_
      refine r_aload_n (x := mo) dX12_approve_84 rfl rfl ?_
      refine r_iload_n (x := a1) dX12_approve_85 rfl rfl ?_
      refine r_callVi (k2 := k_X12_presentAt) (n := 1) (rest := [wi (M6.1 13), .ref (ma 16)]) rfl kv_X12_presentAt (c_X12_presentAt h _ _) (by decide) um_209 rfl (Nat.le_of_ble_eq_true rfl) dX12_approve_86 (m_rec h) rfl (fun r8 M7 => ?_)
      refine r_miast h (by decide) dX12_approve_89 (fun M9 => ?_)
      refine r_aload_n (x := mo) dX12_approve_90 rfl rfl ?_
      refine r_dup dX12_approve_91 rfl ?_
      refine r_mget (kk := 13) h inU12 rfl (by decide) uf_229 rfl rfl dX12_approve_92 ?_
      refine ro_iconst (v := 1) dX12_approve_95 rfl ?_
      refine r_iadd dX12_approve_96 ?_
      refine r_mput (kk := 13) h inU12 rfl (by decide) uf_229 rfl rfl rfl rfl dX12_approve_97 (fun M10 => ?_)
      refine r_aload_n (x := mo) dX12_approve_100 rfl rfl ?_
      refine r_mget (kk := 5) h inU12 rfl (by decide) uf_215 rfl rfl dX12_approve_101 ?_
      exact r_iret rfl dX12_approve_104
    · refine ro_iconst (v := 0) dX12_approve_36 rfl ?_
      exact r_iret rfl dX12_approve_37
  refine r_if_ne (tgt := 13) dX12_approve_6 (by decide) ?_ ?_
  · refine r_aload_n (x := mo) dX12_approve_13 rfl rfl ?_
    refine r_iload_n (x := a1) dX12_approve_14 rfl rfl ?_
    refine r_callVi (k2 := k_X12_mayAt) (n := 1) (rest := [.ref mo]) rfl kv_X12_mayAt (c_X12_mayAt h _ _) (by decide) um_393 rfl (Nat.le_of_ble_eq_true rfl) dX12_approve_15 (m_rec h) rfl (fun r12 M11 => ?_)
    refine r_if_ne (tgt := 25) dX12_approve_18 (by decide) ?_ ?_
    · refine ro_iconst (v := 0) dX12_approve_25 rfl ?_
      exact hJ26 _ _
    · refine ro_iconst (v := 2) dX12_approve_21 rfl ?_
      refine r_goto (tgt := 26) dX12_approve_22 (by decide) ?_
      exact hJ26 _ _
  · refine ro_iconst (v := 1) dX12_approve_9 rfl ?_
    refine r_goto (tgt := 26) dX12_approve_10 (by decide) ?_
    exact hJ26 _ _
def k_X12_hasIndex : Kd := (yX12_hasIndex, cX12_hasIndex, 3, some .boolean, [])
theorem kv_X12_hasIndex : KV k_X12_hasIndex 2 := ⟨uw_mem 2249 (by decide +kernel) rfl, uw_mem 170 (by decide +kernel) rfl, uw_mem 2248 (by decide +kernel) rfl, uw_mem 155 (by decide +kernel) rfl, ⟨by decide +kernel, by decide +kernel⟩, by decide +kernel, by decide +kernel⟩
set_option maxHeartbeats 4000000 in
set_option maxRecDepth 100000 in
theorem c_X12_hasIndex {l : Launch} {Γ : Cx} {K0 : Cd} {mo : Nat} {ma : Nat → Nat} (h : mOn Γ mo ma) (a1 : Int) (a2 : Int) (M : Md) : Ct l Γ k_X12_hasIndex 4 encI (emM K0) [.ref mo, wi a1, wi a2] M (fX12_hasIndex a1 a2 M) := by
  refine ct_of (by decide +kernel) rfl (Nat.le_of_ble_eq_true rfl) ?_
  refine r_lo [0, 1, 2] (lo2 := [(0, .ref mo), (1, wi a1), (2, wi a2)]) rfl ?_
  unfold fX12_hasIndex
  refine r_aload_n (x := mo) dX12_hasIndex_0 rfl rfl ?_
  refine r_aload_n (x := mo) dX12_hasIndex_1 rfl rfl ?_
  refine r_iload_n (x := a1) dX12_hasIndex_2 rfl rfl ?_
  refine r_callVi (k2 := k_X12_hasPage) (n := 1) (rest := [.ref mo]) rfl kv_X12_hasPage (c_X12_hasPage h _ _) (by decide) um_381 rfl (Nat.le_of_ble_eq_true rfl) dX12_hasIndex_3 (m_rec h) rfl (fun r2 M1 => ?_)
  refine r_join (P := fun (J : Int → Md → Option (Int × Md)) => ∀ (t0_18 : Int) (M_18 : Md), RunO l Γ k_X12_hasIndex 4 encI (emM K0) 18 [(0, .ref mo)] [wi t0_18, .ref mo] M_18 (J t0_18 M_18)) ?_ (fun J18 hJ18 => ?_)
  · intro t0_18 M_18
    refine r_mput (kk := 36) h inU12 rfl (by decide) uf_180 rfl rfl rfl rfl dX12_hasIndex_18 (fun M3 => ?_)
    refine r_aload_n (x := mo) dX12_hasIndex_21 rfl rfl ?_
    refine r_mget (kk := 36) h inU12 rfl (by decide) uf_180 rfl rfl dX12_hasIndex_22 ?_
    refine r_join (P := fun (J : Int → Md → Option (Int × Md)) => ∀ (t0_33 : Int) (M_33 : Md), RunO l Γ k_X12_hasIndex 4 encI (emM K0) 33 [] [wi t0_33] M_33 (J t0_33 M_33)) ?_ (fun J33 hJ33 => ?_)
    · intro t0_33 M_33
      exact r_zret rfl dX12_hasIndex_33
    refine r_if_ne (tgt := 32) dX12_hasIndex_25 (by decide) ?_ ?_
    · refine ro_iconst (v := 0) dX12_hasIndex_32 rfl ?_
      refine r_lo [] (lo2 := []) rfl ?_
      exact hJ33 _ _
    · refine ro_iconst (v := 1) dX12_hasIndex_28 rfl ?_
      refine r_goto (tgt := 33) dX12_hasIndex_29 (by decide) ?_
      refine r_lo [] (lo2 := []) rfl ?_
      exact hJ33 _ _
  refine r_join (P := fun (J : Md → Option (Int × Md)) => ∀ (M_17 : Md), RunO l Γ k_X12_hasIndex 4 encI (emM K0) 17 [(0, .ref mo)] [.ref mo] M_17 (J M_17)) ?_ (fun J17 hJ17 => ?_)
  · intro M_17
    refine ro_iconst (v := 1) dX12_hasIndex_17 rfl ?_
    exact hJ18 _ _
  refine r_if_eq (tgt := 17) dX12_hasIndex_6 (by decide) ?_ ?_
  · refine r_lo [0] (lo2 := [(0, .ref mo)]) rfl ?_
    exact hJ17 _
  · refine r_iload_n (x := a2) dX12_hasIndex_9 rfl rfl ?_
    refine r_if_lt (tgt := 17) dX12_hasIndex_10 (by decide) ?_ ?_
    · refine r_lo [0] (lo2 := [(0, .ref mo)]) rfl ?_
      exact hJ17 _
    · refine ro_iconst (v := 0) dX12_hasIndex_13 rfl ?_
      refine r_goto (tgt := 18) dX12_hasIndex_14 (by decide) ?_
      refine r_lo [0] (lo2 := [(0, .ref mo)]) rfl ?_
      exact hJ18 _ _
def k_X12_newRow : Kd := (yX12_newRow, cX12_newRow, 1, some .int, [])
theorem kv_X12_newRow : KV k_X12_newRow 0 := ⟨uw_mem 1937 (by decide +kernel) rfl, uw_mem 170 (by decide +kernel) rfl, uw_mem 1936 (by decide +kernel) rfl, uw_mem 103 (by decide +kernel) rfl, ⟨by decide +kernel, by decide +kernel⟩, by decide +kernel, by decide +kernel⟩
set_option maxHeartbeats 4000000 in
set_option maxRecDepth 100000 in
theorem c_X12_newRow {l : Launch} {Γ : Cx} {K0 : Cd} {mo : Nat} {ma : Nat → Nat} (h : mOn Γ mo ma)  (M : Md) : Ct l Γ k_X12_newRow 1 encI (emM K0) [.ref mo] M (fX12_newRow  M) := by
  refine ct_of (by decide +kernel) rfl (Nat.le_of_ble_eq_true rfl) ?_
  refine r_lo [0] (lo2 := [(0, .ref mo)]) rfl ?_
  unfold fX12_newRow
  refine r_aload_n (x := mo) dX12_newRow_0 rfl rfl ?_
  refine r_mgetA (kk := 49) h inU12 rfl (by decide) uf_125 rfl rfl dX12_newRow_1 ?_
  refine r_aload_n (x := mo) dX12_newRow_4 rfl rfl ?_
  refine r_mget (kk := 48) h inU12 rfl (by decide) uf_248 rfl rfl dX12_newRow_5 ?_
  refine ro_iconst (v := 0) dX12_newRow_8 rfl ?_
  refine r_miast h (by decide) dX12_newRow_9 (fun M1 => ?_)
  refine r_aload_n (x := mo) dX12_newRow_10 rfl rfl ?_
  refine r_dup dX12_newRow_11 rfl ?_
  refine r_mget (kk := 48) h inU12 rfl (by decide) uf_248 rfl rfl dX12_newRow_12 ?_
  refine ro_iconst (v := 1) dX12_newRow_15 rfl ?_
  refine r_iadd dX12_newRow_16 ?_
  refine r_mput (kk := 48) h inU12 rfl (by decide) uf_248 rfl rfl rfl rfl dX12_newRow_17 (fun M2 => ?_)
  refine r_aload_n (x := mo) dX12_newRow_20 rfl rfl ?_
  refine r_mget (kk := 48) h inU12 rfl (by decide) uf_248 rfl rfl dX12_newRow_21 ?_
  refine ro_iconst (v := 1) dX12_newRow_24 rfl ?_
  refine r_isub dX12_newRow_25 ?_
  exact r_iret rfl dX12_newRow_26
def k_X12_newFrame : Kd := (yX12_newFrame, cX12_newFrame, 7, some .int, [])
theorem kv_X12_newFrame : KV k_X12_newFrame 4 := ⟨uw_mem 1941 (by decide +kernel) rfl, uw_mem 170 (by decide +kernel) rfl, uw_mem 1940 (by decide +kernel) rfl, uw_mem 104 (by decide +kernel) rfl, ⟨by decide +kernel, by decide +kernel⟩, by decide +kernel, by decide +kernel⟩
set_option maxHeartbeats 4000000 in
set_option maxRecDepth 100000 in
theorem c_X12_newFrame {l : Launch} {Γ : Cx} {K0 : Cd} {mo : Nat} {ma : Nat → Nat} (h : mOn Γ mo ma) (a1 : Int) (a2 : Int) (a3 : Int) (a4 : Int) (M : Md) : Ct l Γ k_X12_newFrame 1 encI (emM K0) [.ref mo, wi a1, wi a2, wi a3, wi a4] M (fX12_newFrame a1 a2 a3 a4 M) := by
  refine ct_of (by decide +kernel) rfl (Nat.le_of_ble_eq_true rfl) ?_
  refine r_lo [0, 1, 2, 3, 4] (lo2 := [(0, .ref mo), (1, wi a1), (2, wi a2), (3, wi a3), (4, wi a4)]) rfl ?_
  unfold fX12_newFrame
  refine r_aload_n (x := mo) dX12_newFrame_0 rfl rfl ?_
  refine r_mget (kk := 40) h inU12 rfl (by decide) uf_263 rfl rfl dX12_newFrame_1 ?_
  refine r_nm (fun x5_4 => ?_)
  refine r_istore (lo2 := [(5, wi x5_4), (0, .ref mo), (1, wi a1), (2, wi a2), (3, wi a3), (4, wi a4)]) dX12_newFrame_4 (by decide) rfl ?_
  refine r_aload_n (x := mo) dX12_newFrame_6 rfl rfl ?_
  refine r_mgetA (kk := 41) h inU12 rfl (by decide) uf_104 rfl rfl dX12_newFrame_7 ?_
  refine r_iload (x := x5_4) dX12_newFrame_10 rfl ?_
  refine r_iload_n (x := a1) dX12_newFrame_12 rfl rfl ?_
  refine r_miast h (by decide) dX12_newFrame_13 (fun M1 => ?_)
  refine r_aload_n (x := mo) dX12_newFrame_14 rfl rfl ?_
  refine r_mgetA (kk := 42) h inU12 rfl (by decide) uf_107 rfl rfl dX12_newFrame_15 ?_
  refine r_iload (x := x5_4) dX12_newFrame_18 rfl ?_
  refine r_iload_n (x := a2) dX12_newFrame_20 rfl rfl ?_
  refine r_miast h (by decide) dX12_newFrame_21 (fun M2 => ?_)
  refine r_aload_n (x := mo) dX12_newFrame_22 rfl rfl ?_
  refine r_mgetA (kk := 43) h inU12 rfl (by decide) uf_110 rfl rfl dX12_newFrame_23 ?_
  refine r_iload (x := x5_4) dX12_newFrame_26 rfl ?_
  refine r_iload_n (x := a3) dX12_newFrame_28 rfl rfl ?_
  refine r_miast h (by decide) dX12_newFrame_29 (fun M3 => ?_)
  refine r_aload_n (x := mo) dX12_newFrame_30 rfl rfl ?_
  refine r_mgetA (kk := 44) h inU12 rfl (by decide) uf_113 rfl rfl dX12_newFrame_31 ?_
  refine r_iload (x := x5_4) dX12_newFrame_34 rfl ?_
  refine r_iload (x := a4) dX12_newFrame_36 rfl ?_
  refine r_miast h (by decide) dX12_newFrame_38 (fun M4 => ?_)
  refine ro_iconst (v := 0) dX12_newFrame_39 rfl ?_
  refine r_istore (lo2 := [(6, wi 0), (5, wi x5_4), (0, .ref mo), (1, wi a1), (2, wi a2), (3, wi a3), (4, wi a4)]) dX12_newFrame_40 (by decide) rfl ?_
  refine r_loop (P := fun (J : Int → Md → Option (Int × Md)) => ∀ (v6_42 : Int) (M_42 : Md), RunO l Γ k_X12_newFrame 1 encI (emM K0) 42 [(0, .ref mo), (5, wi x5_4), (6, wi v6_42)] [] M_42 (J v6_42 M_42)) ?_ (fun L42 hL42 => ?_) (fun J42 hJ42 => ?_)
  · intros; exact ro_none
  · intro v6_42 M_42
    refine r_iload (x := v6_42) dX12_newFrame_42 rfl ?_
    refine r_bipush (v := 10) dX12_newFrame_44 rfl ?_
    refine r_icmp_ge (tgt := 83) dX12_newFrame_46 (by decide) ?_ ?_
    · refine r_aload_n (x := mo) dX12_newFrame_83 rfl rfl ?_
      refine r_dup dX12_newFrame_84 rfl ?_
      refine r_mget (kk := 40) h inU12 rfl (by decide) uf_263 rfl rfl dX12_newFrame_85 ?_
      refine ro_iconst (v := 1) dX12_newFrame_88 rfl ?_
      refine r_iadd dX12_newFrame_89 ?_
      refine r_mput (kk := 40) h inU12 rfl (by decide) uf_263 rfl rfl rfl rfl dX12_newFrame_90 (fun M5 => ?_)
      refine r_iload (x := x5_4) dX12_newFrame_93 rfl ?_
      exact r_iret rfl dX12_newFrame_95
    · refine r_aload_n (x := mo) dX12_newFrame_49 rfl rfl ?_
      refine r_mgetA (kk := 45) h inU12 rfl (by decide) uf_116 rfl rfl dX12_newFrame_50 ?_
      refine r_bipush (v := 10) dX12_newFrame_53 rfl ?_
      refine r_iload (x := x5_4) dX12_newFrame_55 rfl ?_
      refine r_imul dX12_newFrame_57 ?_
      refine r_iload (x := v6_42) dX12_newFrame_58 rfl ?_
      refine r_iadd dX12_newFrame_60 ?_
      refine ro_iconst (v := (-1)) dX12_newFrame_61 rfl ?_
      refine r_miast h (by decide) dX12_newFrame_62 (fun M6 => ?_)
      refine r_aload_n (x := mo) dX12_newFrame_63 rfl rfl ?_
      refine r_mgetA (kk := 47) h inU12 rfl (by decide) uf_122 rfl rfl dX12_newFrame_64 ?_
      refine r_bipush (v := 10) dX12_newFrame_67 rfl ?_
      refine r_iload (x := x5_4) dX12_newFrame_69 rfl ?_
      refine r_imul dX12_newFrame_71 ?_
      refine r_iload (x := v6_42) dX12_newFrame_72 rfl ?_
      refine r_iadd dX12_newFrame_74 ?_
      refine ro_iconst (v := (-1)) dX12_newFrame_75 rfl ?_
      refine r_miast h (by decide) dX12_newFrame_76 (fun M7 => ?_)
      refine r_iinc (x := v6_42) (lo2 := [(6, wi (v6_42 + 1)), (0, .ref mo), (5, wi x5_4)]) dX12_newFrame_77 rfl (by decide) rfl ?_
      refine r_goto (tgt := 42) dX12_newFrame_80 (by decide) ?_
      refine r_lo [1, 2, 0] (lo2 := [(0, .ref mo), (5, wi x5_4), (6, wi (v6_42 + 1))]) rfl ?_
      exact hL42 _ _
  refine r_lo [2, 1, 0] (lo2 := [(0, .ref mo), (5, wi x5_4), (6, wi 0)]) rfl ?_
  exact hJ42 _ _
def k_X12_task : Kd := (yX12_task, cX12_task, 6, none, [])
theorem kv_X12_task : KV k_X12_task 5 := ⟨uw_mem 1945 (by decide +kernel) rfl, uw_mem 170 (by decide +kernel) rfl, uw_mem 1944 (by decide +kernel) rfl, uw_mem 105 (by decide +kernel) rfl, ⟨by decide +kernel, by decide +kernel⟩, by decide +kernel, by decide +kernel⟩
set_option maxHeartbeats 4000000 in
set_option maxRecDepth 100000 in
theorem c_X12_task {l : Launch} {Γ : Cx} {K0 : Cd} {mo : Nat} {ma : Nat → Nat} (h : mOn Γ mo ma) (a1 : Int) (a2 : Int) (a3 : Int) (a4 : Int) (a5 : Int) (M : Md) : Ct l Γ k_X12_task 1 encV (emM K0) [.ref mo, wi a1, wi a2, wi a3, wi a4, wi a5] M (fX12_task a1 a2 a3 a4 a5 M) := by
  refine ct_of (by decide +kernel) rfl (Nat.le_of_ble_eq_true rfl) ?_
  refine r_lo [0, 1, 2, 3, 4, 5] (lo2 := [(0, .ref mo), (1, wi a1), (2, wi a2), (3, wi a3), (4, wi a4), (5, wi a5)]) rfl ?_
  unfold fX12_task
  refine r_aload_n (x := mo) dX12_task_0 rfl rfl ?_
  refine r_mgetA (kk := 60) h inU12 rfl (by decide) uf_153 rfl rfl dX12_task_1 ?_
  refine r_aload_n (x := mo) dX12_task_4 rfl rfl ?_
  refine r_mget (kk := 59) h inU12 rfl (by decide) uf_254 rfl rfl dX12_task_5 ?_
  refine r_iload_n (x := a1) dX12_task_8 rfl rfl ?_
  refine r_miast h (by decide) dX12_task_9 (fun M1 => ?_)
  refine r_aload_n (x := mo) dX12_task_10 rfl rfl ?_
  refine r_mgetA (kk := 61) h inU12 rfl (by decide) uf_156 rfl rfl dX12_task_11 ?_
  refine r_aload_n (x := mo) dX12_task_14 rfl rfl ?_
  refine r_mget (kk := 59) h inU12 rfl (by decide) uf_254 rfl rfl dX12_task_15 ?_
  refine r_iload_n (x := a2) dX12_task_18 rfl rfl ?_
  refine r_miast h (by decide) dX12_task_19 (fun M2 => ?_)
  refine r_aload_n (x := mo) dX12_task_20 rfl rfl ?_
  refine r_mgetA (kk := 62) h inU12 rfl (by decide) uf_159 rfl rfl dX12_task_21 ?_
  refine r_aload_n (x := mo) dX12_task_24 rfl rfl ?_
  refine r_mget (kk := 59) h inU12 rfl (by decide) uf_254 rfl rfl dX12_task_25 ?_
  refine r_iload_n (x := a3) dX12_task_28 rfl rfl ?_
  refine r_miast h (by decide) dX12_task_29 (fun M3 => ?_)
  refine r_aload_n (x := mo) dX12_task_30 rfl rfl ?_
  refine r_mgetA (kk := 63) h inU12 rfl (by decide) uf_162 rfl rfl dX12_task_31 ?_
  refine r_aload_n (x := mo) dX12_task_34 rfl rfl ?_
  refine r_mget (kk := 59) h inU12 rfl (by decide) uf_254 rfl rfl dX12_task_35 ?_
  refine r_iload (x := a4) dX12_task_38 rfl ?_
  refine r_miast h (by decide) dX12_task_40 (fun M4 => ?_)
  refine r_aload_n (x := mo) dX12_task_41 rfl rfl ?_
  refine r_mgetA (kk := 64) h inU12 rfl (by decide) uf_165 rfl rfl dX12_task_42 ?_
  refine r_aload_n (x := mo) dX12_task_45 rfl rfl ?_
  refine r_mget (kk := 59) h inU12 rfl (by decide) uf_254 rfl rfl dX12_task_46 ?_
  refine r_iload (x := a5) dX12_task_49 rfl ?_
  refine r_miast h (by decide) dX12_task_51 (fun M5 => ?_)
  refine r_aload_n (x := mo) dX12_task_52 rfl rfl ?_
  refine r_dup dX12_task_53 rfl ?_
  refine r_mget (kk := 59) h inU12 rfl (by decide) uf_254 rfl rfl dX12_task_54 ?_
  refine ro_iconst (v := 1) dX12_task_57 rfl ?_
  refine r_iadd dX12_task_58 ?_
  refine r_mput (kk := 59) h inU12 rfl (by decide) uf_254 rfl rfl rfl rfl dX12_task_59 (fun M6 => ?_)
  exact r_vret rfl dX12_task_62
def k_X12_partOf : Kd := (yX12_partOf, cX12_partOf, 4, some .int, [])
theorem kv_X12_partOf : KV k_X12_partOf 2 := ⟨uw_mem 1961 (by decide +kernel) rfl, uw_mem 170 (by decide +kernel) rfl, uw_mem 1960 (by decide +kernel) rfl, uw_mem 109 (by decide +kernel) rfl, ⟨by decide +kernel, by decide +kernel⟩, by decide +kernel, by decide +kernel⟩
set_option maxHeartbeats 4000000 in
set_option maxRecDepth 100000 in
theorem c_X12_partOf {l : Launch} {Γ : Cx} {K0 : Cd} {mo : Nat} {ma : Nat → Nat} (h : mOn Γ mo ma) (a1 : Int) (a2 : Int) (M : Md) : Ct l Γ k_X12_partOf 1 encI (emM K0) [.ref mo, wi a1, wi a2] M (fX12_partOf a1 a2 M) := by
  refine ct_of (by decide +kernel) rfl (Nat.le_of_ble_eq_true rfl) ?_
  refine r_lo [0, 1, 2] (lo2 := [(0, .ref mo), (1, wi a1), (2, wi a2)]) rfl ?_
  unfold fX12_partOf
  refine r_iload_n (x := a2) dX12_partOf_0 rfl rfl ?_
  refine r_aload_n (x := mo) dX12_partOf_1 rfl rfl ?_
  refine r_mgetA (kk := 55) h inU12 rfl (by decide) uf_141 rfl rfl dX12_partOf_2 ?_
  refine r_iload_n (x := a1) dX12_partOf_5 rfl rfl ?_
  refine r_miald h (by decide) dX12_partOf_6 ?_
  refine r_icmp_le (tgt := 12) dX12_partOf_7 (by decide) ?_ ?_
  · refine r_aload_n (x := mo) dX12_partOf_12 rfl rfl ?_
    refine r_mgetA (kk := 58) h inU12 rfl (by decide) uf_150 rfl rfl dX12_partOf_13 ?_
    refine r_bipush (v := 32) dX12_partOf_16 rfl ?_
    refine r_iload_n (x := a1) dX12_partOf_18 rfl rfl ?_
    refine r_imul dX12_partOf_19 ?_
    refine r_iload_n (x := a2) dX12_partOf_20 rfl rfl ?_
    refine r_iadd dX12_partOf_21 ?_
    refine ro_iconst (v := 1) dX12_partOf_22 rfl ?_
    refine r_isub dX12_partOf_23 ?_
    refine r_miald h (by decide) dX12_partOf_24 ?_
    refine r_nm (fun x3_25 => ?_)
    refine r_istore_n (lo2 := [(3, wi x3_25), (0, .ref mo), (1, wi a1), (2, wi a2)]) dX12_partOf_25 rfl (by decide) rfl ?_
    refine r_aload_n (x := mo) dX12_partOf_26 rfl rfl ?_
    refine r_iload_n (x := x3_25) dX12_partOf_27 rfl rfl ?_
    refine ro_iconst (v := (-1)) dX12_partOf_28 rfl ?_
    refine r_join (P := fun (J : Int → Md → Option (Int × Md)) => ∀ (t0_47 : Int) (M_47 : Md), RunO l Γ k_X12_partOf 1 encI (emM K0) 47 [(3, wi x3_25)] [wi t0_47, .ref mo] M_47 (J t0_47 M_47)) ?_ (fun J47 hJ47 => ?_)
    · intro t0_47 M_47
      refine r_mput (kk := 71) h inU12 rfl (by decide) uf_316 rfl rfl rfl rfl dX12_partOf_47 (fun M1 => ?_)
      refine r_iload_n (x := x3_25) dX12_partOf_50 rfl rfl ?_
      refine ro_iconst (v := (-1)) dX12_partOf_51 rfl ?_
      refine r_join (P := fun (J : Int → Md → Option (Int × Md)) => ∀ (t0_60 : Int) (M_60 : Md), RunO l Γ k_X12_partOf 1 encI (emM K0) 60 [] [wi t0_60] M_60 (J t0_60 M_60)) ?_ (fun J60 hJ60 => ?_)
      · intro t0_60 M_60
        exact r_iret rfl dX12_partOf_60
      refine r_icmp_ne (tgt := 59) dX12_partOf_52 (by decide) ?_ ?_
      · refine r_iload_n (x := x3_25) dX12_partOf_59 rfl rfl ?_
        refine r_lo [] (lo2 := []) rfl ?_
        exact hJ60 _ _
      · refine ro_iconst (v := 1) dX12_partOf_55 rfl ?_
        refine r_goto (tgt := 60) dX12_partOf_56 (by decide) ?_
        refine r_lo [] (lo2 := []) rfl ?_
        exact hJ60 _ _
    refine r_join (P := fun (J : Md → Option (Int × Md)) => ∀ (M_43 : Md), RunO l Γ k_X12_partOf 1 encI (emM K0) 43 [(0, .ref mo), (3, wi x3_25)] [.ref mo] M_43 (J M_43)) ?_ (fun J43 hJ43 => ?_)
    · intro M_43
      refine r_aload_n (x := mo) dX12_partOf_43 rfl rfl ?_
      refine r_mget (kk := 71) h inU12 rfl (by decide) uf_316 rfl rfl dX12_partOf_44 ?_
      refine r_lo [1] (lo2 := [(3, wi x3_25)]) rfl ?_
      exact hJ47 _ _
    refine r_icmp_ne (tgt := 43) dX12_partOf_29 (by decide) ?_ ?_
    · refine r_lo [1, 0] (lo2 := [(0, .ref mo), (3, wi x3_25)]) rfl ?_
      exact hJ43 _
    · refine r_aload_n (x := mo) dX12_partOf_32 rfl rfl ?_
      refine r_mget (kk := 71) h inU12 rfl (by decide) uf_316 rfl rfl dX12_partOf_33 ?_
      refine r_if_ne (tgt := 43) dX12_partOf_36 (by decide) ?_ ?_
      · refine r_lo [1, 0] (lo2 := [(0, .ref mo), (3, wi x3_25)]) rfl ?_
        exact hJ43 _
      · refine r_iload_n (x := a2) dX12_partOf_39 rfl rfl ?_
        refine r_goto (tgt := 47) dX12_partOf_40 (by decide) ?_
        refine r_lo [0] (lo2 := [(3, wi x3_25)]) rfl ?_
        exact hJ47 _ _
  · refine ro_iconst (v := 1) dX12_partOf_10 rfl ?_
    exact r_iret rfl dX12_partOf_11
def k_X12_hasOther : Kd := (yX12_hasOther, cX12_hasOther, 4, some .boolean, [])
theorem kv_X12_hasOther : KV k_X12_hasOther 1 := ⟨uw_mem 1965 (by decide +kernel) rfl, uw_mem 170 (by decide +kernel) rfl, uw_mem 1964 (by decide +kernel) rfl, uw_mem 110 (by decide +kernel) rfl, ⟨by decide +kernel, by decide +kernel⟩, by decide +kernel, by decide +kernel⟩
set_option maxHeartbeats 4000000 in
set_option maxRecDepth 100000 in
theorem c_X12_hasOther {l : Launch} {Γ : Cx} {K0 : Cd} {mo : Nat} {ma : Nat → Nat} (h : mOn Γ mo ma) (a1 : Int) (M : Md) : Ct l Γ k_X12_hasOther 1 encI (emM K0) [.ref mo, wi a1] M (fX12_hasOther a1 M) := by
  refine ct_of (by decide +kernel) rfl (Nat.le_of_ble_eq_true rfl) ?_
  refine r_lo [0, 1] (lo2 := [(0, .ref mo), (1, wi a1)]) rfl ?_
  unfold fX12_hasOther
  refine ro_iconst (v := 0) dX12_hasOther_0 rfl ?_
  refine r_istore_n (lo2 := [(2, wi 0), (0, .ref mo), (1, wi a1)]) dX12_hasOther_1 rfl (by decide) rfl ?_
  refine ro_iconst (v := 0) dX12_hasOther_2 rfl ?_
  refine r_istore_n (lo2 := [(3, wi 0), (2, wi 0), (0, .ref mo), (1, wi a1)]) dX12_hasOther_3 rfl (by decide) rfl ?_
  refine r_loop (P := fun (J : Int → Int → Md → Option (Int × Md)) => ∀ (v2_4 : Int) (v3_4 : Int) (M_4 : Md), RunO l Γ k_X12_hasOther 1 encI (emM K0) 4 [(0, .ref mo), (1, wi a1), (2, wi v2_4), (3, wi v3_4)] [] M_4 (J v2_4 v3_4 M_4)) ?_ (fun L4 hL4 => ?_) (fun J4 hJ4 => ?_)
  · intros; exact ro_none
  · intro v2_4 v3_4 M_4
    refine r_iload_n (x := v3_4) dX12_hasOther_4 rfl rfl ?_
    refine r_aload_n (x := mo) dX12_hasOther_5 rfl rfl ?_
    refine r_mgetA (kk := 49) h inU12 rfl (by decide) uf_125 rfl rfl dX12_hasOther_6 ?_
    refine r_iload_n (x := a1) dX12_hasOther_9 rfl rfl ?_
    refine r_miald h (by decide) dX12_hasOther_10 ?_
    refine r_icmp_ge (tgt := 45) dX12_hasOther_11 (by decide) ?_ ?_
    · refine r_iload_n (x := v2_4) dX12_hasOther_45 rfl rfl ?_
      exact r_zret rfl dX12_hasOther_46
    · refine r_iload_n (x := v2_4) dX12_hasOther_14 rfl rfl ?_
      refine r_join (P := fun (J : Int → Md → Option (Int × Md)) => ∀ (t0_38 : Int) (M_38 : Md), RunO l Γ k_X12_hasOther 1 encI (emM K0) 38 [(0, .ref mo), (1, wi a1), (3, wi v3_4)] [wi t0_38] M_38 (J t0_38 M_38)) ?_ (fun J38 hJ38 => ?_)
      · intro t0_38 M_38
        refine r_istore_n (lo2 := [(2, wi t0_38), (0, .ref mo), (1, wi a1), (3, wi v3_4)]) dX12_hasOther_38 rfl (by decide) rfl ?_
        refine r_iinc (x := v3_4) (lo2 := [(3, wi (v3_4 + 1)), (2, wi t0_38), (0, .ref mo), (1, wi a1)]) dX12_hasOther_39 rfl (by decide) rfl ?_
        refine r_goto (tgt := 4) dX12_hasOther_42 (by decide) ?_
        refine r_lo [2, 3, 1, 0] (lo2 := [(0, .ref mo), (1, wi a1), (2, wi t0_38), (3, wi (v3_4 + 1))]) rfl ?_
        exact hL4 _ _ _
      refine r_join (P := fun (J : Md → Option (Int × Md)) => ∀ (M_33 : Md), RunO l Γ k_X12_hasOther 1 encI (emM K0) 33 [(0, .ref mo), (1, wi a1), (3, wi v3_4)] [] M_33 (J M_33)) ?_ (fun J33 hJ33 => ?_)
      · intro M_33
        refine ro_iconst (v := 1) dX12_hasOther_33 rfl ?_
        refine r_goto (tgt := 38) dX12_hasOther_34 (by decide) ?_
        exact hJ38 _ _
      refine r_if_ne (tgt := 33) dX12_hasOther_15 (by decide) ?_ ?_
      · refine r_lo [0, 1, 3] (lo2 := [(0, .ref mo), (1, wi a1), (3, wi v3_4)]) rfl ?_
        exact hJ33 _
      · refine r_aload_n (x := mo) dX12_hasOther_18 rfl rfl ?_
        refine r_mgetA (kk := 50) h inU12 rfl (by decide) uf_129 rfl rfl dX12_hasOther_19 ?_
        refine r_sipush (v := 150) dX12_hasOther_22 rfl ?_
        refine r_iload_n (x := a1) dX12_hasOther_25 rfl rfl ?_
        refine r_imul dX12_hasOther_26 ?_
        refine r_iload_n (x := v3_4) dX12_hasOther_27 rfl rfl ?_
        refine r_iadd dX12_hasOther_28 ?_
        refine r_miald h (by decide) dX12_hasOther_29 ?_
        refine r_if_eq (tgt := 37) dX12_hasOther_30 (by decide) ?_ ?_
        · refine ro_iconst (v := 0) dX12_hasOther_37 rfl ?_
          refine r_lo [0, 1, 3] (lo2 := [(0, .ref mo), (1, wi a1), (3, wi v3_4)]) rfl ?_
          exact hJ38 _ _
        · refine r_lo [0, 1, 3] (lo2 := [(0, .ref mo), (1, wi a1), (3, wi v3_4)]) rfl ?_
          exact hJ33 _
  refine r_lo [2, 3, 1, 0] (lo2 := [(0, .ref mo), (1, wi a1), (2, wi 0), (3, wi 0)]) rfl ?_
  exact hJ4 _ _ _
def k_X12_areSame : Kd := (yX12_areSame, cX12_areSame, 5, some .boolean, [])
theorem kv_X12_areSame : KV k_X12_areSame 2 := ⟨uw_mem 1969 (by decide +kernel) rfl, uw_mem 170 (by decide +kernel) rfl, uw_mem 1968 (by decide +kernel) rfl, uw_mem 111 (by decide +kernel) rfl, ⟨by decide +kernel, by decide +kernel⟩, by decide +kernel, by decide +kernel⟩
set_option maxHeartbeats 4000000 in
set_option maxRecDepth 100000 in
theorem c_X12_areSame {l : Launch} {Γ : Cx} {K0 : Cd} {mo : Nat} {ma : Nat → Nat} (h : mOn Γ mo ma) (a1 : Int) (a2 : Int) (M : Md) : Ct l Γ k_X12_areSame 1 encI (emM K0) [.ref mo, wi a1, wi a2] M (fX12_areSame a1 a2 M) := by
  refine ct_of (by decide +kernel) rfl (Nat.le_of_ble_eq_true rfl) ?_
  refine r_lo [0, 1, 2] (lo2 := [(0, .ref mo), (1, wi a1), (2, wi a2)]) rfl ?_
  unfold fX12_areSame
  refine r_aload_n (x := mo) dX12_areSame_0 rfl rfl ?_
  refine r_mgetA (kk := 49) h inU12 rfl (by decide) uf_125 rfl rfl dX12_areSame_1 ?_
  refine r_iload_n (x := a1) dX12_areSame_4 rfl rfl ?_
  refine r_miald h (by decide) dX12_areSame_5 ?_
  refine r_aload_n (x := mo) dX12_areSame_6 rfl rfl ?_
  refine r_mgetA (kk := 49) h inU12 rfl (by decide) uf_125 rfl rfl dX12_areSame_7 ?_
  refine r_iload_n (x := a2) dX12_areSame_10 rfl rfl ?_
  refine r_miald h (by decide) dX12_areSame_11 ?_
  refine r_join (P := fun (J : Int → Md → Option (Int × Md)) => ∀ (t0_20 : Int) (M_20 : Md), RunO l Γ k_X12_areSame 1 encI (emM K0) 20 [(0, .ref mo), (1, wi a1), (2, wi a2)] [wi t0_20] M_20 (J t0_20 M_20)) ?_ (fun J20 hJ20 => ?_)
  · intro t0_20 M_20
    refine r_istore_n (lo2 := [(3, wi t0_20), (0, .ref mo), (1, wi a1), (2, wi a2)]) dX12_areSame_20 rfl (by decide) rfl ?_
    refine ro_iconst (v := 0) dX12_areSame_21 rfl ?_
    refine r_istore (lo2 := [(4, wi 0), (3, wi t0_20), (0, .ref mo), (1, wi a1), (2, wi a2)]) dX12_areSame_22 (by decide) rfl ?_
    refine r_loop (P := fun (J : Int → Int → Md → Option (Int × Md)) => ∀ (v3_24 : Int) (v4_24 : Int) (M_24 : Md), RunO l Γ k_X12_areSame 1 encI (emM K0) 24 [(0, .ref mo), (1, wi a1), (2, wi a2), (3, wi v3_24), (4, wi v4_24)] [] M_24 (J v3_24 v4_24 M_24)) ?_ (fun L24 hL24 => ?_) (fun J24 hJ24 => ?_)
    · intros; exact ro_none
    · intro v3_24 v4_24 M_24
      refine r_iload (x := v4_24) dX12_areSame_24 rfl ?_
      refine r_aload_n (x := mo) dX12_areSame_26 rfl rfl ?_
      refine r_mgetA (kk := 49) h inU12 rfl (by decide) uf_125 rfl rfl dX12_areSame_27 ?_
      refine r_iload_n (x := a1) dX12_areSame_30 rfl rfl ?_
      refine r_miald h (by decide) dX12_areSame_31 ?_
      refine r_join (P := fun (J : Md → Option (Int × Md)) => ∀ (M_80 : Md), RunO l Γ k_X12_areSame 1 encI (emM K0) 80 [(3, wi v3_24)] [] M_80 (J M_80)) ?_ (fun J80 hJ80 => ?_)
      · intro M_80
        refine r_iload_n (x := v3_24) dX12_areSame_80 rfl rfl ?_
        exact r_zret rfl dX12_areSame_81
      refine r_icmp_ge (tgt := 80) dX12_areSame_32 (by decide) ?_ ?_
      · refine r_lo [3] (lo2 := [(3, wi v3_24)]) rfl ?_
        exact hJ80 _
      · refine r_iload_n (x := v3_24) dX12_areSame_35 rfl rfl ?_
        refine r_if_eq (tgt := 80) dX12_areSame_36 (by decide) ?_ ?_
        · refine r_lo [3] (lo2 := [(3, wi v3_24)]) rfl ?_
          exact hJ80 _
        · refine r_aload_n (x := mo) dX12_areSame_39 rfl rfl ?_
          refine r_mgetA (kk := 50) h inU12 rfl (by decide) uf_129 rfl rfl dX12_areSame_40 ?_
          refine r_sipush (v := 150) dX12_areSame_43 rfl ?_
          refine r_iload_n (x := a1) dX12_areSame_46 rfl rfl ?_
          refine r_imul dX12_areSame_47 ?_
          refine r_iload (x := v4_24) dX12_areSame_48 rfl ?_
          refine r_iadd dX12_areSame_50 ?_
          refine r_miald h (by decide) dX12_areSame_51 ?_
          refine r_aload_n (x := mo) dX12_areSame_52 rfl rfl ?_
          refine r_mgetA (kk := 50) h inU12 rfl (by decide) uf_129 rfl rfl dX12_areSame_53 ?_
          refine r_sipush (v := 150) dX12_areSame_56 rfl ?_
          refine r_iload_n (x := a2) dX12_areSame_59 rfl rfl ?_
          refine r_imul dX12_areSame_60 ?_
          refine r_iload (x := v4_24) dX12_areSame_61 rfl ?_
          refine r_iadd dX12_areSame_63 ?_
          refine r_miald h (by decide) dX12_areSame_64 ?_
          refine r_join (P := fun (J : Int → Md → Option (Int × Md)) => ∀ (t0_73 : Int) (M_73 : Md), RunO l Γ k_X12_areSame 1 encI (emM K0) 73 [(0, .ref mo), (1, wi a1), (2, wi a2), (4, wi v4_24)] [wi t0_73] M_73 (J t0_73 M_73)) ?_ (fun J73 hJ73 => ?_)
          · intro t0_73 M_73
            refine r_istore_n (lo2 := [(3, wi t0_73), (0, .ref mo), (1, wi a1), (2, wi a2), (4, wi v4_24)]) dX12_areSame_73 rfl (by decide) rfl ?_
            refine r_iinc (x := v4_24) (lo2 := [(4, wi (v4_24 + 1)), (3, wi t0_73), (0, .ref mo), (1, wi a1), (2, wi a2)]) dX12_areSame_74 rfl (by decide) rfl ?_
            refine r_goto (tgt := 24) dX12_areSame_77 (by decide) ?_
            refine r_lo [2, 3, 4, 1, 0] (lo2 := [(0, .ref mo), (1, wi a1), (2, wi a2), (3, wi t0_73), (4, wi (v4_24 + 1))]) rfl ?_
            exact hL24 _ _ _
          refine r_icmp_ne (tgt := 72) dX12_areSame_65 (by decide) ?_ ?_
          · refine ro_iconst (v := 0) dX12_areSame_72 rfl ?_
            refine r_lo [0, 1, 2, 4] (lo2 := [(0, .ref mo), (1, wi a1), (2, wi a2), (4, wi v4_24)]) rfl ?_
            exact hJ73 _ _
          · refine ro_iconst (v := 1) dX12_areSame_68 rfl ?_
            refine r_goto (tgt := 73) dX12_areSame_69 (by decide) ?_
            refine r_lo [0, 1, 2, 4] (lo2 := [(0, .ref mo), (1, wi a1), (2, wi a2), (4, wi v4_24)]) rfl ?_
            exact hJ73 _ _
    refine r_lo [2, 3, 4, 1, 0] (lo2 := [(0, .ref mo), (1, wi a1), (2, wi a2), (3, wi t0_20), (4, wi 0)]) rfl ?_
    exact hJ24 _ _ _
  refine r_icmp_ne (tgt := 19) dX12_areSame_12 (by decide) ?_ ?_
  · refine ro_iconst (v := 0) dX12_areSame_19 rfl ?_
    exact hJ20 _ _
  · refine ro_iconst (v := 1) dX12_areSame_15 rfl ?_
    refine r_goto (tgt := 20) dX12_areSame_16 (by decide) ?_
    exact hJ20 _ _
def k_X12_sumOf : Kd := (yX12_sumOf, cX12_sumOf, 7, some .int, [])
theorem kv_X12_sumOf : KV k_X12_sumOf 1 := ⟨uw_mem 1973 (by decide +kernel) rfl, uw_mem 170 (by decide +kernel) rfl, uw_mem 1972 (by decide +kernel) rfl, uw_mem 112 (by decide +kernel) rfl, ⟨by decide +kernel, by decide +kernel⟩, by decide +kernel, by decide +kernel⟩
set_option maxHeartbeats 4000000 in
set_option maxRecDepth 100000 in
theorem c_X12_sumOf {l : Launch} {Γ : Cx} {K0 : Cd} {mo : Nat} {ma : Nat → Nat} (h : mOn Γ mo ma) (a1 : Int) (M : Md) : Ct l Γ k_X12_sumOf 2 encI (emM K0) [.ref mo, wi a1] M (fX12_sumOf a1 M) := by
  refine ct_of (by decide +kernel) rfl (Nat.le_of_ble_eq_true rfl) ?_
  refine r_lo [0, 1] (lo2 := [(0, .ref mo), (1, wi a1)]) rfl ?_
  unfold fX12_sumOf
  refine ro_iconst (v := 0) dX12_sumOf_0 rfl ?_
  refine r_istore_n (lo2 := [(2, wi 0), (0, .ref mo), (1, wi a1)]) dX12_sumOf_1 rfl (by decide) rfl ?_
  refine ro_iconst (v := 1) dX12_sumOf_2 rfl ?_
  refine r_istore_n (lo2 := [(3, wi 1), (2, wi 0), (0, .ref mo), (1, wi a1)]) dX12_sumOf_3 rfl (by decide) rfl ?_
  refine r_loop (P := fun (J : Int → Int → Md → Option (Int × Md)) => ∀ (v2_4 : Int) (v3_4 : Int) (M_4 : Md), RunO l Γ k_X12_sumOf 2 encI (emM K0) 4 [(0, .ref mo), (1, wi a1), (2, wi v2_4), (3, wi v3_4)] [] M_4 (J v2_4 v3_4 M_4)) ?_ (fun L4 hL4 => ?_) (fun J4 hJ4 => ?_)
  · intros; exact ro_none
  · intro v2_4 v3_4 M_4
    refine r_iload_n (x := v3_4) dX12_sumOf_4 rfl rfl ?_
    refine r_aload_n (x := mo) dX12_sumOf_5 rfl rfl ?_
    refine r_mgetA (kk := 55) h inU12 rfl (by decide) uf_141 rfl rfl dX12_sumOf_6 ?_
    refine r_iload_n (x := a1) dX12_sumOf_9 rfl rfl ?_
    refine r_miald h (by decide) dX12_sumOf_10 ?_
    refine r_join (P := fun (J : Md → Option (Int × Md)) => ∀ (M_93 : Md), RunO l Γ k_X12_sumOf 2 encI (emM K0) 93 [(2, wi v2_4)] [] M_93 (J M_93)) ?_ (fun J93 hJ93 => ?_)
    · intro M_93
      refine r_iload_n (x := v2_4) dX12_sumOf_93 rfl rfl ?_
      exact r_iret rfl dX12_sumOf_94
    refine r_icmp_gt (tgt := 93) dX12_sumOf_11 (by decide) ?_ ?_
    · refine r_lo [2] (lo2 := [(2, wi v2_4)]) rfl ?_
      exact hJ93 _
    · refine r_aload_n (x := mo) dX12_sumOf_14 rfl rfl ?_
      refine r_mget (kk := 71) h inU12 rfl (by decide) uf_316 rfl rfl dX12_sumOf_15 ?_
      refine r_if_ne (tgt := 93) dX12_sumOf_18 (by decide) ?_ ?_
      · refine r_lo [2] (lo2 := [(2, wi v2_4)]) rfl ?_
        exact hJ93 _
      · refine r_aload_n (x := mo) dX12_sumOf_21 rfl rfl ?_
        refine r_iload_n (x := a1) dX12_sumOf_22 rfl rfl ?_
        refine r_iload_n (x := v3_4) dX12_sumOf_23 rfl rfl ?_
        refine r_callVi (k2 := k_X12_partOf) (n := 2) (rest := []) rfl kv_X12_partOf (c_X12_partOf h _ _ _) (by decide) um_319 rfl (Nat.le_of_ble_eq_true rfl) dX12_sumOf_24 (m_rec h) rfl (fun r2 M1 => ?_)
        refine r_istore (lo2 := [(4, wi r2), (0, .ref mo), (1, wi a1), (2, wi v2_4), (3, wi v3_4)]) dX12_sumOf_27 (by decide) rfl ?_
        refine ro_iconst (v := 0) dX12_sumOf_29 rfl ?_
        refine r_istore (lo2 := [(5, wi 0), (4, wi r2), (0, .ref mo), (1, wi a1), (2, wi v2_4), (3, wi v3_4)]) dX12_sumOf_30 (by decide) rfl ?_
        refine r_loop (P := fun (J : Int → Int → Md → Option (Int × Md)) => ∀ (v2_32 : Int) (v5_32 : Int) (M_32 : Md), RunO l Γ k_X12_sumOf 2 encI (emM K0) 32 [(0, .ref mo), (1, wi a1), (2, wi v2_32), (3, wi v3_4), (4, wi r2), (5, wi v5_32)] [] M_32 (J v2_32 v5_32 M_32)) ?_ (fun L32 hL32 => ?_) (fun J32 hJ32 => ?_)
        · intros; exact ro_none
        · intro v2_32 v5_32 M_32
          refine r_iload (x := v5_32) dX12_sumOf_32 rfl ?_
          refine r_aload_n (x := mo) dX12_sumOf_34 rfl rfl ?_
          refine r_mgetA (kk := 49) h inU12 rfl (by decide) uf_125 rfl rfl dX12_sumOf_35 ?_
          refine r_iload (x := r2) dX12_sumOf_38 rfl ?_
          refine r_miald h (by decide) dX12_sumOf_40 ?_
          refine r_icmp_ge (tgt := 87) dX12_sumOf_41 (by decide) ?_ ?_
          · refine r_iinc (x := v3_4) (lo2 := [(3, wi (v3_4 + 1)), (0, .ref mo), (1, wi a1), (2, wi v2_32), (4, wi r2), (5, wi v5_32)]) dX12_sumOf_87 rfl (by decide) rfl ?_
            refine r_goto (tgt := 4) dX12_sumOf_90 (by decide) ?_
            refine r_lo [1, 2, 3, 0] (lo2 := [(0, .ref mo), (1, wi a1), (2, wi v2_32), (3, wi (v3_4 + 1))]) rfl ?_
            exact hL4 _ _ _
          · refine r_aload_n (x := mo) dX12_sumOf_44 rfl rfl ?_
            refine r_mgetA (kk := 50) h inU12 rfl (by decide) uf_129 rfl rfl dX12_sumOf_45 ?_
            refine r_sipush (v := 150) dX12_sumOf_48 rfl ?_
            refine r_iload (x := r2) dX12_sumOf_51 rfl ?_
            refine r_imul dX12_sumOf_53 ?_
            refine r_iload (x := v5_32) dX12_sumOf_54 rfl ?_
            refine r_iadd dX12_sumOf_56 ?_
            refine r_miald h (by decide) dX12_sumOf_57 ?_
            refine r_nm (fun x6_58 => ?_)
            refine r_istore (lo2 := [(6, wi x6_58), (0, .ref mo), (1, wi a1), (2, wi v2_32), (3, wi v3_4), (4, wi r2), (5, wi v5_32)]) dX12_sumOf_58 (by decide) rfl ?_
            refine r_iload (x := x6_58) dX12_sumOf_60 rfl ?_
            refine r_sipush (v := 1000) dX12_sumOf_62 rfl ?_
            refine r_join (P := fun (J : Int → Md → Option (Int × Md)) => ∀ (t0_80 : Int) (M_80 : Md), RunO l Γ k_X12_sumOf 2 encI (emM K0) 80 [(0, .ref mo), (1, wi a1), (3, wi v3_4), (4, wi r2), (5, wi v5_32)] [wi t0_80] M_80 (J t0_80 M_80)) ?_ (fun J80 hJ80 => ?_)
            · intro t0_80 M_80
              refine r_istore_n (lo2 := [(2, wi t0_80), (0, .ref mo), (1, wi a1), (3, wi v3_4), (4, wi r2), (5, wi v5_32)]) dX12_sumOf_80 rfl (by decide) rfl ?_
              refine r_iinc (x := v5_32) (lo2 := [(5, wi (v5_32 + 1)), (2, wi t0_80), (0, .ref mo), (1, wi a1), (3, wi v3_4), (4, wi r2)]) dX12_sumOf_81 rfl (by decide) rfl ?_
              refine r_goto (tgt := 32) dX12_sumOf_84 (by decide) ?_
              refine r_lo [2, 3, 1, 4, 5, 0] (lo2 := [(0, .ref mo), (1, wi a1), (2, wi t0_80), (3, wi v3_4), (4, wi r2), (5, wi (v5_32 + 1))]) rfl ?_
              exact hL32 _ _ _
            refine r_icmp_ge (tgt := 79) dX12_sumOf_65 (by decide) ?_ ?_
            · refine r_iload_n (x := v2_32) dX12_sumOf_79 rfl rfl ?_
              refine r_lo [1, 2, 4, 5, 6] (lo2 := [(0, .ref mo), (1, wi a1), (3, wi v3_4), (4, wi r2), (5, wi v5_32)]) rfl ?_
              exact hJ80 _ _
            · refine r_iload_n (x := v2_32) dX12_sumOf_68 rfl rfl ?_
              refine r_iload (x := x6_58) dX12_sumOf_69 rfl ?_
              refine r_iadd dX12_sumOf_71 ?_
              refine r_sipush (v := 1000) dX12_sumOf_72 rfl ?_
              refine r_irem dX12_sumOf_75 (by decide) ?_
              refine r_goto (tgt := 80) dX12_sumOf_76 (by decide) ?_
              refine r_lo [1, 2, 4, 5, 6] (lo2 := [(0, .ref mo), (1, wi a1), (3, wi v3_4), (4, wi r2), (5, wi v5_32)]) rfl ?_
              exact hJ80 _ _
        refine r_lo [2, 3, 4, 5, 1, 0] (lo2 := [(0, .ref mo), (1, wi a1), (2, wi v2_4), (3, wi v3_4), (4, wi r2), (5, wi 0)]) rfl ?_
        exact hJ32 _ _ _
  refine r_lo [2, 3, 1, 0] (lo2 := [(0, .ref mo), (1, wi a1), (2, wi 0), (3, wi 1)]) rfl ?_
  exact hJ4 _ _ _
def k_X12_numberOf : Kd := (yX12_numberOf, cX12_numberOf, 2, some .int, [])
theorem kv_X12_numberOf : KV k_X12_numberOf 1 := ⟨uw_mem 1977 (by decide +kernel) rfl, uw_mem 170 (by decide +kernel) rfl, uw_mem 1976 (by decide +kernel) rfl, uw_mem 113 (by decide +kernel) rfl, ⟨by decide +kernel, by decide +kernel⟩, by decide +kernel, by decide +kernel⟩
set_option maxHeartbeats 4000000 in
set_option maxRecDepth 100000 in
theorem c_X12_numberOf {l : Launch} {Γ : Cx} {K0 : Cd} {mo : Nat} {ma : Nat → Nat} (h : mOn Γ mo ma) (a1 : Int) (M : Md) : Ct l Γ k_X12_numberOf 1 encI (emM K0) [.ref mo, wi a1] M (fX12_numberOf a1 M) := by
  refine ct_of (by decide +kernel) rfl (Nat.le_of_ble_eq_true rfl) ?_
  refine r_lo [0, 1] (lo2 := [(0, .ref mo), (1, wi a1)]) rfl ?_
  unfold fX12_numberOf
  refine r_aload_n (x := mo) dX12_numberOf_0 rfl rfl ?_
  refine r_mgetA (kk := 49) h inU12 rfl (by decide) uf_125 rfl rfl dX12_numberOf_1 ?_
  refine r_iload_n (x := a1) dX12_numberOf_4 rfl rfl ?_
  refine r_miald h (by decide) dX12_numberOf_5 ?_
  refine r_join (P := fun (J : Int → Md → Option (Int × Md)) => ∀ (t0_39 : Int) (M_39 : Md), RunO l Γ k_X12_numberOf 1 encI (emM K0) 39 [] [wi t0_39] M_39 (J t0_39 M_39)) ?_ (fun J39 hJ39 => ?_)
  · intro t0_39 M_39
    exact r_iret rfl dX12_numberOf_39
  refine r_join (P := fun (J : Md → Option (Int × Md)) => ∀ (M_38 : Md), RunO l Γ k_X12_numberOf 1 encI (emM K0) 38 [] [] M_38 (J M_38)) ?_ (fun J38 hJ38 => ?_)
  · intro M_38
    refine ro_iconst (v := (-1)) dX12_numberOf_38 rfl ?_
    exact hJ39 _ _
  refine r_if_le (tgt := 38) dX12_numberOf_6 (by decide) ?_ ?_
  · refine r_lo [] (lo2 := []) rfl ?_
    exact hJ38 _
  · refine r_aload_n (x := mo) dX12_numberOf_9 rfl rfl ?_
    refine r_mgetA (kk := 50) h inU12 rfl (by decide) uf_129 rfl rfl dX12_numberOf_10 ?_
    refine r_sipush (v := 150) dX12_numberOf_13 rfl ?_
    refine r_iload_n (x := a1) dX12_numberOf_16 rfl rfl ?_
    refine r_imul dX12_numberOf_17 ?_
    refine r_miald h (by decide) dX12_numberOf_18 ?_
    refine r_sipush (v := 1000) dX12_numberOf_19 rfl ?_
    refine r_icmp_ge (tgt := 38) dX12_numberOf_22 (by decide) ?_ ?_
    · refine r_lo [] (lo2 := []) rfl ?_
      exact hJ38 _
    · refine r_aload_n (x := mo) dX12_numberOf_25 rfl rfl ?_
      refine r_mgetA (kk := 50) h inU12 rfl (by decide) uf_129 rfl rfl dX12_numberOf_26 ?_
      refine r_sipush (v := 150) dX12_numberOf_29 rfl ?_
      refine r_iload_n (x := a1) dX12_numberOf_32 rfl rfl ?_
      refine r_imul dX12_numberOf_33 ?_
      refine r_miald h (by decide) dX12_numberOf_34 ?_
      refine r_goto (tgt := 39) dX12_numberOf_35 (by decide) ?_
      refine r_lo [] (lo2 := []) rfl ?_
      exact hJ39 _ _
def k_X12_approvedUpTo : Kd := (yX12_approvedUpTo, cX12_approvedUpTo, 5, some .int, [])
theorem kv_X12_approvedUpTo : KV k_X12_approvedUpTo 2 := ⟨uw_mem 1992 (by decide +kernel) rfl, uw_mem 170 (by decide +kernel) rfl, uw_mem 1991 (by decide +kernel) rfl, uw_mem 116 (by decide +kernel) rfl, ⟨by decide +kernel, by decide +kernel⟩, by decide +kernel, by decide +kernel⟩
set_option maxHeartbeats 4000000 in
set_option maxRecDepth 100000 in
theorem c_X12_approvedUpTo {l : Launch} {Γ : Cx} {K0 : Cd} {mo : Nat} {ma : Nat → Nat} (h : mOn Γ mo ma) (a1 : Int) (a2 : Int) (M : Md) : Ct l Γ k_X12_approvedUpTo 1 encI (emM K0) [.ref mo, wi a1, wi a2] M (fX12_approvedUpTo a1 a2 M) := by
  refine ct_of (by decide +kernel) rfl (Nat.le_of_ble_eq_true rfl) ?_
  refine r_lo [0, 1, 2] (lo2 := [(0, .ref mo), (1, wi a1), (2, wi a2)]) rfl ?_
  unfold fX12_approvedUpTo
  refine ro_iconst (v := (-1)) dX12_approvedUpTo_0 rfl ?_
  refine r_istore_n (lo2 := [(3, wi (-1)), (0, .ref mo), (1, wi a1), (2, wi a2)]) dX12_approvedUpTo_1 rfl (by decide) rfl ?_
  refine ro_iconst (v := 0) dX12_approvedUpTo_2 rfl ?_
  refine r_istore (lo2 := [(4, wi 0), (3, wi (-1)), (0, .ref mo), (1, wi a1), (2, wi a2)]) dX12_approvedUpTo_3 (by decide) rfl ?_
  refine r_loop (P := fun (J : Int → Int → Md → Option (Int × Md)) => ∀ (v3_5 : Int) (v4_5 : Int) (M_5 : Md), RunO l Γ k_X12_approvedUpTo 1 encI (emM K0) 5 [(0, .ref mo), (1, wi a1), (2, wi a2), (3, wi v3_5), (4, wi v4_5)] [] M_5 (J v3_5 v4_5 M_5)) ?_ (fun L5 hL5 => ?_) (fun J5 hJ5 => ?_)
  · intros; exact ro_none
  · intro v3_5 v4_5 M_5
    refine r_iload (x := v4_5) dX12_approvedUpTo_5 rfl ?_
    refine r_aload_n (x := mo) dX12_approvedUpTo_7 rfl rfl ?_
    refine r_mget (kk := 13) h inU12 rfl (by decide) uf_229 rfl rfl dX12_approvedUpTo_8 ?_
    refine r_icmp_ge (tgt := 54) dX12_approvedUpTo_11 (by decide) ?_ ?_
    · refine r_iload_n (x := v3_5) dX12_approvedUpTo_54 rfl rfl ?_
      exact r_iret rfl dX12_approvedUpTo_55
    · refine r_aload_n (x := mo) dX12_approvedUpTo_14 rfl rfl ?_
      refine r_mgetA (kk := 14) h inU12 rfl (by decide) uf_34 rfl rfl dX12_approvedUpTo_15 ?_
      refine r_iload (x := v4_5) dX12_approvedUpTo_18 rfl ?_
      refine r_miald h (by decide) dX12_approvedUpTo_20 ?_
      refine r_iload_n (x := a1) dX12_approvedUpTo_21 rfl rfl ?_
      refine r_join (P := fun (J : Int → Md → Option (Int × Md)) => ∀ (t0_47 : Int) (M_47 : Md), RunO l Γ k_X12_approvedUpTo 1 encI (emM K0) 47 [(0, .ref mo), (1, wi a1), (2, wi a2), (4, wi v4_5)] [wi t0_47] M_47 (J t0_47 M_47)) ?_ (fun J47 hJ47 => ?_)
      · intro t0_47 M_47
        refine r_istore_n (lo2 := [(3, wi t0_47), (0, .ref mo), (1, wi a1), (2, wi a2), (4, wi v4_5)]) dX12_approvedUpTo_47 rfl (by decide) rfl ?_
        refine r_iinc (x := v4_5) (lo2 := [(4, wi (v4_5 + 1)), (3, wi t0_47), (0, .ref mo), (1, wi a1), (2, wi a2)]) dX12_approvedUpTo_48 rfl (by decide) rfl ?_
        refine r_goto (tgt := 5) dX12_approvedUpTo_51 (by decide) ?_
        refine r_lo [2, 3, 4, 1, 0] (lo2 := [(0, .ref mo), (1, wi a1), (2, wi a2), (3, wi t0_47), (4, wi (v4_5 + 1))]) rfl ?_
        exact hL5 _ _ _
      refine r_join (P := fun (J : Md → Option (Int × Md)) => ∀ (M_46 : Md), RunO l Γ k_X12_approvedUpTo 1 encI (emM K0) 46 [(0, .ref mo), (1, wi a1), (2, wi a2), (3, wi v3_5), (4, wi v4_5)] [] M_46 (J M_46)) ?_ (fun J46 hJ46 => ?_)
      · intro M_46
        refine r_iload_n (x := v3_5) dX12_approvedUpTo_46 rfl rfl ?_
        refine r_lo [0, 1, 2, 4] (lo2 := [(0, .ref mo), (1, wi a1), (2, wi a2), (4, wi v4_5)]) rfl ?_
        exact hJ47 _ _
      refine r_icmp_ne (tgt := 46) dX12_approvedUpTo_22 (by decide) ?_ ?_
      · exact hJ46 _
      · refine r_aload_n (x := mo) dX12_approvedUpTo_25 rfl rfl ?_
        refine r_mgetA (kk := 15) h inU12 rfl (by decide) uf_37 rfl rfl dX12_approvedUpTo_26 ?_
        refine r_iload (x := v4_5) dX12_approvedUpTo_29 rfl ?_
        refine r_miald h (by decide) dX12_approvedUpTo_31 ?_
        refine r_iload_n (x := a2) dX12_approvedUpTo_32 rfl rfl ?_
        refine r_icmp_gt (tgt := 46) dX12_approvedUpTo_33 (by decide) ?_ ?_
        · exact hJ46 _
        · refine r_aload_n (x := mo) dX12_approvedUpTo_36 rfl rfl ?_
          refine r_mgetA (kk := 16) h inU12 rfl (by decide) uf_40 rfl rfl dX12_approvedUpTo_37 ?_
          refine r_iload (x := v4_5) dX12_approvedUpTo_40 rfl ?_
          refine r_miald h (by decide) dX12_approvedUpTo_42 ?_
          refine r_goto (tgt := 47) dX12_approvedUpTo_43 (by decide) ?_
          refine r_lo [0, 1, 2, 4] (lo2 := [(0, .ref mo), (1, wi a1), (2, wi a2), (4, wi v4_5)]) rfl ?_
          exact hJ47 _ _
  refine r_lo [2, 3, 4, 1, 0] (lo2 := [(0, .ref mo), (1, wi a1), (2, wi a2), (3, wi (-1)), (4, wi 0)]) rfl ?_
  exact hJ5 _ _ _
def k_X12_seenAt : Kd := (yX12_seenAt, cX12_seenAt, 2, some .int, [])
theorem kv_X12_seenAt : KV k_X12_seenAt 1 := ⟨uw_mem 1988 (by decide +kernel) rfl, uw_mem 170 (by decide +kernel) rfl, uw_mem 1987 (by decide +kernel) rfl, uw_mem 115 (by decide +kernel) rfl, ⟨by decide +kernel, by decide +kernel⟩, by decide +kernel, by decide +kernel⟩
set_option maxHeartbeats 4000000 in
set_option maxRecDepth 100000 in
theorem c_X12_seenAt {l : Launch} {Γ : Cx} {K0 : Cd} {mo : Nat} {ma : Nat → Nat} (h : mOn Γ mo ma) (a1 : Int) (M : Md) : Ct l Γ k_X12_seenAt 4 encI (emM K0) [.ref mo, wi a1] M (fX12_seenAt a1 M) := by
  refine ct_of (by decide +kernel) rfl (Nat.le_of_ble_eq_true rfl) ?_
  refine r_lo [0, 1] (lo2 := [(0, .ref mo), (1, wi a1)]) rfl ?_
  unfold fX12_seenAt
  refine r_aload_n (x := mo) dX12_seenAt_0 rfl rfl ?_
  refine r_mget (kk := 39) h inU12 rfl (by decide) uf_232 rfl rfl dX12_seenAt_1 ?_
  refine ro_iconst (v := (-1)) dX12_seenAt_4 rfl ?_
  refine r_join (P := fun (J : Int → Md → Option (Int × Md)) => ∀ (t0_40 : Int) (M_40 : Md), RunO l Γ k_X12_seenAt 4 encI (emM K0) 40 [] [wi t0_40] M_40 (J t0_40 M_40)) ?_ (fun J40 hJ40 => ?_)
  · intro t0_40 M_40
    exact r_iret rfl dX12_seenAt_40
  refine r_join (P := fun (J : Md → Option (Int × Md)) => ∀ (M_18 : Md), RunO l Γ k_X12_seenAt 4 encI (emM K0) 18 [(0, .ref mo), (1, wi a1)] [] M_18 (J M_18)) ?_ (fun J18 hJ18 => ?_)
  · intro M_18
    refine r_aload_n (x := mo) dX12_seenAt_18 rfl rfl ?_
    refine r_iload_n (x := a1) dX12_seenAt_19 rfl rfl ?_
    refine r_callVi (k2 := k_X12_presentAt) (n := 1) (rest := []) rfl kv_X12_presentAt (c_X12_presentAt h _ _) (by decide) um_209 rfl (Nat.le_of_ble_eq_true rfl) dX12_seenAt_20 (m_rec h) rfl (fun r2 M1 => ?_)
    refine r_goto (tgt := 40) dX12_seenAt_23 (by decide) ?_
    refine r_lo [] (lo2 := []) rfl ?_
    exact hJ40 _ _
  refine r_icmp_eq (tgt := 18) dX12_seenAt_5 (by decide) ?_ ?_
  · exact hJ18 _
  · refine r_aload_n (x := mo) dX12_seenAt_8 rfl rfl ?_
    refine r_mgetA (kk := 6) h inU12 rfl (by decide) uf_19 rfl rfl dX12_seenAt_9 ?_
    refine r_iload_n (x := a1) dX12_seenAt_12 rfl rfl ?_
    refine r_miald h (by decide) dX12_seenAt_13 ?_
    refine ro_iconst (v := (-1)) dX12_seenAt_14 rfl ?_
    refine r_icmp_ne (tgt := 26) dX12_seenAt_15 (by decide) ?_ ?_
    · refine r_aload_n (x := mo) dX12_seenAt_26 rfl rfl ?_
      refine r_aload_n (x := mo) dX12_seenAt_27 rfl rfl ?_
      refine r_mgetA (kk := 6) h inU12 rfl (by decide) uf_19 rfl rfl dX12_seenAt_28 ?_
      refine r_iload_n (x := a1) dX12_seenAt_31 rfl rfl ?_
      refine r_miald h (by decide) dX12_seenAt_32 ?_
      refine r_aload_n (x := mo) dX12_seenAt_33 rfl rfl ?_
      refine r_mget (kk := 39) h inU12 rfl (by decide) uf_232 rfl rfl dX12_seenAt_34 ?_
      refine r_callVi (k2 := k_X12_approvedUpTo) (n := 2) (rest := []) rfl kv_X12_approvedUpTo (c_X12_approvedUpTo h _ _ _) (by decide) um_235 rfl (Nat.le_of_ble_eq_true rfl) dX12_seenAt_37 (m_rec h) rfl (fun r4 M3 => ?_)
      refine r_lo [] (lo2 := []) rfl ?_
      exact hJ40 _ _
    · exact hJ18 _
