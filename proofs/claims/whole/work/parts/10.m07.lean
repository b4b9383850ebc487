def k_X12_work : Kd := (yX12_work, cX12_work, 4, some .int, [])
theorem kv_X12_work : KV k_X12_work 1 := ⟨uw_mem 1902 (by decide +kernel) rfl, uw_mem 170 (by decide +kernel) rfl, uw_mem 1900 (by decide +kernel) rfl, uw_mem 1901 (by decide +kernel) rfl, ⟨by decide +kernel, by decide +kernel⟩, by decide +kernel, by decide +kernel⟩
set_option maxHeartbeats 4000000 in
set_option maxRecDepth 100000 in
theorem c_X12_work {l : Launch} {Γ : Cx} {K0 : Cd} {mo : Nat} {ma : Nat → Nat} (h : mOn Γ mo ma) (a1 : Int) (M : Md) : Ct l Γ k_X12_work 10 encI (emM K0) [.ref mo, wi a1] M (fX12_work a1 M) := by
  refine ct_of (by decide +kernel) rfl (Nat.le_of_ble_eq_true rfl) ?_
  refine r_lo [0, 1] (lo2 := [(0, .ref mo), (1, wi a1)]) rfl ?_
  unfold fX12_work
  refine r_aload_n (x := mo) dX12_work_0 rfl rfl ?_
  refine r_iload_n (x := a1) dX12_work_1 rfl rfl ?_
  refine ro_iconst (v := 1) dX12_work_2 rfl ?_
  refine ro_iconst (v := 4) dX12_work_3 rfl ?_
  refine r_callSi (k2 := k_X12_in) (n := 3) (rest := [.ref mo]) rfl kv_X12_in (c_X12_in h _ _ _ _) (by decide) um_184 rfl (Nat.le_of_ble_eq_true rfl) dX12_work_4 rfl (fun r2 M1 => ?_)
  refine r_join (P := fun (J : Int → Md → Option (Int × Md)) => ∀ (t0_15 : Int) (M_15 : Md), RunO l Γ k_X12_work 10 encI (emM K0) 15 [(0, .ref mo), (1, wi a1)] [wi t0_15, .ref mo] M_15 (J t0_15 M_15)) ?_ (fun J15 hJ15 => ?_)
  · intro t0_15 M_15
    refine r_mput (kk := 36) h inU12 rfl (by decide) uf_180 rfl rfl rfl rfl dX12_work_15 (fun M3 => ?_)
    refine ro_iconst (v := 0) dX12_work_18 rfl ?_
    refine r_istore_n (lo2 := [(2, wi 0), (0, .ref mo), (1, wi a1)]) dX12_work_19 rfl (by decide) rfl ?_
    refine r_aload_n (x := mo) dX12_work_20 rfl rfl ?_
    refine r_callVi (k2 := k_X12_nextStale) (n := 0) (rest := []) rfl kv_X12_nextStale (c_X12_nextStale h _) (by decide) um_375 rfl (Nat.le_of_ble_eq_true rfl) dX12_work_21 (m_rec h) rfl (fun r5 M4 => ?_)
    refine r_istore_n (lo2 := [(3, wi r5), (2, wi 0), (0, .ref mo), (1, wi a1)]) dX12_work_24 rfl (by decide) rfl ?_
    refine r_loop (P := fun (J : Int → Int → Md → Option (Int × Md)) => ∀ (v2_25 : Int) (v3_25 : Int) (M_25 : Md), RunO l Γ k_X12_work 10 encI (emM K0) 25 [(0, .ref mo), (1, wi a1), (2, wi v2_25), (3, wi v3_25)] [] M_25 (J v2_25 v3_25 M_25)) ?_ (fun L25 hL25 => ?_) (fun J25 hJ25 => ?_)
    · intros; exact ro_none
    · intro v2_25 v3_25 M_25
      refine r_iload_n (x := v3_25) dX12_work_25 rfl rfl ?_
      refine ro_iconst (v := (-1)) dX12_work_26 rfl ?_
      refine r_join (P := fun (J : Md → Option (Int × Md)) => ∀ (M_58 : Md), RunO l Γ k_X12_work 10 encI (emM K0) 58 [(2, wi v2_25)] [] M_58 (J M_58)) ?_ (fun J58 hJ58 => ?_)
      · intro M_58
        refine r_iload_n (x := v2_25) dX12_work_58 rfl rfl ?_
        exact r_iret rfl dX12_work_59
      refine r_icmp_eq (tgt := 58) dX12_work_27 (by decide) ?_ ?_
      · refine r_lo [2] (lo2 := [(2, wi v2_25)]) rfl ?_
        exact hJ58 _
      · refine r_iload_n (x := v2_25) dX12_work_30 rfl rfl ?_
        refine r_iload_n (x := a1) dX12_work_31 rfl rfl ?_
        refine r_icmp_ge (tgt := 58) dX12_work_32 (by decide) ?_ ?_
        · refine r_lo [2] (lo2 := [(2, wi v2_25)]) rfl ?_
          exact hJ58 _
        · refine r_aload_n (x := mo) dX12_work_35 rfl rfl ?_
          refine r_mget (kk := 36) h inU12 rfl (by decide) uf_180 rfl rfl dX12_work_36 ?_
          refine r_if_ne (tgt := 58) dX12_work_39 (by decide) ?_ ?_
          · refine r_lo [2] (lo2 := [(2, wi v2_25)]) rfl ?_
            exact hJ58 _
          · refine r_aload_n (x := mo) dX12_work_42 rfl rfl ?_
            refine r_iload_n (x := v3_25) dX12_work_43 rfl rfl ?_
            refine r_callVv (k2 := k_X12_render) (n := 1) (rest := []) rfl kv_X12_render (c_X12_render h _ _) (by decide) um_378 rfl (Nat.le_of_ble_eq_true rfl) dX12_work_44 (m_rec h) rfl (fun r7 M6 => ?_)
            refine r_iinc (x := v2_25) (lo2 := [(2, wi (v2_25 + 1)), (0, .ref mo), (1, wi a1), (3, wi v3_25)]) dX12_work_47 rfl (by decide) rfl ?_
            refine r_aload_n (x := mo) dX12_work_50 rfl rfl ?_
            refine r_callVi (k2 := k_X12_nextStale) (n := 0) (rest := []) rfl kv_X12_nextStale (c_X12_nextStale h _) (by decide) um_375 rfl (Nat.le_of_ble_eq_true rfl) dX12_work_51 (m_rec h) rfl (fun r9 M8 => ?_)
            refine r_istore_n (lo2 := [(3, wi r9), (2, wi (v2_25 + 1)), (0, .ref mo), (1, wi a1)]) dX12_work_54 rfl (by decide) rfl ?_
            refine r_goto (tgt := 25) dX12_work_55 (by decide) ?_
            refine r_lo [2, 3, 1, 0] (lo2 := [(0, .ref mo), (1, wi a1), (2, wi (v2_25 + 1)), (3, wi r9)]) rfl ?_
            exact hL25 _ _ _
    refine r_lo [2, 3, 1, 0] (lo2 := [(0, .ref mo), (1, wi a1), (2, wi 0), (3, wi r5)]) rfl ?_
    exact hJ25 _ _ _
  refine r_if_eq (tgt := 14) dX12_work_7 (by decide) ?_ ?_
  · refine ro_iconst (v := 1) dX12_work_14 rfl ?_
    exact hJ15 _ _
  · refine ro_iconst (v := 0) dX12_work_10 rfl ?_
    refine r_goto (tgt := 15) dX12_work_11 (by decide) ?_
    exact hJ15 _ _
