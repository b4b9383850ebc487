def k_X12_isStale : Kd := (yX12_isStale, cX12_isStale, 2, some .boolean, [])
theorem kv_X12_isStale : KV k_X12_isStale 1 := ⟨uw_mem 2261 (by decide +kernel) rfl, uw_mem 170 (by decide +kernel) rfl, uw_mem 2259 (by decide +kernel) rfl, uw_mem 2260 (by decide +kernel) rfl, ⟨by decide +kernel, by decide +kernel⟩, by decide +kernel, by decide +kernel⟩
set_option maxHeartbeats 4000000 in
set_option maxRecDepth 100000 in
theorem c_X12_isStale {l : Launch} {Γ : Cx} {K0 : Cd} {mo : Nat} {ma : Nat → Nat} (h : mOn Γ mo ma) (a1 : Int) (M : Md) : Ct l Γ k_X12_isStale 4 encI (emM K0) [.ref mo, wi a1] M (fX12_isStale a1 M) := by
  refine ct_of (by decide +kernel) rfl (Nat.le_of_ble_eq_true rfl) ?_
  refine r_lo [0, 1] (lo2 := [(0, .ref mo), (1, wi a1)]) rfl ?_
  unfold fX12_isStale
  refine r_aload_n (x := mo) dX12_isStale_0 rfl rfl ?_
  refine r_aload_n (x := mo) dX12_isStale_1 rfl rfl ?_
  refine r_iload_n (x := a1) dX12_isStale_2 rfl rfl ?_
  refine r_callVi (k2 := k_X12_hasPage) (n := 1) (rest := [.ref mo]) rfl kv_X12_hasPage (c_X12_hasPage h _ _) (by decide) um_381 rfl (Nat.le_of_ble_eq_true rfl) dX12_isStale_3 (m_rec h) rfl (fun r2 M1 => ?_)
  refine r_join (P := fun (J : Int → Md → Option (Int × Md)) => ∀ (t0_14 : Int) (M_14 : Md), RunO l Γ k_X12_isStale 4 encI (emM K0) 14 [(0, .ref mo), (1, wi a1)] [wi t0_14, .ref mo] M_14 (J t0_14 M_14)) ?_ (fun J14 hJ14 => ?_)
  · intro t0_14 M_14
    refine r_mput (kk := 36) h inU12 rfl (by decide) uf_180 rfl rfl rfl rfl dX12_isStale_14 (fun M3 => ?_)
    refine r_aload_n (x := mo) dX12_isStale_17 rfl rfl ?_
    refine r_mget (kk := 36) h inU12 rfl (by decide) uf_180 rfl rfl dX12_isStale_18 ?_
    refine r_join (P := fun (J : Int → Md → Option (Int × Md)) => ∀ (t0_37 : Int) (M_37 : Md), RunO l Γ k_X12_isStale 4 encI (emM K0) 37 [] [wi t0_37] M_37 (J t0_37 M_37)) ?_ (fun J37 hJ37 => ?_)
    · intro t0_37 M_37
      exact r_zret rfl dX12_isStale_37
    refine r_join (P := fun (J : Md → Option (Int × Md)) => ∀ (M_36 : Md), RunO l Γ k_X12_isStale 4 encI (emM K0) 36 [] [] M_36 (J M_36)) ?_ (fun J36 hJ36 => ?_)
    · intro M_36
      refine ro_iconst (v := 0) dX12_isStale_36 rfl ?_
      exact hJ37 _ _
    refine r_if_ne (tgt := 36) dX12_isStale_21 (by decide) ?_ ?_
    · refine r_lo [] (lo2 := []) rfl ?_
      exact hJ36 _
    · refine r_aload_n (x := mo) dX12_isStale_24 rfl rfl ?_
      refine r_iload_n (x := a1) dX12_isStale_25 rfl rfl ?_
      refine r_callVi (k2 := k_X12_isOld) (n := 1) (rest := []) rfl kv_X12_isOld (c_X12_isOld h _ _) (by decide) um_372 rfl (Nat.le_of_ble_eq_true rfl) dX12_isStale_26 (m_rec h) rfl (fun r5 M4 => ?_)
      refine r_if_eq (tgt := 36) dX12_isStale_29 (by decide) ?_ ?_
      · refine r_lo [] (lo2 := []) rfl ?_
        exact hJ36 _
      · refine ro_iconst (v := 1) dX12_isStale_32 rfl ?_
        refine r_goto (tgt := 37) dX12_isStale_33 (by decide) ?_
        refine r_lo [] (lo2 := []) rfl ?_
        exact hJ37 _ _
  refine r_if_eq (tgt := 13) dX12_isStale_6 (by decide) ?_ ?_
  · refine ro_iconst (v := 1) dX12_isStale_13 rfl ?_
    exact hJ14 _ _
  · refine ro_iconst (v := 0) dX12_isStale_9 rfl ?_
    refine r_goto (tgt := 14) dX12_isStale_10 (by decide) ?_
    exact hJ14 _ _
def k_X12_isValue : Kd := (yX12_isValue, cX12_isValue, 3, some .boolean, [])
theorem kv_X12_isValue : KS k_X12_isValue 2 := ⟨uw_mem 2077 (by decide +kernel) rfl, uw_mem 170 (by decide +kernel) rfl, uw_mem 2076 (by decide +kernel) rfl, ⟨by decide +kernel, by decide +kernel⟩, by decide +kernel, by decide +kernel⟩
set_option maxHeartbeats 4000000 in
set_option maxRecDepth 100000 in
theorem c_X12_isValue {l : Launch} {Γ : Cx} {K0 : Cd} {mo : Nat} {ma : Nat → Nat} (h : mOn Γ mo ma) (a0 : Int) (a1 : Int) (M : Md) : Ct l Γ k_X12_isValue 2 encI (emM K0) [wi a0, wi a1] M (fX12_isValue a0 a1 M) := by
  refine ct_of (by decide +kernel) rfl (Nat.le_of_ble_eq_true rfl) ?_
  refine r_lo [0, 1] (lo2 := [(0, wi a0), (1, wi a1)]) rfl ?_
  unfold fX12_isValue
  refine r_iload_n (x := a0) dX12_isValue_0 rfl rfl ?_
  refine r_join (P := fun (J : Int → Md → Option (Int × Md)) => ∀ (t0_69 : Int) (M_69 : Md), RunO l Γ k_X12_isValue 2 encI (emM K0) 69 [(1, wi a1)] [wi t0_69] M_69 (J t0_69 M_69)) ?_ (fun J69 hJ69 => ?_)
  · intro t0_69 M_69
    refine r_istore_n (lo2 := [(2, wi t0_69), (1, wi a1)]) dX12_isValue_69 rfl (by decide) rfl ?_
    refine r_iload_n (x := a1) dX12_isValue_70 rfl rfl ?_
    refine ro_iconst (v := 0) dX12_isValue_71 rfl ?_
    refine r_iload_n (x := t0_69) dX12_isValue_72 rfl rfl ?_
    refine r_callSi (k2 := k_X12_in) (n := 3) (rest := []) rfl kv_X12_in (c_X12_in h _ _ _ _) (by decide) um_184 rfl (Nat.le_of_ble_eq_true rfl) dX12_isValue_73 rfl (fun r2 M1 => ?_)
    exact r_zret rfl dX12_isValue_76
  refine r_if_ne (tgt := 10) dX12_isValue_1 (by decide) ?_ ?_
  · refine r_iload_n (x := a0) dX12_isValue_10 rfl rfl ?_
    refine ro_iconst (v := 1) dX12_isValue_11 rfl ?_
    refine r_join (P := fun (J : Md → Option (Int × Md)) => ∀ (M_26 : Md), RunO l Γ k_X12_isValue 2 encI (emM K0) 26 [(1, wi a1)] [] M_26 (J M_26)) ?_ (fun J26 hJ26 => ?_)
    · intro M_26
      refine r_bipush (v := 23) dX12_isValue_26 rfl ?_
      refine r_goto (tgt := 69) dX12_isValue_28 (by decide) ?_
      exact hJ69 _ _
    refine r_icmp_eq (tgt := 26) dX12_isValue_12 (by decide) ?_ ?_
    · refine r_lo [1] (lo2 := [(1, wi a1)]) rfl ?_
      exact hJ26 _
    · refine r_iload_n (x := a0) dX12_isValue_15 rfl rfl ?_
      refine ro_iconst (v := 2) dX12_isValue_16 rfl ?_
      refine r_icmp_eq (tgt := 26) dX12_isValue_17 (by decide) ?_ ?_
      · refine r_lo [1] (lo2 := [(1, wi a1)]) rfl ?_
        exact hJ26 _
      · refine r_iload_n (x := a0) dX12_isValue_20 rfl rfl ?_
        refine r_bipush (v := 12) dX12_isValue_21 rfl ?_
        refine r_icmp_ne (tgt := 31) dX12_isValue_23 (by decide) ?_ ?_
        · refine r_iload_n (x := a0) dX12_isValue_31 rfl rfl ?_
          refine ro_iconst (v := 3) dX12_isValue_32 rfl ?_
          refine r_join (P := fun (J : Md → Option (Int × Md)) => ∀ (M_42 : Md), RunO l Γ k_X12_isValue 2 encI (emM K0) 42 [(1, wi a1)] [] M_42 (J M_42)) ?_ (fun J42 hJ42 => ?_)
          · intro M_42
            refine r_bipush (v := 9) dX12_isValue_42 rfl ?_
            refine r_goto (tgt := 69) dX12_isValue_44 (by decide) ?_
            exact hJ69 _ _
          refine r_icmp_eq (tgt := 42) dX12_isValue_33 (by decide) ?_ ?_
          · refine r_lo [1] (lo2 := [(1, wi a1)]) rfl ?_
            exact hJ42 _
          · refine r_iload_n (x := a0) dX12_isValue_36 rfl rfl ?_
            refine r_bipush (v := 6) dX12_isValue_37 rfl ?_
            refine r_icmp_ne (tgt := 47) dX12_isValue_39 (by decide) ?_ ?_
            · refine r_iload_n (x := a0) dX12_isValue_47 rfl rfl ?_
              refine ro_iconst (v := 4) dX12_isValue_48 rfl ?_
              refine r_icmp_ne (tgt := 57) dX12_isValue_49 (by decide) ?_ ?_
              · refine r_iload_n (x := a0) dX12_isValue_57 rfl rfl ?_
                refine r_bipush (v := 11) dX12_isValue_58 rfl ?_
                refine r_icmp_ne (tgt := 68) dX12_isValue_60 (by decide) ?_ ?_
                · refine ro_iconst (v := 0) dX12_isValue_68 rfl ?_
                  refine r_lo [1] (lo2 := [(1, wi a1)]) rfl ?_
                  exact hJ69 _ _
                · refine r_bipush (v := 7) dX12_isValue_63 rfl ?_
                  refine r_goto (tgt := 69) dX12_isValue_65 (by decide) ?_
                  refine r_lo [1] (lo2 := [(1, wi a1)]) rfl ?_
                  exact hJ69 _ _
              · refine r_bipush (v := 6) dX12_isValue_52 rfl ?_
                refine r_goto (tgt := 69) dX12_isValue_54 (by decide) ?_
                refine r_lo [1] (lo2 := [(1, wi a1)]) rfl ?_
                exact hJ69 _ _
            · refine r_lo [1] (lo2 := [(1, wi a1)]) rfl ?_
              exact hJ42 _
        · refine r_lo [1] (lo2 := [(1, wi a1)]) rfl ?_
          exact hJ26 _
  · refine r_sipush (v := 999) dX12_isValue_4 rfl ?_
    refine r_goto (tgt := 69) dX12_isValue_7 (by decide) ?_
    refine r_lo [1] (lo2 := [(1, wi a1)]) rfl ?_
    exact hJ69 _ _
def k_X12_leads : Kd := (yX12_leads, cX12_leads, 2, some .int, [])
theorem kv_X12_leads : KV k_X12_leads 1 := ⟨uw_mem 2253 (by decide +kernel) rfl, uw_mem 170 (by decide +kernel) rfl, uw_mem 2251 (by decide +kernel) rfl, uw_mem 2252 (by decide +kernel) rfl, ⟨by decide +kernel, by decide +kernel⟩, by decide +kernel, by decide +kernel⟩
set_option maxHeartbeats 4000000 in
set_option maxRecDepth 100000 in
theorem c_X12_leads {l : Launch} {Γ : Cx} {K0 : Cd} {mo : Nat} {ma : Nat → Nat} (h : mOn Γ mo ma) (a1 : Int) (M : Md) : Ct l Γ k_X12_leads 7 encI (emM K0) [.ref mo, wi a1] M (fX12_leads a1 M) := by
  refine ct_of (by decide +kernel) rfl (Nat.le_of_ble_eq_true rfl) ?_
  refine r_lo [0, 1] (lo2 := [(0, .ref mo), (1, wi a1)]) rfl ?_
  unfold fX12_leads
  refine r_aload_n (x := mo) dX12_leads_0 rfl rfl ?_
  refine r_iload_n (x := a1) dX12_leads_1 rfl rfl ?_
  refine r_callVi (k2 := k_X12_asksFor) (n := 1) (rest := []) rfl kv_X12_asksFor (c_X12_asksFor h _ _) (by decide) um_470 rfl (Nat.le_of_ble_eq_true rfl) dX12_leads_2 (m_rec h) rfl (fun r2 M1 => ?_)
  refine r_join (P := fun (J : Int → Md → Option (Int × Md)) => ∀ (t0_17 : Int) (M_17 : Md), RunO l Γ k_X12_leads 7 encI (emM K0) 17 [] [wi t0_17] M_17 (J t0_17 M_17)) ?_ (fun J17 hJ17 => ?_)
  · intro t0_17 M_17
    exact r_iret rfl dX12_leads_17
  refine r_if_eq (tgt := 16) dX12_leads_5 (by decide) ?_ ?_
  · refine ro_iconst (v := 0) dX12_leads_16 rfl ?_
    refine r_lo [] (lo2 := []) rfl ?_
    exact hJ17 _ _
  · refine r_aload_n (x := mo) dX12_leads_8 rfl rfl ?_
    refine r_iload_n (x := a1) dX12_leads_9 rfl rfl ?_
    refine r_callVi (k2 := k_X12_leadsTo) (n := 1) (rest := []) rfl kv_X12_leadsTo (c_X12_leadsTo h _ _) (by decide) um_479 rfl (Nat.le_of_ble_eq_true rfl) dX12_leads_10 (m_rec h) rfl (fun r4 M3 => ?_)
    refine r_goto (tgt := 17) dX12_leads_13 (by decide) ?_
    refine r_lo [] (lo2 := []) rfl ?_
    exact hJ17 _ _
def k_X12_leadsOn : Kd := (yX12_leadsOn, cX12_leadsOn, 1, some .boolean, [])
theorem kv_X12_leadsOn : KS k_X12_leadsOn 1 := ⟨uw_mem 2201 (by decide +kernel) rfl, uw_mem 170 (by decide +kernel) rfl, uw_mem 2200 (by decide +kernel) rfl, ⟨by decide +kernel, by decide +kernel⟩, by decide +kernel, by decide +kernel⟩
set_option maxHeartbeats 4000000 in
set_option maxRecDepth 100000 in
theorem c_X12_leadsOn {l : Launch} {Γ : Cx} {K0 : Cd} {mo : Nat} {ma : Nat → Nat} (h : mOn Γ mo ma) (a0 : Int) (M : Md) : Ct l Γ k_X12_leadsOn 1 encI (emM K0) [wi a0] M (fX12_leadsOn a0 M) := by
  refine ct_of (by decide +kernel) rfl (Nat.le_of_ble_eq_true rfl) ?_
  refine r_lo [0] (lo2 := [(0, wi a0)]) rfl ?_
  unfold fX12_leadsOn
  refine r_iload_n (x := a0) dX12_leadsOn_0 rfl rfl ?_
  refine ro_iconst (v := 1) dX12_leadsOn_1 rfl ?_
  refine r_join (P := fun (J : Int → Md → Option (Int × Md)) => ∀ (t0_21 : Int) (M_21 : Md), RunO l Γ k_X12_leadsOn 1 encI (emM K0) 21 [] [wi t0_21] M_21 (J t0_21 M_21)) ?_ (fun J21 hJ21 => ?_)
  · intro t0_21 M_21
    exact r_zret rfl dX12_leadsOn_21
  refine r_join (P := fun (J : Md → Option (Int × Md)) => ∀ (M_16 : Md), RunO l Γ k_X12_leadsOn 1 encI (emM K0) 16 [] [] M_16 (J M_16)) ?_ (fun J16 hJ16 => ?_)
  · intro M_16
    refine ro_iconst (v := 1) dX12_leadsOn_16 rfl ?_
    refine r_goto (tgt := 21) dX12_leadsOn_17 (by decide) ?_
    exact hJ21 _ _
  refine r_icmp_eq (tgt := 16) dX12_leadsOn_2 (by decide) ?_ ?_
  · refine r_lo [] (lo2 := []) rfl ?_
    exact hJ16 _
  · refine r_iload_n (x := a0) dX12_leadsOn_5 rfl rfl ?_
    refine ro_iconst (v := 2) dX12_leadsOn_6 rfl ?_
    refine r_icmp_eq (tgt := 16) dX12_leadsOn_7 (by decide) ?_ ?_
    · refine r_lo [] (lo2 := []) rfl ?_
      exact hJ16 _
    · refine r_iload_n (x := a0) dX12_leadsOn_10 rfl rfl ?_
      refine r_bipush (v := 12) dX12_leadsOn_11 rfl ?_
      refine r_icmp_ne (tgt := 20) dX12_leadsOn_13 (by decide) ?_ ?_
      · refine ro_iconst (v := 0) dX12_leadsOn_20 rfl ?_
        refine r_lo [] (lo2 := []) rfl ?_
        exact hJ21 _ _
      · refine r_lo [] (lo2 := []) rfl ?_
        exact hJ16 _
def k_X12_linked : Kd := (yX12_linked, cX12_linked, 5, some .int, [])
theorem kv_X12_linked : KV k_X12_linked 2 := ⟨uw_mem 2281 (by decide +kernel) rfl, uw_mem 170 (by decide +kernel) rfl, uw_mem 2279 (by decide +kernel) rfl, uw_mem 2280 (by decide +kernel) rfl, ⟨by decide +kernel, by decide +kernel⟩, by decide +kernel, by decide +kernel⟩
set_option maxHeartbeats 4000000 in
set_option maxRecDepth 100000 in
theorem c_X12_linked {l : Launch} {Γ : Cx} {K0 : Cd} {mo : Nat} {ma : Nat → Nat} (h : mOn Γ mo ma) (a1 : Int) (a2 : Int) (M : Md) : Ct l Γ k_X12_linked 3 encI (emM K0) [.ref mo, wi a1, wi a2] M (fX12_linked a1 a2 M) := by
  refine ct_of (by decide +kernel) rfl (Nat.le_of_ble_eq_true rfl) ?_
  refine r_lo [0, 1, 2] (lo2 := [(0, .ref mo), (1, wi a1), (2, wi a2)]) rfl ?_
  unfold fX12_linked
  refine r_aload_n (x := mo) dX12_linked_0 rfl rfl ?_
  refine r_iload_n (x := a1) dX12_linked_1 rfl rfl ?_
  refine r_callSi (k2 := k_X12_isTitle) (n := 1) (rest := [.ref mo]) rfl kv_X12_isTitle (c_X12_isTitle h _ _) (by decide) um_188 rfl (Nat.le_of_ble_eq_true rfl) dX12_linked_2 rfl (fun r2 M1 => ?_)
  refine r_join (P := fun (J : Int → Md → Option (Int × Md)) => ∀ (t0_22 : Int) (M_22 : Md), RunO l Γ k_X12_linked 3 encI (emM K0) 22 [(0, .ref mo), (1, wi a1), (2, wi a2)] [wi t0_22, .ref mo] M_22 (J t0_22 M_22)) ?_ (fun J22 hJ22 => ?_)
  · intro t0_22 M_22
    refine r_mput (kk := 36) h inU12 rfl (by decide) uf_180 rfl rfl rfl rfl dX12_linked_22 (fun M3 => ?_)
    refine r_aload_n (x := mo) dX12_linked_25 rfl rfl ?_
    refine r_mget (kk := 36) h inU12 rfl (by decide) uf_180 rfl rfl dX12_linked_26 ?_
    refine r_if_le (tgt := 34) dX12_linked_29 (by decide) ?_ ?_
    · refine ro_iconst (v := 0) dX12_linked_34 rfl ?_
      refine r_istore_n (lo2 := [(3, wi 0), (0, .ref mo), (1, wi a1), (2, wi a2)]) dX12_linked_35 rfl (by decide) rfl ?_
      refine ro_iconst (v := 0) dX12_linked_36 rfl ?_
      refine r_istore (lo2 := [(4, wi 0), (3, wi 0), (0, .ref mo), (1, wi a1), (2, wi a2)]) dX12_linked_37 (by decide) rfl ?_
      refine r_loop (P := fun (J : Int → Int → Md → Option (Int × Md)) => ∀ (v3_39 : Int) (v4_39 : Int) (M_39 : Md), RunO l Γ k_X12_linked 3 encI (emM K0) 39 [(0, .ref mo), (1, wi a1), (2, wi a2), (3, wi v3_39), (4, wi v4_39)] [] M_39 (J v3_39 v4_39 M_39)) ?_ (fun L39 hL39 => ?_) (fun J39 hJ39 => ?_)
      · intros; exact ro_none
      · intro v3_39 v4_39 M_39
        refine r_iload (x := v4_39) dX12_linked_39 rfl ?_
        refine r_bipush (v := 24) dX12_linked_41 rfl ?_
        refine r_icmp_ge (tgt := 83) dX12_linked_43 (by decide) ?_ ?_
        · refine r_iload_n (x := a2) dX12_linked_83 rfl rfl ?_
          refine ro_iconst (v := 1) dX12_linked_84 rfl ?_
          refine r_join (P := fun (J : Int → Md → Option (Int × Md)) => ∀ (t0_124 : Int) (M_124 : Md), RunO l Γ k_X12_linked 3 encI (emM K0) 124 [] [wi t0_124] M_124 (J t0_124 M_124)) ?_ (fun J124 hJ124 => ?_)
          · intro t0_124 M_124
            exact r_iret rfl dX12_linked_124
          refine r_icmp_ne (tgt := 92) dX12_linked_85 (by decide) ?_ ?_
          · refine r_aload_n (x := mo) dX12_linked_92 rfl rfl ?_
            refine r_mgetA (kk := 27) h inU12 rfl (by decide) uf_70 rfl rfl dX12_linked_93 ?_
            refine r_iload_n (x := a1) dX12_linked_96 rfl rfl ?_
            refine r_mzald h dX12_linked_97 ?_
            refine r_if_ne (tgt := 105) dX12_linked_98 (by decide) ?_ ?_
            · refine r_iload_n (x := a2) dX12_linked_105 rfl rfl ?_
              refine r_if_ne (tgt := 118) dX12_linked_106 (by decide) ?_ ?_
              · refine r_aload_n (x := mo) dX12_linked_118 rfl rfl ?_
                refine r_mgetA (kk := 33) h inU12 rfl (by decide) uf_89 rfl rfl dX12_linked_119 ?_
                refine r_iload_n (x := a1) dX12_linked_122 rfl rfl ?_
                refine r_miald h (by decide) dX12_linked_123 ?_
                refine r_lo [] (lo2 := []) rfl ?_
                exact hJ124 _ _
              · refine r_aload_n (x := mo) dX12_linked_109 rfl rfl ?_
                refine r_mgetA (kk := 31) h inU12 rfl (by decide) uf_83 rfl rfl dX12_linked_110 ?_
                refine r_iload_n (x := a1) dX12_linked_113 rfl rfl ?_
                refine r_miald h (by decide) dX12_linked_114 ?_
                refine r_goto (tgt := 124) dX12_linked_115 (by decide) ?_
                refine r_lo [] (lo2 := []) rfl ?_
                exact hJ124 _ _
            · refine ro_iconst (v := 0) dX12_linked_101 rfl ?_
              refine r_goto (tgt := 124) dX12_linked_102 (by decide) ?_
              refine r_lo [] (lo2 := []) rfl ?_
              exact hJ124 _ _
          · refine r_iload_n (x := v3_39) dX12_linked_88 rfl rfl ?_
            refine r_goto (tgt := 124) dX12_linked_89 (by decide) ?_
            refine r_lo [] (lo2 := []) rfl ?_
            exact hJ124 _ _
        · refine r_iload_n (x := v3_39) dX12_linked_46 rfl rfl ?_
          refine r_aload_n (x := mo) dX12_linked_47 rfl rfl ?_
          refine r_mgetA (kk := 27) h inU12 rfl (by decide) uf_70 rfl rfl dX12_linked_48 ?_
          refine r_iload (x := v4_39) dX12_linked_51 rfl ?_
          refine r_mzald h dX12_linked_53 ?_
          refine r_join (P := fun (J : Int → Md → Option (Int × Md)) => ∀ (t0_75 : Int) (M_75 : Md), RunO l Γ k_X12_linked 3 encI (emM K0) 75 [(0, .ref mo), (1, wi a1), (2, wi a2), (4, wi v4_39)] [wi t0_75, wi v3_39] M_75 (J t0_75 M_75)) ?_ (fun J75 hJ75 => ?_)
          · intro t0_75 M_75
            refine r_ior dX12_linked_75 ?_
            refine r_nm (fun x3_76 => ?_)
            refine r_istore_n (lo2 := [(3, wi x3_76), (0, .ref mo), (1, wi a1), (2, wi a2), (4, wi v4_39)]) dX12_linked_76 rfl (by decide) rfl ?_
            refine r_iinc (x := v4_39) (lo2 := [(4, wi (v4_39 + 1)), (3, wi x3_76), (0, .ref mo), (1, wi a1), (2, wi a2)]) dX12_linked_77 rfl (by decide) rfl ?_
            refine r_goto (tgt := 39) dX12_linked_80 (by decide) ?_
            refine r_lo [2, 3, 4, 1, 0] (lo2 := [(0, .ref mo), (1, wi a1), (2, wi a2), (3, wi x3_76), (4, wi (v4_39 + 1))]) rfl ?_
            exact hL39 _ _ _
          refine r_if_eq (tgt := 74) dX12_linked_54 (by decide) ?_ ?_
          · refine ro_iconst (v := 0) dX12_linked_74 rfl ?_
            refine r_lo [0, 1, 2, 4] (lo2 := [(0, .ref mo), (1, wi a1), (2, wi a2), (4, wi v4_39)]) rfl ?_
            exact hJ75 _ _
          · refine r_aload_n (x := mo) dX12_linked_57 rfl rfl ?_
            refine r_mgetA (kk := 31) h inU12 rfl (by decide) uf_83 rfl rfl dX12_linked_58 ?_
            refine r_iload (x := v4_39) dX12_linked_61 rfl ?_
            refine r_miald h (by decide) dX12_linked_63 ?_
            refine r_iload_n (x := a1) dX12_linked_64 rfl rfl ?_
            refine r_ishr dX12_linked_65 ?_
            refine ro_iconst (v := 1) dX12_linked_66 rfl ?_
            refine r_iand dX12_linked_67 ?_
            refine r_iload (x := v4_39) dX12_linked_68 rfl ?_
            refine r_ishl dX12_linked_70 ?_
            refine r_goto (tgt := 75) dX12_linked_71 (by decide) ?_
            refine r_lo [0, 1, 2, 4] (lo2 := [(0, .ref mo), (1, wi a1), (2, wi a2), (4, wi v4_39)]) rfl ?_
            exact hJ75 _ _
      refine r_lo [2, 3, 4, 1, 0] (lo2 := [(0, .ref mo), (1, wi a1), (2, wi a2), (3, wi 0), (4, wi 0)]) rfl ?_
      exact hJ39 _ _ _
    · refine ro_iconst (v := 0) dX12_linked_32 rfl ?_
      exact r_iret rfl dX12_linked_33
  refine r_join (P := fun (J : Md → Option (Int × Md)) => ∀ (M_21 : Md), RunO l Γ k_X12_linked 3 encI (emM K0) 21 [(0, .ref mo), (1, wi a1), (2, wi a2)] [.ref mo] M_21 (J M_21)) ?_ (fun J21 hJ21 => ?_)
  · intro M_21
    refine ro_iconst (v := 1) dX12_linked_21 rfl ?_
    exact hJ22 _ _
  refine r_if_eq (tgt := 21) dX12_linked_5 (by decide) ?_ ?_
  · exact hJ21 _
  · refine r_iload_n (x := a2) dX12_linked_8 rfl rfl ?_
    refine ro_iconst (v := 0) dX12_linked_9 rfl ?_
    refine ro_iconst (v := 2) dX12_linked_10 rfl ?_
    refine r_callSi (k2 := k_X12_in) (n := 3) (rest := [.ref mo]) rfl kv_X12_in (c_X12_in h _ _ _ _) (by decide) um_184 rfl (Nat.le_of_ble_eq_true rfl) dX12_linked_11 rfl (fun r5 M4 => ?_)
    refine r_if_eq (tgt := 21) dX12_linked_14 (by decide) ?_ ?_
    · exact hJ21 _
    · refine ro_iconst (v := 0) dX12_linked_17 rfl ?_
      refine r_goto (tgt := 22) dX12_linked_18 (by decide) ?_
      exact hJ22 _ _
def k_X12_members : Kd := (yX12_members, cX12_members, 2, some .int, [])
theorem kv_X12_members : KV k_X12_members 1 := ⟨uw_mem 2285 (by decide +kernel) rfl, uw_mem 170 (by decide +kernel) rfl, uw_mem 2283 (by decide +kernel) rfl, uw_mem 2284 (by decide +kernel) rfl, ⟨by decide +kernel, by decide +kernel⟩, by decide +kernel, by decide +kernel⟩
set_option maxHeartbeats 4000000 in
set_option maxRecDepth 100000 in
theorem c_X12_members {l : Launch} {Γ : Cx} {K0 : Cd} {mo : Nat} {ma : Nat → Nat} (h : mOn Γ mo ma) (a1 : Int) (M : Md) : Ct l Γ k_X12_members 2 encI (emM K0) [.ref mo, wi a1] M (fX12_members a1 M) := by
  refine ct_of (by decide +kernel) rfl (Nat.le_of_ble_eq_true rfl) ?_
  refine r_lo [0, 1] (lo2 := [(0, .ref mo), (1, wi a1)]) rfl ?_
  unfold fX12_members
  refine r_aload_n (x := mo) dX12_members_0 rfl rfl ?_
  refine r_iload_n (x := a1) dX12_members_1 rfl rfl ?_
  refine ro_iconst (v := 0) dX12_members_2 rfl ?_
  refine r_bipush (v := 7) dX12_members_3 rfl ?_
  refine r_callSi (k2 := k_X12_in) (n := 3) (rest := [.ref mo]) rfl kv_X12_in (c_X12_in h _ _ _ _) (by decide) um_184 rfl (Nat.le_of_ble_eq_true rfl) dX12_members_5 rfl (fun r2 M1 => ?_)
  refine r_join (P := fun (J : Int → Md → Option (Int × Md)) => ∀ (t0_16 : Int) (M_16 : Md), RunO l Γ k_X12_members 2 encI (emM K0) 16 [(0, .ref mo), (1, wi a1)] [wi t0_16, .ref mo] M_16 (J t0_16 M_16)) ?_ (fun J16 hJ16 => ?_)
  · intro t0_16 M_16
    refine r_mput (kk := 36) h inU12 rfl (by decide) uf_180 rfl rfl rfl rfl dX12_members_16 (fun M3 => ?_)
    refine r_aload_n (x := mo) dX12_members_19 rfl rfl ?_
    refine r_mget (kk := 36) h inU12 rfl (by decide) uf_180 rfl rfl dX12_members_20 ?_
    refine r_join (P := fun (J : Int → Md → Option (Int × Md)) => ∀ (t0_35 : Int) (M_35 : Md), RunO l Γ k_X12_members 2 encI (emM K0) 35 [] [wi t0_35] M_35 (J t0_35 M_35)) ?_ (fun J35 hJ35 => ?_)
    · intro t0_35 M_35
      exact r_iret rfl dX12_members_35
    refine r_if_ne (tgt := 34) dX12_members_23 (by decide) ?_ ?_
    · refine ro_iconst (v := 0) dX12_members_34 rfl ?_
      refine r_lo [] (lo2 := []) rfl ?_
      exact hJ35 _ _
    · refine r_aload_n (x := mo) dX12_members_26 rfl rfl ?_
      refine r_iload_n (x := a1) dX12_members_27 rfl rfl ?_
      refine r_callVi (k2 := k_X12_membersOf) (n := 1) (rest := []) rfl kv_X12_membersOf (c_X12_membersOf h _ _) (by decide) um_334 rfl (Nat.le_of_ble_eq_true rfl) dX12_members_28 (m_rec h) rfl (fun r5 M4 => ?_)
      refine r_goto (tgt := 35) dX12_members_31 (by decide) ?_
      refine r_lo [] (lo2 := []) rfl ?_
      exact hJ35 _ _
  refine r_if_eq (tgt := 15) dX12_members_8 (by decide) ?_ ?_
  · refine ro_iconst (v := 1) dX12_members_15 rfl ?_
    exact hJ16 _ _
  · refine ro_iconst (v := 0) dX12_members_11 rfl ?_
    refine r_goto (tgt := 16) dX12_members_12 (by decide) ?_
    exact hJ16 _ _
def k_X12_move : Kd := (yX12_move, cX12_move, 4, some .int, [])
theorem kv_X12_move : KV k_X12_move 2 := ⟨uw_mem 2186 (by decide +kernel) rfl, uw_mem 170 (by decide +kernel) rfl, uw_mem 2184 (by decide +kernel) rfl, uw_mem 2185 (by decide +kernel) rfl, ⟨by decide +kernel, by decide +kernel⟩, by decide +kernel, by decide +kernel⟩
set_option maxHeartbeats 4000000 in
set_option maxRecDepth 100000 in
theorem c_X12_move {l : Launch} {Γ : Cx} {K0 : Cd} {mo : Nat} {ma : Nat → Nat} (h : mOn Γ mo ma) (a1 : Int) (a2 : Int) (M : Md) : Ct l Γ k_X12_move 5 encI (emM K0) [.ref mo, wi a1, wi a2] M (fX12_move a1 a2 M) := by
  refine ct_of (by decide +kernel) rfl (Nat.le_of_ble_eq_true rfl) ?_
  refine r_lo [0, 1, 2] (lo2 := [(0, .ref mo), (1, wi a1), (2, wi a2)]) rfl ?_
  unfold fX12_move
  refine r_aload_n (x := mo) dX12_move_0 rfl rfl ?_
  refine r_iload_n (x := a1) dX12_move_1 rfl rfl ?_
  refine r_callSi (k2 := k_X12_isTitle) (n := 1) (rest := [.ref mo]) rfl kv_X12_isTitle (c_X12_isTitle h _ _) (by decide) um_188 rfl (Nat.le_of_ble_eq_true rfl) dX12_move_2 rfl (fun r2 M1 => ?_)
  refine r_join (P := fun (J : Int → Md → Option (Int × Md)) => ∀ (t0_69 : Int) (M_69 : Md), RunO l Γ k_X12_move 5 encI (emM K0) 69 [(0, .ref mo), (1, wi a1), (2, wi a2)] [wi t0_69, .ref mo] M_69 (J t0_69 M_69)) ?_ (fun J69 hJ69 => ?_)
  · intro t0_69 M_69
    refine r_mput (kk := 36) h inU12 rfl (by decide) uf_180 rfl rfl rfl rfl dX12_move_69 (fun M3 => ?_)
    refine r_aload_n (x := mo) dX12_move_72 rfl rfl ?_
    refine r_mget (kk := 36) h inU12 rfl (by decide) uf_180 rfl rfl dX12_move_73 ?_
    refine r_if_le (tgt := 81) dX12_move_76 (by decide) ?_ ?_
    · refine r_aload_n (x := mo) dX12_move_81 rfl rfl ?_
      refine r_iload_n (x := a1) dX12_move_82 rfl rfl ?_
      refine r_callVv (k2 := k_X12_dropRendering) (n := 1) (rest := []) rfl kv_X12_dropRendering (c_X12_dropRendering h _ _) (by decide) um_460 rfl (Nat.le_of_ble_eq_true rfl) dX12_move_83 (m_rec h) rfl (fun r5 M4 => ?_)
      refine r_aload_n (x := mo) dX12_move_86 rfl rfl ?_
      refine r_mgetA (kk := 6) h inU12 rfl (by decide) uf_19 rfl rfl dX12_move_87 ?_
      refine r_iload_n (x := a2) dX12_move_90 rfl rfl ?_
      refine r_aload_n (x := mo) dX12_move_91 rfl rfl ?_
      refine r_mgetA (kk := 6) h inU12 rfl (by decide) uf_19 rfl rfl dX12_move_92 ?_
      refine r_iload_n (x := a1) dX12_move_95 rfl rfl ?_
      refine r_miald h (by decide) dX12_move_96 ?_
      refine r_miast h (by decide) dX12_move_97 (fun M6 => ?_)
      refine r_aload_n (x := mo) dX12_move_98 rfl rfl ?_
      refine r_mgetA (kk := 78) h inU12 rfl (by decide) uf_177 rfl rfl dX12_move_99 ?_
      refine ro_iconst (v := 0) dX12_move_102 rfl ?_
      refine r_sipush (v := 12000) dX12_move_103 rfl ?_
      refine r_iload_n (x := a2) dX12_move_106 rfl rfl ?_
      refine r_iadd dX12_move_107 ?_
      refine r_miast h (by decide) dX12_move_108 (fun M7 => ?_)
      refine r_aload_n (x := mo) dX12_move_109 rfl rfl ?_
      refine r_aload_n (x := mo) dX12_move_110 rfl rfl ?_
      refine r_iload_n (x := a1) dX12_move_111 rfl rfl ?_
      refine r_callVi (k2 := k_X12_newPage) (n := 1) (rest := [.ref mo]) rfl kv_X12_newPage (c_X12_newPage h _ _) (by decide) um_403 rfl (Nat.le_of_ble_eq_true rfl) dX12_move_112 (m_rec h) rfl (fun r9 M8 => ?_)
      refine r_aload_n (x := mo) dX12_move_115 rfl rfl ?_
      refine r_mgetA (kk := 78) h inU12 rfl (by decide) uf_177 rfl rfl dX12_move_116 ?_
      refine ro_iconst (v := 0) dX12_move_119 rfl ?_
      refine ro_iconst (v := 1) dX12_move_120 rfl ?_
      refine r_callVi (k2 := k_X12_newVersionNow) (n := 4) (rest := []) rfl kv_X12_newVersionNow (c_X12_newVersionNow h _ _ _ _ (by decide) _) (by decide) um_450 rfl (Nat.le_of_ble_eq_true rfl) dX12_move_121 (m_rec h) rfl (fun r11 M10 => ?_)
      refine r_istore_n (lo2 := [(3, wi r11), (0, .ref mo), (1, wi a1), (2, wi a2)]) dX12_move_124 rfl (by decide) rfl ?_
      refine r_aload_n (x := mo) dX12_move_125 rfl rfl ?_
      refine r_callVv (k2 := k_X12_settleTitles) (n := 0) (rest := []) rfl kv_X12_settleTitles (c_X12_settleTitles h _) (by decide) um_396 rfl (Nat.le_of_ble_eq_true rfl) dX12_move_126 (m_rec h) rfl (fun r13 M12 => ?_)
      refine r_iload_n (x := r11) dX12_move_129 rfl rfl ?_
      exact r_iret rfl dX12_move_130
    · refine ro_iconst (v := 0) dX12_move_79 rfl ?_
      exact r_iret rfl dX12_move_80
  refine r_join (P := fun (J : Md → Option (Int × Md)) => ∀ (M_25 : Md), RunO l Γ k_X12_move 5 encI (emM K0) 25 [(0, .ref mo), (1, wi a1), (2, wi a2)] [.ref mo] M_25 (J M_25)) ?_ (fun J25 hJ25 => ?_)
  · intro M_25
    refine ro_iconst (v := 1) dX12_move_25 rfl ?_
    refine r_goto (tgt := 69) dX12_move_26 (by decide) ?_
    exact hJ69 _ _
  refine r_if_eq (tgt := 25) dX12_move_5 (by decide) ?_ ?_
  · exact hJ25 _
  · refine r_iload_n (x := a2) dX12_move_8 rfl rfl ?_
    refine r_callSi (k2 := k_X12_isTitle) (n := 1) (rest := [.ref mo]) rfl kv_X12_isTitle (c_X12_isTitle h _ _) (by decide) um_188 rfl (Nat.le_of_ble_eq_true rfl) dX12_move_9 rfl (fun r15 M14 => ?_)
    refine r_if_eq (tgt := 25) dX12_move_12 (by decide) ?_ ?_
    · exact hJ25 _
    · refine r_aload_n (x := mo) dX12_move_15 rfl rfl ?_
      refine r_mgetA (kk := 6) h inU12 rfl (by decide) uf_19 rfl rfl dX12_move_16 ?_
      refine r_iload_n (x := a1) dX12_move_19 rfl rfl ?_
      refine r_miald h (by decide) dX12_move_20 ?_
      refine ro_iconst (v := (-1)) dX12_move_21 rfl ?_
      refine r_icmp_ne (tgt := 29) dX12_move_22 (by decide) ?_ ?_
      · refine r_aload_n (x := mo) dX12_move_29 rfl rfl ?_
        refine r_mgetA (kk := 6) h inU12 rfl (by decide) uf_19 rfl rfl dX12_move_30 ?_
        refine r_iload_n (x := a2) dX12_move_33 rfl rfl ?_
        refine r_miald h (by decide) dX12_move_34 ?_
        refine ro_iconst (v := (-1)) dX12_move_35 rfl ?_
        refine r_join (P := fun (J : Md → Option (Int × Md)) => ∀ (M_64 : Md), RunO l Γ k_X12_move 5 encI (emM K0) 64 [(0, .ref mo), (1, wi a1), (2, wi a2)] [.ref mo] M_64 (J M_64)) ?_ (fun J64 hJ64 => ?_)
        · intro M_64
          refine ro_iconst (v := 2) dX12_move_64 rfl ?_
          refine r_goto (tgt := 69) dX12_move_65 (by decide) ?_
          exact hJ69 _ _
        refine r_icmp_ne (tgt := 64) dX12_move_36 (by decide) ?_ ?_
        · exact hJ64 _
        · refine r_aload_n (x := mo) dX12_move_39 rfl rfl ?_
          refine r_iload_n (x := a1) dX12_move_40 rfl rfl ?_
          refine r_callVi (k2 := k_X12_mayAt) (n := 1) (rest := [.ref mo]) rfl kv_X12_mayAt (c_X12_mayAt h _ _) (by decide) um_393 rfl (Nat.le_of_ble_eq_true rfl) dX12_move_41 (m_rec h) rfl (fun r17 M16 => ?_)
          refine r_if_eq (tgt := 64) dX12_move_44 (by decide) ?_ ?_
          · exact hJ64 _
          · refine r_aload_n (x := mo) dX12_move_47 rfl rfl ?_
            refine r_iload_n (x := a2) dX12_move_48 rfl rfl ?_
            refine r_callVi (k2 := k_X12_mayAt) (n := 1) (rest := [.ref mo]) rfl kv_X12_mayAt (c_X12_mayAt h _ _) (by decide) um_393 rfl (Nat.le_of_ble_eq_true rfl) dX12_move_49 (m_rec h) rfl (fun r19 M18 => ?_)
            refine r_if_eq (tgt := 64) dX12_move_52 (by decide) ?_ ?_
            · exact hJ64 _
            · refine r_aload_n (x := mo) dX12_move_55 rfl rfl ?_
              refine r_mget (kk := 8) h inU12 rfl (by decide) uf_192 rfl rfl dX12_move_56 ?_
              refine r_bipush (v := 120) dX12_move_59 rfl ?_
              refine r_icmp_ne (tgt := 68) dX12_move_61 (by decide) ?_ ?_
              · refine ro_iconst (v := 0) dX12_move_68 rfl ?_
                exact hJ69 _ _
              · exact hJ64 _
      · exact hJ25 _
def k_X12_turns : Kd := (yX12_turns, cX12_turns, 9, some .boolean, [])
theorem kv_X12_turns : KV k_X12_turns 4 := ⟨uw_mem 2198 (by decide +kernel) rfl, uw_mem 170 (by decide +kernel) rfl, uw_mem 2197 (by decide +kernel) rfl, uw_mem 152 (by decide +kernel) rfl, ⟨by decide +kernel, by decide +kernel⟩, by decide +kernel, by decide +kernel⟩
set_option maxHeartbeats 4000000 in
set_option maxRecDepth 100000 in
theorem c_X12_turns {l : Launch} {Γ : Cx} {K0 : Cd} {mo : Nat} {ma : Nat → Nat} (h : mOn Γ mo ma) (a1 : Int) (a2 : Int) (a3 : Int) (a4 : Int) (M : Md) : Ct l Γ k_X12_turns 4 encI (emM K0) [.ref mo, wi a1, wi a2, wi a3, wi a4] M (fX12_turns a1 a2 a3 a4 M) := by
  refine ct_of (by decide +kernel) rfl (Nat.le_of_ble_eq_true rfl) ?_
  refine r_lo [0, 1, 2, 3, 4] (lo2 := [(0, .ref mo), (1, wi a1), (2, wi a2), (3, wi a3), (4, wi a4)]) rfl ?_
  unfold fX12_turns
  refine r_aload_n (x := mo) dX12_turns_0 rfl rfl ?_
  refine r_iload_n (x := a1) dX12_turns_1 rfl rfl ?_
  refine r_callVi (k2 := k_X12_presentAt) (n := 1) (rest := []) rfl kv_X12_presentAt (c_X12_presentAt h _ _) (by decide) um_209 rfl (Nat.le_of_ble_eq_true rfl) dX12_turns_2 (m_rec h) rfl (fun r2 M1 => ?_)
  refine r_istore (lo2 := [(5, wi r2), (0, .ref mo), (1, wi a1), (2, wi a2), (3, wi a3), (4, wi a4)]) dX12_turns_5 (by decide) rfl ?_
  refine ro_iconst (v := 0) dX12_turns_7 rfl ?_
  refine r_istore (lo2 := [(6, wi 0), (5, wi r2), (0, .ref mo), (1, wi a1), (2, wi a2), (3, wi a3), (4, wi a4)]) dX12_turns_8 (by decide) rfl ?_
  refine r_aload_n (x := mo) dX12_turns_10 rfl rfl ?_
  refine ro_iconst (v := 0) dX12_turns_11 rfl ?_
  refine r_mput (kk := 77) h inU12 rfl (by decide) uf_409 rfl rfl rfl rfl dX12_turns_12 (fun M3 => ?_)
  refine r_aload_n (x := mo) dX12_turns_15 rfl rfl ?_
  refine r_aload_n (x := mo) dX12_turns_16 rfl rfl ?_
  refine r_mgetA (kk := 9) h inU12 rfl (by decide) uf_22 rfl rfl dX12_turns_17 ?_
  refine r_bipush (v := 30) dX12_turns_20 rfl ?_
  refine r_iload (x := r2) dX12_turns_22 rfl ?_
  refine r_imul dX12_turns_24 ?_
  refine r_bipush (v := 30) dX12_turns_25 rfl ?_
  refine r_iload (x := r2) dX12_turns_27 rfl ?_
  refine r_imul dX12_turns_29 ?_
  refine r_aload_n (x := mo) dX12_turns_30 rfl rfl ?_
  refine r_mgetA (kk := 10) h inU12 rfl (by decide) uf_25 rfl rfl dX12_turns_31 ?_
  refine r_iload (x := r2) dX12_turns_34 rfl ?_
  refine r_miald h (by decide) dX12_turns_36 ?_
  refine r_iadd dX12_turns_37 ?_
  refine r_callVv (k2 := k_X12_putResult) (n := 3) (rest := []) rfl kv_X12_putResult (c_X12_putResult h _ _ _ (by decide) _) (by decide) um_412 rfl (Nat.le_of_ble_eq_true rfl) dX12_turns_38 (m_rec h) rfl (fun r5 M4 => ?_)
  refine ro_iconst (v := 0) dX12_turns_41 rfl ?_
  refine r_istore (lo2 := [(7, wi 0), (6, wi 0), (5, wi r2), (0, .ref mo), (1, wi a1), (2, wi a2), (3, wi a3), (4, wi a4)]) dX12_turns_42 (by decide) rfl ?_
  refine r_loop (P := fun (J : Int → Int → Md → Option (Int × Md)) => ∀ (v6_44 : Int) (v7_44 : Int) (M_44 : Md), RunO l Γ k_X12_turns 4 encI (emM K0) 44 [(0, .ref mo), (2, wi a2), (3, wi a3), (4, wi a4), (6, wi v6_44), (7, wi v7_44)] [] M_44 (J v6_44 v7_44 M_44)) ?_ (fun L44 hL44 => ?_) (fun J44 hJ44 => ?_)
  · intros; exact ro_none
  · intro v6_44 v7_44 M_44
    refine r_iload (x := v7_44) dX12_turns_44 rfl ?_
    refine r_aload_n (x := mo) dX12_turns_46 rfl rfl ?_
    refine r_mget (kk := 77) h inU12 rfl (by decide) uf_409 rfl rfl dX12_turns_47 ?_
    refine r_icmp_ge (tgt := 128) dX12_turns_50 (by decide) ?_ ?_
    · refine r_iload (x := v6_44) dX12_turns_128 rfl ?_
      exact r_zret rfl dX12_turns_130
    · refine r_aload_n (x := mo) dX12_turns_53 rfl rfl ?_
      refine r_mgetA (kk := 76) h inU12 rfl (by decide) uf_174 rfl rfl dX12_turns_54 ?_
      refine r_iload (x := v7_44) dX12_turns_57 rfl ?_
      refine r_miald h (by decide) dX12_turns_59 ?_
      refine r_sipush (v := 1000) dX12_turns_60 rfl ?_
      refine r_irem dX12_turns_63 (by decide) ?_
      refine r_nm (fun x8_64 => ?_)
      refine r_istore (lo2 := [(8, wi x8_64), (0, .ref mo), (2, wi a2), (3, wi a3), (4, wi a4), (6, wi v6_44), (7, wi v7_44)]) dX12_turns_64 (by decide) rfl ?_
      refine r_aload_n (x := mo) dX12_turns_66 rfl rfl ?_
      refine r_mgetA (kk := 76) h inU12 rfl (by decide) uf_174 rfl rfl dX12_turns_67 ?_
      refine r_iload (x := v7_44) dX12_turns_70 rfl ?_
      refine r_miald h (by decide) dX12_turns_72 ?_
      refine r_sipush (v := 1000) dX12_turns_73 rfl ?_
      refine r_idiv dX12_turns_76 (by decide) ?_
      refine r_callSi (k2 := k_X12_leadsOn) (n := 1) (rest := []) rfl kv_X12_leadsOn (c_X12_leadsOn h _ _) (by decide) um_463 rfl (Nat.le_of_ble_eq_true rfl) dX12_turns_77 rfl (fun r7 M6 => ?_)
      refine r_join (P := fun (J : Int → Md → Option (Int × Md)) => ∀ (v6_122 : Int) (M_122 : Md), RunO l Γ k_X12_turns 4 encI (emM K0) 122 [(0, .ref mo), (2, wi a2), (3, wi a3), (4, wi a4), (6, wi v6_122), (7, wi v7_44)] [] M_122 (J v6_122 M_122)) ?_ (fun J122 hJ122 => ?_)
      · intro v6_122 M_122
        refine r_iinc (x := v7_44) (lo2 := [(7, wi (v7_44 + 1)), (0, .ref mo), (2, wi a2), (3, wi a3), (4, wi a4), (6, wi v6_122)]) dX12_turns_122 rfl (by decide) rfl ?_
        refine r_goto (tgt := 44) dX12_turns_125 (by decide) ?_
        refine r_lo [1, 2, 3, 4, 5, 0] (lo2 := [(0, .ref mo), (2, wi a2), (3, wi a3), (4, wi a4), (6, wi v6_122), (7, wi (v7_44 + 1))]) rfl ?_
        exact hL44 _ _ _
      refine r_if_eq (tgt := 122) dX12_turns_80 (by decide) ?_ ?_
      · refine r_lo [1, 2, 3, 4, 5, 6] (lo2 := [(0, .ref mo), (2, wi a2), (3, wi a3), (4, wi a4), (6, wi v6_44), (7, wi v7_44)]) rfl ?_
        exact hJ122 _ _
      · refine r_iload (x := x8_64) dX12_turns_83 rfl ?_
        refine ro_iconst (v := 4) dX12_turns_85 rfl ?_
        refine r_idiv dX12_turns_86 (by decide) ?_
        refine r_iload_n (x := a2) dX12_turns_87 rfl rfl ?_
        refine r_icmp_ne (tgt := 122) dX12_turns_88 (by decide) ?_ ?_
        · refine r_lo [1, 2, 3, 4, 5, 6] (lo2 := [(0, .ref mo), (2, wi a2), (3, wi a3), (4, wi a4), (6, wi v6_44), (7, wi v7_44)]) rfl ?_
          exact hJ122 _ _
        · refine r_iload (x := a4) dX12_turns_91 rfl ?_
          refine r_iload (x := x8_64) dX12_turns_93 rfl ?_
          refine ro_iconst (v := 4) dX12_turns_95 rfl ?_
          refine r_irem dX12_turns_96 (by decide) ?_
          refine r_ishr dX12_turns_97 ?_
          refine ro_iconst (v := 1) dX12_turns_98 rfl ?_
          refine r_iand dX12_turns_99 ?_
          refine ro_iconst (v := 1) dX12_turns_100 rfl ?_
          refine r_icmp_ne (tgt := 122) dX12_turns_101 (by decide) ?_ ?_
          · refine r_lo [1, 2, 3, 4, 5, 6] (lo2 := [(0, .ref mo), (2, wi a2), (3, wi a3), (4, wi a4), (6, wi v6_44), (7, wi v7_44)]) rfl ?_
            exact hJ122 _ _
          · refine r_aload_n (x := mo) dX12_turns_104 rfl rfl ?_
            refine r_mgetA (kk := 76) h inU12 rfl (by decide) uf_174 rfl rfl dX12_turns_105 ?_
            refine r_iload (x := v7_44) dX12_turns_108 rfl ?_
            refine r_dup2 dX12_turns_110 rfl rfl ?_
            refine r_miald h (by decide) dX12_turns_111 ?_
            refine ro_iconst (v := 4) dX12_turns_112 rfl ?_
            refine r_iload_n (x := a3) dX12_turns_113 rfl rfl ?_
            refine r_iload_n (x := a2) dX12_turns_114 rfl rfl ?_
            refine r_isub dX12_turns_115 ?_
            refine r_imul dX12_turns_116 ?_
            refine r_iadd dX12_turns_117 ?_
            refine r_miast h (by decide) dX12_turns_118 (fun M8 => ?_)
            refine ro_iconst (v := 1) dX12_turns_119 rfl ?_
            refine r_istore (lo2 := [(6, wi 1), (8, wi x8_64), (0, .ref mo), (2, wi a2), (3, wi a3), (4, wi a4), (7, wi v7_44)]) dX12_turns_120 (by decide) rfl ?_
            refine r_lo [2, 3, 4, 5, 0, 6] (lo2 := [(0, .ref mo), (2, wi a2), (3, wi a3), (4, wi a4), (6, wi 1), (7, wi v7_44)]) rfl ?_
            exact hJ122 _ _
  refine r_lo [3, 5, 6, 7, 1, 0] (lo2 := [(0, .ref mo), (2, wi a2), (3, wi a3), (4, wi a4), (6, wi 0), (7, wi 0)]) rfl ?_
  exact hJ44 _ _ _
def k_X12_moveTree : Kd := (yX12_moveTree, cX12_moveTree, 8, some .int, [])
theorem kv_X12_moveTree : KV k_X12_moveTree 2 := ⟨uw_mem 2194 (by decide +kernel) rfl, uw_mem 170 (by decide +kernel) rfl, uw_mem 2192 (by decide +kernel) rfl, uw_mem 2193 (by decide +kernel) rfl, ⟨by decide +kernel, by decide +kernel⟩, by decide +kernel, by decide +kernel⟩
set_option maxHeartbeats 4000000 in
set_option maxRecDepth 100000 in
theorem c_X12_moveTree {l : Launch} {Γ : Cx} {K0 : Cd} {mo : Nat} {ma : Nat → Nat} (h : mOn Γ mo ma) (a1 : Int) (a2 : Int) (M : Md) : Ct l Γ k_X12_moveTree 5 encI (emM K0) [.ref mo, wi a1, wi a2] M (fX12_moveTree a1 a2 M) := by
  refine ct_of (by decide +kernel) rfl (Nat.le_of_ble_eq_true rfl) ?_
  refine r_lo [0, 1, 2] (lo2 := [(0, .ref mo), (1, wi a1), (2, wi a2)]) rfl ?_
  unfold fX12_moveTree
  refine r_aload_n (x := mo) dX12_moveTree_0 rfl rfl ?_
  refine r_iload_n (x := a1) dX12_moveTree_1 rfl rfl ?_
  refine ro_iconst (v := 0) dX12_moveTree_2 rfl ?_
  refine ro_iconst (v := 5) dX12_moveTree_3 rfl ?_
  refine r_callSi (k2 := k_X12_in) (n := 3) (rest := [.ref mo]) rfl kv_X12_in (c_X12_in h _ _ _ _) (by decide) um_184 rfl (Nat.le_of_ble_eq_true rfl) dX12_moveTree_4 rfl (fun r2 M1 => ?_)
  refine r_join (P := fun (J : Int → Md → Option (Int × Md)) => ∀ (t0_24 : Int) (M_24 : Md), RunO l Γ k_X12_moveTree 5 encI (emM K0) 24 [(0, .ref mo), (1, wi a1), (2, wi a2)] [wi t0_24, .ref mo] M_24 (J t0_24 M_24)) ?_ (fun J24 hJ24 => ?_)
  · intro t0_24 M_24
    refine r_mput (kk := 36) h inU12 rfl (by decide) uf_180 rfl rfl rfl rfl dX12_moveTree_24 (fun M3 => ?_)
    refine ro_iconst (v := 0) dX12_moveTree_27 rfl ?_
    refine r_istore_n (lo2 := [(3, wi 0), (0, .ref mo), (1, wi a1), (2, wi a2)]) dX12_moveTree_28 rfl (by decide) rfl ?_
    refine ro_iconst (v := 1) dX12_moveTree_29 rfl ?_
    refine r_istore (lo2 := [(4, wi 1), (3, wi 0), (0, .ref mo), (1, wi a1), (2, wi a2)]) dX12_moveTree_30 (by decide) rfl ?_
    refine ro_iconst (v := 0) dX12_moveTree_32 rfl ?_
    refine r_istore (lo2 := [(5, wi 0), (4, wi 1), (3, wi 0), (0, .ref mo), (1, wi a1), (2, wi a2)]) dX12_moveTree_33 (by decide) rfl ?_
    refine r_loop (P := fun (J : Int → Int → Int → Md → Option (Int × Md)) => ∀ (v3_35 : Int) (v4_35 : Int) (v5_35 : Int) (M_35 : Md), RunO l Γ k_X12_moveTree 5 encI (emM K0) 35 [(0, .ref mo), (1, wi a1), (2, wi a2), (3, wi v3_35), (4, wi v4_35), (5, wi v5_35)] [] M_35 (J v3_35 v4_35 v5_35 M_35)) ?_ (fun L35 hL35 => ?_) (fun J35 hJ35 => ?_)
    · intros; exact ro_none
    · intro v3_35 v4_35 v5_35 M_35
      refine r_iload (x := v5_35) dX12_moveTree_35 rfl ?_
      refine ro_iconst (v := 4) dX12_moveTree_37 rfl ?_
      refine r_join (P := fun (J : Md → Option (Int × Md)) => ∀ (M_133 : Md), RunO l Γ k_X12_moveTree 5 encI (emM K0) 133 [(0, .ref mo), (1, wi a1), (2, wi a2), (3, wi v3_35), (4, wi v4_35)] [] M_133 (J M_133)) ?_ (fun J133 hJ133 => ?_)
      · intro M_133
        refine ro_iconst (v := 0) dX12_moveTree_133 rfl ?_
        refine r_istore (lo2 := [(5, wi 0), (0, .ref mo), (1, wi a1), (2, wi a2), (3, wi v3_35), (4, wi v4_35)]) dX12_moveTree_134 (by decide) rfl ?_
        refine ro_iconst (v := 0) dX12_moveTree_136 rfl ?_
        refine r_istore (lo2 := [(6, wi 0), (5, wi 0), (0, .ref mo), (1, wi a1), (2, wi a2), (3, wi v3_35), (4, wi v4_35)]) dX12_moveTree_137 (by decide) rfl ?_
        refine r_loop (P := fun (J : Int → Int → Md → Option (Int × Md)) => ∀ (v5_139 : Int) (v6_139 : Int) (M_139 : Md), RunO l Γ k_X12_moveTree 5 encI (emM K0) 139 [(0, .ref mo), (1, wi a1), (2, wi a2), (3, wi v3_35), (4, wi v4_35), (5, wi v5_139), (6, wi v6_139)] [] M_139 (J v5_139 v6_139 M_139)) ?_ (fun L139 hL139 => ?_) (fun J139 hJ139 => ?_)
        · intros; exact ro_none
        · intro v5_139 v6_139 M_139
          refine r_iload (x := v6_139) dX12_moveTree_139 rfl ?_
          refine r_bipush (v := 24) dX12_moveTree_141 rfl ?_
          refine r_join (P := fun (J : Md → Option (Int × Md)) => ∀ (M_192 : Md), RunO l Γ k_X12_moveTree 5 encI (emM K0) 192 [(0, .ref mo), (1, wi a1), (2, wi a2), (3, wi v3_35), (4, wi v4_35), (5, wi v5_139)] [] M_192 (J M_192)) ?_ (fun J192 hJ192 => ?_)
          · intro M_192
            refine r_aload_n (x := mo) dX12_moveTree_192 rfl rfl ?_
            refine r_aload_n (x := mo) dX12_moveTree_193 rfl rfl ?_
            refine r_mget (kk := 36) h inU12 rfl (by decide) uf_180 rfl rfl dX12_moveTree_194 ?_
            refine r_join (P := fun (J : Int → Md → Option (Int × Md)) => ∀ (t0_229 : Int) (M_229 : Md), RunO l Γ k_X12_moveTree 5 encI (emM K0) 229 [(0, .ref mo), (1, wi a1), (2, wi a2), (3, wi v3_35), (5, wi v5_139)] [wi t0_229, .ref mo] M_229 (J t0_229 M_229)) ?_ (fun J229 hJ229 => ?_)
            · intro t0_229 M_229
              refine r_mput (kk := 36) h inU12 rfl (by decide) uf_180 rfl rfl rfl rfl dX12_moveTree_229 (fun M4 => ?_)
              refine r_aload_n (x := mo) dX12_moveTree_232 rfl rfl ?_
              refine r_mget (kk := 36) h inU12 rfl (by decide) uf_180 rfl rfl dX12_moveTree_233 ?_
              refine r_if_le (tgt := 241) dX12_moveTree_236 (by decide) ?_ ?_
              · refine ro_iconst (v := 0) dX12_moveTree_241 rfl ?_
                refine r_istore (lo2 := [(6, wi 0), (0, .ref mo), (1, wi a1), (2, wi a2), (3, wi v3_35), (5, wi v5_139)]) dX12_moveTree_242 (by decide) rfl ?_
                refine r_loop (P := fun (J : Int → Md → Option (Int × Md)) => ∀ (v6_244 : Int) (M_244 : Md), RunO l Γ k_X12_moveTree 5 encI (emM K0) 244 [(0, .ref mo), (1, wi a1), (2, wi a2), (3, wi v3_35), (5, wi v5_139), (6, wi v6_244)] [] M_244 (J v6_244 M_244)) ?_ (fun L244 hL244 => ?_) (fun J244 hJ244 => ?_)
                · intros; exact ro_none
                · intro v6_244 M_244
                  refine r_iload (x := v6_244) dX12_moveTree_244 rfl ?_
                  refine ro_iconst (v := 4) dX12_moveTree_246 rfl ?_
                  refine r_icmp_ge (tgt := 300) dX12_moveTree_247 (by decide) ?_ ?_
                  · refine r_aload_n (x := mo) dX12_moveTree_300 rfl rfl ?_
                    refine r_callVv (k2 := k_X12_settleTitles) (n := 0) (rest := []) rfl kv_X12_settleTitles (c_X12_settleTitles h _) (by decide) um_396 rfl (Nat.le_of_ble_eq_true rfl) dX12_moveTree_301 (m_rec h) rfl (fun r6 M5 => ?_)
                    refine ro_iconst (v := 0) dX12_moveTree_304 rfl ?_
                    refine r_istore (lo2 := [(6, wi 0), (0, .ref mo), (1, wi a1), (2, wi a2), (3, wi v3_35), (5, wi v5_139)]) dX12_moveTree_305 (by decide) rfl ?_
                    refine r_loop (P := fun (J : Int → Md → Option (Int × Md)) => ∀ (v6_307 : Int) (M_307 : Md), RunO l Γ k_X12_moveTree 5 encI (emM K0) 307 [(0, .ref mo), (1, wi a1), (2, wi a2), (3, wi v3_35), (5, wi v5_139), (6, wi v6_307)] [] M_307 (J v6_307 M_307)) ?_ (fun L307 hL307 => ?_) (fun J307 hJ307 => ?_)
                    · intros; exact ro_none
                    · intro v6_307 M_307
                      refine r_iload (x := v6_307) dX12_moveTree_307 rfl ?_
                      refine r_bipush (v := 24) dX12_moveTree_309 rfl ?_
                      refine r_icmp_ge (tgt := 365) dX12_moveTree_311 (by decide) ?_ ?_
                      · refine r_aload_n (x := mo) dX12_moveTree_365 rfl rfl ?_
                        refine r_callVv (k2 := k_X12_settleTitles) (n := 0) (rest := []) rfl kv_X12_settleTitles (c_X12_settleTitles h _) (by decide) um_396 rfl (Nat.le_of_ble_eq_true rfl) dX12_moveTree_366 (m_rec h) rfl (fun r8 M7 => ?_)
                        refine r_iload (x := v5_139) dX12_moveTree_369 rfl ?_
                        exact r_iret rfl dX12_moveTree_371
                      · refine r_aload_n (x := mo) dX12_moveTree_314 rfl rfl ?_
                        refine r_mgetA (kk := 6) h inU12 rfl (by decide) uf_19 rfl rfl dX12_moveTree_315 ?_
                        refine r_iload (x := v6_307) dX12_moveTree_318 rfl ?_
                        refine r_miald h (by decide) dX12_moveTree_320 ?_
                        refine ro_iconst (v := (-1)) dX12_moveTree_321 rfl ?_
                        refine r_join (P := fun (J : Md → Option (Int × Md)) => ∀ (M_359 : Md), RunO l Γ k_X12_moveTree 5 encI (emM K0) 359 [(0, .ref mo), (1, wi a1), (2, wi a2), (3, wi v3_35), (5, wi v5_139), (6, wi v6_307)] [] M_359 (J M_359)) ?_ (fun J359 hJ359 => ?_)
                        · intro M_359
                          refine r_iinc (x := v6_307) (lo2 := [(6, wi (v6_307 + 1)), (0, .ref mo), (1, wi a1), (2, wi a2), (3, wi v3_35), (5, wi v5_139)]) dX12_moveTree_359 rfl (by decide) rfl ?_
                          refine r_goto (tgt := 307) dX12_moveTree_362 (by decide) ?_
                          refine r_lo [1, 2, 3, 4, 5, 0] (lo2 := [(0, .ref mo), (1, wi a1), (2, wi a2), (3, wi v3_35), (5, wi v5_139), (6, wi (v6_307 + 1))]) rfl ?_
                          exact hL307 _ _
                        refine r_icmp_eq (tgt := 359) dX12_moveTree_322 (by decide) ?_ ?_
                        · exact hJ359 _
                        · refine r_aload_n (x := mo) dX12_moveTree_325 rfl rfl ?_
                          refine r_iload (x := v6_307) dX12_moveTree_326 rfl ?_
                          refine r_iload_n (x := a1) dX12_moveTree_328 rfl rfl ?_
                          refine r_iload_n (x := a2) dX12_moveTree_329 rfl rfl ?_
                          refine r_iload_n (x := v3_35) dX12_moveTree_330 rfl rfl ?_
                          refine r_callVi (k2 := k_X12_turns) (n := 4) (rest := []) rfl kv_X12_turns (c_X12_turns h _ _ _ _ _) (by decide) um_466 rfl (Nat.le_of_ble_eq_true rfl) dX12_moveTree_331 (m_rec h) rfl (fun r10 M9 => ?_)
                          refine r_if_eq (tgt := 359) dX12_moveTree_334 (by decide) ?_ ?_
                          · exact hJ359 _
                          · refine r_aload_n (x := mo) dX12_moveTree_337 rfl rfl ?_
                            refine r_aload_n (x := mo) dX12_moveTree_338 rfl rfl ?_
                            refine r_mgetA (kk := 6) h inU12 rfl (by decide) uf_19 rfl rfl dX12_moveTree_339 ?_
                            refine r_iload (x := v6_307) dX12_moveTree_342 rfl ?_
                            refine r_miald h (by decide) dX12_moveTree_344 ?_
                            refine r_aload_n (x := mo) dX12_moveTree_345 rfl rfl ?_
                            refine r_mgetA (kk := 76) h inU12 rfl (by decide) uf_174 rfl rfl dX12_moveTree_346 ?_
                            refine ro_iconst (v := 0) dX12_moveTree_349 rfl ?_
                            refine r_aload_n (x := mo) dX12_moveTree_350 rfl rfl ?_
                            refine r_mget (kk := 77) h inU12 rfl (by decide) uf_409 rfl rfl dX12_moveTree_351 ?_
                            refine r_callVi (k2 := k_X12_newVersionNow) (n := 4) (rest := []) rfl kv_X12_newVersionNow (c_X12_newVersionNow h _ _ _ _ (by decide) _) (by decide) um_450 rfl (Nat.le_of_ble_eq_true rfl) dX12_moveTree_354 (m_rec h) rfl (fun r12 M11 => ?_)
                            refine r_istore (lo2 := [(7, wi r12), (0, .ref mo), (1, wi a1), (2, wi a2), (3, wi v3_35), (5, wi v5_139), (6, wi v6_307)]) dX12_moveTree_357 (by decide) rfl ?_
                            refine r_lo [1, 2, 3, 4, 5, 6] (lo2 := [(0, .ref mo), (1, wi a1), (2, wi a2), (3, wi v3_35), (5, wi v5_139), (6, wi v6_307)]) rfl ?_
                            exact hJ359 _
                    refine r_lo [1, 2, 3, 4, 5, 0] (lo2 := [(0, .ref mo), (1, wi a1), (2, wi a2), (3, wi v3_35), (5, wi v5_139), (6, wi 0)]) rfl ?_
                    exact hJ307 _ _
                  · refine r_aload_n (x := mo) dX12_moveTree_250 rfl rfl ?_
                    refine ro_iconst (v := 4) dX12_moveTree_251 rfl ?_
                    refine r_iload_n (x := a1) dX12_moveTree_252 rfl rfl ?_
                    refine r_imul dX12_moveTree_253 ?_
                    refine r_iload (x := v6_244) dX12_moveTree_254 rfl ?_
                    refine r_iadd dX12_moveTree_256 ?_
                    refine r_callVv (k2 := k_X12_dropRendering) (n := 1) (rest := []) rfl kv_X12_dropRendering (c_X12_dropRendering h _ _) (by decide) um_460 rfl (Nat.le_of_ble_eq_true rfl) dX12_moveTree_257 (m_rec h) rfl (fun r14 M13 => ?_)
                    refine r_aload_n (x := mo) dX12_moveTree_260 rfl rfl ?_
                    refine r_mgetA (kk := 6) h inU12 rfl (by decide) uf_19 rfl rfl dX12_moveTree_261 ?_
                    refine ro_iconst (v := 4) dX12_moveTree_264 rfl ?_
                    refine r_iload_n (x := a2) dX12_moveTree_265 rfl rfl ?_
                    refine r_imul dX12_moveTree_266 ?_
                    refine r_iload (x := v6_244) dX12_moveTree_267 rfl ?_
                    refine r_iadd dX12_moveTree_269 ?_
                    refine r_aload_n (x := mo) dX12_moveTree_270 rfl rfl ?_
                    refine r_mgetA (kk := 6) h inU12 rfl (by decide) uf_19 rfl rfl dX12_moveTree_271 ?_
                    refine ro_iconst (v := 4) dX12_moveTree_274 rfl ?_
                    refine r_iload_n (x := a1) dX12_moveTree_275 rfl rfl ?_
                    refine r_imul dX12_moveTree_276 ?_
                    refine r_iload (x := v6_244) dX12_moveTree_277 rfl ?_
                    refine r_iadd dX12_moveTree_279 ?_
                    refine r_miald h (by decide) dX12_moveTree_280 ?_
                    refine r_miast h (by decide) dX12_moveTree_281 (fun M15 => ?_)
                    refine r_aload_n (x := mo) dX12_moveTree_282 rfl rfl ?_
                    refine r_mgetA (kk := 6) h inU12 rfl (by decide) uf_19 rfl rfl dX12_moveTree_283 ?_
                    refine ro_iconst (v := 4) dX12_moveTree_286 rfl ?_
                    refine r_iload_n (x := a1) dX12_moveTree_287 rfl rfl ?_
                    refine r_imul dX12_moveTree_288 ?_
                    refine r_iload (x := v6_244) dX12_moveTree_289 rfl ?_
                    refine r_iadd dX12_moveTree_291 ?_
                    refine ro_iconst (v := (-1)) dX12_moveTree_292 rfl ?_
                    refine r_miast h (by decide) dX12_moveTree_293 (fun M16 => ?_)
                    refine r_iinc (x := v6_244) (lo2 := [(6, wi (v6_244 + 1)), (0, .ref mo), (1, wi a1), (2, wi a2), (3, wi v3_35), (5, wi v5_139)]) dX12_moveTree_294 rfl (by decide) rfl ?_
                    refine r_goto (tgt := 244) dX12_moveTree_297 (by decide) ?_
                    refine r_lo [1, 2, 3, 4, 5, 0] (lo2 := [(0, .ref mo), (1, wi a1), (2, wi a2), (3, wi v3_35), (5, wi v5_139), (6, wi (v6_244 + 1))]) rfl ?_
                    exact hL244 _ _
                refine r_lo [1, 2, 3, 4, 5, 0] (lo2 := [(0, .ref mo), (1, wi a1), (2, wi a2), (3, wi v3_35), (5, wi v5_139), (6, wi 0)]) rfl ?_
                exact hJ244 _ _
              · refine ro_iconst (v := 0) dX12_moveTree_239 rfl ?_
                exact r_iret rfl dX12_moveTree_240
            refine r_join (P := fun (J : Md → Option (Int × Md)) => ∀ (M_225 : Md), RunO l Γ k_X12_moveTree 5 encI (emM K0) 225 [(0, .ref mo), (1, wi a1), (2, wi a2), (3, wi v3_35), (5, wi v5_139)] [.ref mo] M_225 (J M_225)) ?_ (fun J225 hJ225 => ?_)
            · intro M_225
              refine r_aload_n (x := mo) dX12_moveTree_225 rfl rfl ?_
              refine r_mget (kk := 36) h inU12 rfl (by decide) uf_180 rfl rfl dX12_moveTree_226 ?_
              exact hJ229 _ _
            refine r_if_ne (tgt := 225) dX12_moveTree_197 (by decide) ?_ ?_
            · refine r_lo [0, 1, 2, 3, 5] (lo2 := [(0, .ref mo), (1, wi a1), (2, wi a2), (3, wi v3_35), (5, wi v5_139)]) rfl ?_
              exact hJ225 _
            · refine r_iload (x := v4_35) dX12_moveTree_200 rfl ?_
              refine r_join (P := fun (J : Md → Option (Int × Md)) => ∀ (M_221 : Md), RunO l Γ k_X12_moveTree 5 encI (emM K0) 221 [(0, .ref mo), (1, wi a1), (2, wi a2), (3, wi v3_35), (5, wi v5_139)] [.ref mo] M_221 (J M_221)) ?_ (fun J221 hJ221 => ?_)
              · intro M_221
                refine ro_iconst (v := 2) dX12_moveTree_221 rfl ?_
                refine r_goto (tgt := 229) dX12_moveTree_222 (by decide) ?_
                exact hJ229 _ _
              refine r_if_eq (tgt := 221) dX12_moveTree_202 (by decide) ?_ ?_
              · refine r_lo [0, 1, 2, 3, 5] (lo2 := [(0, .ref mo), (1, wi a1), (2, wi a2), (3, wi v3_35), (5, wi v5_139)]) rfl ?_
                exact hJ221 _
              · refine r_iload_n (x := v3_35) dX12_moveTree_205 rfl rfl ?_
                refine r_if_eq (tgt := 221) dX12_moveTree_206 (by decide) ?_ ?_
                · refine r_lo [0, 1, 2, 3, 5] (lo2 := [(0, .ref mo), (1, wi a1), (2, wi a2), (3, wi v3_35), (5, wi v5_139)]) rfl ?_
                  exact hJ221 _
                · refine r_aload_n (x := mo) dX12_moveTree_209 rfl rfl ?_
                  refine r_mget (kk := 8) h inU12 rfl (by decide) uf_192 rfl rfl dX12_moveTree_210 ?_
                  refine r_iload (x := v5_139) dX12_moveTree_213 rfl ?_
                  refine r_iadd dX12_moveTree_215 ?_
                  refine r_bipush (v := 120) dX12_moveTree_216 rfl ?_
                  refine r_icmp_le (tgt := 225) dX12_moveTree_218 (by decide) ?_ ?_
                  · refine r_lo [0, 1, 2, 3, 5] (lo2 := [(0, .ref mo), (1, wi a1), (2, wi a2), (3, wi v3_35), (5, wi v5_139)]) rfl ?_
                    exact hJ225 _
                  · refine r_lo [0, 1, 2, 3, 5] (lo2 := [(0, .ref mo), (1, wi a1), (2, wi a2), (3, wi v3_35), (5, wi v5_139)]) rfl ?_
                    exact hJ221 _
          refine r_icmp_ge (tgt := 192) dX12_moveTree_143 (by decide) ?_ ?_
          · refine r_lo [0, 1, 2, 3, 4, 5] (lo2 := [(0, .ref mo), (1, wi a1), (2, wi a2), (3, wi v3_35), (4, wi v4_35), (5, wi v5_139)]) rfl ?_
            exact hJ192 _
          · refine r_aload_n (x := mo) dX12_moveTree_146 rfl rfl ?_
            refine r_mget (kk := 36) h inU12 rfl (by decide) uf_180 rfl rfl dX12_moveTree_147 ?_
            refine r_if_ne (tgt := 192) dX12_moveTree_150 (by decide) ?_ ?_
            · refine r_lo [0, 1, 2, 3, 4, 5] (lo2 := [(0, .ref mo), (1, wi a1), (2, wi a2), (3, wi v3_35), (4, wi v4_35), (5, wi v5_139)]) rfl ?_
              exact hJ192 _
            · refine r_iload (x := v5_139) dX12_moveTree_153 rfl ?_
              refine r_aload_n (x := mo) dX12_moveTree_155 rfl rfl ?_
              refine r_mgetA (kk := 6) h inU12 rfl (by decide) uf_19 rfl rfl dX12_moveTree_156 ?_
              refine r_iload (x := v6_139) dX12_moveTree_159 rfl ?_
              refine r_miald h (by decide) dX12_moveTree_161 ?_
              refine ro_iconst (v := (-1)) dX12_moveTree_162 rfl ?_
              refine r_join (P := fun (J : Int → Md → Option (Int × Md)) => ∀ (t0_183 : Int) (M_183 : Md), RunO l Γ k_X12_moveTree 5 encI (emM K0) 183 [(0, .ref mo), (1, wi a1), (2, wi a2), (3, wi v3_35), (4, wi v4_35), (6, wi v6_139)] [wi t0_183, wi v5_139] M_183 (J t0_183 M_183)) ?_ (fun J183 hJ183 => ?_)
              · intro t0_183 M_183
                refine r_iadd dX12_moveTree_183 ?_
                refine r_nm (fun x5_184 => ?_)
                refine r_istore (lo2 := [(5, wi x5_184), (0, .ref mo), (1, wi a1), (2, wi a2), (3, wi v3_35), (4, wi v4_35), (6, wi v6_139)]) dX12_moveTree_184 (by decide) rfl ?_
                refine r_iinc (x := v6_139) (lo2 := [(6, wi (v6_139 + 1)), (5, wi x5_184), (0, .ref mo), (1, wi a1), (2, wi a2), (3, wi v3_35), (4, wi v4_35)]) dX12_moveTree_186 rfl (by decide) rfl ?_
                refine r_goto (tgt := 139) dX12_moveTree_189 (by decide) ?_
                refine r_lo [2, 3, 4, 5, 6, 1, 0] (lo2 := [(0, .ref mo), (1, wi a1), (2, wi a2), (3, wi v3_35), (4, wi v4_35), (5, wi x5_184), (6, wi (v6_139 + 1))]) rfl ?_
                exact hL139 _ _ _
              refine r_join (P := fun (J : Md → Option (Int × Md)) => ∀ (M_182 : Md), RunO l Γ k_X12_moveTree 5 encI (emM K0) 182 [(0, .ref mo), (1, wi a1), (2, wi a2), (3, wi v3_35), (4, wi v4_35), (6, wi v6_139)] [wi v5_139] M_182 (J M_182)) ?_ (fun J182 hJ182 => ?_)
              · intro M_182
                refine ro_iconst (v := 0) dX12_moveTree_182 rfl ?_
                exact hJ183 _ _
              refine r_icmp_eq (tgt := 182) dX12_moveTree_163 (by decide) ?_ ?_
              · refine r_lo [0, 1, 2, 3, 4, 6] (lo2 := [(0, .ref mo), (1, wi a1), (2, wi a2), (3, wi v3_35), (4, wi v4_35), (6, wi v6_139)]) rfl ?_
                exact hJ182 _
              · refine r_aload_n (x := mo) dX12_moveTree_166 rfl rfl ?_
                refine r_iload (x := v6_139) dX12_moveTree_167 rfl ?_
                refine r_iload_n (x := a1) dX12_moveTree_169 rfl rfl ?_
                refine r_iload_n (x := a2) dX12_moveTree_170 rfl rfl ?_
                refine r_iload_n (x := v3_35) dX12_moveTree_171 rfl rfl ?_
                refine r_callVi (k2 := k_X12_turns) (n := 4) (rest := [wi v5_139]) rfl kv_X12_turns (c_X12_turns h _ _ _ _ _) (by decide) um_466 rfl (Nat.le_of_ble_eq_true rfl) dX12_moveTree_172 (m_rec h) rfl (fun r18 M17 => ?_)
                refine r_if_eq (tgt := 182) dX12_moveTree_175 (by decide) ?_ ?_
                · refine r_lo [0, 1, 2, 3, 4, 6] (lo2 := [(0, .ref mo), (1, wi a1), (2, wi a2), (3, wi v3_35), (4, wi v4_35), (6, wi v6_139)]) rfl ?_
                  exact hJ182 _
                · refine ro_iconst (v := 1) dX12_moveTree_178 rfl ?_
                  refine r_goto (tgt := 183) dX12_moveTree_179 (by decide) ?_
                  refine r_lo [0, 1, 2, 3, 4, 6] (lo2 := [(0, .ref mo), (1, wi a1), (2, wi a2), (3, wi v3_35), (4, wi v4_35), (6, wi v6_139)]) rfl ?_
                  exact hJ183 _ _
        refine r_lo [2, 3, 4, 5, 6, 1, 0] (lo2 := [(0, .ref mo), (1, wi a1), (2, wi a2), (3, wi v3_35), (4, wi v4_35), (5, wi 0), (6, wi 0)]) rfl ?_
        exact hJ139 _ _ _
      refine r_icmp_ge (tgt := 133) dX12_moveTree_38 (by decide) ?_ ?_
      · refine r_lo [0, 1, 2, 3, 4] (lo2 := [(0, .ref mo), (1, wi a1), (2, wi a2), (3, wi v3_35), (4, wi v4_35)]) rfl ?_
        exact hJ133 _
      · refine r_aload_n (x := mo) dX12_moveTree_41 rfl rfl ?_
        refine r_mget (kk := 36) h inU12 rfl (by decide) uf_180 rfl rfl dX12_moveTree_42 ?_
        refine r_if_ne (tgt := 133) dX12_moveTree_45 (by decide) ?_ ?_
        · refine r_lo [0, 1, 2, 3, 4] (lo2 := [(0, .ref mo), (1, wi a1), (2, wi a2), (3, wi v3_35), (4, wi v4_35)]) rfl ?_
          exact hJ133 _
        · refine r_iload_n (x := v3_35) dX12_moveTree_48 rfl rfl ?_
          refine r_aload_n (x := mo) dX12_moveTree_49 rfl rfl ?_
          refine r_mgetA (kk := 6) h inU12 rfl (by decide) uf_19 rfl rfl dX12_moveTree_50 ?_
          refine ro_iconst (v := 4) dX12_moveTree_53 rfl ?_
          refine r_iload_n (x := a1) dX12_moveTree_54 rfl rfl ?_
          refine r_imul dX12_moveTree_55 ?_
          refine r_iload (x := v5_35) dX12_moveTree_56 rfl ?_
          refine r_iadd dX12_moveTree_58 ?_
          refine r_miald h (by decide) dX12_moveTree_59 ?_
          refine ro_iconst (v := (-1)) dX12_moveTree_60 rfl ?_
          refine r_join (P := fun (J : Int → Md → Option (Int × Md)) => ∀ (t0_72 : Int) (M_72 : Md), RunO l Γ k_X12_moveTree 5 encI (emM K0) 72 [(0, .ref mo), (1, wi a1), (2, wi a2), (4, wi v4_35), (5, wi v5_35)] [wi t0_72, wi v3_35] M_72 (J t0_72 M_72)) ?_ (fun J72 hJ72 => ?_)
          · intro t0_72 M_72
            refine r_ior dX12_moveTree_72 ?_
            refine r_nm (fun x3_73 => ?_)
            refine r_istore_n (lo2 := [(3, wi x3_73), (0, .ref mo), (1, wi a1), (2, wi a2), (4, wi v4_35), (5, wi v5_35)]) dX12_moveTree_73 rfl (by decide) rfl ?_
            refine r_iload (x := v4_35) dX12_moveTree_74 rfl ?_
            refine r_join (P := fun (J : Int → Md → Option (Int × Md)) => ∀ (t0_125 : Int) (M_125 : Md), RunO l Γ k_X12_moveTree 5 encI (emM K0) 125 [(0, .ref mo), (1, wi a1), (2, wi a2), (3, wi x3_73), (5, wi v5_35)] [wi t0_125] M_125 (J t0_125 M_125)) ?_ (fun J125 hJ125 => ?_)
            · intro t0_125 M_125
              refine r_istore (lo2 := [(4, wi t0_125), (0, .ref mo), (1, wi a1), (2, wi a2), (3, wi x3_73), (5, wi v5_35)]) dX12_moveTree_125 (by decide) rfl ?_
              refine r_iinc (x := v5_35) (lo2 := [(5, wi (v5_35 + 1)), (4, wi t0_125), (0, .ref mo), (1, wi a1), (2, wi a2), (3, wi x3_73)]) dX12_moveTree_127 rfl (by decide) rfl ?_
              refine r_goto (tgt := 35) dX12_moveTree_130 (by decide) ?_
              refine r_lo [2, 3, 4, 5, 1, 0] (lo2 := [(0, .ref mo), (1, wi a1), (2, wi a2), (3, wi x3_73), (4, wi t0_125), (5, wi (v5_35 + 1))]) rfl ?_
              exact hL35 _ _ _ _
            refine r_join (P := fun (J : Md → Option (Int × Md)) => ∀ (M_124 : Md), RunO l Γ k_X12_moveTree 5 encI (emM K0) 124 [(0, .ref mo), (1, wi a1), (2, wi a2), (3, wi x3_73), (5, wi v5_35)] [] M_124 (J M_124)) ?_ (fun J124 hJ124 => ?_)
            · intro M_124
              refine ro_iconst (v := 0) dX12_moveTree_124 rfl ?_
              exact hJ125 _ _
            refine r_if_eq (tgt := 124) dX12_moveTree_76 (by decide) ?_ ?_
            · refine r_lo [1, 2, 3, 0, 5] (lo2 := [(0, .ref mo), (1, wi a1), (2, wi a2), (3, wi x3_73), (5, wi v5_35)]) rfl ?_
              exact hJ124 _
            · refine r_aload_n (x := mo) dX12_moveTree_79 rfl rfl ?_
              refine r_mgetA (kk := 6) h inU12 rfl (by decide) uf_19 rfl rfl dX12_moveTree_80 ?_
              refine ro_iconst (v := 4) dX12_moveTree_83 rfl ?_
              refine r_iload_n (x := a2) dX12_moveTree_84 rfl rfl ?_
              refine r_imul dX12_moveTree_85 ?_
              refine r_iload (x := v5_35) dX12_moveTree_86 rfl ?_
              refine r_iadd dX12_moveTree_88 ?_
              refine r_miald h (by decide) dX12_moveTree_89 ?_
              refine ro_iconst (v := (-1)) dX12_moveTree_90 rfl ?_
              refine r_icmp_ne (tgt := 124) dX12_moveTree_91 (by decide) ?_ ?_
              · refine r_lo [1, 2, 3, 0, 5] (lo2 := [(0, .ref mo), (1, wi a1), (2, wi a2), (3, wi x3_73), (5, wi v5_35)]) rfl ?_
                exact hJ124 _
              · refine r_aload_n (x := mo) dX12_moveTree_94 rfl rfl ?_
                refine ro_iconst (v := 4) dX12_moveTree_95 rfl ?_
                refine r_iload_n (x := a1) dX12_moveTree_96 rfl rfl ?_
                refine r_imul dX12_moveTree_97 ?_
                refine r_iload (x := v5_35) dX12_moveTree_98 rfl ?_
                refine r_iadd dX12_moveTree_100 ?_
                refine r_callVi (k2 := k_X12_mayAt) (n := 1) (rest := []) rfl kv_X12_mayAt (c_X12_mayAt h _ _) (by decide) um_393 rfl (Nat.le_of_ble_eq_true rfl) dX12_moveTree_101 (m_rec h) rfl (fun r20 M19 => ?_)
                refine r_if_eq (tgt := 124) dX12_moveTree_104 (by decide) ?_ ?_
                · refine r_lo [1, 2, 3, 0, 5] (lo2 := [(0, .ref mo), (1, wi a1), (2, wi a2), (3, wi x3_73), (5, wi v5_35)]) rfl ?_
                  exact hJ124 _
                · refine r_aload_n (x := mo) dX12_moveTree_107 rfl rfl ?_
                  refine ro_iconst (v := 4) dX12_moveTree_108 rfl ?_
                  refine r_iload_n (x := a2) dX12_moveTree_109 rfl rfl ?_
                  refine r_imul dX12_moveTree_110 ?_
                  refine r_iload (x := v5_35) dX12_moveTree_111 rfl ?_
                  refine r_iadd dX12_moveTree_113 ?_
                  refine r_callVi (k2 := k_X12_mayAt) (n := 1) (rest := []) rfl kv_X12_mayAt (c_X12_mayAt h _ _) (by decide) um_393 rfl (Nat.le_of_ble_eq_true rfl) dX12_moveTree_114 (m_rec h) rfl (fun r22 M21 => ?_)
                  refine r_if_eq (tgt := 124) dX12_moveTree_117 (by decide) ?_ ?_
                  · refine r_lo [1, 2, 3, 0, 5] (lo2 := [(0, .ref mo), (1, wi a1), (2, wi a2), (3, wi x3_73), (5, wi v5_35)]) rfl ?_
                    exact hJ124 _
                  · refine ro_iconst (v := 1) dX12_moveTree_120 rfl ?_
                    refine r_goto (tgt := 125) dX12_moveTree_121 (by decide) ?_
                    refine r_lo [1, 2, 3, 0, 5] (lo2 := [(0, .ref mo), (1, wi a1), (2, wi a2), (3, wi x3_73), (5, wi v5_35)]) rfl ?_
                    exact hJ125 _ _
          refine r_icmp_ne (tgt := 68) dX12_moveTree_61 (by decide) ?_ ?_
          · refine ro_iconst (v := 1) dX12_moveTree_68 rfl ?_
            refine r_iload (x := v5_35) dX12_moveTree_69 rfl ?_
            refine r_ishl dX12_moveTree_71 ?_
            refine r_lo [0, 1, 2, 4, 5] (lo2 := [(0, .ref mo), (1, wi a1), (2, wi a2), (4, wi v4_35), (5, wi v5_35)]) rfl ?_
            exact hJ72 _ _
          · refine ro_iconst (v := 0) dX12_moveTree_64 rfl ?_
            refine r_goto (tgt := 72) dX12_moveTree_65 (by decide) ?_
            refine r_lo [0, 1, 2, 4, 5] (lo2 := [(0, .ref mo), (1, wi a1), (2, wi a2), (4, wi v4_35), (5, wi v5_35)]) rfl ?_
            exact hJ72 _ _
    refine r_lo [3, 4, 5, 2, 1, 0] (lo2 := [(0, .ref mo), (1, wi a1), (2, wi a2), (3, wi 0), (4, wi 1), (5, wi 0)]) rfl ?_
    exact hJ35 _ _ _ _
  refine r_join (P := fun (J : Md → Option (Int × Md)) => ∀ (M_23 : Md), RunO l Γ k_X12_moveTree 5 encI (emM K0) 23 [(0, .ref mo), (1, wi a1), (2, wi a2)] [.ref mo] M_23 (J M_23)) ?_ (fun J23 hJ23 => ?_)
  · intro M_23
    refine ro_iconst (v := 1) dX12_moveTree_23 rfl ?_
    exact hJ24 _ _
  refine r_if_eq (tgt := 23) dX12_moveTree_7 (by decide) ?_ ?_
  · exact hJ23 _
  · refine r_iload_n (x := a2) dX12_moveTree_10 rfl rfl ?_
    refine ro_iconst (v := 0) dX12_moveTree_11 rfl ?_
    refine ro_iconst (v := 5) dX12_moveTree_12 rfl ?_
    refine r_callSi (k2 := k_X12_in) (n := 3) (rest := [.ref mo]) rfl kv_X12_in (c_X12_in h _ _ _ _) (by decide) um_184 rfl (Nat.le_of_ble_eq_true rfl) dX12_moveTree_13 rfl (fun r24 M23 => ?_)
    refine r_if_eq (tgt := 23) dX12_moveTree_16 (by decide) ?_ ?_
    · exact hJ23 _
    · refine ro_iconst (v := 0) dX12_moveTree_19 rfl ?_
      refine r_goto (tgt := 24) dX12_moveTree_20 (by decide) ?_
      exact hJ24 _ _
def k_X12_nextStale : Kd := (yX12_nextStale, cX12_nextStale, 4, some .int, [])
theorem kv_X12_nextStale : KV k_X12_nextStale 0 := ⟨uw_mem 1909 (by decide +kernel) rfl, uw_mem 170 (by decide +kernel) rfl, uw_mem 1908 (by decide +kernel) rfl, uw_mem 96 (by decide +kernel) rfl, ⟨by decide +kernel, by decide +kernel⟩, by decide +kernel, by decide +kernel⟩
set_option maxHeartbeats 4000000 in
set_option maxRecDepth 100000 in
theorem c_X12_nextStale {l : Launch} {Γ : Cx} {K0 : Cd} {mo : Nat} {ma : Nat → Nat} (h : mOn Γ mo ma)  (M : Md) : Ct l Γ k_X12_nextStale 2 encI (emM K0) [.ref mo] M (fX12_nextStale  M) := by
  refine ct_of (by decide +kernel) rfl (Nat.le_of_ble_eq_true rfl) ?_
  refine r_lo [0] (lo2 := [(0, .ref mo)]) rfl ?_
  unfold fX12_nextStale
  refine ro_iconst (v := (-1)) dX12_nextStale_0 rfl ?_
  refine r_istore_n (lo2 := [(1, wi (-1)), (0, .ref mo)]) dX12_nextStale_1 rfl (by decide) rfl ?_
  refine ro_iconst (v := 0) dX12_nextStale_2 rfl ?_
  refine r_istore_n (lo2 := [(2, wi 0), (1, wi (-1)), (0, .ref mo)]) dX12_nextStale_3 rfl (by decide) rfl ?_
  refine r_loop (P := fun (J : Int → Int → Md → Option (Int × Md)) => ∀ (v1_4 : Int) (v2_4 : Int) (M_4 : Md), RunO l Γ k_X12_nextStale 2 encI (emM K0) 4 [(0, .ref mo), (1, wi v1_4), (2, wi v2_4)] [] M_4 (J v1_4 v2_4 M_4)) ?_ (fun L4 hL4 => ?_) (fun J4 hJ4 => ?_)
  · intros; exact ro_none
  · intro v1_4 v2_4 M_4
    refine r_iload_n (x := v2_4) dX12_nextStale_4 rfl rfl ?_
    refine r_bipush (v := 24) dX12_nextStale_5 rfl ?_
    refine r_icmp_ge (tgt := 70) dX12_nextStale_7 (by decide) ?_ ?_
    · refine r_iload_n (x := v1_4) dX12_nextStale_70 rfl rfl ?_
      exact r_iret rfl dX12_nextStale_71
    · refine r_aload_n (x := mo) dX12_nextStale_10 rfl rfl ?_
      refine r_mgetA (kk := 6) h inU12 rfl (by decide) uf_19 rfl rfl dX12_nextStale_11 ?_
      refine r_iload_n (x := v2_4) dX12_nextStale_14 rfl rfl ?_
      refine r_miald h (by decide) dX12_nextStale_15 ?_
      refine ro_iconst (v := (-1)) dX12_nextStale_16 rfl ?_
      refine r_join (P := fun (J : Int → Md → Option (Int × Md)) => ∀ (t0_33 : Int) (M_33 : Md), RunO l Γ k_X12_nextStale 2 encI (emM K0) 33 [(0, .ref mo), (1, wi v1_4), (2, wi v2_4)] [wi t0_33] M_33 (J t0_33 M_33)) ?_ (fun J33 hJ33 => ?_)
      · intro t0_33 M_33
        refine r_istore_n (lo2 := [(3, wi t0_33), (0, .ref mo), (1, wi v1_4), (2, wi v2_4)]) dX12_nextStale_33 rfl (by decide) rfl ?_
        refine r_iload_n (x := t0_33) dX12_nextStale_34 rfl rfl ?_
        refine r_join (P := fun (J : Int → Md → Option (Int × Md)) => ∀ (t0_63 : Int) (M_63 : Md), RunO l Γ k_X12_nextStale 2 encI (emM K0) 63 [(0, .ref mo), (2, wi v2_4)] [wi t0_63] M_63 (J t0_63 M_63)) ?_ (fun J63 hJ63 => ?_)
        · intro t0_63 M_63
          refine r_istore_n (lo2 := [(1, wi t0_63), (0, .ref mo), (2, wi v2_4)]) dX12_nextStale_63 rfl (by decide) rfl ?_
          refine r_iinc (x := v2_4) (lo2 := [(2, wi (v2_4 + 1)), (1, wi t0_63), (0, .ref mo)]) dX12_nextStale_64 rfl (by decide) rfl ?_
          refine r_goto (tgt := 4) dX12_nextStale_67 (by decide) ?_
          refine r_lo [2, 1, 0] (lo2 := [(0, .ref mo), (1, wi t0_63), (2, wi (v2_4 + 1))]) rfl ?_
          exact hL4 _ _ _
        refine r_join (P := fun (J : Md → Option (Int × Md)) => ∀ (M_62 : Md), RunO l Γ k_X12_nextStale 2 encI (emM K0) 62 [(0, .ref mo), (1, wi v1_4), (2, wi v2_4)] [] M_62 (J M_62)) ?_ (fun J62 hJ62 => ?_)
        · intro M_62
          refine r_iload_n (x := v1_4) dX12_nextStale_62 rfl rfl ?_
          refine r_lo [0, 2] (lo2 := [(0, .ref mo), (2, wi v2_4)]) rfl ?_
          exact hJ63 _ _
        refine r_if_eq (tgt := 62) dX12_nextStale_35 (by decide) ?_ ?_
        · refine r_lo [1, 2, 3] (lo2 := [(0, .ref mo), (1, wi v1_4), (2, wi v2_4)]) rfl ?_
          exact hJ62 _
        · refine r_iload_n (x := v1_4) dX12_nextStale_38 rfl rfl ?_
          refine ro_iconst (v := (-1)) dX12_nextStale_39 rfl ?_
          refine r_join (P := fun (J : Md → Option (Int × Md)) => ∀ (M_58 : Md), RunO l Γ k_X12_nextStale 2 encI (emM K0) 58 [(0, .ref mo), (2, wi v2_4)] [] M_58 (J M_58)) ?_ (fun J58 hJ58 => ?_)
          · intro M_58
            refine r_iload_n (x := v2_4) dX12_nextStale_58 rfl rfl ?_
            refine r_goto (tgt := 63) dX12_nextStale_59 (by decide) ?_
            exact hJ63 _ _
          refine r_icmp_eq (tgt := 58) dX12_nextStale_40 (by decide) ?_ ?_
          · refine r_lo [1, 3] (lo2 := [(0, .ref mo), (2, wi v2_4)]) rfl ?_
            exact hJ58 _
          · refine r_aload_n (x := mo) dX12_nextStale_43 rfl rfl ?_
            refine r_mgetA (kk := 4) h inU12 rfl (by decide) uf_16 rfl rfl dX12_nextStale_44 ?_
            refine r_iload_n (x := v2_4) dX12_nextStale_47 rfl rfl ?_
            refine r_miald h (by decide) dX12_nextStale_48 ?_
            refine r_aload_n (x := mo) dX12_nextStale_49 rfl rfl ?_
            refine r_mgetA (kk := 4) h inU12 rfl (by decide) uf_16 rfl rfl dX12_nextStale_50 ?_
            refine r_iload_n (x := v1_4) dX12_nextStale_53 rfl rfl ?_
            refine r_miald h (by decide) dX12_nextStale_54 ?_
            refine r_icmp_le (tgt := 62) dX12_nextStale_55 (by decide) ?_ ?_
            · refine r_lo [1, 2, 3] (lo2 := [(0, .ref mo), (1, wi v1_4), (2, wi v2_4)]) rfl ?_
              exact hJ62 _
            · refine r_lo [1, 3] (lo2 := [(0, .ref mo), (2, wi v2_4)]) rfl ?_
              exact hJ58 _
      refine r_join (P := fun (J : Md → Option (Int × Md)) => ∀ (M_32 : Md), RunO l Γ k_X12_nextStale 2 encI (emM K0) 32 [(0, .ref mo), (1, wi v1_4), (2, wi v2_4)] [] M_32 (J M_32)) ?_ (fun J32 hJ32 => ?_)
      · intro M_32
        refine ro_iconst (v := 0) dX12_nextStale_32 rfl ?_
        exact hJ33 _ _
      refine r_icmp_eq (tgt := 32) dX12_nextStale_17 (by decide) ?_ ?_
      · exact hJ32 _
      · refine r_aload_n (x := mo) dX12_nextStale_20 rfl rfl ?_
        refine r_iload_n (x := v2_4) dX12_nextStale_21 rfl rfl ?_
        refine r_callVi (k2 := k_X12_isOld) (n := 1) (rest := []) rfl kv_X12_isOld (c_X12_isOld h _ _) (by decide) um_372 rfl (Nat.le_of_ble_eq_true rfl) dX12_nextStale_22 (m_rec h) rfl (fun r2 M1 => ?_)
        refine r_if_eq (tgt := 32) dX12_nextStale_25 (by decide) ?_ ?_
        · exact hJ32 _
        · refine ro_iconst (v := 1) dX12_nextStale_28 rfl ?_
          refine r_goto (tgt := 33) dX12_nextStale_29 (by decide) ?_
          exact hJ33 _ _
  refine r_lo [2, 1, 0] (lo2 := [(0, .ref mo), (1, wi (-1)), (2, wi 0)]) rfl ?_
  exact hJ4 _ _ _
def k_X12_odd : Kd := (yX12_odd, cX12_odd, 6, some .int, [])
theorem kv_X12_odd : KV k_X12_odd 1 := ⟨uw_mem 2289 (by decide +kernel) rfl, uw_mem 170 (by decide +kernel) rfl, uw_mem 2287 (by decide +kernel) rfl, uw_mem 2288 (by decide +kernel) rfl, ⟨by decide +kernel, by decide +kernel⟩, by decide +kernel, by decide +kernel⟩
set_option maxHeartbeats 4000000 in
set_option maxRecDepth 100000 in
theorem c_X12_odd {l : Launch} {Γ : Cx} {K0 : Cd} {mo : Nat} {ma : Nat → Nat} (h : mOn Γ mo ma) (a1 : Int) (M : Md) : Ct l Γ k_X12_odd 8 encI (emM K0) [.ref mo, wi a1] M (fX12_odd a1 M) := by
  refine ct_of (by decide +kernel) rfl (Nat.le_of_ble_eq_true rfl) ?_
  refine r_lo [0, 1] (lo2 := [(0, .ref mo), (1, wi a1)]) rfl ?_
  unfold fX12_odd
  refine r_aload_n (x := mo) dX12_odd_0 rfl rfl ?_
  refine ro_iconst (v := 0) dX12_odd_1 rfl ?_
  refine r_mput (kk := 36) h inU12 rfl (by decide) uf_180 rfl rfl rfl rfl dX12_odd_2 (fun M1 => ?_)
  refine ro_iconst (v := 0) dX12_odd_5 rfl ?_
  refine r_istore_n (lo2 := [(2, wi 0), (0, .ref mo), (1, wi a1)]) dX12_odd_6 rfl (by decide) rfl ?_
  refine ro_iconst (v := 0) dX12_odd_7 rfl ?_
  refine r_istore_n (lo2 := [(3, wi 0), (2, wi 0), (0, .ref mo), (1, wi a1)]) dX12_odd_8 rfl (by decide) rfl ?_
  refine r_loop (P := fun (J : Int → Int → Md → Option (Int × Md)) => ∀ (v2_9 : Int) (v3_9 : Int) (M_9 : Md), RunO l Γ k_X12_odd 8 encI (emM K0) 9 [(0, .ref mo), (1, wi a1), (2, wi v2_9), (3, wi v3_9)] [] M_9 (J v2_9 v3_9 M_9)) ?_ (fun L9 hL9 => ?_) (fun J9 hJ9 => ?_)
  · intros; exact ro_none
  · intro v2_9 v3_9 M_9
    refine r_iload_n (x := v3_9) dX12_odd_9 rfl rfl ?_
    refine r_bipush (v := 24) dX12_odd_10 rfl ?_
    refine r_icmp_ge (tgt := 133) dX12_odd_12 (by decide) ?_ ?_
    · refine r_iload_n (x := v2_9) dX12_odd_133 rfl rfl ?_
      exact r_iret rfl dX12_odd_134
    · refine ro_iconst (v := 0) dX12_odd_15 rfl ?_
      refine r_istore (lo2 := [(4, wi 0), (0, .ref mo), (1, wi a1), (2, wi v2_9), (3, wi v3_9)]) dX12_odd_16 (by decide) rfl ?_
      refine r_iload_n (x := a1) dX12_odd_18 rfl rfl ?_
      refine r_join (P := fun (J : Int → Md → Option (Int × Md)) => ∀ (v4_112 : Int) (M_112 : Md), RunO l Γ k_X12_odd 8 encI (emM K0) 112 [(0, .ref mo), (1, wi a1), (2, wi v2_9), (3, wi v3_9), (4, wi v4_112)] [] M_112 (J v4_112 M_112)) ?_ (fun J112 hJ112 => ?_)
      · intro v4_112 M_112
        refine r_iload_n (x := v2_9) dX12_odd_112 rfl rfl ?_
        refine r_iload (x := v4_112) dX12_odd_113 rfl ?_
        refine r_join (P := fun (J : Int → Md → Option (Int × Md)) => ∀ (t0_125 : Int) (M_125 : Md), RunO l Γ k_X12_odd 8 encI (emM K0) 125 [(0, .ref mo), (1, wi a1), (3, wi v3_9)] [wi t0_125, wi v2_9] M_125 (J t0_125 M_125)) ?_ (fun J125 hJ125 => ?_)
        · intro t0_125 M_125
          refine r_ior dX12_odd_125 ?_
          refine r_nm (fun x2_126 => ?_)
          refine r_istore_n (lo2 := [(2, wi x2_126), (0, .ref mo), (1, wi a1), (3, wi v3_9)]) dX12_odd_126 rfl (by decide) rfl ?_
          refine r_iinc (x := v3_9) (lo2 := [(3, wi (v3_9 + 1)), (2, wi x2_126), (0, .ref mo), (1, wi a1)]) dX12_odd_127 rfl (by decide) rfl ?_
          refine r_goto (tgt := 9) dX12_odd_130 (by decide) ?_
          refine r_lo [2, 3, 1, 0] (lo2 := [(0, .ref mo), (1, wi a1), (2, wi x2_126), (3, wi (v3_9 + 1))]) rfl ?_
          exact hL9 _ _ _
        refine r_if_eq (tgt := 124) dX12_odd_115 (by decide) ?_ ?_
        · refine ro_iconst (v := 0) dX12_odd_124 rfl ?_
          refine r_lo [0, 1, 3] (lo2 := [(0, .ref mo), (1, wi a1), (3, wi v3_9)]) rfl ?_
          exact hJ125 _ _
        · refine ro_iconst (v := 1) dX12_odd_118 rfl ?_
          refine r_iload_n (x := v3_9) dX12_odd_119 rfl rfl ?_
          refine r_ishl dX12_odd_120 ?_
          refine r_goto (tgt := 125) dX12_odd_121 (by decide) ?_
          refine r_lo [0, 1, 3] (lo2 := [(0, .ref mo), (1, wi a1), (3, wi v3_9)]) rfl ?_
          exact hJ125 _ _
      refine r_if_eq (tgt := 88) dX12_odd_19 (by decide) ?_ ?_
      · refine r_aload_n (x := mo) dX12_odd_88 rfl rfl ?_
        refine r_iload_n (x := v3_9) dX12_odd_89 rfl rfl ?_
        refine r_callVi (k2 := k_X12_leadsTo) (n := 1) (rest := []) rfl kv_X12_leadsTo (c_X12_leadsTo h _ _) (by decide) um_479 rfl (Nat.le_of_ble_eq_true rfl) dX12_odd_90 (m_rec h) rfl (fun r3 M2 => ?_)
        refine r_iload_n (x := v3_9) dX12_odd_93 rfl rfl ?_
        refine r_join (P := fun (J : Int → Md → Option (Int × Md)) => ∀ (t0_110 : Int) (M_110 : Md), RunO l Γ k_X12_odd 8 encI (emM K0) 110 [(0, .ref mo), (1, wi a1), (2, wi v2_9), (3, wi v3_9)] [wi t0_110] M_110 (J t0_110 M_110)) ?_ (fun J110 hJ110 => ?_)
        · intro t0_110 M_110
          refine r_istore (lo2 := [(4, wi t0_110), (0, .ref mo), (1, wi a1), (2, wi v2_9), (3, wi v3_9)]) dX12_odd_110 (by decide) rfl ?_
          refine r_lo [1, 2, 3, 4, 0] (lo2 := [(0, .ref mo), (1, wi a1), (2, wi v2_9), (3, wi v3_9), (4, wi t0_110)]) rfl ?_
          exact hJ112 _ _
        refine r_join (P := fun (J : Md → Option (Int × Md)) => ∀ (M_109 : Md), RunO l Γ k_X12_odd 8 encI (emM K0) 109 [(0, .ref mo), (1, wi a1), (2, wi v2_9), (3, wi v3_9)] [] M_109 (J M_109)) ?_ (fun J109 hJ109 => ?_)
        · intro M_109
          refine ro_iconst (v := 0) dX12_odd_109 rfl ?_
          exact hJ110 _ _
        refine r_icmp_ne (tgt := 109) dX12_odd_94 (by decide) ?_ ?_
        · refine r_lo [1, 2, 3, 4] (lo2 := [(0, .ref mo), (1, wi a1), (2, wi v2_9), (3, wi v3_9)]) rfl ?_
          exact hJ109 _
        · refine r_aload_n (x := mo) dX12_odd_97 rfl rfl ?_
          refine r_iload_n (x := v3_9) dX12_odd_98 rfl rfl ?_
          refine r_callVi (k2 := k_X12_isLinked) (n := 1) (rest := []) rfl kv_X12_isLinked (c_X12_isLinked h _ _) (by decide) um_482 rfl (Nat.le_of_ble_eq_true rfl) dX12_odd_99 (m_rec h) rfl (fun r5 M4 => ?_)
          refine r_if_ne (tgt := 109) dX12_odd_102 (by decide) ?_ ?_
          · refine r_lo [1, 2, 3, 4] (lo2 := [(0, .ref mo), (1, wi a1), (2, wi v2_9), (3, wi v3_9)]) rfl ?_
            exact hJ109 _
          · refine ro_iconst (v := 1) dX12_odd_105 rfl ?_
            refine r_goto (tgt := 110) dX12_odd_106 (by decide) ?_
            refine r_lo [1, 2, 3, 4] (lo2 := [(0, .ref mo), (1, wi a1), (2, wi v2_9), (3, wi v3_9)]) rfl ?_
            exact hJ110 _ _
      · refine ro_iconst (v := 0) dX12_odd_22 rfl ?_
        refine r_istore (lo2 := [(5, wi 0), (4, wi 0), (0, .ref mo), (1, wi a1), (2, wi v2_9), (3, wi v3_9)]) dX12_odd_23 (by decide) rfl ?_
        refine r_loop (P := fun (J : Int → Int → Md → Option (Int × Md)) => ∀ (v4_25 : Int) (v5_25 : Int) (M_25 : Md), RunO l Γ k_X12_odd 8 encI (emM K0) 25 [(0, .ref mo), (1, wi a1), (2, wi v2_9), (3, wi v3_9), (4, wi v4_25), (5, wi v5_25)] [] M_25 (J v4_25 v5_25 M_25)) ?_ (fun L25 hL25 => ?_) (fun J25 hJ25 => ?_)
        · intros; exact ro_none
        · intro v4_25 v5_25 M_25
          refine r_iload (x := v5_25) dX12_odd_25 rfl ?_
          refine r_bipush (v := 24) dX12_odd_27 rfl ?_
          refine r_icmp_ge (tgt := 85) dX12_odd_29 (by decide) ?_ ?_
          · refine r_goto (tgt := 112) dX12_odd_85 (by decide) ?_
            refine r_lo [0, 1, 2, 3, 4] (lo2 := [(0, .ref mo), (1, wi a1), (2, wi v2_9), (3, wi v3_9), (4, wi v4_25)]) rfl ?_
            exact hJ112 _ _
          · refine r_iload (x := v4_25) dX12_odd_32 rfl ?_
            refine r_join (P := fun (J : Int → Md → Option (Int × Md)) => ∀ (t0_77 : Int) (M_77 : Md), RunO l Γ k_X12_odd 8 encI (emM K0) 77 [(0, .ref mo), (1, wi a1), (2, wi v2_9), (3, wi v3_9), (5, wi v5_25)] [wi t0_77] M_77 (J t0_77 M_77)) ?_ (fun J77 hJ77 => ?_)
            · intro t0_77 M_77
              refine r_istore (lo2 := [(4, wi t0_77), (0, .ref mo), (1, wi a1), (2, wi v2_9), (3, wi v3_9), (5, wi v5_25)]) dX12_odd_77 (by decide) rfl ?_
              refine r_iinc (x := v5_25) (lo2 := [(5, wi (v5_25 + 1)), (4, wi t0_77), (0, .ref mo), (1, wi a1), (2, wi v2_9), (3, wi v3_9)]) dX12_odd_79 rfl (by decide) rfl ?_
              refine r_goto (tgt := 25) dX12_odd_82 (by decide) ?_
              refine r_lo [2, 3, 4, 5, 1, 0] (lo2 := [(0, .ref mo), (1, wi a1), (2, wi v2_9), (3, wi v3_9), (4, wi t0_77), (5, wi (v5_25 + 1))]) rfl ?_
              exact hL25 _ _ _
            refine r_join (P := fun (J : Md → Option (Int × Md)) => ∀ (M_72 : Md), RunO l Γ k_X12_odd 8 encI (emM K0) 72 [(0, .ref mo), (1, wi a1), (2, wi v2_9), (3, wi v3_9), (5, wi v5_25)] [] M_72 (J M_72)) ?_ (fun J72 hJ72 => ?_)
            · intro M_72
              refine ro_iconst (v := 1) dX12_odd_72 rfl ?_
              refine r_goto (tgt := 77) dX12_odd_73 (by decide) ?_
              exact hJ77 _ _
            refine r_if_ne (tgt := 72) dX12_odd_34 (by decide) ?_ ?_
            · refine r_lo [0, 1, 2, 3, 5] (lo2 := [(0, .ref mo), (1, wi a1), (2, wi v2_9), (3, wi v3_9), (5, wi v5_25)]) rfl ?_
              exact hJ72 _
            · refine r_aload_n (x := mo) dX12_odd_37 rfl rfl ?_
              refine r_mgetA (kk := 6) h inU12 rfl (by decide) uf_19 rfl rfl dX12_odd_38 ?_
              refine r_iload_n (x := v3_9) dX12_odd_41 rfl rfl ?_
              refine r_miald h (by decide) dX12_odd_42 ?_
              refine ro_iconst (v := (-1)) dX12_odd_43 rfl ?_
              refine r_join (P := fun (J : Md → Option (Int × Md)) => ∀ (M_76 : Md), RunO l Γ k_X12_odd 8 encI (emM K0) 76 [(0, .ref mo), (1, wi a1), (2, wi v2_9), (3, wi v3_9), (5, wi v5_25)] [] M_76 (J M_76)) ?_ (fun J76 hJ76 => ?_)
              · intro M_76
                refine ro_iconst (v := 0) dX12_odd_76 rfl ?_
                exact hJ77 _ _
              refine r_icmp_ne (tgt := 76) dX12_odd_44 (by decide) ?_ ?_
              · refine r_lo [0, 1, 2, 3, 5] (lo2 := [(0, .ref mo), (1, wi a1), (2, wi v2_9), (3, wi v3_9), (5, wi v5_25)]) rfl ?_
                exact hJ76 _
              · refine r_aload_n (x := mo) dX12_odd_47 rfl rfl ?_
                refine r_mgetA (kk := 27) h inU12 rfl (by decide) uf_70 rfl rfl dX12_odd_48 ?_
                refine r_iload (x := v5_25) dX12_odd_51 rfl ?_
                refine r_mzald h dX12_odd_53 ?_
                refine r_if_eq (tgt := 76) dX12_odd_54 (by decide) ?_ ?_
                · refine r_lo [0, 1, 2, 3, 5] (lo2 := [(0, .ref mo), (1, wi a1), (2, wi v2_9), (3, wi v3_9), (5, wi v5_25)]) rfl ?_
                  exact hJ76 _
                · refine r_aload_n (x := mo) dX12_odd_57 rfl rfl ?_
                  refine r_mgetA (kk := 31) h inU12 rfl (by decide) uf_83 rfl rfl dX12_odd_58 ?_
                  refine r_iload (x := v5_25) dX12_odd_61 rfl ?_
                  refine r_miald h (by decide) dX12_odd_63 ?_
                  refine r_iload_n (x := v3_9) dX12_odd_64 rfl rfl ?_
                  refine r_ishr dX12_odd_65 ?_
                  refine ro_iconst (v := 1) dX12_odd_66 rfl ?_
                  refine r_iand dX12_odd_67 ?_
                  refine ro_iconst (v := 1) dX12_odd_68 rfl ?_
                  refine r_icmp_ne (tgt := 76) dX12_odd_69 (by decide) ?_ ?_
                  · refine r_lo [0, 1, 2, 3, 5] (lo2 := [(0, .ref mo), (1, wi a1), (2, wi v2_9), (3, wi v3_9), (5, wi v5_25)]) rfl ?_
                    exact hJ76 _
                  · refine r_lo [0, 1, 2, 3, 5] (lo2 := [(0, .ref mo), (1, wi a1), (2, wi v2_9), (3, wi v3_9), (5, wi v5_25)]) rfl ?_
                    exact hJ72 _
        refine r_lo [2, 3, 4, 5, 1, 0] (lo2 := [(0, .ref mo), (1, wi a1), (2, wi v2_9), (3, wi v3_9), (4, wi 0), (5, wi 0)]) rfl ?_
        exact hJ25 _ _ _
  refine r_lo [2, 3, 1, 0] (lo2 := [(0, .ref mo), (1, wi a1), (2, wi 0), (3, wi 0)]) rfl ?_
  exact hJ9 _ _ _
