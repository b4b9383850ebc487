def k_X12_asksFor : Kd := (yX12_asksFor, cX12_asksFor, 2, some .boolean, [])
theorem kv_X12_asksFor : KV k_X12_asksFor 1 := ⟨uw_mem 2233 (by decide +kernel) rfl, uw_mem 170 (by decide +kernel) rfl, uw_mem 2232 (by decide +kernel) rfl, uw_mem 153 (by decide +kernel) rfl, ⟨by decide +kernel, by decide +kernel⟩, by decide +kernel, by decide +kernel⟩
set_option maxHeartbeats 4000000 in
set_option maxRecDepth 100000 in
theorem c_X12_asksFor {l : Launch} {Γ : Cx} {K0 : Cd} {mo : Nat} {ma : Nat → Nat} (h : mOn Γ mo ma) (a1 : Int) (M : Md) : Ct l Γ k_X12_asksFor 3 encI (emM K0) [.ref mo, wi a1] M (fX12_asksFor a1 M) := by
  refine ct_of (by decide +kernel) rfl (Nat.le_of_ble_eq_true rfl) ?_
  refine r_lo [0, 1] (lo2 := [(0, .ref mo), (1, wi a1)]) rfl ?_
  unfold fX12_asksFor
  refine r_aload_n (x := mo) dX12_asksFor_0 rfl rfl ?_
  refine r_iload_n (x := a1) dX12_asksFor_1 rfl rfl ?_
  refine r_callSi (k2 := k_X12_isTitle) (n := 1) (rest := [.ref mo]) rfl kv_X12_isTitle (c_X12_isTitle h _ _) (by decide) um_188 rfl (Nat.le_of_ble_eq_true rfl) dX12_asksFor_2 rfl (fun r2 M1 => ?_)
  refine r_join (P := fun (J : Int → Md → Option (Int × Md)) => ∀ (t0_13 : Int) (M_13 : Md), RunO l Γ k_X12_asksFor 3 encI (emM K0) 13 [(0, .ref mo)] [wi t0_13, .ref mo] M_13 (J t0_13 M_13)) ?_ (fun J13 hJ13 => ?_)
  · intro t0_13 M_13
    refine r_mput (kk := 36) h inU12 rfl (by decide) uf_180 rfl rfl rfl rfl dX12_asksFor_13 (fun M3 => ?_)
    refine r_aload_n (x := mo) dX12_asksFor_16 rfl rfl ?_
    refine r_mget (kk := 36) h inU12 rfl (by decide) uf_180 rfl rfl dX12_asksFor_17 ?_
    refine r_join (P := fun (J : Int → Md → Option (Int × Md)) => ∀ (t0_28 : Int) (M_28 : Md), RunO l Γ k_X12_asksFor 3 encI (emM K0) 28 [] [wi t0_28] M_28 (J t0_28 M_28)) ?_ (fun J28 hJ28 => ?_)
    · intro t0_28 M_28
      exact r_zret rfl dX12_asksFor_28
    refine r_if_ne (tgt := 27) dX12_asksFor_20 (by decide) ?_ ?_
    · refine ro_iconst (v := 0) dX12_asksFor_27 rfl ?_
      refine r_lo [] (lo2 := []) rfl ?_
      exact hJ28 _ _
    · refine ro_iconst (v := 1) dX12_asksFor_23 rfl ?_
      refine r_goto (tgt := 28) dX12_asksFor_24 (by decide) ?_
      refine r_lo [] (lo2 := []) rfl ?_
      exact hJ28 _ _
  refine r_if_eq (tgt := 12) dX12_asksFor_5 (by decide) ?_ ?_
  · refine ro_iconst (v := 1) dX12_asksFor_12 rfl ?_
    refine r_lo [0] (lo2 := [(0, .ref mo)]) rfl ?_
    exact hJ13 _ _
  · refine ro_iconst (v := 0) dX12_asksFor_8 rfl ?_
    refine r_goto (tgt := 13) dX12_asksFor_9 (by decide) ?_
    refine r_lo [0] (lo2 := [(0, .ref mo)]) rfl ?_
    exact hJ13 _ _
def k_X12_asksIn : Kd := (yX12_asksIn, cX12_asksIn, 3, some .boolean, [])
theorem kv_X12_asksIn : KV k_X12_asksIn 2 := ⟨uw_mem 2301 (by decide +kernel) rfl, uw_mem 170 (by decide +kernel) rfl, uw_mem 2300 (by decide +kernel) rfl, uw_mem 158 (by decide +kernel) rfl, ⟨by decide +kernel, by decide +kernel⟩, by decide +kernel, by decide +kernel⟩
set_option maxHeartbeats 4000000 in
set_option maxRecDepth 100000 in
theorem c_X12_asksIn {l : Launch} {Γ : Cx} {K0 : Cd} {mo : Nat} {ma : Nat → Nat} (h : mOn Γ mo ma) (a1 : Int) (a2 : Int) (M : Md) : Ct l Γ k_X12_asksIn 3 encI (emM K0) [.ref mo, wi a1, wi a2] M (fX12_asksIn a1 a2 M) := by
  refine ct_of (by decide +kernel) rfl (Nat.le_of_ble_eq_true rfl) ?_
  refine r_lo [0, 1, 2] (lo2 := [(0, .ref mo), (1, wi a1), (2, wi a2)]) rfl ?_
  unfold fX12_asksIn
  refine r_aload_n (x := mo) dX12_asksIn_0 rfl rfl ?_
  refine r_iload_n (x := a1) dX12_asksIn_1 rfl rfl ?_
  refine r_callSi (k2 := k_X12_isTitle) (n := 1) (rest := [.ref mo]) rfl kv_X12_isTitle (c_X12_isTitle h _ _) (by decide) um_188 rfl (Nat.le_of_ble_eq_true rfl) dX12_asksIn_2 rfl (fun r2 M1 => ?_)
  refine r_join (P := fun (J : Int → Md → Option (Int × Md)) => ∀ (t0_26 : Int) (M_26 : Md), RunO l Γ k_X12_asksIn 3 encI (emM K0) 26 [(0, .ref mo)] [wi t0_26, .ref mo] M_26 (J t0_26 M_26)) ?_ (fun J26 hJ26 => ?_)
  · intro t0_26 M_26
    refine r_mput (kk := 36) h inU12 rfl (by decide) uf_180 rfl rfl rfl rfl dX12_asksIn_26 (fun M3 => ?_)
    refine r_aload_n (x := mo) dX12_asksIn_29 rfl rfl ?_
    refine r_mget (kk := 36) h inU12 rfl (by decide) uf_180 rfl rfl dX12_asksIn_30 ?_
    refine r_join (P := fun (J : Int → Md → Option (Int × Md)) => ∀ (t0_41 : Int) (M_41 : Md), RunO l Γ k_X12_asksIn 3 encI (emM K0) 41 [] [wi t0_41] M_41 (J t0_41 M_41)) ?_ (fun J41 hJ41 => ?_)
    · intro t0_41 M_41
      exact r_zret rfl dX12_asksIn_41
    refine r_if_ne (tgt := 40) dX12_asksIn_33 (by decide) ?_ ?_
    · refine ro_iconst (v := 0) dX12_asksIn_40 rfl ?_
      refine r_lo [] (lo2 := []) rfl ?_
      exact hJ41 _ _
    · refine ro_iconst (v := 1) dX12_asksIn_36 rfl ?_
      refine r_goto (tgt := 41) dX12_asksIn_37 (by decide) ?_
      refine r_lo [] (lo2 := []) rfl ?_
      exact hJ41 _ _
  refine r_if_ne (tgt := 12) dX12_asksIn_5 (by decide) ?_ ?_
  · refine r_iload_n (x := a2) dX12_asksIn_12 rfl rfl ?_
    refine ro_iconst (v := 1) dX12_asksIn_13 rfl ?_
    refine ro_iconst (v := 2) dX12_asksIn_14 rfl ?_
    refine r_callSi (k2 := k_X12_in) (n := 3) (rest := [.ref mo]) rfl kv_X12_in (c_X12_in h _ _ _ _) (by decide) um_184 rfl (Nat.le_of_ble_eq_true rfl) dX12_asksIn_15 rfl (fun r5 M4 => ?_)
    refine r_if_ne (tgt := 25) dX12_asksIn_18 (by decide) ?_ ?_
    · refine ro_iconst (v := 0) dX12_asksIn_25 rfl ?_
      refine r_lo [0] (lo2 := [(0, .ref mo)]) rfl ?_
      exact hJ26 _ _
    · refine ro_iconst (v := 2) dX12_asksIn_21 rfl ?_
      refine r_goto (tgt := 26) dX12_asksIn_22 (by decide) ?_
      refine r_lo [0] (lo2 := [(0, .ref mo)]) rfl ?_
      exact hJ26 _ _
  · refine ro_iconst (v := 1) dX12_asksIn_8 rfl ?_
    refine r_goto (tgt := 26) dX12_asksIn_9 (by decide) ?_
    refine r_lo [0] (lo2 := [(0, .ref mo)]) rfl ?_
    exact hJ26 _ _
def k_X12_isText : Kd := (yX12_isText, cX12_isText, 11, some .boolean, [])
theorem kv_X12_isText : KV k_X12_isText 3 := ⟨uw_mem 2101 (by decide +kernel) rfl, uw_mem 170 (by decide +kernel) rfl, uw_mem 2100 (by decide +kernel) rfl, uw_mem 135 (by decide +kernel) rfl, ⟨by decide +kernel, by decide +kernel⟩, by decide +kernel, by decide +kernel⟩
set_option maxHeartbeats 4000000 in
set_option maxRecDepth 100000 in
theorem c_X12_isText {l : Launch} {Γ : Cx} {K0 : Cd} {mo : Nat} {ma : Nat → Nat} (h : mOn Γ mo ma) (a1 : Nat) (a2 : Int) (a3 : Int) (hA1 : a1 ∈ mAs) (M : Md) : Ct l Γ k_X12_isText 2 encI (emM K0) [.ref mo, .ref (ma a1), wi a2, wi a3] M (fX12_isText a1 a2 a3 M) := by
  refine ct_of (by decide +kernel) rfl (Nat.le_of_ble_eq_true rfl) ?_
  refine r_lo [0, 1, 2, 3] (lo2 := [(0, .ref mo), (1, .ref (ma a1)), (2, wi a2), (3, wi a3)]) rfl ?_
  unfold fX12_isText
  refine ro_iconst (v := 0) dX12_isText_0 rfl ?_
  refine r_istore (lo2 := [(4, wi 0), (0, .ref mo), (1, .ref (ma a1)), (2, wi a2), (3, wi a3)]) dX12_isText_1 (by decide) rfl ?_
  refine r_iload_n (x := a3) dX12_isText_3 rfl rfl ?_
  refine ro_iconst (v := 1) dX12_isText_4 rfl ?_
  refine r_bipush (v := 30) dX12_isText_5 rfl ?_
  refine r_callSi (k2 := k_X12_in) (n := 3) (rest := []) rfl kv_X12_in (c_X12_in h _ _ _ _) (by decide) um_184 rfl (Nat.le_of_ble_eq_true rfl) dX12_isText_7 rfl (fun r2 M1 => ?_)
  refine r_istore (lo2 := [(5, wi r2), (4, wi 0), (0, .ref mo), (1, .ref (ma a1)), (2, wi a2), (3, wi a3)]) dX12_isText_10 (by decide) rfl ?_
  refine ro_iconst (v := 0) dX12_isText_12 rfl ?_
  refine r_istore (lo2 := [(6, wi 0), (5, wi r2), (4, wi 0), (0, .ref mo), (1, .ref (ma a1)), (2, wi a2), (3, wi a3)]) dX12_isText_13 (by decide) rfl ?_
  refine r_loop (P := fun (J : Int → Int → Int → Md → Option (Int × Md)) => ∀ (v4_15 : Int) (v5_15 : Int) (v6_15 : Int) (M_15 : Md), RunO l Γ k_X12_isText 2 encI (emM K0) 15 [(0, .ref mo), (1, .ref (ma a1)), (2, wi a2), (3, wi a3), (4, wi v4_15), (5, wi v5_15), (6, wi v6_15)] [] M_15 (J v4_15 v5_15 v6_15 M_15)) ?_ (fun L15 hL15 => ?_) (fun J15 hJ15 => ?_)
  · intros; exact ro_none
  · intro v4_15 v5_15 v6_15 M_15
    refine r_iload (x := v6_15) dX12_isText_15 rfl ?_
    refine r_iload_n (x := a3) dX12_isText_17 rfl rfl ?_
    refine r_join (P := fun (J : Md → Option (Int × Md)) => ∀ (M_344 : Md), RunO l Γ k_X12_isText 2 encI (emM K0) 344 [(4, wi v4_15), (5, wi v5_15)] [] M_344 (J M_344)) ?_ (fun J344 hJ344 => ?_)
    · intro M_344
      refine r_iload (x := v5_15) dX12_isText_344 rfl ?_
      refine r_join (P := fun (J : Int → Md → Option (Int × Md)) => ∀ (t0_359 : Int) (M_359 : Md), RunO l Γ k_X12_isText 2 encI (emM K0) 359 [] [wi t0_359] M_359 (J t0_359 M_359)) ?_ (fun J359 hJ359 => ?_)
      · intro t0_359 M_359
        exact r_zret rfl dX12_isText_359
      refine r_join (P := fun (J : Md → Option (Int × Md)) => ∀ (M_358 : Md), RunO l Γ k_X12_isText 2 encI (emM K0) 358 [] [] M_358 (J M_358)) ?_ (fun J358 hJ358 => ?_)
      · intro M_358
        refine ro_iconst (v := 0) dX12_isText_358 rfl ?_
        exact hJ359 _ _
      refine r_if_eq (tgt := 358) dX12_isText_346 (by decide) ?_ ?_
      · refine r_lo [] (lo2 := []) rfl ?_
        exact hJ358 _
      · refine r_iload (x := v4_15) dX12_isText_349 rfl ?_
        refine r_if_ne (tgt := 358) dX12_isText_351 (by decide) ?_ ?_
        · refine r_lo [] (lo2 := []) rfl ?_
          exact hJ358 _
        · refine ro_iconst (v := 1) dX12_isText_354 rfl ?_
          refine r_goto (tgt := 359) dX12_isText_355 (by decide) ?_
          refine r_lo [] (lo2 := []) rfl ?_
          exact hJ359 _ _
    refine r_icmp_ge (tgt := 344) dX12_isText_18 (by decide) ?_ ?_
    · refine r_lo [4, 5] (lo2 := [(4, wi v4_15), (5, wi v5_15)]) rfl ?_
      exact hJ344 _
    · refine r_iload (x := v5_15) dX12_isText_21 rfl ?_
      refine r_if_eq (tgt := 344) dX12_isText_23 (by decide) ?_ ?_
      · refine r_lo [4, 5] (lo2 := [(4, wi v4_15), (5, wi v5_15)]) rfl ?_
        exact hJ344 _
      · refine r_aload_n (x := ma a1) dX12_isText_26 rfl rfl ?_
        refine r_iload_n (x := a2) dX12_isText_27 rfl rfl ?_
        refine r_iload (x := v6_15) dX12_isText_28 rfl ?_
        refine r_iadd dX12_isText_30 ?_
        refine r_miald h hA1 dX12_isText_31 ?_
        refine r_sipush (v := 1000) dX12_isText_32 rfl ?_
        refine r_idiv dX12_isText_35 (by decide) ?_
        refine r_nm (fun x7_36 => ?_)
        refine r_istore (lo2 := [(7, wi x7_36), (0, .ref mo), (1, .ref (ma a1)), (2, wi a2), (3, wi a3), (4, wi v4_15), (5, wi v5_15), (6, wi v6_15)]) dX12_isText_36 (by decide) rfl ?_
        refine r_iload (x := v4_15) dX12_isText_38 rfl ?_
        refine r_join (P := fun (J : Int → Md → Option (Int × Md)) => ∀ (t0_56 : Int) (M_56 : Md), RunO l Γ k_X12_isText 2 encI (emM K0) 56 [(0, .ref mo), (1, .ref (ma a1)), (2, wi a2), (3, wi a3), (4, wi v4_15), (6, wi v6_15), (7, wi x7_36)] [wi t0_56] M_56 (J t0_56 M_56)) ?_ (fun J56 hJ56 => ?_)
        · intro t0_56 M_56
          refine r_istore (lo2 := [(8, wi t0_56), (0, .ref mo), (1, .ref (ma a1)), (2, wi a2), (3, wi a3), (4, wi v4_15), (6, wi v6_15), (7, wi x7_36)]) dX12_isText_56 (by decide) rfl ?_
          refine r_iload (x := v6_15) dX12_isText_58 rfl ?_
          refine r_join (P := fun (J : Int → Md → Option (Int × Md)) => ∀ (t0_106 : Int) (M_106 : Md), RunO l Γ k_X12_isText 2 encI (emM K0) 106 [(0, .ref mo), (1, .ref (ma a1)), (2, wi a2), (3, wi a3), (4, wi v4_15), (6, wi v6_15), (7, wi x7_36), (8, wi t0_56)] [wi t0_106] M_106 (J t0_106 M_106)) ?_ (fun J106 hJ106 => ?_)
          · intro t0_106 M_106
            refine r_istore (lo2 := [(9, wi t0_106), (0, .ref mo), (1, .ref (ma a1)), (2, wi a2), (3, wi a3), (4, wi v4_15), (6, wi v6_15), (7, wi x7_36), (8, wi t0_56)]) dX12_isText_106 (by decide) rfl ?_
            refine r_iload (x := x7_36) dX12_isText_108 rfl ?_
            refine ro_iconst (v := 5) dX12_isText_110 rfl ?_
            refine r_join (P := fun (J : Int → Md → Option (Int × Md)) => ∀ (t0_126 : Int) (M_126 : Md), RunO l Γ k_X12_isText 2 encI (emM K0) 126 [(0, .ref mo), (1, .ref (ma a1)), (2, wi a2), (3, wi a3), (4, wi v4_15), (6, wi v6_15), (7, wi x7_36), (8, wi t0_56), (9, wi t0_106)] [wi t0_126] M_126 (J t0_126 M_126)) ?_ (fun J126 hJ126 => ?_)
            · intro t0_126 M_126
              refine r_istore (lo2 := [(10, wi t0_126), (0, .ref mo), (1, .ref (ma a1)), (2, wi a2), (3, wi a3), (4, wi v4_15), (6, wi v6_15), (7, wi x7_36), (8, wi t0_56), (9, wi t0_106)]) dX12_isText_126 (by decide) rfl ?_
              refine r_iload (x := t0_56) dX12_isText_128 rfl ?_
              refine r_bipush (v := 10) dX12_isText_130 rfl ?_
              refine r_join (P := fun (J : Int → Md → Option (Int × Md)) => ∀ (t0_152 : Int) (M_152 : Md), RunO l Γ k_X12_isText 2 encI (emM K0) 152 [(0, .ref mo), (1, .ref (ma a1)), (2, wi a2), (3, wi a3), (4, wi v4_15), (6, wi v6_15), (7, wi x7_36), (8, wi t0_56), (9, wi t0_106), (10, wi t0_126)] [wi t0_152] M_152 (J t0_152 M_152)) ?_ (fun J152 hJ152 => ?_)
              · intro t0_152 M_152
                refine r_istore (lo2 := [(5, wi t0_152), (0, .ref mo), (1, .ref (ma a1)), (2, wi a2), (3, wi a3), (4, wi v4_15), (6, wi v6_15), (7, wi x7_36), (8, wi t0_56), (9, wi t0_106), (10, wi t0_126)]) dX12_isText_152 (by decide) rfl ?_
                refine r_iload (x := t0_152) dX12_isText_154 rfl ?_
                refine r_join (P := fun (J : Int → Md → Option (Int × Md)) => ∀ (t0_200 : Int) (M_200 : Md), RunO l Γ k_X12_isText 2 encI (emM K0) 200 [(0, .ref mo), (1, .ref (ma a1)), (2, wi a2), (3, wi a3), (4, wi v4_15), (6, wi v6_15), (7, wi x7_36), (8, wi t0_56), (9, wi t0_106), (10, wi t0_126)] [wi t0_200] M_200 (J t0_200 M_200)) ?_ (fun J200 hJ200 => ?_)
                · intro t0_200 M_200
                  refine r_istore (lo2 := [(5, wi t0_200), (0, .ref mo), (1, .ref (ma a1)), (2, wi a2), (3, wi a3), (4, wi v4_15), (6, wi v6_15), (7, wi x7_36), (8, wi t0_56), (9, wi t0_106), (10, wi t0_126)]) dX12_isText_200 (by decide) rfl ?_
                  refine r_iload (x := t0_200) dX12_isText_202 rfl ?_
                  refine r_join (P := fun (J : Int → Md → Option (Int × Md)) => ∀ (t0_243 : Int) (M_243 : Md), RunO l Γ k_X12_isText 2 encI (emM K0) 243 [(0, .ref mo), (1, .ref (ma a1)), (2, wi a2), (3, wi a3), (4, wi v4_15), (6, wi v6_15), (7, wi x7_36), (8, wi t0_56), (9, wi t0_106), (10, wi t0_126)] [wi t0_243] M_243 (J t0_243 M_243)) ?_ (fun J243 hJ243 => ?_)
                  · intro t0_243 M_243
                    refine r_istore (lo2 := [(5, wi t0_243), (0, .ref mo), (1, .ref (ma a1)), (2, wi a2), (3, wi a3), (4, wi v4_15), (6, wi v6_15), (7, wi x7_36), (8, wi t0_56), (9, wi t0_106), (10, wi t0_126)]) dX12_isText_243 (by decide) rfl ?_
                    refine r_iload (x := t0_243) dX12_isText_245 rfl ?_
                    refine r_join (P := fun (J : Int → Md → Option (Int × Md)) => ∀ (t0_284 : Int) (M_284 : Md), RunO l Γ k_X12_isText 2 encI (emM K0) 284 [(0, .ref mo), (1, .ref (ma a1)), (2, wi a2), (3, wi a3), (4, wi v4_15), (6, wi v6_15), (7, wi x7_36)] [wi t0_284] M_284 (J t0_284 M_284)) ?_ (fun J284 hJ284 => ?_)
                    · intro t0_284 M_284
                      refine r_istore (lo2 := [(5, wi t0_284), (0, .ref mo), (1, .ref (ma a1)), (2, wi a2), (3, wi a3), (4, wi v4_15), (6, wi v6_15), (7, wi x7_36)]) dX12_isText_284 (by decide) rfl ?_
                      refine r_iload (x := t0_284) dX12_isText_286 rfl ?_
                      refine r_join (P := fun (J : Int → Md → Option (Int × Md)) => ∀ (v4_338 : Int) (M_338 : Md), RunO l Γ k_X12_isText 2 encI (emM K0) 338 [(0, .ref mo), (1, .ref (ma a1)), (2, wi a2), (3, wi a3), (4, wi v4_338), (5, wi t0_284), (6, wi v6_15)] [] M_338 (J v4_338 M_338)) ?_ (fun J338 hJ338 => ?_)
                      · intro v4_338 M_338
                        refine r_iinc (x := v6_15) (lo2 := [(6, wi (v6_15 + 1)), (0, .ref mo), (1, .ref (ma a1)), (2, wi a2), (3, wi a3), (4, wi v4_338), (5, wi t0_284)]) dX12_isText_338 rfl (by decide) rfl ?_
                        refine r_goto (tgt := 15) dX12_isText_341 (by decide) ?_
                        refine r_lo [1, 2, 3, 4, 5, 6, 0] (lo2 := [(0, .ref mo), (1, .ref (ma a1)), (2, wi a2), (3, wi a3), (4, wi v4_338), (5, wi t0_284), (6, wi (v6_15 + 1))]) rfl ?_
                        exact hL15 _ _ _ _
                      refine r_join (P := fun (J : Md → Option (Int × Md)) => ∀ (M_304 : Md), RunO l Γ k_X12_isText 2 encI (emM K0) 304 [(0, .ref mo), (1, .ref (ma a1)), (2, wi a2), (3, wi a3), (4, wi v4_15), (5, wi t0_284), (6, wi v6_15), (7, wi x7_36)] [] M_304 (J M_304)) ?_ (fun J304 hJ304 => ?_)
                      · intro M_304
                        refine r_iload (x := t0_284) dX12_isText_304 rfl ?_
                        refine r_if_eq (tgt := 338) dX12_isText_306 (by decide) ?_ ?_
                        · refine r_lo [0, 1, 2, 3, 4, 5, 6] (lo2 := [(0, .ref mo), (1, .ref (ma a1)), (2, wi a2), (3, wi a3), (4, wi v4_15), (5, wi t0_284), (6, wi v6_15)]) rfl ?_
                          exact hJ338 _ _
                        · refine r_iload (x := x7_36) dX12_isText_309 rfl ?_
                          refine r_callSi (k2 := k_X12_opens) (n := 1) (rest := []) rfl kv_X12_opens (c_X12_opens h _ _) (by decide) um_206 rfl (Nat.le_of_ble_eq_true rfl) dX12_isText_311 rfl (fun r4 M3 => ?_)
                          refine r_if_eq (tgt := 338) dX12_isText_314 (by decide) ?_ ?_
                          · refine r_lo [0, 1, 2, 3, 4, 5, 6] (lo2 := [(0, .ref mo), (1, .ref (ma a1)), (2, wi a2), (3, wi a3), (4, wi v4_15), (5, wi t0_284), (6, wi v6_15)]) rfl ?_
                            exact hJ338 _ _
                          · refine r_aload_n (x := mo) dX12_isText_317 rfl rfl ?_
                            refine r_mgetA (kk := 37) h inU12 rfl (by decide) uf_98 rfl rfl dX12_isText_318 ?_
                            refine r_iload (x := v4_15) dX12_isText_321 rfl ?_
                            refine r_iload (x := x7_36) dX12_isText_323 rfl ?_
                            refine r_miast h (by decide) dX12_isText_325 (fun M5 => ?_)
                            refine r_aload_n (x := mo) dX12_isText_326 rfl rfl ?_
                            refine r_mgetA (kk := 38) h inU12 rfl (by decide) uf_101 rfl rfl dX12_isText_327 ?_
                            refine r_iload (x := v4_15) dX12_isText_330 rfl ?_
                            refine r_iload (x := v6_15) dX12_isText_332 rfl ?_
                            refine r_miast h (by decide) dX12_isText_334 (fun M6 => ?_)
                            refine r_iinc (x := v4_15) (lo2 := [(4, wi (v4_15 + 1)), (0, .ref mo), (1, .ref (ma a1)), (2, wi a2), (3, wi a3), (5, wi t0_284), (6, wi v6_15), (7, wi x7_36)]) dX12_isText_335 rfl (by decide) rfl ?_
                            refine r_lo [1, 2, 3, 4, 0, 5, 6] (lo2 := [(0, .ref mo), (1, .ref (ma a1)), (2, wi a2), (3, wi a3), (4, wi (v4_15 + 1)), (5, wi t0_284), (6, wi v6_15)]) rfl ?_
                            exact hJ338 _ _
                      refine r_if_eq (tgt := 304) dX12_isText_288 (by decide) ?_ ?_
                      · refine r_lo [1, 2, 3, 4, 5, 0, 6, 7] (lo2 := [(0, .ref mo), (1, .ref (ma a1)), (2, wi a2), (3, wi a3), (4, wi v4_15), (5, wi t0_284), (6, wi v6_15), (7, wi x7_36)]) rfl ?_
                        exact hJ304 _
                      · refine r_iload (x := x7_36) dX12_isText_291 rfl ?_
                        refine r_bipush (v := 7) dX12_isText_293 rfl ?_
                        refine r_icmp_ne (tgt := 304) dX12_isText_295 (by decide) ?_ ?_
                        · refine r_lo [1, 2, 3, 4, 5, 0, 6, 7] (lo2 := [(0, .ref mo), (1, .ref (ma a1)), (2, wi a2), (3, wi a3), (4, wi v4_15), (5, wi t0_284), (6, wi v6_15), (7, wi x7_36)]) rfl ?_
                          exact hJ304 _
                        · refine r_iinc (x := v4_15) (lo2 := [(4, wi (v4_15 + (-1))), (5, wi t0_284), (0, .ref mo), (1, .ref (ma a1)), (2, wi a2), (3, wi a3), (6, wi v6_15), (7, wi x7_36)]) dX12_isText_298 rfl (by decide) rfl ?_
                          refine r_goto (tgt := 338) dX12_isText_301 (by decide) ?_
                          refine r_lo [2, 3, 4, 5, 0, 1, 6] (lo2 := [(0, .ref mo), (1, .ref (ma a1)), (2, wi a2), (3, wi a3), (4, wi (v4_15 + (-1))), (5, wi t0_284), (6, wi v6_15)]) rfl ?_
                          exact hJ338 _ _
                    refine r_join (P := fun (J : Md → Option (Int × Md)) => ∀ (M_283 : Md), RunO l Γ k_X12_isText 2 encI (emM K0) 283 [(0, .ref mo), (1, .ref (ma a1)), (2, wi a2), (3, wi a3), (4, wi v4_15), (6, wi v6_15), (7, wi x7_36)] [] M_283 (J M_283)) ?_ (fun J283 hJ283 => ?_)
                    · intro M_283
                      refine ro_iconst (v := 0) dX12_isText_283 rfl ?_
                      exact hJ284 _ _
                    refine r_if_eq (tgt := 283) dX12_isText_247 (by decide) ?_ ?_
                    · refine r_lo [1, 2, 3, 4, 5, 6, 7] (lo2 := [(0, .ref mo), (1, .ref (ma a1)), (2, wi a2), (3, wi a3), (4, wi v4_15), (6, wi v6_15), (7, wi x7_36)]) rfl ?_
                      exact hJ283 _
                    · refine r_iload (x := t0_106) dX12_isText_250 rfl ?_
                      refine r_join (P := fun (J : Md → Option (Int × Md)) => ∀ (M_279 : Md), RunO l Γ k_X12_isText 2 encI (emM K0) 279 [(0, .ref mo), (1, .ref (ma a1)), (2, wi a2), (3, wi a3), (4, wi v4_15), (6, wi v6_15), (7, wi x7_36)] [] M_279 (J M_279)) ?_ (fun J279 hJ279 => ?_)
                      · intro M_279
                        refine ro_iconst (v := 1) dX12_isText_279 rfl ?_
                        refine r_goto (tgt := 284) dX12_isText_280 (by decide) ?_
                        exact hJ284 _ _
                      refine r_if_eq (tgt := 279) dX12_isText_252 (by decide) ?_ ?_
                      · refine r_lo [1, 2, 3, 4, 5, 6, 7] (lo2 := [(0, .ref mo), (1, .ref (ma a1)), (2, wi a2), (3, wi a3), (4, wi v4_15), (6, wi v6_15), (7, wi x7_36)]) rfl ?_
                        exact hJ279 _
                      · refine r_iload (x := t0_56) dX12_isText_255 rfl ?_
                        refine ro_iconst (v := 2) dX12_isText_257 rfl ?_
                        refine r_join (P := fun (J : Md → Option (Int × Md)) => ∀ (M_267 : Md), RunO l Γ k_X12_isText 2 encI (emM K0) 267 [(0, .ref mo), (1, .ref (ma a1)), (2, wi a2), (3, wi a3), (4, wi v4_15), (6, wi v6_15), (7, wi x7_36), (10, wi t0_126)] [] M_267 (J M_267)) ?_ (fun J267 hJ267 => ?_)
                        · intro M_267
                          refine r_iload (x := t0_126) dX12_isText_267 rfl ?_
                          refine r_if_ne (tgt := 279) dX12_isText_269 (by decide) ?_ ?_
                          · refine r_lo [0, 1, 2, 3, 4, 5, 6] (lo2 := [(0, .ref mo), (1, .ref (ma a1)), (2, wi a2), (3, wi a3), (4, wi v4_15), (6, wi v6_15), (7, wi x7_36)]) rfl ?_
                            exact hJ279 _
                          · refine r_iload (x := x7_36) dX12_isText_272 rfl ?_
                            refine r_bipush (v := 7) dX12_isText_274 rfl ?_
                            refine r_icmp_ne (tgt := 283) dX12_isText_276 (by decide) ?_ ?_
                            · refine r_lo [0, 1, 2, 3, 4, 5, 6] (lo2 := [(0, .ref mo), (1, .ref (ma a1)), (2, wi a2), (3, wi a3), (4, wi v4_15), (6, wi v6_15), (7, wi x7_36)]) rfl ?_
                              exact hJ283 _
                            · refine r_lo [0, 1, 2, 3, 4, 5, 6] (lo2 := [(0, .ref mo), (1, .ref (ma a1)), (2, wi a2), (3, wi a3), (4, wi v4_15), (6, wi v6_15), (7, wi x7_36)]) rfl ?_
                              exact hJ279 _
                        refine r_icmp_eq (tgt := 267) dX12_isText_258 (by decide) ?_ ?_
                        · refine r_lo [1, 2, 3, 4, 5, 6, 7, 10] (lo2 := [(0, .ref mo), (1, .ref (ma a1)), (2, wi a2), (3, wi a3), (4, wi v4_15), (6, wi v6_15), (7, wi x7_36), (10, wi t0_126)]) rfl ?_
                          exact hJ267 _
                        · refine r_iload (x := t0_56) dX12_isText_261 rfl ?_
                          refine ro_iconst (v := 4) dX12_isText_263 rfl ?_
                          refine r_icmp_ne (tgt := 279) dX12_isText_264 (by decide) ?_ ?_
                          · refine r_lo [1, 2, 3, 4, 5, 6, 7] (lo2 := [(0, .ref mo), (1, .ref (ma a1)), (2, wi a2), (3, wi a3), (4, wi v4_15), (6, wi v6_15), (7, wi x7_36)]) rfl ?_
                            exact hJ279 _
                          · refine r_lo [1, 2, 3, 4, 5, 6, 7, 10] (lo2 := [(0, .ref mo), (1, .ref (ma a1)), (2, wi a2), (3, wi a3), (4, wi v4_15), (6, wi v6_15), (7, wi x7_36), (10, wi t0_126)]) rfl ?_
                            exact hJ267 _
                  refine r_join (P := fun (J : Md → Option (Int × Md)) => ∀ (M_242 : Md), RunO l Γ k_X12_isText 2 encI (emM K0) 242 [(0, .ref mo), (1, .ref (ma a1)), (2, wi a2), (3, wi a3), (4, wi v4_15), (6, wi v6_15), (7, wi x7_36), (8, wi t0_56), (9, wi t0_106), (10, wi t0_126)] [] M_242 (J M_242)) ?_ (fun J242 hJ242 => ?_)
                  · intro M_242
                    refine ro_iconst (v := 0) dX12_isText_242 rfl ?_
                    exact hJ243 _ _
                  refine r_if_eq (tgt := 242) dX12_isText_204 (by decide) ?_ ?_
                  · refine r_lo [1, 2, 3, 4, 5, 6, 7, 8, 9, 10] (lo2 := [(0, .ref mo), (1, .ref (ma a1)), (2, wi a2), (3, wi a3), (4, wi v4_15), (6, wi v6_15), (7, wi x7_36), (8, wi t0_56), (9, wi t0_106), (10, wi t0_126)]) rfl ?_
                    exact hJ242 _
                  · refine r_iload (x := x7_36) dX12_isText_207 rfl ?_
                    refine ro_iconst (v := 5) dX12_isText_209 rfl ?_
                    refine r_join (P := fun (J : Md → Option (Int × Md)) => ∀ (M_225 : Md), RunO l Γ k_X12_isText 2 encI (emM K0) 225 [(0, .ref mo), (1, .ref (ma a1)), (2, wi a2), (3, wi a3), (4, wi v4_15), (6, wi v6_15), (7, wi x7_36), (8, wi t0_56), (9, wi t0_106), (10, wi t0_126)] [] M_225 (J M_225)) ?_ (fun J225 hJ225 => ?_)
                    · intro M_225
                      refine r_iload (x := x7_36) dX12_isText_225 rfl ?_
                      refine r_bipush (v := 6) dX12_isText_227 rfl ?_
                      refine r_join (P := fun (J : Md → Option (Int × Md)) => ∀ (M_238 : Md), RunO l Γ k_X12_isText 2 encI (emM K0) 238 [(0, .ref mo), (1, .ref (ma a1)), (2, wi a2), (3, wi a3), (4, wi v4_15), (6, wi v6_15), (7, wi x7_36), (8, wi t0_56), (9, wi t0_106), (10, wi t0_126)] [] M_238 (J M_238)) ?_ (fun J238 hJ238 => ?_)
                      · intro M_238
                        refine ro_iconst (v := 1) dX12_isText_238 rfl ?_
                        refine r_goto (tgt := 243) dX12_isText_239 (by decide) ?_
                        exact hJ243 _ _
                      refine r_icmp_ne (tgt := 238) dX12_isText_229 (by decide) ?_ ?_
                      · exact hJ238 _
                      · refine r_iload (x := t0_56) dX12_isText_232 rfl ?_
                        refine ro_iconst (v := 2) dX12_isText_234 rfl ?_
                        refine r_icmp_ne (tgt := 242) dX12_isText_235 (by decide) ?_ ?_
                        · exact hJ242 _
                        · exact hJ238 _
                    refine r_icmp_ne (tgt := 225) dX12_isText_210 (by decide) ?_ ?_
                    · refine r_lo [1, 2, 3, 4, 5, 6, 7, 8, 9, 10] (lo2 := [(0, .ref mo), (1, .ref (ma a1)), (2, wi a2), (3, wi a3), (4, wi v4_15), (6, wi v6_15), (7, wi x7_36), (8, wi t0_56), (9, wi t0_106), (10, wi t0_126)]) rfl ?_
                      exact hJ225 _
                    · refine r_iload (x := t0_56) dX12_isText_213 rfl ?_
                      refine ro_iconst (v := 2) dX12_isText_215 rfl ?_
                      refine r_icmp_eq (tgt := 225) dX12_isText_216 (by decide) ?_ ?_
                      · refine r_lo [1, 2, 3, 4, 5, 6, 7, 8, 9, 10] (lo2 := [(0, .ref mo), (1, .ref (ma a1)), (2, wi a2), (3, wi a3), (4, wi v4_15), (6, wi v6_15), (7, wi x7_36), (8, wi t0_56), (9, wi t0_106), (10, wi t0_126)]) rfl ?_
                        exact hJ225 _
                      · refine r_iload (x := t0_56) dX12_isText_219 rfl ?_
                        refine ro_iconst (v := 4) dX12_isText_221 rfl ?_
                        refine r_icmp_ne (tgt := 242) dX12_isText_222 (by decide) ?_ ?_
                        · refine r_lo [1, 2, 3, 4, 5, 6, 7, 8, 9, 10] (lo2 := [(0, .ref mo), (1, .ref (ma a1)), (2, wi a2), (3, wi a3), (4, wi v4_15), (6, wi v6_15), (7, wi x7_36), (8, wi t0_56), (9, wi t0_106), (10, wi t0_126)]) rfl ?_
                          exact hJ242 _
                        · refine r_lo [1, 2, 3, 4, 5, 6, 7, 8, 9, 10] (lo2 := [(0, .ref mo), (1, .ref (ma a1)), (2, wi a2), (3, wi a3), (4, wi v4_15), (6, wi v6_15), (7, wi x7_36), (8, wi t0_56), (9, wi t0_106), (10, wi t0_126)]) rfl ?_
                          exact hJ225 _
                refine r_join (P := fun (J : Md → Option (Int × Md)) => ∀ (M_199 : Md), RunO l Γ k_X12_isText 2 encI (emM K0) 199 [(0, .ref mo), (1, .ref (ma a1)), (2, wi a2), (3, wi a3), (4, wi v4_15), (6, wi v6_15), (7, wi x7_36), (8, wi t0_56), (9, wi t0_106), (10, wi t0_126)] [] M_199 (J M_199)) ?_ (fun J199 hJ199 => ?_)
                · intro M_199
                  refine ro_iconst (v := 0) dX12_isText_199 rfl ?_
                  exact hJ200 _ _
                refine r_if_eq (tgt := 199) dX12_isText_156 (by decide) ?_ ?_
                · refine r_lo [1, 2, 3, 4, 5, 6, 7, 8, 9, 10] (lo2 := [(0, .ref mo), (1, .ref (ma a1)), (2, wi a2), (3, wi a3), (4, wi v4_15), (6, wi v6_15), (7, wi x7_36), (8, wi t0_56), (9, wi t0_106), (10, wi t0_126)]) rfl ?_
                  exact hJ199 _
                · refine r_iload (x := x7_36) dX12_isText_159 rfl ?_
                  refine r_bipush (v := 13) dX12_isText_161 rfl ?_
                  refine r_join (P := fun (J : Md → Option (Int × Md)) => ∀ (M_171 : Md), RunO l Γ k_X12_isText 2 encI (emM K0) 171 [(0, .ref mo), (1, .ref (ma a1)), (2, wi a2), (3, wi a3), (4, wi v4_15), (6, wi v6_15), (7, wi x7_36), (8, wi t0_56), (9, wi t0_106), (10, wi t0_126)] [] M_171 (J M_171)) ?_ (fun J171 hJ171 => ?_)
                  · intro M_171
                    refine r_iload (x := x7_36) dX12_isText_171 rfl ?_
                    refine r_bipush (v := 12) dX12_isText_173 rfl ?_
                    refine r_join (P := fun (J : Md → Option (Int × Md)) => ∀ (M_183 : Md), RunO l Γ k_X12_isText 2 encI (emM K0) 183 [(0, .ref mo), (1, .ref (ma a1)), (2, wi a2), (3, wi a3), (4, wi v4_15), (6, wi v6_15), (7, wi x7_36), (8, wi t0_56), (9, wi t0_106), (10, wi t0_126)] [] M_183 (J M_183)) ?_ (fun J183 hJ183 => ?_)
                    · intro M_183
                      refine r_iload (x := x7_36) dX12_isText_183 rfl ?_
                      refine r_bipush (v := 7) dX12_isText_185 rfl ?_
                      refine r_join (P := fun (J : Md → Option (Int × Md)) => ∀ (M_195 : Md), RunO l Γ k_X12_isText 2 encI (emM K0) 195 [(0, .ref mo), (1, .ref (ma a1)), (2, wi a2), (3, wi a3), (4, wi v4_15), (6, wi v6_15), (7, wi x7_36), (8, wi t0_56), (9, wi t0_106), (10, wi t0_126)] [] M_195 (J M_195)) ?_ (fun J195 hJ195 => ?_)
                      · intro M_195
                        refine ro_iconst (v := 1) dX12_isText_195 rfl ?_
                        refine r_goto (tgt := 200) dX12_isText_196 (by decide) ?_
                        exact hJ200 _ _
                      refine r_icmp_ne (tgt := 195) dX12_isText_187 (by decide) ?_ ?_
                      · exact hJ195 _
                      · refine r_iload (x := v4_15) dX12_isText_190 rfl ?_
                        refine r_if_le (tgt := 199) dX12_isText_192 (by decide) ?_ ?_
                        · exact hJ199 _
                        · exact hJ195 _
                    refine r_icmp_ne (tgt := 183) dX12_isText_175 (by decide) ?_ ?_
                    · exact hJ183 _
                    · refine r_iload_n (x := a3) dX12_isText_178 rfl rfl ?_
                      refine ro_iconst (v := 1) dX12_isText_179 rfl ?_
                      refine r_icmp_ne (tgt := 199) dX12_isText_180 (by decide) ?_ ?_
                      · exact hJ199 _
                      · exact hJ183 _
                  refine r_icmp_ne (tgt := 171) dX12_isText_163 (by decide) ?_ ?_
                  · refine r_lo [1, 2, 3, 4, 5, 6, 7, 8, 9, 10] (lo2 := [(0, .ref mo), (1, .ref (ma a1)), (2, wi a2), (3, wi a3), (4, wi v4_15), (6, wi v6_15), (7, wi x7_36), (8, wi t0_56), (9, wi t0_106), (10, wi t0_126)]) rfl ?_
                    exact hJ171 _
                  · refine r_iload (x := v4_15) dX12_isText_166 rfl ?_
                    refine r_if_ne (tgt := 199) dX12_isText_168 (by decide) ?_ ?_
                    · refine r_lo [1, 2, 3, 4, 5, 6, 7, 8, 9, 10] (lo2 := [(0, .ref mo), (1, .ref (ma a1)), (2, wi a2), (3, wi a3), (4, wi v4_15), (6, wi v6_15), (7, wi x7_36), (8, wi t0_56), (9, wi t0_106), (10, wi t0_126)]) rfl ?_
                      exact hJ199 _
                    · refine r_lo [1, 2, 3, 4, 5, 6, 7, 8, 9, 10] (lo2 := [(0, .ref mo), (1, .ref (ma a1)), (2, wi a2), (3, wi a3), (4, wi v4_15), (6, wi v6_15), (7, wi x7_36), (8, wi t0_56), (9, wi t0_106), (10, wi t0_126)]) rfl ?_
                      exact hJ171 _
              refine r_join (P := fun (J : Md → Option (Int × Md)) => ∀ (M_147 : Md), RunO l Γ k_X12_isText 2 encI (emM K0) 147 [(0, .ref mo), (1, .ref (ma a1)), (2, wi a2), (3, wi a3), (4, wi v4_15), (6, wi v6_15), (7, wi x7_36), (8, wi t0_56), (9, wi t0_106), (10, wi t0_126)] [] M_147 (J M_147)) ?_ (fun J147 hJ147 => ?_)
              · intro M_147
                refine ro_iconst (v := 1) dX12_isText_147 rfl ?_
                refine r_goto (tgt := 152) dX12_isText_148 (by decide) ?_
                exact hJ152 _ _
              refine r_icmp_ne (tgt := 147) dX12_isText_132 (by decide) ?_ ?_
              · refine r_lo [1, 2, 3, 4, 5, 6, 7, 8, 9, 0] (lo2 := [(0, .ref mo), (1, .ref (ma a1)), (2, wi a2), (3, wi a3), (4, wi v4_15), (6, wi v6_15), (7, wi x7_36), (8, wi t0_56), (9, wi t0_106), (10, wi t0_126)]) rfl ?_
                exact hJ147 _
              · refine r_iload (x := x7_36) dX12_isText_135 rfl ?_
                refine r_if_eq (tgt := 147) dX12_isText_137 (by decide) ?_ ?_
                · refine r_lo [1, 2, 3, 4, 5, 6, 7, 8, 9, 0] (lo2 := [(0, .ref mo), (1, .ref (ma a1)), (2, wi a2), (3, wi a3), (4, wi v4_15), (6, wi v6_15), (7, wi x7_36), (8, wi t0_56), (9, wi t0_106), (10, wi t0_126)]) rfl ?_
                  exact hJ147 _
                · refine r_iload (x := x7_36) dX12_isText_140 rfl ?_
                  refine r_bipush (v := 7) dX12_isText_142 rfl ?_
                  refine r_icmp_ne (tgt := 151) dX12_isText_144 (by decide) ?_ ?_
                  · refine ro_iconst (v := 0) dX12_isText_151 rfl ?_
                    refine r_lo [1, 2, 3, 4, 5, 6, 7, 8, 9, 0] (lo2 := [(0, .ref mo), (1, .ref (ma a1)), (2, wi a2), (3, wi a3), (4, wi v4_15), (6, wi v6_15), (7, wi x7_36), (8, wi t0_56), (9, wi t0_106), (10, wi t0_126)]) rfl ?_
                    exact hJ152 _ _
                  · refine r_lo [1, 2, 3, 4, 5, 6, 7, 8, 9, 0] (lo2 := [(0, .ref mo), (1, .ref (ma a1)), (2, wi a2), (3, wi a3), (4, wi v4_15), (6, wi v6_15), (7, wi x7_36), (8, wi t0_56), (9, wi t0_106), (10, wi t0_126)]) rfl ?_
                    exact hJ147 _
            refine r_join (P := fun (J : Md → Option (Int × Md)) => ∀ (M_121 : Md), RunO l Γ k_X12_isText 2 encI (emM K0) 121 [(0, .ref mo), (1, .ref (ma a1)), (2, wi a2), (3, wi a3), (4, wi v4_15), (6, wi v6_15), (7, wi x7_36), (8, wi t0_56), (9, wi t0_106)] [] M_121 (J M_121)) ?_ (fun J121 hJ121 => ?_)
            · intro M_121
              refine ro_iconst (v := 1) dX12_isText_121 rfl ?_
              refine r_goto (tgt := 126) dX12_isText_122 (by decide) ?_
              exact hJ126 _ _
            refine r_icmp_eq (tgt := 121) dX12_isText_111 (by decide) ?_ ?_
            · refine r_lo [1, 2, 3, 4, 5, 6, 7, 8, 0] (lo2 := [(0, .ref mo), (1, .ref (ma a1)), (2, wi a2), (3, wi a3), (4, wi v4_15), (6, wi v6_15), (7, wi x7_36), (8, wi t0_56), (9, wi t0_106)]) rfl ?_
              exact hJ121 _
            · refine r_iload (x := x7_36) dX12_isText_114 rfl ?_
              refine r_bipush (v := 6) dX12_isText_116 rfl ?_
              refine r_icmp_ne (tgt := 125) dX12_isText_118 (by decide) ?_ ?_
              · refine ro_iconst (v := 0) dX12_isText_125 rfl ?_
                refine r_lo [1, 2, 3, 4, 5, 6, 7, 8, 0] (lo2 := [(0, .ref mo), (1, .ref (ma a1)), (2, wi a2), (3, wi a3), (4, wi v4_15), (6, wi v6_15), (7, wi x7_36), (8, wi t0_56), (9, wi t0_106)]) rfl ?_
                exact hJ126 _ _
              · refine r_lo [1, 2, 3, 4, 5, 6, 7, 8, 0] (lo2 := [(0, .ref mo), (1, .ref (ma a1)), (2, wi a2), (3, wi a3), (4, wi v4_15), (6, wi v6_15), (7, wi x7_36), (8, wi t0_56), (9, wi t0_106)]) rfl ?_
                exact hJ121 _
          refine r_join (P := fun (J : Md → Option (Int × Md)) => ∀ (M_105 : Md), RunO l Γ k_X12_isText 2 encI (emM K0) 105 [(0, .ref mo), (1, .ref (ma a1)), (2, wi a2), (3, wi a3), (4, wi v4_15), (6, wi v6_15), (7, wi x7_36), (8, wi t0_56)] [] M_105 (J M_105)) ?_ (fun J105 hJ105 => ?_)
          · intro M_105
            refine ro_iconst (v := 0) dX12_isText_105 rfl ?_
            exact hJ106 _ _
          refine r_if_le (tgt := 105) dX12_isText_60 (by decide) ?_ ?_
          · refine r_lo [1, 2, 3, 4, 5, 6, 7, 0] (lo2 := [(0, .ref mo), (1, .ref (ma a1)), (2, wi a2), (3, wi a3), (4, wi v4_15), (6, wi v6_15), (7, wi x7_36), (8, wi t0_56)]) rfl ?_
            exact hJ105 _
          · refine r_iload (x := v4_15) dX12_isText_63 rfl ?_
            refine r_if_le (tgt := 105) dX12_isText_65 (by decide) ?_ ?_
            · refine r_lo [1, 2, 3, 4, 5, 6, 7, 0] (lo2 := [(0, .ref mo), (1, .ref (ma a1)), (2, wi a2), (3, wi a3), (4, wi v4_15), (6, wi v6_15), (7, wi x7_36), (8, wi t0_56)]) rfl ?_
              exact hJ105 _
            · refine r_aload_n (x := ma a1) dX12_isText_68 rfl rfl ?_
              refine r_iload_n (x := a2) dX12_isText_69 rfl rfl ?_
              refine r_iload (x := v6_15) dX12_isText_70 rfl ?_
              refine r_iadd dX12_isText_72 ?_
              refine ro_iconst (v := 1) dX12_isText_73 rfl ?_
              refine r_isub dX12_isText_74 ?_
              refine r_miald h hA1 dX12_isText_75 ?_
              refine r_sipush (v := 1000) dX12_isText_76 rfl ?_
              refine r_idiv dX12_isText_79 (by decide) ?_
              refine r_iload (x := t0_56) dX12_isText_80 rfl ?_
              refine r_icmp_ne (tgt := 105) dX12_isText_82 (by decide) ?_ ?_
              · refine r_lo [1, 2, 3, 4, 5, 6, 7, 0] (lo2 := [(0, .ref mo), (1, .ref (ma a1)), (2, wi a2), (3, wi a3), (4, wi v4_15), (6, wi v6_15), (7, wi x7_36), (8, wi t0_56)]) rfl ?_
                exact hJ105 _
              · refine r_aload_n (x := mo) dX12_isText_85 rfl rfl ?_
                refine r_mgetA (kk := 38) h inU12 rfl (by decide) uf_101 rfl rfl dX12_isText_86 ?_
                refine r_iload (x := v4_15) dX12_isText_89 rfl ?_
                refine ro_iconst (v := 1) dX12_isText_91 rfl ?_
                refine r_isub dX12_isText_92 ?_
                refine r_miald h (by decide) dX12_isText_93 ?_
                refine r_iload (x := v6_15) dX12_isText_94 rfl ?_
                refine ro_iconst (v := 1) dX12_isText_96 rfl ?_
                refine r_isub dX12_isText_97 ?_
                refine r_icmp_ne (tgt := 105) dX12_isText_98 (by decide) ?_ ?_
                · refine r_lo [1, 2, 3, 4, 5, 6, 7, 0] (lo2 := [(0, .ref mo), (1, .ref (ma a1)), (2, wi a2), (3, wi a3), (4, wi v4_15), (6, wi v6_15), (7, wi x7_36), (8, wi t0_56)]) rfl ?_
                  exact hJ105 _
                · refine ro_iconst (v := 1) dX12_isText_101 rfl ?_
                  refine r_goto (tgt := 106) dX12_isText_102 (by decide) ?_
                  refine r_lo [1, 2, 3, 4, 5, 6, 7, 0] (lo2 := [(0, .ref mo), (1, .ref (ma a1)), (2, wi a2), (3, wi a3), (4, wi v4_15), (6, wi v6_15), (7, wi x7_36), (8, wi t0_56)]) rfl ?_
                  exact hJ106 _ _
        refine r_if_ne (tgt := 47) dX12_isText_40 (by decide) ?_ ?_
        · refine r_aload_n (x := mo) dX12_isText_47 rfl rfl ?_
          refine r_mgetA (kk := 37) h inU12 rfl (by decide) uf_98 rfl rfl dX12_isText_48 ?_
          refine r_iload (x := v4_15) dX12_isText_51 rfl ?_
          refine ro_iconst (v := 1) dX12_isText_53 rfl ?_
          refine r_isub dX12_isText_54 ?_
          refine r_miald h (by decide) dX12_isText_55 ?_
          refine r_lo [1, 2, 3, 4, 5, 7, 0] (lo2 := [(0, .ref mo), (1, .ref (ma a1)), (2, wi a2), (3, wi a3), (4, wi v4_15), (6, wi v6_15), (7, wi x7_36)]) rfl ?_
          exact hJ56 _ _
        · refine ro_iconst (v := (-1)) dX12_isText_43 rfl ?_
          refine r_goto (tgt := 56) dX12_isText_44 (by decide) ?_
          refine r_lo [1, 2, 3, 4, 5, 7, 0] (lo2 := [(0, .ref mo), (1, .ref (ma a1)), (2, wi a2), (3, wi a3), (4, wi v4_15), (6, wi v6_15), (7, wi x7_36)]) rfl ?_
          exact hJ56 _ _
  refine r_lo [3, 4, 5, 6, 2, 1, 0] (lo2 := [(0, .ref mo), (1, .ref (ma a1)), (2, wi a2), (3, wi a3), (4, wi 0), (5, wi r2), (6, wi 0)]) rfl ?_
  exact hJ15 _ _ _ _
def k_X12_newVersion : Kd := (yX12_newVersion, cX12_newVersion, 7, some .int, [])
theorem kv_X12_newVersion : KV k_X12_newVersion 5 := ⟨uw_mem 2113 (by decide +kernel) rfl, uw_mem 170 (by decide +kernel) rfl, uw_mem 2112 (by decide +kernel) rfl, uw_mem 138 (by decide +kernel) rfl, ⟨by decide +kernel, by decide +kernel⟩, by decide +kernel, by decide +kernel⟩
set_option maxHeartbeats 4000000 in
set_option maxRecDepth 100000 in
theorem c_X12_newVersion {l : Launch} {Γ : Cx} {K0 : Cd} {mo : Nat} {ma : Nat → Nat} (h : mOn Γ mo ma) (a1 : Int) (a2 : Int) (a3 : Nat) (a4 : Int) (a5 : Int) (hA3 : a3 ∈ mAs) (M : Md) : Ct l Γ k_X12_newVersion 1 encI (emM K0) [.ref mo, wi a1, wi a2, .ref (ma a3), wi a4, wi a5] M (fX12_newVersion a1 a2 a3 a4 a5 M) := by
  refine ct_of (by decide +kernel) rfl (Nat.le_of_ble_eq_true rfl) ?_
  refine r_lo [0, 1, 2, 3, 4, 5] (lo2 := [(0, .ref mo), (1, wi a1), (2, wi a2), (3, .ref (ma a3)), (4, wi a4), (5, wi a5)]) rfl ?_
  unfold fX12_newVersion
  refine ro_iconst (v := 0) dX12_newVersion_0 rfl ?_
  refine r_istore (lo2 := [(6, wi 0), (0, .ref mo), (1, wi a1), (2, wi a2), (3, .ref (ma a3)), (4, wi a4), (5, wi a5)]) dX12_newVersion_1 (by decide) rfl ?_
  refine r_loop (P := fun (J : Int → Md → Option (Int × Md)) => ∀ (v6_3 : Int) (M_3 : Md), RunO l Γ k_X12_newVersion 1 encI (emM K0) 3 [(0, .ref mo), (1, wi a1), (2, wi a2), (3, .ref (ma a3)), (4, wi a4), (5, wi a5), (6, wi v6_3)] [] M_3 (J v6_3 M_3)) ?_ (fun L3 hL3 => ?_) (fun J3 hJ3 => ?_)
  · intros; exact ro_none
  · intro v6_3 M_3
    refine r_iload (x := v6_3) dX12_newVersion_3 rfl ?_
    refine r_iload (x := a5) dX12_newVersion_5 rfl ?_
    refine r_icmp_ge (tgt := 38) dX12_newVersion_7 (by decide) ?_ ?_
    · refine r_aload_n (x := mo) dX12_newVersion_38 rfl rfl ?_
      refine r_mgetA (kk := 10) h inU12 rfl (by decide) uf_25 rfl rfl dX12_newVersion_39 ?_
      refine r_aload_n (x := mo) dX12_newVersion_42 rfl rfl ?_
      refine r_mget (kk := 8) h inU12 rfl (by decide) uf_192 rfl rfl dX12_newVersion_43 ?_
      refine r_iload (x := a5) dX12_newVersion_46 rfl ?_
      refine r_miast h (by decide) dX12_newVersion_48 (fun M1 => ?_)
      refine r_aload_n (x := mo) dX12_newVersion_49 rfl rfl ?_
      refine r_mgetA (kk := 11) h inU12 rfl (by decide) uf_28 rfl rfl dX12_newVersion_50 ?_
      refine r_aload_n (x := mo) dX12_newVersion_53 rfl rfl ?_
      refine r_mget (kk := 8) h inU12 rfl (by decide) uf_192 rfl rfl dX12_newVersion_54 ?_
      refine r_iload_n (x := a2) dX12_newVersion_57 rfl rfl ?_
      refine r_miast h (by decide) dX12_newVersion_58 (fun M2 => ?_)
      refine r_aload_n (x := mo) dX12_newVersion_59 rfl rfl ?_
      refine r_mgetA (kk := 12) h inU12 rfl (by decide) uf_31 rfl rfl dX12_newVersion_60 ?_
      refine r_aload_n (x := mo) dX12_newVersion_63 rfl rfl ?_
      refine r_mget (kk := 8) h inU12 rfl (by decide) uf_192 rfl rfl dX12_newVersion_64 ?_
      refine r_iload_n (x := a1) dX12_newVersion_67 rfl rfl ?_
      refine r_miast h (by decide) dX12_newVersion_68 (fun M3 => ?_)
      refine r_aload_n (x := mo) dX12_newVersion_69 rfl rfl ?_
      refine r_dup dX12_newVersion_70 rfl ?_
      refine r_mget (kk := 8) h inU12 rfl (by decide) uf_192 rfl rfl dX12_newVersion_71 ?_
      refine ro_iconst (v := 1) dX12_newVersion_74 rfl ?_
      refine r_iadd dX12_newVersion_75 ?_
      refine r_mput (kk := 8) h inU12 rfl (by decide) uf_192 rfl rfl rfl rfl dX12_newVersion_76 (fun M4 => ?_)
      refine r_aload_n (x := mo) dX12_newVersion_79 rfl rfl ?_
      refine r_mget (kk := 8) h inU12 rfl (by decide) uf_192 rfl rfl dX12_newVersion_80 ?_
      refine ro_iconst (v := 1) dX12_newVersion_83 rfl ?_
      refine r_isub dX12_newVersion_84 ?_
      exact r_iret rfl dX12_newVersion_85
    · refine r_aload_n (x := mo) dX12_newVersion_10 rfl rfl ?_
      refine r_mgetA (kk := 9) h inU12 rfl (by decide) uf_22 rfl rfl dX12_newVersion_11 ?_
      refine r_bipush (v := 30) dX12_newVersion_14 rfl ?_
      refine r_aload_n (x := mo) dX12_newVersion_16 rfl rfl ?_
      refine r_mget (kk := 8) h inU12 rfl (by decide) uf_192 rfl rfl dX12_newVersion_17 ?_
      refine r_imul dX12_newVersion_20 ?_
      refine r_iload (x := v6_3) dX12_newVersion_21 rfl ?_
      refine r_iadd dX12_newVersion_23 ?_
      refine r_aload_n (x := ma a3) dX12_newVersion_24 rfl rfl ?_
      refine r_iload (x := a4) dX12_newVersion_25 rfl ?_
      refine r_iload (x := v6_3) dX12_newVersion_27 rfl ?_
      refine r_iadd dX12_newVersion_29 ?_
      refine r_miald h hA3 dX12_newVersion_30 ?_
      refine r_miast h (by decide) dX12_newVersion_31 (fun M5 => ?_)
      refine r_iinc (x := v6_3) (lo2 := [(6, wi (v6_3 + 1)), (0, .ref mo), (1, wi a1), (2, wi a2), (3, .ref (ma a3)), (4, wi a4), (5, wi a5)]) dX12_newVersion_32 rfl (by decide) rfl ?_
      refine r_goto (tgt := 3) dX12_newVersion_35 (by decide) ?_
      refine r_lo [1, 2, 3, 4, 5, 6, 0] (lo2 := [(0, .ref mo), (1, wi a1), (2, wi a2), (3, .ref (ma a3)), (4, wi a4), (5, wi a5), (6, wi (v6_3 + 1))]) rfl ?_
      exact hL3 _ _
  refine r_lo [1, 2, 3, 4, 5, 6, 0] (lo2 := [(0, .ref mo), (1, wi a1), (2, wi a2), (3, .ref (ma a3)), (4, wi a4), (5, wi a5), (6, wi 0)]) rfl ?_
  exact hJ3 _ _
def k_X12_settleTitles : Kd := (yX12_settleTitles, cX12_settleTitles, 3, none, [])
theorem kv_X12_settleTitles : KV k_X12_settleTitles 0 := ⟨uw_mem 2117 (by decide +kernel) rfl, uw_mem 170 (by decide +kernel) rfl, uw_mem 2116 (by decide +kernel) rfl, uw_mem 139 (by decide +kernel) rfl, ⟨by decide +kernel, by decide +kernel⟩, by decide +kernel, by decide +kernel⟩
set_option maxHeartbeats 4000000 in
set_option maxRecDepth 100000 in
theorem c_X12_settleTitles {l : Launch} {Γ : Cx} {K0 : Cd} {mo : Nat} {ma : Nat → Nat} (h : mOn Γ mo ma)  (M : Md) : Ct l Γ k_X12_settleTitles 4 encV (emM K0) [.ref mo] M (fX12_settleTitles  M) := by
  refine ct_of (by decide +kernel) rfl (Nat.le_of_ble_eq_true rfl) ?_
  refine r_lo [0] (lo2 := [(0, .ref mo)]) rfl ?_
  unfold fX12_settleTitles
  refine ro_iconst (v := 0) dX12_settleTitles_0 rfl ?_
  refine r_istore_n (lo2 := [(1, wi 0), (0, .ref mo)]) dX12_settleTitles_1 rfl (by decide) rfl ?_
  refine r_loop (P := fun (J : Int → Md → Option (Unit × Md)) => ∀ (v1_2 : Int) (M_2 : Md), RunO l Γ k_X12_settleTitles 4 encV (emM K0) 2 [(0, .ref mo), (1, wi v1_2)] [] M_2 (J v1_2 M_2)) ?_ (fun L2 hL2 => ?_) (fun J2 hJ2 => ?_)
  · intros; exact ro_none
  · intro v1_2 M_2
    refine r_iload_n (x := v1_2) dX12_settleTitles_2 rfl rfl ?_
    refine r_bipush (v := 24) dX12_settleTitles_3 rfl ?_
    refine r_icmp_ge (tgt := 57) dX12_settleTitles_5 (by decide) ?_ ?_
    · exact r_vret rfl dX12_settleTitles_57
    · refine r_aload_n (x := mo) dX12_settleTitles_8 rfl rfl ?_
      refine r_iload_n (x := v1_2) dX12_settleTitles_9 rfl rfl ?_
      refine r_callVi (k2 := k_X12_presentAt) (n := 1) (rest := []) rfl kv_X12_presentAt (c_X12_presentAt h _ _) (by decide) um_209 rfl (Nat.le_of_ble_eq_true rfl) dX12_settleTitles_10 (m_rec h) rfl (fun r2 M1 => ?_)
      refine r_istore_n (lo2 := [(2, wi r2), (0, .ref mo), (1, wi v1_2)]) dX12_settleTitles_13 rfl (by decide) rfl ?_
      refine r_iload_n (x := r2) dX12_settleTitles_14 rfl rfl ?_
      refine r_aload_n (x := mo) dX12_settleTitles_15 rfl rfl ?_
      refine r_mgetA (kk := 26) h inU12 rfl (by decide) uf_67 rfl rfl dX12_settleTitles_16 ?_
      refine r_iload_n (x := v1_2) dX12_settleTitles_19 rfl rfl ?_
      refine r_miald h (by decide) dX12_settleTitles_20 ?_
      refine r_join (P := fun (J : Md → Option (Unit × Md)) => ∀ (M_51 : Md), RunO l Γ k_X12_settleTitles 4 encV (emM K0) 51 [(0, .ref mo), (1, wi v1_2)] [] M_51 (J M_51)) ?_ (fun J51 hJ51 => ?_)
      · intro M_51
        refine r_iinc (x := v1_2) (lo2 := [(1, wi (v1_2 + 1)), (0, .ref mo)]) dX12_settleTitles_51 rfl (by decide) rfl ?_
        refine r_goto (tgt := 2) dX12_settleTitles_54 (by decide) ?_
        refine r_lo [1, 0] (lo2 := [(0, .ref mo), (1, wi (v1_2 + 1))]) rfl ?_
        exact hL2 _ _
      refine r_icmp_eq (tgt := 51) dX12_settleTitles_21 (by decide) ?_ ?_
      · refine r_lo [1, 2] (lo2 := [(0, .ref mo), (1, wi v1_2)]) rfl ?_
        exact hJ51 _
      · refine r_aload_n (x := mo) dX12_settleTitles_24 rfl rfl ?_
        refine r_mgetA (kk := 26) h inU12 rfl (by decide) uf_67 rfl rfl dX12_settleTitles_25 ?_
        refine r_iload_n (x := v1_2) dX12_settleTitles_28 rfl rfl ?_
        refine r_iload_n (x := r2) dX12_settleTitles_29 rfl rfl ?_
        refine r_miast h (by decide) dX12_settleTitles_30 (fun M3 => ?_)
        refine r_aload_n (x := mo) dX12_settleTitles_31 rfl rfl ?_
        refine r_dup dX12_settleTitles_32 rfl ?_
        refine r_mget (kk := 22) h inU12 rfl (by decide) uf_212 rfl rfl dX12_settleTitles_33 ?_
        refine ro_iconst (v := 1) dX12_settleTitles_36 rfl ?_
        refine r_iadd dX12_settleTitles_37 ?_
        refine r_mput (kk := 22) h inU12 rfl (by decide) uf_212 rfl rfl rfl rfl dX12_settleTitles_38 (fun M4 => ?_)
        refine r_aload_n (x := mo) dX12_settleTitles_41 rfl rfl ?_
        refine r_mgetA (kk := 23) h inU12 rfl (by decide) uf_58 rfl rfl dX12_settleTitles_42 ?_
        refine r_iload_n (x := v1_2) dX12_settleTitles_45 rfl rfl ?_
        refine r_aload_n (x := mo) dX12_settleTitles_46 rfl rfl ?_
        refine r_mget (kk := 22) h inU12 rfl (by decide) uf_212 rfl rfl dX12_settleTitles_47 ?_
        refine r_miast h (by decide) dX12_settleTitles_50 (fun M5 => ?_)
        refine r_lo [1, 2] (lo2 := [(0, .ref mo), (1, wi v1_2)]) rfl ?_
        exact hJ51 _
  refine r_lo [1, 0] (lo2 := [(0, .ref mo), (1, wi 0)]) rfl ?_
  exact hJ2 _ _
def k_X12_fromDraft : Kd := (yX12_fromDraft, cX12_fromDraft, 4, some .int, [])
theorem kv_X12_fromDraft : KV k_X12_fromDraft 2 := ⟨uw_mem 2109 (by decide +kernel) rfl, uw_mem 170 (by decide +kernel) rfl, uw_mem 2108 (by decide +kernel) rfl, uw_mem 137 (by decide +kernel) rfl, ⟨by decide +kernel, by decide +kernel⟩, by decide +kernel, by decide +kernel⟩
set_option maxHeartbeats 4000000 in
set_option maxRecDepth 100000 in
theorem c_X12_fromDraft {l : Launch} {Γ : Cx} {K0 : Cd} {mo : Nat} {ma : Nat → Nat} (h : mOn Γ mo ma) (a1 : Int) (a2 : Int) (M : Md) : Ct l Γ k_X12_fromDraft 5 encI (emM K0) [.ref mo, wi a1, wi a2] M (fX12_fromDraft a1 a2 M) := by
  refine ct_of (by decide +kernel) rfl (Nat.le_of_ble_eq_true rfl) ?_
  refine r_lo [0, 1, 2] (lo2 := [(0, .ref mo), (1, wi a1), (2, wi a2)]) rfl ?_
  unfold fX12_fromDraft
  refine r_aload_n (x := mo) dX12_fromDraft_0 rfl rfl ?_
  refine r_iload_n (x := a1) dX12_fromDraft_1 rfl rfl ?_
  refine r_iload_n (x := a2) dX12_fromDraft_2 rfl rfl ?_
  refine r_aload_n (x := mo) dX12_fromDraft_3 rfl rfl ?_
  refine r_mgetA (kk := 0) h inU12 rfl (by decide) uf_7 rfl rfl dX12_fromDraft_4 ?_
  refine ro_iconst (v := 0) dX12_fromDraft_7 rfl ?_
  refine r_aload_n (x := mo) dX12_fromDraft_8 rfl rfl ?_
  refine r_mget (kk := 1) h inU12 rfl (by decide) uf_387 rfl rfl dX12_fromDraft_9 ?_
  refine r_callVi (k2 := k_X12_newVersion) (n := 5) (rest := []) rfl kv_X12_newVersion (c_X12_newVersion h _ _ _ _ _ (by decide) _) (by decide) um_218 rfl (Nat.le_of_ble_eq_true rfl) dX12_fromDraft_12 (m_rec h) rfl (fun r2 M1 => ?_)
  refine r_istore_n (lo2 := [(3, wi r2), (0, .ref mo), (1, wi a1), (2, wi a2)]) dX12_fromDraft_15 rfl (by decide) rfl ?_
  refine r_aload_n (x := mo) dX12_fromDraft_16 rfl rfl ?_
  refine ro_iconst (v := 0) dX12_fromDraft_17 rfl ?_
  refine r_mput (kk := 1) h inU12 rfl (by decide) uf_387 rfl rfl rfl rfl dX12_fromDraft_18 (fun M3 => ?_)
  refine r_aload_n (x := mo) dX12_fromDraft_21 rfl rfl ?_
  refine r_callVv (k2 := k_X12_settleTitles) (n := 0) (rest := []) rfl kv_X12_settleTitles (c_X12_settleTitles h _) (by decide) um_396 rfl (Nat.le_of_ble_eq_true rfl) dX12_fromDraft_22 (m_rec h) rfl (fun r5 M4 => ?_)
  refine r_iload_n (x := r2) dX12_fromDraft_25 rfl rfl ?_
  exact r_iret rfl dX12_fromDraft_26
def k_X12_bringIn : Kd := (yX12_bringIn, cX12_bringIn, 3, some .int, [])
theorem kv_X12_bringIn : KV k_X12_bringIn 2 := ⟨uw_mem 2182 (by decide +kernel) rfl, uw_mem 170 (by decide +kernel) rfl, uw_mem 2180 (by decide +kernel) rfl, uw_mem 2181 (by decide +kernel) rfl, ⟨by decide +kernel, by decide +kernel⟩, by decide +kernel, by decide +kernel⟩
set_option maxHeartbeats 4000000 in
set_option maxRecDepth 100000 in
theorem c_X12_bringIn {l : Launch} {Γ : Cx} {K0 : Cd} {mo : Nat} {ma : Nat → Nat} (h : mOn Γ mo ma) (a1 : Int) (a2 : Int) (M : Md) : Ct l Γ k_X12_bringIn 6 encI (emM K0) [.ref mo, wi a1, wi a2] M (fX12_bringIn a1 a2 M) := by
  refine ct_of (by decide +kernel) rfl (Nat.le_of_ble_eq_true rfl) ?_
  refine r_lo [0, 1, 2] (lo2 := [(0, .ref mo), (1, wi a1), (2, wi a2)]) rfl ?_
  unfold fX12_bringIn
  refine r_aload_n (x := mo) dX12_bringIn_0 rfl rfl ?_
  refine r_aload_n (x := mo) dX12_bringIn_1 rfl rfl ?_
  refine r_iload_n (x := a1) dX12_bringIn_2 rfl rfl ?_
  refine r_callVi (k2 := k_X12_hasPage) (n := 1) (rest := [.ref mo]) rfl kv_X12_hasPage (c_X12_hasPage h _ _) (by decide) um_381 rfl (Nat.le_of_ble_eq_true rfl) dX12_bringIn_3 (m_rec h) rfl (fun r2 M1 => ?_)
  refine r_join (P := fun (J : Int → Md → Option (Int × Md)) => ∀ (t0_67 : Int) (M_67 : Md), RunO l Γ k_X12_bringIn 6 encI (emM K0) 67 [(0, .ref mo), (1, wi a1), (2, wi a2)] [wi t0_67, .ref mo] M_67 (J t0_67 M_67)) ?_ (fun J67 hJ67 => ?_)
  · intro t0_67 M_67
    refine r_mput (kk := 36) h inU12 rfl (by decide) uf_180 rfl rfl rfl rfl dX12_bringIn_67 (fun M3 => ?_)
    refine r_aload_n (x := mo) dX12_bringIn_70 rfl rfl ?_
    refine r_mget (kk := 36) h inU12 rfl (by decide) uf_180 rfl rfl dX12_bringIn_71 ?_
    refine r_join (P := fun (J : Int → Md → Option (Int × Md)) => ∀ (t0_92 : Int) (M_92 : Md), RunO l Γ k_X12_bringIn 6 encI (emM K0) 92 [] [wi t0_92] M_92 (J t0_92 M_92)) ?_ (fun J92 hJ92 => ?_)
    · intro t0_92 M_92
      exact r_iret rfl dX12_bringIn_92
    refine r_if_ne (tgt := 91) dX12_bringIn_74 (by decide) ?_ ?_
    · refine ro_iconst (v := 0) dX12_bringIn_91 rfl ?_
      refine r_lo [] (lo2 := []) rfl ?_
      exact hJ92 _ _
    · refine r_aload_n (x := mo) dX12_bringIn_77 rfl rfl ?_
      refine r_aload_n (x := mo) dX12_bringIn_78 rfl rfl ?_
      refine r_mgetA (kk := 6) h inU12 rfl (by decide) uf_19 rfl rfl dX12_bringIn_79 ?_
      refine r_iload_n (x := a1) dX12_bringIn_82 rfl rfl ?_
      refine r_miald h (by decide) dX12_bringIn_83 ?_
      refine r_iload_n (x := a2) dX12_bringIn_84 rfl rfl ?_
      refine r_callVi (k2 := k_X12_fromDraft) (n := 2) (rest := []) rfl kv_X12_fromDraft (c_X12_fromDraft h _ _ _) (by decide) um_406 rfl (Nat.le_of_ble_eq_true rfl) dX12_bringIn_85 (m_rec h) rfl (fun r5 M4 => ?_)
      refine r_goto (tgt := 92) dX12_bringIn_88 (by decide) ?_
      refine r_lo [] (lo2 := []) rfl ?_
      exact hJ92 _ _
  refine r_if_ne (tgt := 13) dX12_bringIn_6 (by decide) ?_ ?_
  · refine r_iload_n (x := a2) dX12_bringIn_13 rfl rfl ?_
    refine ro_iconst (v := 1) dX12_bringIn_14 rfl ?_
    refine r_aload_n (x := mo) dX12_bringIn_15 rfl rfl ?_
    refine r_mget (kk := 5) h inU12 rfl (by decide) uf_215 rfl rfl dX12_bringIn_16 ?_
    refine r_callSi (k2 := k_X12_in) (n := 3) (rest := [.ref mo]) rfl kv_X12_in (c_X12_in h _ _ _ _) (by decide) um_184 rfl (Nat.le_of_ble_eq_true rfl) dX12_bringIn_19 rfl (fun r7 M6 => ?_)
    refine r_if_ne (tgt := 29) dX12_bringIn_22 (by decide) ?_ ?_
    · refine r_aload_n (x := mo) dX12_bringIn_29 rfl rfl ?_
      refine r_iload_n (x := a1) dX12_bringIn_30 rfl rfl ?_
      refine r_callVi (k2 := k_X12_mayAt) (n := 1) (rest := [.ref mo]) rfl kv_X12_mayAt (c_X12_mayAt h _ _) (by decide) um_393 rfl (Nat.le_of_ble_eq_true rfl) dX12_bringIn_31 (m_rec h) rfl (fun r9 M8 => ?_)
      refine r_join (P := fun (J : Md → Option (Int × Md)) => ∀ (M_62 : Md), RunO l Γ k_X12_bringIn 6 encI (emM K0) 62 [(0, .ref mo), (1, wi a1), (2, wi a2)] [.ref mo] M_62 (J M_62)) ?_ (fun J62 hJ62 => ?_)
      · intro M_62
        refine ro_iconst (v := 3) dX12_bringIn_62 rfl ?_
        refine r_goto (tgt := 67) dX12_bringIn_63 (by decide) ?_
        exact hJ67 _ _
      refine r_if_eq (tgt := 62) dX12_bringIn_34 (by decide) ?_ ?_
      · exact hJ62 _
      · refine r_aload_n (x := mo) dX12_bringIn_37 rfl rfl ?_
        refine r_aload_n (x := mo) dX12_bringIn_38 rfl rfl ?_
        refine r_mgetA (kk := 0) h inU12 rfl (by decide) uf_7 rfl rfl dX12_bringIn_39 ?_
        refine ro_iconst (v := 0) dX12_bringIn_42 rfl ?_
        refine r_aload_n (x := mo) dX12_bringIn_43 rfl rfl ?_
        refine r_mget (kk := 1) h inU12 rfl (by decide) uf_387 rfl rfl dX12_bringIn_44 ?_
        refine r_callVi (k2 := k_X12_isText) (n := 3) (rest := [.ref mo]) rfl kv_X12_isText (c_X12_isText h _ _ _ (by decide) _) (by decide) um_399 rfl (Nat.le_of_ble_eq_true rfl) dX12_bringIn_47 (m_rec h) rfl (fun r11 M10 => ?_)
        refine r_if_eq (tgt := 62) dX12_bringIn_50 (by decide) ?_ ?_
        · exact hJ62 _
        · refine r_aload_n (x := mo) dX12_bringIn_53 rfl rfl ?_
          refine r_mget (kk := 8) h inU12 rfl (by decide) uf_192 rfl rfl dX12_bringIn_54 ?_
          refine r_bipush (v := 120) dX12_bringIn_57 rfl ?_
          refine r_icmp_ne (tgt := 66) dX12_bringIn_59 (by decide) ?_ ?_
          · refine ro_iconst (v := 0) dX12_bringIn_66 rfl ?_
            exact hJ67 _ _
          · exact hJ62 _
    · refine ro_iconst (v := 2) dX12_bringIn_25 rfl ?_
      refine r_goto (tgt := 67) dX12_bringIn_26 (by decide) ?_
      exact hJ67 _ _
  · refine ro_iconst (v := 1) dX12_bringIn_9 rfl ?_
    refine r_goto (tgt := 67) dX12_bringIn_10 (by decide) ?_
    exact hJ67 _ _
def k_X12_clock : Kd := (yX12_clock, cX12_clock, 1, some .int, [])
theorem kv_X12_clock : KV k_X12_clock 0 := ⟨uw_mem 2225 (by decide +kernel) rfl, uw_mem 170 (by decide +kernel) rfl, uw_mem 2223 (by decide +kernel) rfl, uw_mem 2224 (by decide +kernel) rfl, ⟨by decide +kernel, by decide +kernel⟩, by decide +kernel, by decide +kernel⟩
set_option maxHeartbeats 4000000 in
set_option maxRecDepth 100000 in
theorem c_X12_clock {l : Launch} {Γ : Cx} {K0 : Cd} {mo : Nat} {ma : Nat → Nat} (h : mOn Γ mo ma)  (M : Md) : Ct l Γ k_X12_clock 1 encI (emM K0) [.ref mo] M (fX12_clock  M) := by
  refine ct_of (by decide +kernel) rfl (Nat.le_of_ble_eq_true rfl) ?_
  refine r_lo [0] (lo2 := [(0, .ref mo)]) rfl ?_
  unfold fX12_clock
  refine r_aload_n (x := mo) dX12_clock_0 rfl rfl ?_
  refine ro_iconst (v := 0) dX12_clock_1 rfl ?_
  refine r_mput (kk := 36) h inU12 rfl (by decide) uf_180 rfl rfl rfl rfl dX12_clock_2 (fun M1 => ?_)
  refine r_aload_n (x := mo) dX12_clock_5 rfl rfl ?_
  refine r_mget (kk := 5) h inU12 rfl (by decide) uf_215 rfl rfl dX12_clock_6 ?_
  exact r_iret rfl dX12_clock_9
def k_X12_newPage : Kd := (yX12_newPage, cX12_newPage, 2, some .int, [])
theorem kv_X12_newPage : KV k_X12_newPage 1 := ⟨uw_mem 2105 (by decide +kernel) rfl, uw_mem 170 (by decide +kernel) rfl, uw_mem 2104 (by decide +kernel) rfl, uw_mem 136 (by decide +kernel) rfl, ⟨by decide +kernel, by decide +kernel⟩, by decide +kernel, by decide +kernel⟩
set_option maxHeartbeats 4000000 in
set_option maxRecDepth 100000 in
theorem c_X12_newPage {l : Launch} {Γ : Cx} {K0 : Cd} {mo : Nat} {ma : Nat → Nat} (h : mOn Γ mo ma) (a1 : Int) (M : Md) : Ct l Γ k_X12_newPage 1 encI (emM K0) [.ref mo, wi a1] M (fX12_newPage a1 M) := by
  refine ct_of (by decide +kernel) rfl (Nat.le_of_ble_eq_true rfl) ?_
  refine r_lo [0, 1] (lo2 := [(0, .ref mo), (1, wi a1)]) rfl ?_
  unfold fX12_newPage
  refine r_aload_n (x := mo) dX12_newPage_0 rfl rfl ?_
  refine r_mgetA (kk := 6) h inU12 rfl (by decide) uf_19 rfl rfl dX12_newPage_1 ?_
  refine r_iload_n (x := a1) dX12_newPage_4 rfl rfl ?_
  refine r_aload_n (x := mo) dX12_newPage_5 rfl rfl ?_
  refine r_mget (kk := 7) h inU12 rfl (by decide) uf_222 rfl rfl dX12_newPage_6 ?_
  refine r_miast h (by decide) dX12_newPage_9 (fun M1 => ?_)
  refine r_aload_n (x := mo) dX12_newPage_10 rfl rfl ?_
  refine r_dup dX12_newPage_11 rfl ?_
  refine r_mget (kk := 7) h inU12 rfl (by decide) uf_222 rfl rfl dX12_newPage_12 ?_
  refine ro_iconst (v := 1) dX12_newPage_15 rfl ?_
  refine r_iadd dX12_newPage_16 ?_
  refine r_mput (kk := 7) h inU12 rfl (by decide) uf_222 rfl rfl rfl rfl dX12_newPage_17 (fun M2 => ?_)
  refine r_aload_n (x := mo) dX12_newPage_20 rfl rfl ?_
  refine r_mgetA (kk := 6) h inU12 rfl (by decide) uf_19 rfl rfl dX12_newPage_21 ?_
  refine r_iload_n (x := a1) dX12_newPage_24 rfl rfl ?_
  refine r_miald h (by decide) dX12_newPage_25 ?_
  exact r_iret rfl dX12_newPage_26
def k_X12_create : Kd := (yX12_create, cX12_create, 2, some .int, [])
theorem kv_X12_create : KV k_X12_create 1 := ⟨uw_mem 2097 (by decide +kernel) rfl, uw_mem 170 (by decide +kernel) rfl, uw_mem 2095 (by decide +kernel) rfl, uw_mem 2096 (by decide +kernel) rfl, ⟨by decide +kernel, by decide +kernel⟩, by decide +kernel, by decide +kernel⟩
set_option maxHeartbeats 4000000 in
set_option maxRecDepth 100000 in
theorem c_X12_create {l : Launch} {Γ : Cx} {K0 : Cd} {mo : Nat} {ma : Nat → Nat} (h : mOn Γ mo ma) (a1 : Int) (M : Md) : Ct l Γ k_X12_create 6 encI (emM K0) [.ref mo, wi a1] M (fX12_create a1 M) := by
  refine ct_of (by decide +kernel) rfl (Nat.le_of_ble_eq_true rfl) ?_
  refine r_lo [0, 1] (lo2 := [(0, .ref mo), (1, wi a1)]) rfl ?_
  unfold fX12_create
  refine r_aload_n (x := mo) dX12_create_0 rfl rfl ?_
  refine r_iload_n (x := a1) dX12_create_1 rfl rfl ?_
  refine r_callSi (k2 := k_X12_isTitle) (n := 1) (rest := [.ref mo]) rfl kv_X12_isTitle (c_X12_isTitle h _ _) (by decide) um_188 rfl (Nat.le_of_ble_eq_true rfl) dX12_create_2 rfl (fun r2 M1 => ?_)
  refine r_join (P := fun (J : Int → Md → Option (Int × Md)) => ∀ (t0_60 : Int) (M_60 : Md), RunO l Γ k_X12_create 6 encI (emM K0) 60 [(0, .ref mo), (1, wi a1)] [wi t0_60, .ref mo] M_60 (J t0_60 M_60)) ?_ (fun J60 hJ60 => ?_)
  · intro t0_60 M_60
    refine r_mput (kk := 36) h inU12 rfl (by decide) uf_180 rfl rfl rfl rfl dX12_create_60 (fun M3 => ?_)
    refine r_aload_n (x := mo) dX12_create_63 rfl rfl ?_
    refine r_mget (kk := 36) h inU12 rfl (by decide) uf_180 rfl rfl dX12_create_64 ?_
    refine r_if_le (tgt := 72) dX12_create_67 (by decide) ?_ ?_
    · refine r_aload_n (x := mo) dX12_create_72 rfl rfl ?_
      refine r_dup dX12_create_73 rfl ?_
      refine r_mget (kk := 5) h inU12 rfl (by decide) uf_215 rfl rfl dX12_create_74 ?_
      refine ro_iconst (v := 1) dX12_create_77 rfl ?_
      refine r_iadd dX12_create_78 ?_
      refine r_mput (kk := 5) h inU12 rfl (by decide) uf_215 rfl rfl rfl rfl dX12_create_79 (fun M4 => ?_)
      refine r_aload_n (x := mo) dX12_create_82 rfl rfl ?_
      refine r_aload_n (x := mo) dX12_create_83 rfl rfl ?_
      refine r_iload_n (x := a1) dX12_create_84 rfl rfl ?_
      refine r_callVi (k2 := k_X12_newPage) (n := 1) (rest := [.ref mo]) rfl kv_X12_newPage (c_X12_newPage h _ _) (by decide) um_403 rfl (Nat.le_of_ble_eq_true rfl) dX12_create_85 (m_rec h) rfl (fun r6 M5 => ?_)
      refine r_aload_n (x := mo) dX12_create_88 rfl rfl ?_
      refine r_mget (kk := 5) h inU12 rfl (by decide) uf_215 rfl rfl dX12_create_89 ?_
      refine r_callVi (k2 := k_X12_fromDraft) (n := 2) (rest := []) rfl kv_X12_fromDraft (c_X12_fromDraft h _ _ _) (by decide) um_406 rfl (Nat.le_of_ble_eq_true rfl) dX12_create_92 (m_rec h) rfl (fun r8 M7 => ?_)
      exact r_iret rfl dX12_create_95
    · refine ro_iconst (v := 0) dX12_create_70 rfl ?_
      exact r_iret rfl dX12_create_71
  refine r_if_ne (tgt := 12) dX12_create_5 (by decide) ?_ ?_
  · refine r_aload_n (x := mo) dX12_create_12 rfl rfl ?_
    refine r_mgetA (kk := 6) h inU12 rfl (by decide) uf_19 rfl rfl dX12_create_13 ?_
    refine r_iload_n (x := a1) dX12_create_16 rfl rfl ?_
    refine r_miald h (by decide) dX12_create_17 ?_
    refine ro_iconst (v := (-1)) dX12_create_18 rfl ?_
    refine r_join (P := fun (J : Md → Option (Int × Md)) => ∀ (M_55 : Md), RunO l Γ k_X12_create 6 encI (emM K0) 55 [(0, .ref mo), (1, wi a1)] [.ref mo] M_55 (J M_55)) ?_ (fun J55 hJ55 => ?_)
    · intro M_55
      refine ro_iconst (v := 2) dX12_create_55 rfl ?_
      refine r_goto (tgt := 60) dX12_create_56 (by decide) ?_
      exact hJ60 _ _
    refine r_icmp_ne (tgt := 55) dX12_create_19 (by decide) ?_ ?_
    · exact hJ55 _
    · refine r_aload_n (x := mo) dX12_create_22 rfl rfl ?_
      refine r_iload_n (x := a1) dX12_create_23 rfl rfl ?_
      refine r_callVi (k2 := k_X12_mayAt) (n := 1) (rest := [.ref mo]) rfl kv_X12_mayAt (c_X12_mayAt h _ _) (by decide) um_393 rfl (Nat.le_of_ble_eq_true rfl) dX12_create_24 (m_rec h) rfl (fun r10 M9 => ?_)
      refine r_if_eq (tgt := 55) dX12_create_27 (by decide) ?_ ?_
      · exact hJ55 _
      · refine r_aload_n (x := mo) dX12_create_30 rfl rfl ?_
        refine r_aload_n (x := mo) dX12_create_31 rfl rfl ?_
        refine r_mgetA (kk := 0) h inU12 rfl (by decide) uf_7 rfl rfl dX12_create_32 ?_
        refine ro_iconst (v := 0) dX12_create_35 rfl ?_
        refine r_aload_n (x := mo) dX12_create_36 rfl rfl ?_
        refine r_mget (kk := 1) h inU12 rfl (by decide) uf_387 rfl rfl dX12_create_37 ?_
        refine r_callVi (k2 := k_X12_isText) (n := 3) (rest := [.ref mo]) rfl kv_X12_isText (c_X12_isText h _ _ _ (by decide) _) (by decide) um_399 rfl (Nat.le_of_ble_eq_true rfl) dX12_create_40 (m_rec h) rfl (fun r12 M11 => ?_)
        refine r_if_eq (tgt := 55) dX12_create_43 (by decide) ?_ ?_
        · exact hJ55 _
        · refine r_aload_n (x := mo) dX12_create_46 rfl rfl ?_
          refine r_mget (kk := 8) h inU12 rfl (by decide) uf_192 rfl rfl dX12_create_47 ?_
          refine r_bipush (v := 120) dX12_create_50 rfl ?_
          refine r_icmp_ne (tgt := 59) dX12_create_52 (by decide) ?_ ?_
          · refine ro_iconst (v := 0) dX12_create_59 rfl ?_
            exact hJ60 _ _
          · exact hJ55 _
  · refine ro_iconst (v := 1) dX12_create_8 rfl ?_
    refine r_goto (tgt := 60) dX12_create_9 (by decide) ?_
    exact hJ60 _ _
def k_X12_setCategories : Kd := (yX12_setCategories, cX12_setCategories, 4, none, [])
theorem kv_X12_setCategories : KV k_X12_setCategories 2 := ⟨uw_mem 2062 (by decide +kernel) rfl, uw_mem 170 (by decide +kernel) rfl, uw_mem 2061 (by decide +kernel) rfl, uw_mem 132 (by decide +kernel) rfl, ⟨by decide +kernel, by decide +kernel⟩, by decide +kernel, by decide +kernel⟩
set_option maxHeartbeats 4000000 in
set_option maxRecDepth 100000 in
theorem c_X12_setCategories {l : Launch} {Γ : Cx} {K0 : Cd} {mo : Nat} {ma : Nat → Nat} (h : mOn Γ mo ma) (a1 : Int) (a2 : Int) (M : Md) : Ct l Γ k_X12_setCategories 1 encV (emM K0) [.ref mo, wi a1, wi a2] M (fX12_setCategories a1 a2 M) := by
  refine ct_of (by decide +kernel) rfl (Nat.le_of_ble_eq_true rfl) ?_
  refine r_lo [0, 1, 2] (lo2 := [(0, .ref mo), (1, wi a1), (2, wi a2)]) rfl ?_
  unfold fX12_setCategories
  refine ro_iconst (v := 0) dX12_setCategories_0 rfl ?_
  refine r_istore_n (lo2 := [(3, wi 0), (0, .ref mo), (1, wi a1), (2, wi a2)]) dX12_setCategories_1 rfl (by decide) rfl ?_
  refine r_loop (P := fun (J : Int → Md → Option (Unit × Md)) => ∀ (v3_2 : Int) (M_2 : Md), RunO l Γ k_X12_setCategories 1 encV (emM K0) 2 [(0, .ref mo), (1, wi a1), (2, wi a2), (3, wi v3_2)] [] M_2 (J v3_2 M_2)) ?_ (fun L2 hL2 => ?_) (fun J2 hJ2 => ?_)
  · intros; exact ro_none
  · intro v3_2 M_2
    refine r_iload_n (x := v3_2) dX12_setCategories_2 rfl rfl ?_
    refine r_bipush (v := 8) dX12_setCategories_3 rfl ?_
    refine r_icmp_ge (tgt := 52) dX12_setCategories_5 (by decide) ?_ ?_
    · refine r_aload_n (x := mo) dX12_setCategories_52 rfl rfl ?_
      refine r_mgetA (kk := 32) h inU12 rfl (by decide) uf_86 rfl rfl dX12_setCategories_53 ?_
      refine r_iload_n (x := a1) dX12_setCategories_56 rfl rfl ?_
      refine r_iload_n (x := a2) dX12_setCategories_57 rfl rfl ?_
      refine r_miast h (by decide) dX12_setCategories_58 (fun M1 => ?_)
      exact r_vret rfl dX12_setCategories_59
    · refine r_aload_n (x := mo) dX12_setCategories_8 rfl rfl ?_
      refine r_mgetA (kk := 32) h inU12 rfl (by decide) uf_86 rfl rfl dX12_setCategories_9 ?_
      refine r_iload_n (x := a1) dX12_setCategories_12 rfl rfl ?_
      refine r_miald h (by decide) dX12_setCategories_13 ?_
      refine r_iload_n (x := v3_2) dX12_setCategories_14 rfl rfl ?_
      refine r_ishr dX12_setCategories_15 ?_
      refine ro_iconst (v := 1) dX12_setCategories_16 rfl ?_
      refine r_iand dX12_setCategories_17 ?_
      refine r_iload_n (x := a2) dX12_setCategories_18 rfl rfl ?_
      refine r_iload_n (x := v3_2) dX12_setCategories_19 rfl rfl ?_
      refine r_ishr dX12_setCategories_20 ?_
      refine ro_iconst (v := 1) dX12_setCategories_21 rfl ?_
      refine r_iand dX12_setCategories_22 ?_
      refine r_join (P := fun (J : Md → Option (Unit × Md)) => ∀ (M_46 : Md), RunO l Γ k_X12_setCategories 1 encV (emM K0) 46 [(0, .ref mo), (1, wi a1), (2, wi a2), (3, wi v3_2)] [] M_46 (J M_46)) ?_ (fun J46 hJ46 => ?_)
      · intro M_46
        refine r_iinc (x := v3_2) (lo2 := [(3, wi (v3_2 + 1)), (0, .ref mo), (1, wi a1), (2, wi a2)]) dX12_setCategories_46 rfl (by decide) rfl ?_
        refine r_goto (tgt := 2) dX12_setCategories_49 (by decide) ?_
        refine r_lo [1, 2, 3, 0] (lo2 := [(0, .ref mo), (1, wi a1), (2, wi a2), (3, wi (v3_2 + 1))]) rfl ?_
        exact hL2 _ _
      refine r_icmp_eq (tgt := 46) dX12_setCategories_23 (by decide) ?_ ?_
      · exact hJ46 _
      · refine r_aload_n (x := mo) dX12_setCategories_26 rfl rfl ?_
        refine r_dup dX12_setCategories_27 rfl ?_
        refine r_mget (kk := 22) h inU12 rfl (by decide) uf_212 rfl rfl dX12_setCategories_28 ?_
        refine ro_iconst (v := 1) dX12_setCategories_31 rfl ?_
        refine r_iadd dX12_setCategories_32 ?_
        refine r_mput (kk := 22) h inU12 rfl (by decide) uf_212 rfl rfl rfl rfl dX12_setCategories_33 (fun M2 => ?_)
        refine r_aload_n (x := mo) dX12_setCategories_36 rfl rfl ?_
        refine r_mgetA (kk := 24) h inU12 rfl (by decide) uf_61 rfl rfl dX12_setCategories_37 ?_
        refine r_iload_n (x := v3_2) dX12_setCategories_40 rfl rfl ?_
        refine r_aload_n (x := mo) dX12_setCategories_41 rfl rfl ?_
        refine r_mget (kk := 22) h inU12 rfl (by decide) uf_212 rfl rfl dX12_setCategories_42 ?_
        refine r_miast h (by decide) dX12_setCategories_45 (fun M3 => ?_)
        exact hJ46 _
  refine r_lo [1, 2, 3, 0] (lo2 := [(0, .ref mo), (1, wi a1), (2, wi a2), (3, wi 0)]) rfl ?_
  exact hJ2 _ _
def k_X12_dropRendering : Kd := (yX12_dropRendering, cX12_dropRendering, 2, none, [])
theorem kv_X12_dropRendering : KV k_X12_dropRendering 1 := ⟨uw_mem 2190 (by decide +kernel) rfl, uw_mem 170 (by decide +kernel) rfl, uw_mem 2189 (by decide +kernel) rfl, uw_mem 151 (by decide +kernel) rfl, ⟨by decide +kernel, by decide +kernel⟩, by decide +kernel, by decide +kernel⟩
set_option maxHeartbeats 4000000 in
set_option maxRecDepth 100000 in
theorem c_X12_dropRendering {l : Launch} {Γ : Cx} {K0 : Cd} {mo : Nat} {ma : Nat → Nat} (h : mOn Γ mo ma) (a1 : Int) (M : Md) : Ct l Γ k_X12_dropRendering 2 encV (emM K0) [.ref mo, wi a1] M (fX12_dropRendering a1 M) := by
  refine ct_of (by decide +kernel) rfl (Nat.le_of_ble_eq_true rfl) ?_
  refine r_lo [0, 1] (lo2 := [(0, .ref mo), (1, wi a1)]) rfl ?_
  unfold fX12_dropRendering
  refine r_aload_n (x := mo) dX12_dropRendering_0 rfl rfl ?_
  refine r_mgetA (kk := 27) h inU12 rfl (by decide) uf_70 rfl rfl dX12_dropRendering_1 ?_
  refine r_iload_n (x := a1) dX12_dropRendering_4 rfl rfl ?_
  refine r_mzald h dX12_dropRendering_5 ?_
  refine r_join (P := fun (J : Md → Option (Unit × Md)) => ∀ (M_22 : Md), RunO l Γ k_X12_dropRendering 2 encV (emM K0) 22 [] [] M_22 (J M_22)) ?_ (fun J22 hJ22 => ?_)
  · intro M_22
    exact r_vret rfl dX12_dropRendering_22
  refine r_if_eq (tgt := 22) dX12_dropRendering_6 (by decide) ?_ ?_
  · refine r_lo [] (lo2 := []) rfl ?_
    exact hJ22 _
  · refine r_aload_n (x := mo) dX12_dropRendering_9 rfl rfl ?_
    refine r_mgetA (kk := 27) h inU12 rfl (by decide) uf_70 rfl rfl dX12_dropRendering_10 ?_
    refine r_iload_n (x := a1) dX12_dropRendering_13 rfl rfl ?_
    refine ro_iconst (v := 0) dX12_dropRendering_14 rfl ?_
    refine r_mzast h (by first | exact Or.inl rfl | exact Or.inr rfl) dX12_dropRendering_15 (fun M1 => ?_)
    refine r_aload_n (x := mo) dX12_dropRendering_16 rfl rfl ?_
    refine r_iload_n (x := a1) dX12_dropRendering_17 rfl rfl ?_
    refine ro_iconst (v := 0) dX12_dropRendering_18 rfl ?_
    refine r_callVv (k2 := k_X12_setCategories) (n := 2) (rest := []) rfl kv_X12_setCategories (c_X12_setCategories h _ _ _) (by decide) um_225 rfl (Nat.le_of_ble_eq_true rfl) dX12_dropRendering_19 (m_rec h) rfl (fun r3 M2 => ?_)
    refine r_lo [] (lo2 := []) rfl ?_
    exact hJ22 _
def k_X12_isVersionAt : Kd := (yX12_isVersionAt, cX12_isVersionAt, 3, some .boolean, [])
theorem kv_X12_isVersionAt : KV k_X12_isVersionAt 2 := ⟨uw_mem 2125 (by decide +kernel) rfl, uw_mem 170 (by decide +kernel) rfl, uw_mem 2124 (by decide +kernel) rfl, uw_mem 140 (by decide +kernel) rfl, ⟨by decide +kernel, by decide +kernel⟩, by decide +kernel, by decide +kernel⟩
set_option maxHeartbeats 4000000 in
set_option maxRecDepth 100000 in
theorem c_X12_isVersionAt {l : Launch} {Γ : Cx} {K0 : Cd} {mo : Nat} {ma : Nat → Nat} (h : mOn Γ mo ma) (a1 : Int) (a2 : Int) (M : Md) : Ct l Γ k_X12_isVersionAt 4 encI (emM K0) [.ref mo, wi a1, wi a2] M (fX12_isVersionAt a1 a2 M) := by
  refine ct_of (by decide +kernel) rfl (Nat.le_of_ble_eq_true rfl) ?_
  refine r_lo [0, 1, 2] (lo2 := [(0, .ref mo), (1, wi a1), (2, wi a2)]) rfl ?_
  unfold fX12_isVersionAt
  refine r_aload_n (x := mo) dX12_isVersionAt_0 rfl rfl ?_
  refine r_iload_n (x := a1) dX12_isVersionAt_1 rfl rfl ?_
  refine r_callVi (k2 := k_X12_hasPage) (n := 1) (rest := []) rfl kv_X12_hasPage (c_X12_hasPage h _ _) (by decide) um_381 rfl (Nat.le_of_ble_eq_true rfl) dX12_isVersionAt_2 (m_rec h) rfl (fun r2 M1 => ?_)
  refine r_join (P := fun (J : Int → Md → Option (Int × Md)) => ∀ (t0_42 : Int) (M_42 : Md), RunO l Γ k_X12_isVersionAt 4 encI (emM K0) 42 [] [wi t0_42] M_42 (J t0_42 M_42)) ?_ (fun J42 hJ42 => ?_)
  · intro t0_42 M_42
    exact r_zret rfl dX12_isVersionAt_42
  refine r_join (P := fun (J : Md → Option (Int × Md)) => ∀ (M_41 : Md), RunO l Γ k_X12_isVersionAt 4 encI (emM K0) 41 [] [] M_41 (J M_41)) ?_ (fun J41 hJ41 => ?_)
  · intro M_41
    refine ro_iconst (v := 0) dX12_isVersionAt_41 rfl ?_
    exact hJ42 _ _
  refine r_if_eq (tgt := 41) dX12_isVersionAt_5 (by decide) ?_ ?_
  · refine r_lo [] (lo2 := []) rfl ?_
    exact hJ41 _
  · refine r_iload_n (x := a2) dX12_isVersionAt_8 rfl rfl ?_
    refine ro_iconst (v := 0) dX12_isVersionAt_9 rfl ?_
    refine r_aload_n (x := mo) dX12_isVersionAt_10 rfl rfl ?_
    refine r_mget (kk := 8) h inU12 rfl (by decide) uf_192 rfl rfl dX12_isVersionAt_11 ?_
    refine ro_iconst (v := 1) dX12_isVersionAt_14 rfl ?_
    refine r_isub dX12_isVersionAt_15 ?_
    refine r_callSi (k2 := k_X12_in) (n := 3) (rest := []) rfl kv_X12_in (c_X12_in h _ _ _ _) (by decide) um_184 rfl (Nat.le_of_ble_eq_true rfl) dX12_isVersionAt_16 rfl (fun r4 M3 => ?_)
    refine r_if_eq (tgt := 41) dX12_isVersionAt_19 (by decide) ?_ ?_
    · refine r_lo [] (lo2 := []) rfl ?_
      exact hJ41 _
    · refine r_aload_n (x := mo) dX12_isVersionAt_22 rfl rfl ?_
      refine r_mgetA (kk := 12) h inU12 rfl (by decide) uf_31 rfl rfl dX12_isVersionAt_23 ?_
      refine r_iload_n (x := a2) dX12_isVersionAt_26 rfl rfl ?_
      refine r_miald h (by decide) dX12_isVersionAt_27 ?_
      refine r_aload_n (x := mo) dX12_isVersionAt_28 rfl rfl ?_
      refine r_mgetA (kk := 6) h inU12 rfl (by decide) uf_19 rfl rfl dX12_isVersionAt_29 ?_
      refine r_iload_n (x := a1) dX12_isVersionAt_32 rfl rfl ?_
      refine r_miald h (by decide) dX12_isVersionAt_33 ?_
      refine r_icmp_ne (tgt := 41) dX12_isVersionAt_34 (by decide) ?_ ?_
      · refine r_lo [] (lo2 := []) rfl ?_
        exact hJ41 _
      · refine ro_iconst (v := 1) dX12_isVersionAt_37 rfl ?_
        refine r_goto (tgt := 42) dX12_isVersionAt_38 (by decide) ?_
        refine r_lo [] (lo2 := []) rfl ?_
        exact hJ42 _ _
def k_X12_sectionMany : Kd := (yX12_sectionMany, cX12_sectionMany, 5, some .int, [])
theorem kv_X12_sectionMany : KS k_X12_sectionMany 3 := ⟨uw_mem 2132 (by decide +kernel) rfl, uw_mem 170 (by decide +kernel) rfl, uw_mem 2131 (by decide +kernel) rfl, ⟨by decide +kernel, by decide +kernel⟩, by decide +kernel, by decide +kernel⟩
set_option maxHeartbeats 4000000 in
set_option maxRecDepth 100000 in
theorem c_X12_sectionMany {l : Launch} {Γ : Cx} {K0 : Cd} {mo : Nat} {ma : Nat → Nat} (h : mOn Γ mo ma) (a0 : Nat) (a1 : Int) (a2 : Int) (hA0 : a0 ∈ mAs) (M : Md) : Ct l Γ k_X12_sectionMany 1 encI (emM K0) [.ref (ma a0), wi a1, wi a2] M (fX12_sectionMany a0 a1 a2 M) := by
  refine ct_of (by decide +kernel) rfl (Nat.le_of_ble_eq_true rfl) ?_
  refine r_lo [0, 1, 2] (lo2 := [(0, .ref (ma a0)), (1, wi a1), (2, wi a2)]) rfl ?_
  unfold fX12_sectionMany
  refine ro_iconst (v := 1) dX12_sectionMany_0 rfl ?_
  refine r_istore_n (lo2 := [(3, wi 1), (0, .ref (ma a0)), (1, wi a1), (2, wi a2)]) dX12_sectionMany_1 rfl (by decide) rfl ?_
  refine ro_iconst (v := 0) dX12_sectionMany_2 rfl ?_
  refine r_istore (lo2 := [(4, wi 0), (3, wi 1), (0, .ref (ma a0)), (1, wi a1), (2, wi a2)]) dX12_sectionMany_3 (by decide) rfl ?_
  refine r_loop (P := fun (J : Int → Int → Md → Option (Int × Md)) => ∀ (v3_5 : Int) (v4_5 : Int) (M_5 : Md), RunO l Γ k_X12_sectionMany 1 encI (emM K0) 5 [(0, .ref (ma a0)), (1, wi a1), (2, wi a2), (3, wi v3_5), (4, wi v4_5)] [] M_5 (J v3_5 v4_5 M_5)) ?_ (fun L5 hL5 => ?_) (fun J5 hJ5 => ?_)
  · intros; exact ro_none
  · intro v3_5 v4_5 M_5
    refine r_iload (x := v4_5) dX12_sectionMany_5 rfl ?_
    refine r_iload_n (x := a2) dX12_sectionMany_7 rfl rfl ?_
    refine r_icmp_ge (tgt := 40) dX12_sectionMany_8 (by decide) ?_ ?_
    · refine r_iload_n (x := v3_5) dX12_sectionMany_40 rfl rfl ?_
      exact r_iret rfl dX12_sectionMany_41
    · refine r_iload_n (x := v3_5) dX12_sectionMany_11 rfl rfl ?_
      refine r_aload_n (x := ma a0) dX12_sectionMany_12 rfl rfl ?_
      refine r_iload_n (x := a1) dX12_sectionMany_13 rfl rfl ?_
      refine r_iload (x := v4_5) dX12_sectionMany_14 rfl ?_
      refine r_iadd dX12_sectionMany_16 ?_
      refine r_miald h hA0 dX12_sectionMany_17 ?_
      refine r_sipush (v := 1000) dX12_sectionMany_18 rfl ?_
      refine r_idiv dX12_sectionMany_21 (by decide) ?_
      refine r_bipush (v := 13) dX12_sectionMany_22 rfl ?_
      refine r_join (P := fun (J : Int → Md → Option (Int × Md)) => ∀ (t0_32 : Int) (M_32 : Md), RunO l Γ k_X12_sectionMany 1 encI (emM K0) 32 [(0, .ref (ma a0)), (1, wi a1), (2, wi a2), (4, wi v4_5)] [wi t0_32, wi v3_5] M_32 (J t0_32 M_32)) ?_ (fun J32 hJ32 => ?_)
      · intro t0_32 M_32
        refine r_iadd dX12_sectionMany_32 ?_
        refine r_nm (fun x3_33 => ?_)
        refine r_istore_n (lo2 := [(3, wi x3_33), (0, .ref (ma a0)), (1, wi a1), (2, wi a2), (4, wi v4_5)]) dX12_sectionMany_33 rfl (by decide) rfl ?_
        refine r_iinc (x := v4_5) (lo2 := [(4, wi (v4_5 + 1)), (3, wi x3_33), (0, .ref (ma a0)), (1, wi a1), (2, wi a2)]) dX12_sectionMany_34 rfl (by decide) rfl ?_
        refine r_goto (tgt := 5) dX12_sectionMany_37 (by decide) ?_
        refine r_lo [2, 3, 4, 1, 0] (lo2 := [(0, .ref (ma a0)), (1, wi a1), (2, wi a2), (3, wi x3_33), (4, wi (v4_5 + 1))]) rfl ?_
        exact hL5 _ _ _
      refine r_icmp_ne (tgt := 31) dX12_sectionMany_24 (by decide) ?_ ?_
      · refine ro_iconst (v := 0) dX12_sectionMany_31 rfl ?_
        refine r_lo [0, 1, 2, 4] (lo2 := [(0, .ref (ma a0)), (1, wi a1), (2, wi a2), (4, wi v4_5)]) rfl ?_
        exact hJ32 _ _
      · refine ro_iconst (v := 1) dX12_sectionMany_27 rfl ?_
        refine r_goto (tgt := 32) dX12_sectionMany_28 (by decide) ?_
        refine r_lo [0, 1, 2, 4] (lo2 := [(0, .ref (ma a0)), (1, wi a1), (2, wi a2), (4, wi v4_5)]) rfl ?_
        exact hJ32 _ _
  refine r_lo [2, 3, 4, 1, 0] (lo2 := [(0, .ref (ma a0)), (1, wi a1), (2, wi a2), (3, wi 1), (4, wi 0)]) rfl ?_
  exact hJ5 _ _ _
def k_X12_sectionsOf : Kd := (yX12_sectionsOf, cX12_sectionsOf, 2, some .int, [])
theorem kv_X12_sectionsOf : KV k_X12_sectionsOf 1 := ⟨uw_mem 2129 (by decide +kernel) rfl, uw_mem 170 (by decide +kernel) rfl, uw_mem 2128 (by decide +kernel) rfl, uw_mem 141 (by decide +kernel) rfl, ⟨by decide +kernel, by decide +kernel⟩, by decide +kernel, by decide +kernel⟩
set_option maxHeartbeats 4000000 in
set_option maxRecDepth 100000 in
theorem c_X12_sectionsOf {l : Launch} {Γ : Cx} {K0 : Cd} {mo : Nat} {ma : Nat → Nat} (h : mOn Γ mo ma) (a1 : Int) (M : Md) : Ct l Γ k_X12_sectionsOf 2 encI (emM K0) [.ref mo, wi a1] M (fX12_sectionsOf a1 M) := by
  refine ct_of (by decide +kernel) rfl (Nat.le_of_ble_eq_true rfl) ?_
  refine r_lo [0, 1] (lo2 := [(0, .ref mo), (1, wi a1)]) rfl ?_
  unfold fX12_sectionsOf
  refine r_aload_n (x := mo) dX12_sectionsOf_0 rfl rfl ?_
  refine r_mgetA (kk := 9) h inU12 rfl (by decide) uf_22 rfl rfl dX12_sectionsOf_1 ?_
  refine r_bipush (v := 30) dX12_sectionsOf_4 rfl ?_
  refine r_iload_n (x := a1) dX12_sectionsOf_6 rfl rfl ?_
  refine r_imul dX12_sectionsOf_7 ?_
  refine r_aload_n (x := mo) dX12_sectionsOf_8 rfl rfl ?_
  refine r_mgetA (kk := 10) h inU12 rfl (by decide) uf_25 rfl rfl dX12_sectionsOf_9 ?_
  refine r_iload_n (x := a1) dX12_sectionsOf_12 rfl rfl ?_
  refine r_miald h (by decide) dX12_sectionsOf_13 ?_
  refine r_callSi (k2 := k_X12_sectionMany) (n := 3) (rest := []) rfl kv_X12_sectionMany (c_X12_sectionMany h _ _ _ (by decide) _) (by decide) um_423 rfl (Nat.le_of_ble_eq_true rfl) dX12_sectionsOf_14 rfl (fun r2 M1 => ?_)
  exact r_iret rfl dX12_sectionsOf_17
def k_X12_putResult : Kd := (yX12_putResult, cX12_putResult, 5, none, [])
theorem kv_X12_putResult : KV k_X12_putResult 3 := ⟨uw_mem 2140 (by decide +kernel) rfl, uw_mem 170 (by decide +kernel) rfl, uw_mem 2139 (by decide +kernel) rfl, uw_mem 143 (by decide +kernel) rfl, ⟨by decide +kernel, by decide +kernel⟩, by decide +kernel, by decide +kernel⟩
set_option maxHeartbeats 4000000 in
set_option maxRecDepth 100000 in
theorem c_X12_putResult {l : Launch} {Γ : Cx} {K0 : Cd} {mo : Nat} {ma : Nat → Nat} (h : mOn Γ mo ma) (a1 : Nat) (a2 : Int) (a3 : Int) (hA1 : a1 ∈ mAs) (M : Md) : Ct l Γ k_X12_putResult 1 encV (emM K0) [.ref mo, .ref (ma a1), wi a2, wi a3] M (fX12_putResult a1 a2 a3 M) := by
  refine ct_of (by decide +kernel) rfl (Nat.le_of_ble_eq_true rfl) ?_
  refine r_lo [0, 1, 2, 3] (lo2 := [(0, .ref mo), (1, .ref (ma a1)), (2, wi a2), (3, wi a3)]) rfl ?_
  unfold fX12_putResult
  refine r_iload_n (x := a2) dX12_putResult_0 rfl rfl ?_
  refine r_istore (lo2 := [(4, wi a2), (0, .ref mo), (1, .ref (ma a1)), (2, wi a2), (3, wi a3)]) dX12_putResult_1 (by decide) rfl ?_
  refine r_loop (P := fun (J : Int → Md → Option (Unit × Md)) => ∀ (v4_3 : Int) (M_3 : Md), RunO l Γ k_X12_putResult 1 encV (emM K0) 3 [(0, .ref mo), (1, .ref (ma a1)), (3, wi a3), (4, wi v4_3)] [] M_3 (J v4_3 M_3)) ?_ (fun L3 hL3 => ?_) (fun J3 hJ3 => ?_)
  · intros; exact ro_none
  · intro v4_3 M_3
    refine r_iload (x := v4_3) dX12_putResult_3 rfl ?_
    refine r_iload_n (x := a3) dX12_putResult_5 rfl rfl ?_
    refine r_icmp_ge (tgt := 38) dX12_putResult_6 (by decide) ?_ ?_
    · exact r_vret rfl dX12_putResult_38
    · refine r_aload_n (x := mo) dX12_putResult_9 rfl rfl ?_
      refine r_mgetA (kk := 76) h inU12 rfl (by decide) uf_174 rfl rfl dX12_putResult_10 ?_
      refine r_aload_n (x := mo) dX12_putResult_13 rfl rfl ?_
      refine r_mget (kk := 77) h inU12 rfl (by decide) uf_409 rfl rfl dX12_putResult_14 ?_
      refine r_aload_n (x := ma a1) dX12_putResult_17 rfl rfl ?_
      refine r_iload (x := v4_3) dX12_putResult_18 rfl ?_
      refine r_miald h hA1 dX12_putResult_20 ?_
      refine r_miast h (by decide) dX12_putResult_21 (fun M1 => ?_)
      refine r_aload_n (x := mo) dX12_putResult_22 rfl rfl ?_
      refine r_dup dX12_putResult_23 rfl ?_
      refine r_mget (kk := 77) h inU12 rfl (by decide) uf_409 rfl rfl dX12_putResult_24 ?_
      refine ro_iconst (v := 1) dX12_putResult_27 rfl ?_
      refine r_iadd dX12_putResult_28 ?_
      refine r_mput (kk := 77) h inU12 rfl (by decide) uf_409 rfl rfl rfl rfl dX12_putResult_29 (fun M2 => ?_)
      refine r_iinc (x := v4_3) (lo2 := [(4, wi (v4_3 + 1)), (0, .ref mo), (1, .ref (ma a1)), (3, wi a3)]) dX12_putResult_32 rfl (by decide) rfl ?_
      refine r_goto (tgt := 3) dX12_putResult_35 (by decide) ?_
      refine r_lo [1, 2, 3, 0] (lo2 := [(0, .ref mo), (1, .ref (ma a1)), (3, wi a3), (4, wi (v4_3 + 1))]) rfl ?_
      exact hL3 _ _
  refine r_lo [1, 2, 4, 0] (lo2 := [(0, .ref mo), (1, .ref (ma a1)), (3, wi a3), (4, wi a2)]) rfl ?_
  exact hJ3 _ _
def k_X12_layMeant : Kd := (yX12_layMeant, cX12_layMeant, 5, none, [])
theorem kv_X12_layMeant : KV k_X12_layMeant 2 := ⟨uw_mem 2136 (by decide +kernel) rfl, uw_mem 170 (by decide +kernel) rfl, uw_mem 2135 (by decide +kernel) rfl, uw_mem 142 (by decide +kernel) rfl, ⟨by decide +kernel, by decide +kernel⟩, by decide +kernel, by decide +kernel⟩
set_option maxHeartbeats 4000000 in
set_option maxRecDepth 100000 in
theorem c_X12_layMeant {l : Launch} {Γ : Cx} {K0 : Cd} {mo : Nat} {ma : Nat → Nat} (h : mOn Γ mo ma) (a1 : Int) (a2 : Int) (M : Md) : Ct l Γ k_X12_layMeant 2 encV (emM K0) [.ref mo, wi a1, wi a2] M (fX12_layMeant a1 a2 M) := by
  refine ct_of (by decide +kernel) rfl (Nat.le_of_ble_eq_true rfl) ?_
  refine r_lo [0, 1, 2] (lo2 := [(0, .ref mo), (1, wi a1), (2, wi a2)]) rfl ?_
  unfold fX12_layMeant
  refine r_aload_n (x := mo) dX12_layMeant_0 rfl rfl ?_
  refine ro_iconst (v := 0) dX12_layMeant_1 rfl ?_
  refine r_mput (kk := 77) h inU12 rfl (by decide) uf_409 rfl rfl rfl rfl dX12_layMeant_2 (fun M1 => ?_)
  refine r_iload_n (x := a2) dX12_layMeant_5 rfl rfl ?_
  refine ro_iconst (v := (-1)) dX12_layMeant_6 rfl ?_
  refine r_join (P := fun (J : Md → Option (Unit × Md)) => ∀ (M_101 : Md), RunO l Γ k_X12_layMeant 2 encV (emM K0) 101 [(0, .ref mo)] [] M_101 (J M_101)) ?_ (fun J101 hJ101 => ?_)
  · intro M_101
    refine r_aload_n (x := mo) dX12_layMeant_101 rfl rfl ?_
    refine r_aload_n (x := mo) dX12_layMeant_102 rfl rfl ?_
    refine r_mget (kk := 77) h inU12 rfl (by decide) uf_409 rfl rfl dX12_layMeant_103 ?_
    refine r_mput (kk := 75) h inU12 rfl (by decide) uf_420 rfl rfl rfl rfl dX12_layMeant_106 (fun M2 => ?_)
    refine ro_iconst (v := 0) dX12_layMeant_109 rfl ?_
    refine r_istore_n (lo2 := [(3, wi 0), (0, .ref mo)]) dX12_layMeant_110 rfl (by decide) rfl ?_
    refine r_loop (P := fun (J : Int → Md → Option (Unit × Md)) => ∀ (v3_111 : Int) (M_111 : Md), RunO l Γ k_X12_layMeant 2 encV (emM K0) 111 [(0, .ref mo), (3, wi v3_111)] [] M_111 (J v3_111 M_111)) ?_ (fun L111 hL111 => ?_) (fun J111 hJ111 => ?_)
    · intros; exact ro_none
    · intro v3_111 M_111
      refine r_iload_n (x := v3_111) dX12_layMeant_111 rfl rfl ?_
      refine r_aload_n (x := mo) dX12_layMeant_112 rfl rfl ?_
      refine r_mget (kk := 77) h inU12 rfl (by decide) uf_409 rfl rfl dX12_layMeant_113 ?_
      refine r_icmp_ge (tgt := 137) dX12_layMeant_116 (by decide) ?_ ?_
      · exact r_vret rfl dX12_layMeant_137
      · refine r_aload_n (x := mo) dX12_layMeant_119 rfl rfl ?_
        refine r_mgetA (kk := 74) h inU12 rfl (by decide) uf_171 rfl rfl dX12_layMeant_120 ?_
        refine r_iload_n (x := v3_111) dX12_layMeant_123 rfl rfl ?_
        refine r_aload_n (x := mo) dX12_layMeant_124 rfl rfl ?_
        refine r_mgetA (kk := 76) h inU12 rfl (by decide) uf_174 rfl rfl dX12_layMeant_125 ?_
        refine r_iload_n (x := v3_111) dX12_layMeant_128 rfl rfl ?_
        refine r_miald h (by decide) dX12_layMeant_129 ?_
        refine r_miast h (by decide) dX12_layMeant_130 (fun M3 => ?_)
        refine r_iinc (x := v3_111) (lo2 := [(3, wi (v3_111 + 1)), (0, .ref mo)]) dX12_layMeant_131 rfl (by decide) rfl ?_
        refine r_goto (tgt := 111) dX12_layMeant_134 (by decide) ?_
        refine r_lo [1, 0] (lo2 := [(0, .ref mo), (3, wi (v3_111 + 1))]) rfl ?_
        exact hL111 _ _
    refine r_lo [1, 0] (lo2 := [(0, .ref mo), (3, wi 0)]) rfl ?_
    exact hJ111 _ _
  refine r_icmp_ne (tgt := 26) dX12_layMeant_7 (by decide) ?_ ?_
  · refine r_bipush (v := 30) dX12_layMeant_26 rfl ?_
    refine r_iload_n (x := a1) dX12_layMeant_28 rfl rfl ?_
    refine r_imul dX12_layMeant_29 ?_
    refine r_nm (fun x3_30 => ?_)
    refine r_istore_n (lo2 := [(3, wi x3_30), (0, .ref mo), (1, wi a1), (2, wi a2)]) dX12_layMeant_30 rfl (by decide) rfl ?_
    refine r_aload_n (x := mo) dX12_layMeant_31 rfl rfl ?_
    refine r_mgetA (kk := 10) h inU12 rfl (by decide) uf_25 rfl rfl dX12_layMeant_32 ?_
    refine r_iload_n (x := a1) dX12_layMeant_35 rfl rfl ?_
    refine r_miald h (by decide) dX12_layMeant_36 ?_
    refine r_nm (fun x4_37 => ?_)
    refine r_istore (lo2 := [(4, wi x4_37), (3, wi x3_30), (0, .ref mo), (1, wi a1), (2, wi a2)]) dX12_layMeant_37 (by decide) rfl ?_
    refine r_aload_n (x := mo) dX12_layMeant_39 rfl rfl ?_
    refine r_aload_n (x := mo) dX12_layMeant_40 rfl rfl ?_
    refine r_mgetA (kk := 9) h inU12 rfl (by decide) uf_22 rfl rfl dX12_layMeant_41 ?_
    refine r_iload_n (x := x3_30) dX12_layMeant_44 rfl rfl ?_
    refine r_iload_n (x := x3_30) dX12_layMeant_45 rfl rfl ?_
    refine r_aload_n (x := mo) dX12_layMeant_46 rfl rfl ?_
    refine r_mgetA (kk := 9) h inU12 rfl (by decide) uf_22 rfl rfl dX12_layMeant_47 ?_
    refine r_iload_n (x := x3_30) dX12_layMeant_50 rfl rfl ?_
    refine r_iload (x := x4_37) dX12_layMeant_51 rfl ?_
    refine r_iload_n (x := a2) dX12_layMeant_53 rfl rfl ?_
    refine r_callSi (k2 := k_X12_sectionFrom) (n := 4) (rest := [wi x3_30, wi x3_30, .ref (ma 9), .ref mo]) rfl kv_X12_sectionFrom (c_X12_sectionFrom h _ _ _ _ (by decide) _) (by decide) um_416 rfl (Nat.le_of_ble_eq_true rfl) dX12_layMeant_54 rfl (fun r5 M4 => ?_)
    refine r_iadd dX12_layMeant_57 ?_
    refine r_callVv (k2 := k_X12_putResult) (n := 3) (rest := []) rfl kv_X12_putResult (c_X12_putResult h _ _ _ (by decide) _) (by decide) um_412 rfl (Nat.le_of_ble_eq_true rfl) dX12_layMeant_58 (m_rec h) rfl (fun r7 M6 => ?_)
    refine r_aload_n (x := mo) dX12_layMeant_61 rfl rfl ?_
    refine r_aload_n (x := mo) dX12_layMeant_62 rfl rfl ?_
    refine r_mgetA (kk := 0) h inU12 rfl (by decide) uf_7 rfl rfl dX12_layMeant_63 ?_
    refine ro_iconst (v := 0) dX12_layMeant_66 rfl ?_
    refine r_aload_n (x := mo) dX12_layMeant_67 rfl rfl ?_
    refine r_mget (kk := 1) h inU12 rfl (by decide) uf_387 rfl rfl dX12_layMeant_68 ?_
    refine r_callVv (k2 := k_X12_putResult) (n := 3) (rest := []) rfl kv_X12_putResult (c_X12_putResult h _ _ _ (by decide) _) (by decide) um_412 rfl (Nat.le_of_ble_eq_true rfl) dX12_layMeant_71 (m_rec h) rfl (fun r9 M8 => ?_)
    refine r_aload_n (x := mo) dX12_layMeant_74 rfl rfl ?_
    refine r_aload_n (x := mo) dX12_layMeant_75 rfl rfl ?_
    refine r_mgetA (kk := 9) h inU12 rfl (by decide) uf_22 rfl rfl dX12_layMeant_76 ?_
    refine r_iload_n (x := x3_30) dX12_layMeant_79 rfl rfl ?_
    refine r_aload_n (x := mo) dX12_layMeant_80 rfl rfl ?_
    refine r_mgetA (kk := 9) h inU12 rfl (by decide) uf_22 rfl rfl dX12_layMeant_81 ?_
    refine r_iload_n (x := x3_30) dX12_layMeant_84 rfl rfl ?_
    refine r_iload (x := x4_37) dX12_layMeant_85 rfl ?_
    refine r_iload_n (x := a2) dX12_layMeant_87 rfl rfl ?_
    refine ro_iconst (v := 1) dX12_layMeant_88 rfl ?_
    refine r_iadd dX12_layMeant_89 ?_
    refine r_callSi (k2 := k_X12_sectionFrom) (n := 4) (rest := [wi x3_30, .ref (ma 9), .ref mo]) rfl kv_X12_sectionFrom (c_X12_sectionFrom h _ _ _ _ (by decide) _) (by decide) um_416 rfl (Nat.le_of_ble_eq_true rfl) dX12_layMeant_90 rfl (fun r11 M10 => ?_)
    refine r_iadd dX12_layMeant_93 ?_
    refine r_iload_n (x := x3_30) dX12_layMeant_94 rfl rfl ?_
    refine r_iload (x := x4_37) dX12_layMeant_95 rfl ?_
    refine r_iadd dX12_layMeant_97 ?_
    refine r_callVv (k2 := k_X12_putResult) (n := 3) (rest := []) rfl kv_X12_putResult (c_X12_putResult h _ _ _ (by decide) _) (by decide) um_412 rfl (Nat.le_of_ble_eq_true rfl) dX12_layMeant_98 (m_rec h) rfl (fun r13 M12 => ?_)
    refine r_lo [2] (lo2 := [(0, .ref mo)]) rfl ?_
    exact hJ101 _
  · refine r_aload_n (x := mo) dX12_layMeant_10 rfl rfl ?_
    refine r_aload_n (x := mo) dX12_layMeant_11 rfl rfl ?_
    refine r_mgetA (kk := 0) h inU12 rfl (by decide) uf_7 rfl rfl dX12_layMeant_12 ?_
    refine ro_iconst (v := 0) dX12_layMeant_15 rfl ?_
    refine r_aload_n (x := mo) dX12_layMeant_16 rfl rfl ?_
    refine r_mget (kk := 1) h inU12 rfl (by decide) uf_387 rfl rfl dX12_layMeant_17 ?_
    refine r_callVv (k2 := k_X12_putResult) (n := 3) (rest := []) rfl kv_X12_putResult (c_X12_putResult h _ _ _ (by decide) _) (by decide) um_412 rfl (Nat.le_of_ble_eq_true rfl) dX12_layMeant_20 (m_rec h) rfl (fun r15 M14 => ?_)
    refine r_goto (tgt := 101) dX12_layMeant_23 (by decide) ?_
    refine r_lo [0] (lo2 := [(0, .ref mo)]) rfl ?_
    exact hJ101 _
