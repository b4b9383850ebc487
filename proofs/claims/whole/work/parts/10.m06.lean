def k_X12_protect : Kd := (yX12_protect, cX12_protect, 4, some .int, [])
theorem kv_X12_protect : KV k_X12_protect 2 := ⟨uw_mem 2089 (by decide +kernel) rfl, uw_mem 170 (by decide +kernel) rfl, uw_mem 2087 (by decide +kernel) rfl, uw_mem 2088 (by decide +kernel) rfl, ⟨by decide +kernel, by decide +kernel⟩, by decide +kernel, by decide +kernel⟩
set_option maxHeartbeats 4000000 in
set_option maxRecDepth 100000 in
theorem c_X12_protect {l : Launch} {Γ : Cx} {K0 : Cd} {mo : Nat} {ma : Nat → Nat} (h : mOn Γ mo ma) (a1 : Int) (a2 : Int) (M : Md) : Ct l Γ k_X12_protect 3 encI (emM K0) [.ref mo, wi a1, wi a2] M (fX12_protect a1 a2 M) := by
  refine ct_of (by decide +kernel) rfl (Nat.le_of_ble_eq_true rfl) ?_
  refine r_lo [0, 1, 2] (lo2 := [(0, .ref mo), (1, wi a1), (2, wi a2)]) rfl ?_
  unfold fX12_protect
  refine r_aload_n (x := mo) dX12_protect_0 rfl rfl ?_
  refine r_iload_n (x := a1) dX12_protect_1 rfl rfl ?_
  refine r_callSi (k2 := k_X12_isTitle) (n := 1) (rest := [.ref mo]) rfl kv_X12_isTitle (c_X12_isTitle h _ _) (by decide) um_188 rfl (Nat.le_of_ble_eq_true rfl) dX12_protect_2 rfl (fun r2 M1 => ?_)
  refine r_join (P := fun (J : Int → Md → Option (Int × Md)) => ∀ (t0_46 : Int) (M_46 : Md), RunO l Γ k_X12_protect 3 encI (emM K0) 46 [(0, .ref mo), (1, wi a1), (2, wi a2)] [wi t0_46, .ref mo] M_46 (J t0_46 M_46)) ?_ (fun J46 hJ46 => ?_)
  · intro t0_46 M_46
    refine r_mput (kk := 36) h inU12 rfl (by decide) uf_180 rfl rfl rfl rfl dX12_protect_46 (fun M3 => ?_)
    refine r_aload_n (x := mo) dX12_protect_49 rfl rfl ?_
    refine r_mget (kk := 36) h inU12 rfl (by decide) uf_180 rfl rfl dX12_protect_50 ?_
    refine r_if_le (tgt := 58) dX12_protect_53 (by decide) ?_ ?_
    · refine r_aload_n (x := mo) dX12_protect_58 rfl rfl ?_
      refine r_mgetA (kk := 3) h inU12 rfl (by decide) uf_13 rfl rfl dX12_protect_59 ?_
      refine r_iload_n (x := a1) dX12_protect_62 rfl rfl ?_
      refine r_miald h (by decide) dX12_protect_63 ?_
      refine r_nm (fun x3_64 => ?_)
      refine r_istore_n (lo2 := [(3, wi x3_64), (0, .ref mo), (1, wi a1), (2, wi a2)]) dX12_protect_64 rfl (by decide) rfl ?_
      refine r_aload_n (x := mo) dX12_protect_65 rfl rfl ?_
      refine r_mgetA (kk := 3) h inU12 rfl (by decide) uf_13 rfl rfl dX12_protect_66 ?_
      refine r_iload_n (x := a1) dX12_protect_69 rfl rfl ?_
      refine r_iload_n (x := a2) dX12_protect_70 rfl rfl ?_
      refine r_miast h (by decide) dX12_protect_71 (fun M4 => ?_)
      refine r_iload_n (x := x3_64) dX12_protect_72 rfl rfl ?_
      exact r_iret rfl dX12_protect_73
    · refine ro_iconst (v := 0) dX12_protect_56 rfl ?_
      exact r_iret rfl dX12_protect_57
  refine r_if_ne (tgt := 12) dX12_protect_5 (by decide) ?_ ?_
  · refine r_iload_n (x := a2) dX12_protect_12 rfl rfl ?_
    refine ro_iconst (v := 0) dX12_protect_13 rfl ?_
    refine ro_iconst (v := 2) dX12_protect_14 rfl ?_
    refine r_callSi (k2 := k_X12_in) (n := 3) (rest := [.ref mo]) rfl kv_X12_in (c_X12_in h _ _ _ _) (by decide) um_184 rfl (Nat.le_of_ble_eq_true rfl) dX12_protect_15 rfl (fun r6 M5 => ?_)
    refine r_if_ne (tgt := 25) dX12_protect_18 (by decide) ?_ ?_
    · refine r_aload_n (x := mo) dX12_protect_25 rfl rfl ?_
      refine r_iload_n (x := a1) dX12_protect_26 rfl rfl ?_
      refine r_callVi (k2 := k_X12_mayAt) (n := 1) (rest := [.ref mo]) rfl kv_X12_mayAt (c_X12_mayAt h _ _) (by decide) um_393 rfl (Nat.le_of_ble_eq_true rfl) dX12_protect_27 (m_rec h) rfl (fun r8 M7 => ?_)
      refine r_join (P := fun (J : Md → Option (Int × Md)) => ∀ (M_41 : Md), RunO l Γ k_X12_protect 3 encI (emM K0) 41 [(0, .ref mo), (1, wi a1), (2, wi a2)] [.ref mo] M_41 (J M_41)) ?_ (fun J41 hJ41 => ?_)
      · intro M_41
        refine ro_iconst (v := 3) dX12_protect_41 rfl ?_
        refine r_goto (tgt := 46) dX12_protect_42 (by decide) ?_
        exact hJ46 _ _
      refine r_if_eq (tgt := 41) dX12_protect_30 (by decide) ?_ ?_
      · exact hJ41 _
      · refine r_aload_n (x := mo) dX12_protect_33 rfl rfl ?_
        refine r_mget (kk := 2) h inU12 rfl (by decide) uf_390 rfl rfl dX12_protect_34 ?_
        refine r_iload_n (x := a2) dX12_protect_37 rfl rfl ?_
        refine r_icmp_ge (tgt := 45) dX12_protect_38 (by decide) ?_ ?_
        · refine ro_iconst (v := 0) dX12_protect_45 rfl ?_
          exact hJ46 _ _
        · exact hJ41 _
    · refine ro_iconst (v := 2) dX12_protect_21 rfl ?_
      refine r_goto (tgt := 46) dX12_protect_22 (by decide) ?_
      exact hJ46 _ _
  · refine ro_iconst (v := 1) dX12_protect_8 rfl ?_
    refine r_goto (tgt := 46) dX12_protect_9 (by decide) ?_
    exact hJ46 _ _
def k_X12_queued : Kd := (yX12_queued, cX12_queued, 3, some .int, [])
theorem kv_X12_queued : KV k_X12_queued 0 := ⟨uw_mem 2265 (by decide +kernel) rfl, uw_mem 170 (by decide +kernel) rfl, uw_mem 2263 (by decide +kernel) rfl, uw_mem 2264 (by decide +kernel) rfl, ⟨by decide +kernel, by decide +kernel⟩, by decide +kernel, by decide +kernel⟩
set_option maxHeartbeats 4000000 in
set_option maxRecDepth 100000 in
theorem c_X12_queued {l : Launch} {Γ : Cx} {K0 : Cd} {mo : Nat} {ma : Nat → Nat} (h : mOn Γ mo ma)  (M : Md) : Ct l Γ k_X12_queued 2 encI (emM K0) [.ref mo] M (fX12_queued  M) := by
  refine ct_of (by decide +kernel) rfl (Nat.le_of_ble_eq_true rfl) ?_
  refine r_lo [0] (lo2 := [(0, .ref mo)]) rfl ?_
  unfold fX12_queued
  refine r_aload_n (x := mo) dX12_queued_0 rfl rfl ?_
  refine ro_iconst (v := 0) dX12_queued_1 rfl ?_
  refine r_mput (kk := 36) h inU12 rfl (by decide) uf_180 rfl rfl rfl rfl dX12_queued_2 (fun M1 => ?_)
  refine ro_iconst (v := 0) dX12_queued_5 rfl ?_
  refine r_istore_n (lo2 := [(1, wi 0), (0, .ref mo)]) dX12_queued_6 rfl (by decide) rfl ?_
  refine ro_iconst (v := 0) dX12_queued_7 rfl ?_
  refine r_istore_n (lo2 := [(2, wi 0), (1, wi 0), (0, .ref mo)]) dX12_queued_8 rfl (by decide) rfl ?_
  refine r_loop (P := fun (J : Int → Int → Md → Option (Int × Md)) => ∀ (v1_9 : Int) (v2_9 : Int) (M_9 : Md), RunO l Γ k_X12_queued 2 encI (emM K0) 9 [(0, .ref mo), (1, wi v1_9), (2, wi v2_9)] [] M_9 (J v1_9 v2_9 M_9)) ?_ (fun L9 hL9 => ?_) (fun J9 hJ9 => ?_)
  · intros; exact ro_none
  · intro v1_9 v2_9 M_9
    refine r_iload_n (x := v2_9) dX12_queued_9 rfl rfl ?_
    refine r_bipush (v := 24) dX12_queued_10 rfl ?_
    refine r_icmp_ge (tgt := 47) dX12_queued_12 (by decide) ?_ ?_
    · refine r_iload_n (x := v1_9) dX12_queued_47 rfl rfl ?_
      exact r_iret rfl dX12_queued_48
    · refine r_iload_n (x := v1_9) dX12_queued_15 rfl rfl ?_
      refine r_aload_n (x := mo) dX12_queued_16 rfl rfl ?_
      refine r_mgetA (kk := 6) h inU12 rfl (by decide) uf_19 rfl rfl dX12_queued_17 ?_
      refine r_iload_n (x := v2_9) dX12_queued_20 rfl rfl ?_
      refine r_miald h (by decide) dX12_queued_21 ?_
      refine ro_iconst (v := (-1)) dX12_queued_22 rfl ?_
      refine r_join (P := fun (J : Int → Md → Option (Int × Md)) => ∀ (t0_39 : Int) (M_39 : Md), RunO l Γ k_X12_queued 2 encI (emM K0) 39 [(0, .ref mo), (2, wi v2_9)] [wi t0_39, wi v1_9] M_39 (J t0_39 M_39)) ?_ (fun J39 hJ39 => ?_)
      · intro t0_39 M_39
        refine r_iadd dX12_queued_39 ?_
        refine r_nm (fun x1_40 => ?_)
        refine r_istore_n (lo2 := [(1, wi x1_40), (0, .ref mo), (2, wi v2_9)]) dX12_queued_40 rfl (by decide) rfl ?_
        refine r_iinc (x := v2_9) (lo2 := [(2, wi (v2_9 + 1)), (1, wi x1_40), (0, .ref mo)]) dX12_queued_41 rfl (by decide) rfl ?_
        refine r_goto (tgt := 9) dX12_queued_44 (by decide) ?_
        refine r_lo [2, 1, 0] (lo2 := [(0, .ref mo), (1, wi x1_40), (2, wi (v2_9 + 1))]) rfl ?_
        exact hL9 _ _ _
      refine r_join (P := fun (J : Md → Option (Int × Md)) => ∀ (M_38 : Md), RunO l Γ k_X12_queued 2 encI (emM K0) 38 [(0, .ref mo), (2, wi v2_9)] [wi v1_9] M_38 (J M_38)) ?_ (fun J38 hJ38 => ?_)
      · intro M_38
        refine ro_iconst (v := 0) dX12_queued_38 rfl ?_
        exact hJ39 _ _
      refine r_icmp_eq (tgt := 38) dX12_queued_23 (by decide) ?_ ?_
      · refine r_lo [0, 2] (lo2 := [(0, .ref mo), (2, wi v2_9)]) rfl ?_
        exact hJ38 _
      · refine r_aload_n (x := mo) dX12_queued_26 rfl rfl ?_
        refine r_iload_n (x := v2_9) dX12_queued_27 rfl rfl ?_
        refine r_callVi (k2 := k_X12_isOld) (n := 1) (rest := [wi v1_9]) rfl kv_X12_isOld (c_X12_isOld h _ _) (by decide) um_372 rfl (Nat.le_of_ble_eq_true rfl) dX12_queued_28 (m_rec h) rfl (fun r3 M2 => ?_)
        refine r_if_eq (tgt := 38) dX12_queued_31 (by decide) ?_ ?_
        · refine r_lo [0, 2] (lo2 := [(0, .ref mo), (2, wi v2_9)]) rfl ?_
          exact hJ38 _
        · refine ro_iconst (v := 1) dX12_queued_34 rfl ?_
          refine r_goto (tgt := 39) dX12_queued_35 (by decide) ?_
          refine r_lo [0, 2] (lo2 := [(0, .ref mo), (2, wi v2_9)]) rfl ?_
          exact hJ39 _ _
  refine r_lo [2, 1, 0] (lo2 := [(0, .ref mo), (1, wi 0), (2, wi 0)]) rfl ?_
  exact hJ9 _ _ _
def k_X12_rank : Kd := (yX12_rank, cX12_rank, 4, some .int, [])
theorem kv_X12_rank : KV k_X12_rank 2 := ⟨uw_mem 2221 (by decide +kernel) rfl, uw_mem 170 (by decide +kernel) rfl, uw_mem 2219 (by decide +kernel) rfl, uw_mem 2220 (by decide +kernel) rfl, ⟨by decide +kernel, by decide +kernel⟩, by decide +kernel, by decide +kernel⟩
set_option maxHeartbeats 4000000 in
set_option maxRecDepth 100000 in
theorem c_X12_rank {l : Launch} {Γ : Cx} {K0 : Cd} {mo : Nat} {ma : Nat → Nat} (h : mOn Γ mo ma) (a1 : Int) (a2 : Int) (M : Md) : Ct l Γ k_X12_rank 3 encI (emM K0) [.ref mo, wi a1, wi a2] M (fX12_rank a1 a2 M) := by
  refine ct_of (by decide +kernel) rfl (Nat.le_of_ble_eq_true rfl) ?_
  refine r_lo [0, 1, 2] (lo2 := [(0, .ref mo), (1, wi a1), (2, wi a2)]) rfl ?_
  unfold fX12_rank
  refine r_aload_n (x := mo) dX12_rank_0 rfl rfl ?_
  refine r_iload_n (x := a1) dX12_rank_1 rfl rfl ?_
  refine r_callSi (k2 := k_X12_isTitle) (n := 1) (rest := [.ref mo]) rfl kv_X12_isTitle (c_X12_isTitle h _ _) (by decide) um_188 rfl (Nat.le_of_ble_eq_true rfl) dX12_rank_2 rfl (fun r2 M1 => ?_)
  refine r_join (P := fun (J : Int → Md → Option (Int × Md)) => ∀ (t0_27 : Int) (M_27 : Md), RunO l Γ k_X12_rank 3 encI (emM K0) 27 [(0, .ref mo), (1, wi a1), (2, wi a2)] [wi t0_27, .ref mo] M_27 (J t0_27 M_27)) ?_ (fun J27 hJ27 => ?_)
  · intro t0_27 M_27
    refine r_mput (kk := 36) h inU12 rfl (by decide) uf_180 rfl rfl rfl rfl dX12_rank_27 (fun M3 => ?_)
    refine r_aload_n (x := mo) dX12_rank_30 rfl rfl ?_
    refine r_mget (kk := 36) h inU12 rfl (by decide) uf_180 rfl rfl dX12_rank_31 ?_
    refine r_if_le (tgt := 39) dX12_rank_34 (by decide) ?_ ?_
    · refine r_aload_n (x := mo) dX12_rank_39 rfl rfl ?_
      refine r_mgetA (kk := 4) h inU12 rfl (by decide) uf_16 rfl rfl dX12_rank_40 ?_
      refine r_iload_n (x := a1) dX12_rank_43 rfl rfl ?_
      refine r_miald h (by decide) dX12_rank_44 ?_
      refine r_nm (fun x3_45 => ?_)
      refine r_istore_n (lo2 := [(3, wi x3_45), (0, .ref mo), (1, wi a1), (2, wi a2)]) dX12_rank_45 rfl (by decide) rfl ?_
      refine r_aload_n (x := mo) dX12_rank_46 rfl rfl ?_
      refine r_mgetA (kk := 4) h inU12 rfl (by decide) uf_16 rfl rfl dX12_rank_47 ?_
      refine r_iload_n (x := a1) dX12_rank_50 rfl rfl ?_
      refine r_iload_n (x := a2) dX12_rank_51 rfl rfl ?_
      refine r_miast h (by decide) dX12_rank_52 (fun M4 => ?_)
      refine r_iload_n (x := x3_45) dX12_rank_53 rfl rfl ?_
      exact r_iret rfl dX12_rank_54
    · refine ro_iconst (v := 0) dX12_rank_37 rfl ?_
      exact r_iret rfl dX12_rank_38
  refine r_if_ne (tgt := 12) dX12_rank_5 (by decide) ?_ ?_
  · refine r_iload_n (x := a2) dX12_rank_12 rfl rfl ?_
    refine ro_iconst (v := 0) dX12_rank_13 rfl ?_
    refine r_bipush (v := 99) dX12_rank_14 rfl ?_
    refine r_callSi (k2 := k_X12_in) (n := 3) (rest := [.ref mo]) rfl kv_X12_in (c_X12_in h _ _ _ _) (by decide) um_184 rfl (Nat.le_of_ble_eq_true rfl) dX12_rank_16 rfl (fun r6 M5 => ?_)
    refine r_if_ne (tgt := 26) dX12_rank_19 (by decide) ?_ ?_
    · refine ro_iconst (v := 0) dX12_rank_26 rfl ?_
      exact hJ27 _ _
    · refine ro_iconst (v := 2) dX12_rank_22 rfl ?_
      refine r_goto (tgt := 27) dX12_rank_23 (by decide) ?_
      exact hJ27 _ _
  · refine ro_iconst (v := 1) dX12_rank_8 rfl ?_
    refine r_goto (tgt := 27) dX12_rank_9 (by decide) ?_
    exact hJ27 _ _
def k_X12_render : Kd := (yX12_render, cX12_render, 4, none, [])
theorem kv_X12_render : KV k_X12_render 1 := ⟨uw_mem 1917 (by decide +kernel) rfl, uw_mem 170 (by decide +kernel) rfl, uw_mem 1916 (by decide +kernel) rfl, uw_mem 98 (by decide +kernel) rfl, ⟨by decide +kernel, by decide +kernel⟩, by decide +kernel, by decide +kernel⟩
set_option maxHeartbeats 4000000 in
set_option maxRecDepth 100000 in
theorem c_X12_render {l : Launch} {Γ : Cx} {K0 : Cd} {mo : Nat} {ma : Nat → Nat} (h : mOn Γ mo ma) (a1 : Int) (M : Md) : Ct l Γ k_X12_render 9 encV (emM K0) [.ref mo, wi a1] M (fX12_render a1 M) := by
  refine ct_of (by decide +kernel) rfl (Nat.le_of_ble_eq_true rfl) ?_
  refine r_lo [0, 1] (lo2 := [(0, .ref mo), (1, wi a1)]) rfl ?_
  unfold fX12_render
  refine r_aload_n (x := mo) dX12_render_0 rfl rfl ?_
  refine ro_iconst (v := (-1)) dX12_render_1 rfl ?_
  refine r_mput (kk := 39) h inU12 rfl (by decide) uf_232 rfl rfl rfl rfl dX12_render_2 (fun M1 => ?_)
  refine r_aload_n (x := mo) dX12_render_5 rfl rfl ?_
  refine r_mget (kk := 22) h inU12 rfl (by decide) uf_212 rfl rfl dX12_render_6 ?_
  refine r_nm (fun x2_9 => ?_)
  refine r_istore_n (lo2 := [(2, wi x2_9), (0, .ref mo), (1, wi a1)]) dX12_render_9 rfl (by decide) rfl ?_
  refine r_aload_n (x := mo) dX12_render_10 rfl rfl ?_
  refine r_iload_n (x := a1) dX12_render_11 rfl rfl ?_
  refine r_aload_n (x := mo) dX12_render_12 rfl rfl ?_
  refine r_iload_n (x := a1) dX12_render_13 rfl rfl ?_
  refine r_callVi (k2 := k_X12_presentAt) (n := 1) (rest := [wi a1, .ref mo]) rfl kv_X12_presentAt (c_X12_presentAt h _ _) (by decide) um_209 rfl (Nat.le_of_ble_eq_true rfl) dX12_render_14 (m_rec h) rfl (fun r3 M2 => ?_)
  refine r_callVv (k2 := k_X12_expand) (n := 2) (rest := []) rfl kv_X12_expand (c_X12_expand h _ _ _) (by decide) um_369 rfl (Nat.le_of_ble_eq_true rfl) dX12_render_17 (m_rec h) rfl (fun r5 M4 => ?_)
  refine r_aload_n (x := mo) dX12_render_20 rfl rfl ?_
  refine r_mgetA (kk := 28) h inU12 rfl (by decide) uf_74 rfl rfl dX12_render_21 ?_
  refine r_iload_n (x := a1) dX12_render_24 rfl rfl ?_
  refine r_iload_n (x := x2_9) dX12_render_25 rfl rfl ?_
  refine r_miast h (by decide) dX12_render_26 (fun M6 => ?_)
  refine r_aload_n (x := mo) dX12_render_27 rfl rfl ?_
  refine r_mgetA (kk := 27) h inU12 rfl (by decide) uf_70 rfl rfl dX12_render_28 ?_
  refine r_iload_n (x := a1) dX12_render_31 rfl rfl ?_
  refine ro_iconst (v := 1) dX12_render_32 rfl ?_
  refine r_mzast h (by first | exact Or.inl rfl | exact Or.inr rfl) dX12_render_33 (fun M7 => ?_)
  refine r_aload_n (x := mo) dX12_render_34 rfl rfl ?_
  refine r_mgetA (kk := 30) h inU12 rfl (by decide) uf_80 rfl rfl dX12_render_35 ?_
  refine r_iload_n (x := a1) dX12_render_38 rfl rfl ?_
  refine r_aload_n (x := mo) dX12_render_39 rfl rfl ?_
  refine r_mgetA (kk := 49) h inU12 rfl (by decide) uf_125 rfl rfl dX12_render_40 ?_
  refine ro_iconst (v := 0) dX12_render_43 rfl ?_
  refine r_miald h (by decide) dX12_render_44 ?_
  refine r_miast h (by decide) dX12_render_45 (fun M8 => ?_)
  refine ro_iconst (v := 0) dX12_render_46 rfl ?_
  refine r_istore_n (lo2 := [(3, wi 0), (2, wi x2_9), (0, .ref mo), (1, wi a1)]) dX12_render_47 rfl (by decide) rfl ?_
  refine r_loop (P := fun (J : Int → Md → Option (Unit × Md)) => ∀ (v3_48 : Int) (M_48 : Md), RunO l Γ k_X12_render 9 encV (emM K0) 48 [(0, .ref mo), (1, wi a1), (3, wi v3_48)] [] M_48 (J v3_48 M_48)) ?_ (fun L48 hL48 => ?_) (fun J48 hJ48 => ?_)
  · intros; exact ro_none
  · intro v3_48 M_48
    refine r_iload_n (x := v3_48) dX12_render_48 rfl rfl ?_
    refine r_aload_n (x := mo) dX12_render_49 rfl rfl ?_
    refine r_mgetA (kk := 49) h inU12 rfl (by decide) uf_125 rfl rfl dX12_render_50 ?_
    refine ro_iconst (v := 0) dX12_render_53 rfl ?_
    refine r_miald h (by decide) dX12_render_54 ?_
    refine r_icmp_ge (tgt := 82) dX12_render_55 (by decide) ?_ ?_
    · refine r_aload_n (x := mo) dX12_render_82 rfl rfl ?_
      refine r_mgetA (kk := 31) h inU12 rfl (by decide) uf_83 rfl rfl dX12_render_83 ?_
      refine r_iload_n (x := a1) dX12_render_86 rfl rfl ?_
      refine r_aload_n (x := mo) dX12_render_87 rfl rfl ?_
      refine r_mget (kk := 66) h inU12 rfl (by decide) uf_276 rfl rfl dX12_render_88 ?_
      refine r_miast h (by decide) dX12_render_91 (fun M9 => ?_)
      refine r_aload_n (x := mo) dX12_render_92 rfl rfl ?_
      refine r_mgetA (kk := 33) h inU12 rfl (by decide) uf_89 rfl rfl dX12_render_93 ?_
      refine r_iload_n (x := a1) dX12_render_96 rfl rfl ?_
      refine r_aload_n (x := mo) dX12_render_97 rfl rfl ?_
      refine r_mget (kk := 68) h inU12 rfl (by decide) uf_239 rfl rfl dX12_render_98 ?_
      refine r_miast h (by decide) dX12_render_101 (fun M10 => ?_)
      refine r_aload_n (x := mo) dX12_render_102 rfl rfl ?_
      refine r_mgetA (kk := 34) h inU12 rfl (by decide) uf_92 rfl rfl dX12_render_103 ?_
      refine r_iload_n (x := a1) dX12_render_106 rfl rfl ?_
      refine r_aload_n (x := mo) dX12_render_107 rfl rfl ?_
      refine r_mget (kk := 69) h inU12 rfl (by decide) uf_331 rfl rfl dX12_render_108 ?_
      refine r_miast h (by decide) dX12_render_111 (fun M11 => ?_)
      refine r_aload_n (x := mo) dX12_render_112 rfl rfl ?_
      refine r_mgetA (kk := 35) h inU12 rfl (by decide) uf_95 rfl rfl dX12_render_113 ?_
      refine r_iload_n (x := a1) dX12_render_116 rfl rfl ?_
      refine r_aload_n (x := mo) dX12_render_117 rfl rfl ?_
      refine r_mget (kk := 70) h inU12 rfl (by decide) uf_343 rfl rfl dX12_render_118 ?_
      refine r_miast h (by decide) dX12_render_121 (fun M12 => ?_)
      refine r_aload_n (x := mo) dX12_render_122 rfl rfl ?_
      refine r_iload_n (x := a1) dX12_render_123 rfl rfl ?_
      refine r_aload_n (x := mo) dX12_render_124 rfl rfl ?_
      refine r_mget (kk := 67) h inU12 rfl (by decide) uf_304 rfl rfl dX12_render_125 ?_
      refine r_callVv (k2 := k_X12_setCategories) (n := 2) (rest := []) rfl kv_X12_setCategories (c_X12_setCategories h _ _ _) (by decide) um_225 rfl (Nat.le_of_ble_eq_true rfl) dX12_render_128 (m_rec h) rfl (fun r14 M13 => ?_)
      exact r_vret rfl dX12_render_131
    · refine r_aload_n (x := mo) dX12_render_58 rfl rfl ?_
      refine r_mgetA (kk := 29) h inU12 rfl (by decide) uf_77 rfl rfl dX12_render_59 ?_
      refine r_sipush (v := 150) dX12_render_62 rfl ?_
      refine r_iload_n (x := a1) dX12_render_65 rfl rfl ?_
      refine r_imul dX12_render_66 ?_
      refine r_iload_n (x := v3_48) dX12_render_67 rfl rfl ?_
      refine r_iadd dX12_render_68 ?_
      refine r_aload_n (x := mo) dX12_render_69 rfl rfl ?_
      refine r_mgetA (kk := 50) h inU12 rfl (by decide) uf_129 rfl rfl dX12_render_70 ?_
      refine r_iload_n (x := v3_48) dX12_render_73 rfl rfl ?_
      refine r_miald h (by decide) dX12_render_74 ?_
      refine r_miast h (by decide) dX12_render_75 (fun M15 => ?_)
      refine r_iinc (x := v3_48) (lo2 := [(3, wi (v3_48 + 1)), (0, .ref mo), (1, wi a1)]) dX12_render_76 rfl (by decide) rfl ?_
      refine r_goto (tgt := 48) dX12_render_79 (by decide) ?_
      refine r_lo [1, 2, 0] (lo2 := [(0, .ref mo), (1, wi a1), (3, wi (v3_48 + 1))]) rfl ?_
      exact hL48 _ _
  refine r_lo [2, 3, 0] (lo2 := [(0, .ref mo), (1, wi a1), (3, wi 0)]) rfl ?_
  exact hJ48 _ _
def k_X12_read : Kd := (yX12_read, cX12_read, 3, some .int, [])
theorem kv_X12_read : KV k_X12_read 2 := ⟨uw_mem 2066 (by decide +kernel) rfl, uw_mem 170 (by decide +kernel) rfl, uw_mem 2064 (by decide +kernel) rfl, uw_mem 2065 (by decide +kernel) rfl, ⟨by decide +kernel, by decide +kernel⟩, by decide +kernel, by decide +kernel⟩
set_option maxHeartbeats 4000000 in
set_option maxRecDepth 100000 in
theorem c_X12_read {l : Launch} {Γ : Cx} {K0 : Cd} {mo : Nat} {ma : Nat → Nat} (h : mOn Γ mo ma) (a1 : Int) (a2 : Int) (M : Md) : Ct l Γ k_X12_read 10 encI (emM K0) [.ref mo, wi a1, wi a2] M (fX12_read a1 a2 M) := by
  refine ct_of (by decide +kernel) rfl (Nat.le_of_ble_eq_true rfl) ?_
  refine r_lo [0, 1, 2] (lo2 := [(0, .ref mo), (1, wi a1), (2, wi a2)]) rfl ?_
  unfold fX12_read
  refine r_aload_n (x := mo) dX12_read_0 rfl rfl ?_
  refine r_aload_n (x := mo) dX12_read_1 rfl rfl ?_
  refine r_iload_n (x := a1) dX12_read_2 rfl rfl ?_
  refine r_callVi (k2 := k_X12_hasPage) (n := 1) (rest := [.ref mo]) rfl kv_X12_hasPage (c_X12_hasPage h _ _) (by decide) um_381 rfl (Nat.le_of_ble_eq_true rfl) dX12_read_3 (m_rec h) rfl (fun r2 M1 => ?_)
  refine r_join (P := fun (J : Int → Md → Option (Int × Md)) => ∀ (t0_14 : Int) (M_14 : Md), RunO l Γ k_X12_read 10 encI (emM K0) 14 [(0, .ref mo), (1, wi a1), (2, wi a2)] [wi t0_14, .ref mo] M_14 (J t0_14 M_14)) ?_ (fun J14 hJ14 => ?_)
  · intro t0_14 M_14
    refine r_mput (kk := 36) h inU12 rfl (by decide) uf_180 rfl rfl rfl rfl dX12_read_14 (fun M3 => ?_)
    refine r_aload_n (x := mo) dX12_read_17 rfl rfl ?_
    refine r_mget (kk := 36) h inU12 rfl (by decide) uf_180 rfl rfl dX12_read_18 ?_
    refine r_if_le (tgt := 26) dX12_read_21 (by decide) ?_ ?_
    · refine r_aload_n (x := mo) dX12_read_26 rfl rfl ?_
      refine r_mgetA (kk := 27) h inU12 rfl (by decide) uf_70 rfl rfl dX12_read_27 ?_
      refine r_iload_n (x := a1) dX12_read_30 rfl rfl ?_
      refine r_mzald h dX12_read_31 ?_
      refine r_join (P := fun (J : Md → Option (Int × Md)) => ∀ (M_52 : Md), RunO l Γ k_X12_read 10 encI (emM K0) 52 [(0, .ref mo), (1, wi a1)] [] M_52 (J M_52)) ?_ (fun J52 hJ52 => ?_)
      · intro M_52
        refine r_aload_n (x := mo) dX12_read_52 rfl rfl ?_
        refine r_mgetA (kk := 30) h inU12 rfl (by decide) uf_80 rfl rfl dX12_read_53 ?_
        refine r_iload_n (x := a1) dX12_read_56 rfl rfl ?_
        refine r_miald h (by decide) dX12_read_57 ?_
        exact r_iret rfl dX12_read_58
      refine r_join (P := fun (J : Md → Option (Int × Md)) => ∀ (M_47 : Md), RunO l Γ k_X12_read 10 encI (emM K0) 47 [(0, .ref mo), (1, wi a1)] [] M_47 (J M_47)) ?_ (fun J47 hJ47 => ?_)
      · intro M_47
        refine r_aload_n (x := mo) dX12_read_47 rfl rfl ?_
        refine r_iload_n (x := a1) dX12_read_48 rfl rfl ?_
        refine r_callVv (k2 := k_X12_render) (n := 1) (rest := []) rfl kv_X12_render (c_X12_render h _ _) (by decide) um_378 rfl (Nat.le_of_ble_eq_true rfl) dX12_read_49 (m_rec h) rfl (fun r5 M4 => ?_)
        exact hJ52 _
      refine r_if_eq (tgt := 47) dX12_read_32 (by decide) ?_ ?_
      · refine r_lo [0, 1] (lo2 := [(0, .ref mo), (1, wi a1)]) rfl ?_
        exact hJ47 _
      · refine r_iload_n (x := a2) dX12_read_35 rfl rfl ?_
        refine r_if_ne (tgt := 52) dX12_read_36 (by decide) ?_ ?_
        · refine r_lo [0, 1] (lo2 := [(0, .ref mo), (1, wi a1)]) rfl ?_
          exact hJ52 _
        · refine r_aload_n (x := mo) dX12_read_39 rfl rfl ?_
          refine r_iload_n (x := a1) dX12_read_40 rfl rfl ?_
          refine r_callVi (k2 := k_X12_isOld) (n := 1) (rest := []) rfl kv_X12_isOld (c_X12_isOld h _ _) (by decide) um_372 rfl (Nat.le_of_ble_eq_true rfl) dX12_read_41 (m_rec h) rfl (fun r7 M6 => ?_)
          refine r_if_eq (tgt := 52) dX12_read_44 (by decide) ?_ ?_
          · refine r_lo [0, 1] (lo2 := [(0, .ref mo), (1, wi a1)]) rfl ?_
            exact hJ52 _
          · refine r_lo [0, 1] (lo2 := [(0, .ref mo), (1, wi a1)]) rfl ?_
            exact hJ47 _
    · refine ro_iconst (v := 0) dX12_read_24 rfl ?_
      exact r_iret rfl dX12_read_25
  refine r_if_eq (tgt := 13) dX12_read_6 (by decide) ?_ ?_
  · refine ro_iconst (v := 1) dX12_read_13 rfl ?_
    exact hJ14 _ _
  · refine ro_iconst (v := 0) dX12_read_9 rfl ?_
    refine r_goto (tgt := 14) dX12_read_10 (by decide) ?_
    exact hJ14 _ _
def k_X12_shown : Kd := (yX12_shown, cX12_shown, 3, some .int, [])
theorem kv_X12_shown : KV k_X12_shown 2 := ⟨uw_mem 2269 (by decide +kernel) rfl, uw_mem 170 (by decide +kernel) rfl, uw_mem 2267 (by decide +kernel) rfl, uw_mem 2268 (by decide +kernel) rfl, ⟨by decide +kernel, by decide +kernel⟩, by decide +kernel, by decide +kernel⟩
set_option maxHeartbeats 4000000 in
set_option maxRecDepth 100000 in
theorem c_X12_shown {l : Launch} {Γ : Cx} {K0 : Cd} {mo : Nat} {ma : Nat → Nat} (h : mOn Γ mo ma) (a1 : Int) (a2 : Int) (M : Md) : Ct l Γ k_X12_shown 5 encI (emM K0) [.ref mo, wi a1, wi a2] M (fX12_shown a1 a2 M) := by
  refine ct_of (by decide +kernel) rfl (Nat.le_of_ble_eq_true rfl) ?_
  refine r_lo [0, 1, 2] (lo2 := [(0, .ref mo), (1, wi a1), (2, wi a2)]) rfl ?_
  unfold fX12_shown
  refine r_aload_n (x := mo) dX12_shown_0 rfl rfl ?_
  refine r_iload_n (x := a1) dX12_shown_1 rfl rfl ?_
  refine r_iload_n (x := a2) dX12_shown_2 rfl rfl ?_
  refine r_callVi (k2 := k_X12_hasIndex) (n := 2) (rest := []) rfl kv_X12_hasIndex (c_X12_hasIndex h _ _ _) (by decide) um_476 rfl (Nat.le_of_ble_eq_true rfl) dX12_shown_3 (m_rec h) rfl (fun r2 M1 => ?_)
  refine r_join (P := fun (J : Int → Md → Option (Int × Md)) => ∀ (t0_48 : Int) (M_48 : Md), RunO l Γ k_X12_shown 5 encI (emM K0) 48 [] [wi t0_48] M_48 (J t0_48 M_48)) ?_ (fun J48 hJ48 => ?_)
  · intro t0_48 M_48
    exact r_iret rfl dX12_shown_48
  refine r_if_ne (tgt := 13) dX12_shown_6 (by decide) ?_ ?_
  · refine r_aload_n (x := mo) dX12_shown_13 rfl rfl ?_
    refine r_mgetA (kk := 27) h inU12 rfl (by decide) uf_70 rfl rfl dX12_shown_14 ?_
    refine r_iload_n (x := a1) dX12_shown_17 rfl rfl ?_
    refine r_mzald h dX12_shown_18 ?_
    refine r_join (P := fun (J : Md → Option (Int × Md)) => ∀ (M_47 : Md), RunO l Γ k_X12_shown 5 encI (emM K0) 47 [] [] M_47 (J M_47)) ?_ (fun J47 hJ47 => ?_)
    · intro M_47
      refine ro_iconst (v := (-1)) dX12_shown_47 rfl ?_
      exact hJ48 _ _
    refine r_if_eq (tgt := 47) dX12_shown_19 (by decide) ?_ ?_
    · refine r_lo [] (lo2 := []) rfl ?_
      exact hJ47 _
    · refine r_iload_n (x := a2) dX12_shown_22 rfl rfl ?_
      refine r_aload_n (x := mo) dX12_shown_23 rfl rfl ?_
      refine r_mgetA (kk := 30) h inU12 rfl (by decide) uf_80 rfl rfl dX12_shown_24 ?_
      refine r_iload_n (x := a1) dX12_shown_27 rfl rfl ?_
      refine r_miald h (by decide) dX12_shown_28 ?_
      refine r_icmp_ge (tgt := 47) dX12_shown_29 (by decide) ?_ ?_
      · refine r_lo [] (lo2 := []) rfl ?_
        exact hJ47 _
      · refine r_aload_n (x := mo) dX12_shown_32 rfl rfl ?_
        refine r_mgetA (kk := 29) h inU12 rfl (by decide) uf_77 rfl rfl dX12_shown_33 ?_
        refine r_sipush (v := 150) dX12_shown_36 rfl ?_
        refine r_iload_n (x := a1) dX12_shown_39 rfl rfl ?_
        refine r_imul dX12_shown_40 ?_
        refine r_iload_n (x := a2) dX12_shown_41 rfl rfl ?_
        refine r_iadd dX12_shown_42 ?_
        refine r_miald h (by decide) dX12_shown_43 ?_
        refine r_goto (tgt := 48) dX12_shown_44 (by decide) ?_
        refine r_lo [] (lo2 := []) rfl ?_
        exact hJ48 _ _
  · refine ro_iconst (v := 0) dX12_shown_9 rfl ?_
    refine r_goto (tgt := 48) dX12_shown_10 (by decide) ?_
    refine r_lo [] (lo2 := []) rfl ?_
    exact hJ48 _ _
def k_X12_shownAnew : Kd := (yX12_shownAnew, cX12_shownAnew, 3, some .int, [])
theorem kv_X12_shownAnew : KV k_X12_shownAnew 2 := ⟨uw_mem 2273 (by decide +kernel) rfl, uw_mem 170 (by decide +kernel) rfl, uw_mem 2271 (by decide +kernel) rfl, uw_mem 2272 (by decide +kernel) rfl, ⟨by decide +kernel, by decide +kernel⟩, by decide +kernel, by decide +kernel⟩
set_option maxHeartbeats 4000000 in
set_option maxRecDepth 100000 in
theorem c_X12_shownAnew {l : Launch} {Γ : Cx} {K0 : Cd} {mo : Nat} {ma : Nat → Nat} (h : mOn Γ mo ma) (a1 : Int) (a2 : Int) (M : Md) : Ct l Γ k_X12_shownAnew 9 encI (emM K0) [.ref mo, wi a1, wi a2] M (fX12_shownAnew a1 a2 M) := by
  refine ct_of (by decide +kernel) rfl (Nat.le_of_ble_eq_true rfl) ?_
  refine r_lo [0, 1, 2] (lo2 := [(0, .ref mo), (1, wi a1), (2, wi a2)]) rfl ?_
  unfold fX12_shownAnew
  refine r_aload_n (x := mo) dX12_shownAnew_0 rfl rfl ?_
  refine r_iload_n (x := a1) dX12_shownAnew_1 rfl rfl ?_
  refine r_iload_n (x := a2) dX12_shownAnew_2 rfl rfl ?_
  refine r_callVi (k2 := k_X12_hasIndex) (n := 2) (rest := []) rfl kv_X12_hasIndex (c_X12_hasIndex h _ _ _) (by decide) um_476 rfl (Nat.le_of_ble_eq_true rfl) dX12_shownAnew_3 (m_rec h) rfl (fun r2 M1 => ?_)
  refine r_if_ne (tgt := 11) dX12_shownAnew_6 (by decide) ?_ ?_
  · refine r_aload_n (x := mo) dX12_shownAnew_11 rfl rfl ?_
    refine ro_iconst (v := (-1)) dX12_shownAnew_12 rfl ?_
    refine r_mput (kk := 39) h inU12 rfl (by decide) uf_232 rfl rfl rfl rfl dX12_shownAnew_13 (fun M3 => ?_)
    refine r_aload_n (x := mo) dX12_shownAnew_16 rfl rfl ?_
    refine r_iload_n (x := a1) dX12_shownAnew_17 rfl rfl ?_
    refine r_aload_n (x := mo) dX12_shownAnew_18 rfl rfl ?_
    refine r_iload_n (x := a1) dX12_shownAnew_19 rfl rfl ?_
    refine r_callVi (k2 := k_X12_presentAt) (n := 1) (rest := [wi a1, .ref mo]) rfl kv_X12_presentAt (c_X12_presentAt h _ _) (by decide) um_209 rfl (Nat.le_of_ble_eq_true rfl) dX12_shownAnew_20 (m_rec h) rfl (fun r5 M4 => ?_)
    refine r_callVv (k2 := k_X12_expand) (n := 2) (rest := []) rfl kv_X12_expand (c_X12_expand h _ _ _) (by decide) um_369 rfl (Nat.le_of_ble_eq_true rfl) dX12_shownAnew_23 (m_rec h) rfl (fun r7 M6 => ?_)
    refine r_iload_n (x := a2) dX12_shownAnew_26 rfl rfl ?_
    refine r_aload_n (x := mo) dX12_shownAnew_27 rfl rfl ?_
    refine r_mgetA (kk := 49) h inU12 rfl (by decide) uf_125 rfl rfl dX12_shownAnew_28 ?_
    refine ro_iconst (v := 0) dX12_shownAnew_31 rfl ?_
    refine r_miald h (by decide) dX12_shownAnew_32 ?_
    refine r_join (P := fun (J : Int → Md → Option (Int × Md)) => ∀ (t0_46 : Int) (M_46 : Md), RunO l Γ k_X12_shownAnew 9 encI (emM K0) 46 [] [wi t0_46] M_46 (J t0_46 M_46)) ?_ (fun J46 hJ46 => ?_)
    · intro t0_46 M_46
      exact r_iret rfl dX12_shownAnew_46
    refine r_icmp_ge (tgt := 45) dX12_shownAnew_33 (by decide) ?_ ?_
    · refine ro_iconst (v := (-1)) dX12_shownAnew_45 rfl ?_
      refine r_lo [] (lo2 := []) rfl ?_
      exact hJ46 _ _
    · refine r_aload_n (x := mo) dX12_shownAnew_36 rfl rfl ?_
      refine r_mgetA (kk := 50) h inU12 rfl (by decide) uf_129 rfl rfl dX12_shownAnew_37 ?_
      refine r_iload_n (x := a2) dX12_shownAnew_40 rfl rfl ?_
      refine r_miald h (by decide) dX12_shownAnew_41 ?_
      refine r_goto (tgt := 46) dX12_shownAnew_42 (by decide) ?_
      refine r_lo [] (lo2 := []) rfl ?_
      exact hJ46 _ _
  · refine ro_iconst (v := 0) dX12_shownAnew_9 rfl ?_
    exact r_iret rfl dX12_shownAnew_10
def k_X12_thrown : Kd := (yX12_thrown, cX12_thrown, 1, some .int, [])
theorem kv_X12_thrown : KV k_X12_thrown 0 := ⟨uw_mem 1898 (by decide +kernel) rfl, uw_mem 170 (by decide +kernel) rfl, uw_mem 1896 (by decide +kernel) rfl, uw_mem 1897 (by decide +kernel) rfl, ⟨by decide +kernel, by decide +kernel⟩, by decide +kernel, by decide +kernel⟩
set_option maxHeartbeats 4000000 in
set_option maxRecDepth 100000 in
theorem c_X12_thrown {l : Launch} {Γ : Cx} {K0 : Cd} {mo : Nat} {ma : Nat → Nat} (h : mOn Γ mo ma)  (M : Md) : Ct l Γ k_X12_thrown 1 encI (emM K0) [.ref mo] M (fX12_thrown  M) := by
  refine ct_of (by decide +kernel) rfl (Nat.le_of_ble_eq_true rfl) ?_
  refine r_lo [0] (lo2 := [(0, .ref mo)]) rfl ?_
  unfold fX12_thrown
  refine r_aload_n (x := mo) dX12_thrown_0 rfl rfl ?_
  refine r_mget (kk := 36) h inU12 rfl (by decide) uf_180 rfl rfl dX12_thrown_1 ?_
  exact r_iret rfl dX12_thrown_4
def k_X12_token : Kd := (yX12_token, cX12_token, 3, some .int, [])
theorem kv_X12_token : KV k_X12_token 2 := ⟨uw_mem 2074 (by decide +kernel) rfl, uw_mem 170 (by decide +kernel) rfl, uw_mem 2072 (by decide +kernel) rfl, uw_mem 2073 (by decide +kernel) rfl, ⟨by decide +kernel, by decide +kernel⟩, by decide +kernel, by decide +kernel⟩
set_option maxHeartbeats 4000000 in
set_option maxRecDepth 100000 in
theorem c_X12_token {l : Launch} {Γ : Cx} {K0 : Cd} {mo : Nat} {ma : Nat → Nat} (h : mOn Γ mo ma) (a1 : Int) (a2 : Int) (M : Md) : Ct l Γ k_X12_token 3 encI (emM K0) [.ref mo, wi a1, wi a2] M (fX12_token a1 a2 M) := by
  refine ct_of (by decide +kernel) rfl (Nat.le_of_ble_eq_true rfl) ?_
  refine r_lo [0, 1, 2] (lo2 := [(0, .ref mo), (1, wi a1), (2, wi a2)]) rfl ?_
  unfold fX12_token
  refine r_aload_n (x := mo) dX12_token_0 rfl rfl ?_
  refine r_iload_n (x := a1) dX12_token_1 rfl rfl ?_
  refine ro_iconst (v := 0) dX12_token_2 rfl ?_
  refine r_bipush (v := 13) dX12_token_3 rfl ?_
  refine r_callSi (k2 := k_X12_in) (n := 3) (rest := [.ref mo]) rfl kv_X12_in (c_X12_in h _ _ _ _) (by decide) um_184 rfl (Nat.le_of_ble_eq_true rfl) dX12_token_5 rfl (fun r2 M1 => ?_)
  refine r_join (P := fun (J : Int → Md → Option (Int × Md)) => ∀ (t0_37 : Int) (M_37 : Md), RunO l Γ k_X12_token 3 encI (emM K0) 37 [(0, .ref mo), (1, wi a1), (2, wi a2)] [wi t0_37, .ref mo] M_37 (J t0_37 M_37)) ?_ (fun J37 hJ37 => ?_)
  · intro t0_37 M_37
    refine r_mput (kk := 36) h inU12 rfl (by decide) uf_180 rfl rfl rfl rfl dX12_token_37 (fun M3 => ?_)
    refine r_aload_n (x := mo) dX12_token_40 rfl rfl ?_
    refine r_mget (kk := 36) h inU12 rfl (by decide) uf_180 rfl rfl dX12_token_41 ?_
    refine r_if_le (tgt := 49) dX12_token_44 (by decide) ?_ ?_
    · refine r_aload_n (x := mo) dX12_token_49 rfl rfl ?_
      refine r_mgetA (kk := 0) h inU12 rfl (by decide) uf_7 rfl rfl dX12_token_50 ?_
      refine r_aload_n (x := mo) dX12_token_53 rfl rfl ?_
      refine r_mget (kk := 1) h inU12 rfl (by decide) uf_387 rfl rfl dX12_token_54 ?_
      refine r_sipush (v := 1000) dX12_token_57 rfl ?_
      refine r_iload_n (x := a1) dX12_token_60 rfl rfl ?_
      refine r_imul dX12_token_61 ?_
      refine r_iload_n (x := a2) dX12_token_62 rfl rfl ?_
      refine r_iadd dX12_token_63 ?_
      refine r_miast h (by decide) dX12_token_64 (fun M4 => ?_)
      refine r_aload_n (x := mo) dX12_token_65 rfl rfl ?_
      refine r_dup dX12_token_66 rfl ?_
      refine r_mget (kk := 1) h inU12 rfl (by decide) uf_387 rfl rfl dX12_token_67 ?_
      refine ro_iconst (v := 1) dX12_token_70 rfl ?_
      refine r_iadd dX12_token_71 ?_
      refine r_mput (kk := 1) h inU12 rfl (by decide) uf_387 rfl rfl rfl rfl dX12_token_72 (fun M5 => ?_)
      refine r_aload_n (x := mo) dX12_token_75 rfl rfl ?_
      refine r_mget (kk := 1) h inU12 rfl (by decide) uf_387 rfl rfl dX12_token_76 ?_
      exact r_iret rfl dX12_token_79
    · refine ro_iconst (v := 0) dX12_token_47 rfl ?_
      exact r_iret rfl dX12_token_48
  refine r_join (P := fun (J : Md → Option (Int × Md)) => ∀ (M_19 : Md), RunO l Γ k_X12_token 3 encI (emM K0) 19 [(0, .ref mo), (1, wi a1), (2, wi a2)] [.ref mo] M_19 (J M_19)) ?_ (fun J19 hJ19 => ?_)
  · intro M_19
    refine ro_iconst (v := 1) dX12_token_19 rfl ?_
    refine r_goto (tgt := 37) dX12_token_20 (by decide) ?_
    exact hJ37 _ _
  refine r_if_eq (tgt := 19) dX12_token_8 (by decide) ?_ ?_
  · exact hJ19 _
  · refine r_iload_n (x := a1) dX12_token_11 rfl rfl ?_
    refine r_iload_n (x := a2) dX12_token_12 rfl rfl ?_
    refine r_callSi (k2 := k_X12_isValue) (n := 2) (rest := [.ref mo]) rfl kv_X12_isValue (c_X12_isValue h _ _ _) (by decide) um_384 rfl (Nat.le_of_ble_eq_true rfl) dX12_token_13 rfl (fun r7 M6 => ?_)
    refine r_if_ne (tgt := 23) dX12_token_16 (by decide) ?_ ?_
    · refine r_aload_n (x := mo) dX12_token_23 rfl rfl ?_
      refine r_mget (kk := 1) h inU12 rfl (by decide) uf_387 rfl rfl dX12_token_24 ?_
      refine r_bipush (v := 30) dX12_token_27 rfl ?_
      refine r_icmp_ne (tgt := 36) dX12_token_29 (by decide) ?_ ?_
      · refine ro_iconst (v := 0) dX12_token_36 rfl ?_
        exact hJ37 _ _
      · refine ro_iconst (v := 2) dX12_token_32 rfl ?_
        refine r_goto (tgt := 37) dX12_token_33 (by decide) ?_
        exact hJ37 _ _
    · exact hJ19 _
def k_X12_tokenAt : Kd := (yX12_tokenAt, cX12_tokenAt, 4, some .int, [])
theorem kv_X12_tokenAt : KV k_X12_tokenAt 2 := ⟨uw_mem 2245 (by decide +kernel) rfl, uw_mem 170 (by decide +kernel) rfl, uw_mem 2243 (by decide +kernel) rfl, uw_mem 2244 (by decide +kernel) rfl, ⟨by decide +kernel, by decide +kernel⟩, by decide +kernel, by decide +kernel⟩
set_option maxHeartbeats 4000000 in
set_option maxRecDepth 100000 in
theorem c_X12_tokenAt {l : Launch} {Γ : Cx} {K0 : Cd} {mo : Nat} {ma : Nat → Nat} (h : mOn Γ mo ma) (a1 : Int) (a2 : Int) (M : Md) : Ct l Γ k_X12_tokenAt 5 encI (emM K0) [.ref mo, wi a1, wi a2] M (fX12_tokenAt a1 a2 M) := by
  refine ct_of (by decide +kernel) rfl (Nat.le_of_ble_eq_true rfl) ?_
  refine r_lo [0, 1, 2] (lo2 := [(0, .ref mo), (1, wi a1), (2, wi a2)]) rfl ?_
  unfold fX12_tokenAt
  refine r_aload_n (x := mo) dX12_tokenAt_0 rfl rfl ?_
  refine r_iload_n (x := a1) dX12_tokenAt_1 rfl rfl ?_
  refine r_iload_n (x := a2) dX12_tokenAt_2 rfl rfl ?_
  refine r_callVi (k2 := k_X12_hasIndex) (n := 2) (rest := []) rfl kv_X12_hasIndex (c_X12_hasIndex h _ _ _) (by decide) um_476 rfl (Nat.le_of_ble_eq_true rfl) dX12_tokenAt_3 (m_rec h) rfl (fun r2 M1 => ?_)
  refine r_if_ne (tgt := 11) dX12_tokenAt_6 (by decide) ?_ ?_
  · refine r_aload_n (x := mo) dX12_tokenAt_11 rfl rfl ?_
    refine r_iload_n (x := a1) dX12_tokenAt_12 rfl rfl ?_
    refine r_callVi (k2 := k_X12_presentAt) (n := 1) (rest := []) rfl kv_X12_presentAt (c_X12_presentAt h _ _) (by decide) um_209 rfl (Nat.le_of_ble_eq_true rfl) dX12_tokenAt_13 (m_rec h) rfl (fun r4 M3 => ?_)
    refine r_istore_n (lo2 := [(3, wi r4), (0, .ref mo), (1, wi a1), (2, wi a2)]) dX12_tokenAt_16 rfl (by decide) rfl ?_
    refine r_iload_n (x := a2) dX12_tokenAt_17 rfl rfl ?_
    refine r_aload_n (x := mo) dX12_tokenAt_18 rfl rfl ?_
    refine r_mgetA (kk := 10) h inU12 rfl (by decide) uf_25 rfl rfl dX12_tokenAt_19 ?_
    refine r_iload_n (x := r4) dX12_tokenAt_22 rfl rfl ?_
    refine r_miald h (by decide) dX12_tokenAt_23 ?_
    refine r_join (P := fun (J : Int → Md → Option (Int × Md)) => ∀ (t0_42 : Int) (M_42 : Md), RunO l Γ k_X12_tokenAt 5 encI (emM K0) 42 [] [wi t0_42] M_42 (J t0_42 M_42)) ?_ (fun J42 hJ42 => ?_)
    · intro t0_42 M_42
      exact r_iret rfl dX12_tokenAt_42
    refine r_icmp_ge (tgt := 41) dX12_tokenAt_24 (by decide) ?_ ?_
    · refine ro_iconst (v := (-1)) dX12_tokenAt_41 rfl ?_
      refine r_lo [] (lo2 := []) rfl ?_
      exact hJ42 _ _
    · refine r_aload_n (x := mo) dX12_tokenAt_27 rfl rfl ?_
      refine r_mgetA (kk := 9) h inU12 rfl (by decide) uf_22 rfl rfl dX12_tokenAt_28 ?_
      refine r_bipush (v := 30) dX12_tokenAt_31 rfl ?_
      refine r_iload_n (x := r4) dX12_tokenAt_33 rfl rfl ?_
      refine r_imul dX12_tokenAt_34 ?_
      refine r_iload_n (x := a2) dX12_tokenAt_35 rfl rfl ?_
      refine r_iadd dX12_tokenAt_36 ?_
      refine r_miald h (by decide) dX12_tokenAt_37 ?_
      refine r_goto (tgt := 42) dX12_tokenAt_38 (by decide) ?_
      refine r_lo [] (lo2 := []) rfl ?_
      exact hJ42 _ _
  · refine ro_iconst (v := 0) dX12_tokenAt_9 rfl ?_
    exact r_iret rfl dX12_tokenAt_10
def k_X12_translate : Kd := (yX12_translate, cX12_translate, 6, some .int, [])
theorem kv_X12_translate : KV k_X12_translate 3 := ⟨uw_mem 2209 (by decide +kernel) rfl, uw_mem 170 (by decide +kernel) rfl, uw_mem 2207 (by decide +kernel) rfl, uw_mem 2208 (by decide +kernel) rfl, ⟨by decide +kernel, by decide +kernel⟩, by decide +kernel, by decide +kernel⟩
set_option maxHeartbeats 4000000 in
set_option maxRecDepth 100000 in
theorem c_X12_translate {l : Launch} {Γ : Cx} {K0 : Cd} {mo : Nat} {ma : Nat → Nat} (h : mOn Γ mo ma) (a1 : Int) (a2 : Int) (a3 : Int) (M : Md) : Ct l Γ k_X12_translate 4 encI (emM K0) [.ref mo, wi a1, wi a2, wi a3] M (fX12_translate a1 a2 a3 M) := by
  refine ct_of (by decide +kernel) rfl (Nat.le_of_ble_eq_true rfl) ?_
  refine r_lo [0, 1, 2, 3] (lo2 := [(0, .ref mo), (1, wi a1), (2, wi a2), (3, wi a3)]) rfl ?_
  unfold fX12_translate
  refine r_aload_n (x := mo) dX12_translate_0 rfl rfl ?_
  refine r_iload_n (x := a1) dX12_translate_1 rfl rfl ?_
  refine r_callSi (k2 := k_X12_isTitle) (n := 1) (rest := [.ref mo]) rfl kv_X12_isTitle (c_X12_isTitle h _ _) (by decide) um_188 rfl (Nat.le_of_ble_eq_true rfl) dX12_translate_2 rfl (fun r2 M1 => ?_)
  refine r_join (P := fun (J : Int → Md → Option (Int × Md)) => ∀ (t0_48 : Int) (M_48 : Md), RunO l Γ k_X12_translate 4 encI (emM K0) 48 [(0, .ref mo), (1, wi a1), (2, wi a2), (3, wi a3)] [wi t0_48, .ref mo] M_48 (J t0_48 M_48)) ?_ (fun J48 hJ48 => ?_)
  · intro t0_48 M_48
    refine r_mput (kk := 36) h inU12 rfl (by decide) uf_180 rfl rfl rfl rfl dX12_translate_48 (fun M3 => ?_)
    refine r_aload_n (x := mo) dX12_translate_51 rfl rfl ?_
    refine r_mget (kk := 36) h inU12 rfl (by decide) uf_180 rfl rfl dX12_translate_52 ?_
    refine r_if_le (tgt := 60) dX12_translate_55 (by decide) ?_ ?_
    · refine r_bipush (v := 24) dX12_translate_60 rfl ?_
      refine r_iload_n (x := a2) dX12_translate_62 rfl rfl ?_
      refine ro_iconst (v := 1) dX12_translate_63 rfl ?_
      refine r_isub dX12_translate_64 ?_
      refine r_imul dX12_translate_65 ?_
      refine r_iload_n (x := a1) dX12_translate_66 rfl rfl ?_
      refine r_iadd dX12_translate_67 ?_
      refine r_nm (fun x4_68 => ?_)
      refine r_istore (lo2 := [(4, wi x4_68), (0, .ref mo), (1, wi a1), (2, wi a2), (3, wi a3)]) dX12_translate_68 (by decide) rfl ?_
      refine r_aload_n (x := mo) dX12_translate_70 rfl rfl ?_
      refine r_mgetA (kk := 17) h inU12 rfl (by decide) uf_43 rfl rfl dX12_translate_71 ?_
      refine r_iload (x := x4_68) dX12_translate_74 rfl ?_
      refine r_miald h (by decide) dX12_translate_76 ?_
      refine r_nm (fun x5_77 => ?_)
      refine r_istore (lo2 := [(5, wi x5_77), (4, wi x4_68), (0, .ref mo), (1, wi a1), (2, wi a2), (3, wi a3)]) dX12_translate_77 (by decide) rfl ?_
      refine r_aload_n (x := mo) dX12_translate_79 rfl rfl ?_
      refine r_mgetA (kk := 17) h inU12 rfl (by decide) uf_43 rfl rfl dX12_translate_80 ?_
      refine r_iload (x := x4_68) dX12_translate_83 rfl ?_
      refine r_iload_n (x := a3) dX12_translate_85 rfl rfl ?_
      refine r_miast h (by decide) dX12_translate_86 (fun M4 => ?_)
      refine r_aload_n (x := mo) dX12_translate_87 rfl rfl ?_
      refine r_mgetA (kk := 18) h inU12 rfl (by decide) uf_46 rfl rfl dX12_translate_88 ?_
      refine r_iload (x := x4_68) dX12_translate_91 rfl ?_
      refine r_aload_n (x := mo) dX12_translate_93 rfl rfl ?_
      refine r_iload_n (x := a1) dX12_translate_94 rfl rfl ?_
      refine r_callVi (k2 := k_X12_presentAt) (n := 1) (rest := [wi x4_68, .ref (ma 18)]) rfl kv_X12_presentAt (c_X12_presentAt h _ _) (by decide) um_209 rfl (Nat.le_of_ble_eq_true rfl) dX12_translate_95 (m_rec h) rfl (fun r6 M5 => ?_)
      refine r_miast h (by decide) dX12_translate_98 (fun M7 => ?_)
      refine r_iload (x := x5_77) dX12_translate_99 rfl ?_
      exact r_iret rfl dX12_translate_101
    · refine ro_iconst (v := 0) dX12_translate_58 rfl ?_
      exact r_iret rfl dX12_translate_59
  refine r_join (P := fun (J : Md → Option (Int × Md)) => ∀ (M_25 : Md), RunO l Γ k_X12_translate 4 encI (emM K0) 25 [(0, .ref mo), (1, wi a1), (2, wi a2), (3, wi a3)] [.ref mo] M_25 (J M_25)) ?_ (fun J25 hJ25 => ?_)
  · intro M_25
    refine ro_iconst (v := 1) dX12_translate_25 rfl ?_
    refine r_goto (tgt := 48) dX12_translate_26 (by decide) ?_
    exact hJ48 _ _
  refine r_if_eq (tgt := 25) dX12_translate_5 (by decide) ?_ ?_
  · exact hJ25 _
  · refine r_iload_n (x := a3) dX12_translate_8 rfl rfl ?_
    refine r_callSi (k2 := k_X12_isTitle) (n := 1) (rest := [.ref mo]) rfl kv_X12_isTitle (c_X12_isTitle h _ _) (by decide) um_188 rfl (Nat.le_of_ble_eq_true rfl) dX12_translate_9 rfl (fun r9 M8 => ?_)
    refine r_if_eq (tgt := 25) dX12_translate_12 (by decide) ?_ ?_
    · exact hJ25 _
    · refine r_aload_n (x := mo) dX12_translate_15 rfl rfl ?_
      refine r_mgetA (kk := 6) h inU12 rfl (by decide) uf_19 rfl rfl dX12_translate_16 ?_
      refine r_iload_n (x := a1) dX12_translate_19 rfl rfl ?_
      refine r_miald h (by decide) dX12_translate_20 ?_
      refine ro_iconst (v := (-1)) dX12_translate_21 rfl ?_
      refine r_icmp_ne (tgt := 29) dX12_translate_22 (by decide) ?_ ?_
      · refine r_iload_n (x := a2) dX12_translate_29 rfl rfl ?_
        refine ro_iconst (v := 1) dX12_translate_30 rfl ?_
        refine ro_iconst (v := 2) dX12_translate_31 rfl ?_
        refine r_callSi (k2 := k_X12_in) (n := 3) (rest := [.ref mo]) rfl kv_X12_in (c_X12_in h _ _ _ _) (by decide) um_184 rfl (Nat.le_of_ble_eq_true rfl) dX12_translate_32 rfl (fun r11 M10 => ?_)
        refine r_join (P := fun (J : Md → Option (Int × Md)) => ∀ (M_43 : Md), RunO l Γ k_X12_translate 4 encI (emM K0) 43 [(0, .ref mo), (1, wi a1), (2, wi a2), (3, wi a3)] [.ref mo] M_43 (J M_43)) ?_ (fun J43 hJ43 => ?_)
        · intro M_43
          refine ro_iconst (v := 2) dX12_translate_43 rfl ?_
          refine r_goto (tgt := 48) dX12_translate_44 (by decide) ?_
          exact hJ48 _ _
        refine r_if_eq (tgt := 43) dX12_translate_35 (by decide) ?_ ?_
        · exact hJ43 _
        · refine r_iload_n (x := a1) dX12_translate_38 rfl rfl ?_
          refine r_iload_n (x := a3) dX12_translate_39 rfl rfl ?_
          refine r_icmp_ne (tgt := 47) dX12_translate_40 (by decide) ?_ ?_
          · refine ro_iconst (v := 0) dX12_translate_47 rfl ?_
            exact hJ48 _ _
          · exact hJ43 _
      · exact hJ25 _
def k_X12_versionIn : Kd := (yX12_versionIn, cX12_versionIn, 4, some .int, [])
theorem kv_X12_versionIn : KV k_X12_versionIn 2 := ⟨uw_mem 2174 (by decide +kernel) rfl, uw_mem 170 (by decide +kernel) rfl, uw_mem 2173 (by decide +kernel) rfl, uw_mem 149 (by decide +kernel) rfl, ⟨by decide +kernel, by decide +kernel⟩, by decide +kernel, by decide +kernel⟩
set_option maxHeartbeats 4000000 in
set_option maxRecDepth 100000 in
theorem c_X12_versionIn {l : Launch} {Γ : Cx} {K0 : Cd} {mo : Nat} {ma : Nat → Nat} (h : mOn Γ mo ma) (a1 : Int) (a2 : Int) (M : Md) : Ct l Γ k_X12_versionIn 3 encI (emM K0) [.ref mo, wi a1, wi a2] M (fX12_versionIn a1 a2 M) := by
  refine ct_of (by decide +kernel) rfl (Nat.le_of_ble_eq_true rfl) ?_
  refine r_lo [0, 1, 2] (lo2 := [(0, .ref mo), (1, wi a1), (2, wi a2)]) rfl ?_
  unfold fX12_versionIn
  refine ro_iconst (v := 0) dX12_versionIn_0 rfl ?_
  refine r_istore_n (lo2 := [(3, wi 0), (0, .ref mo), (1, wi a1), (2, wi a2)]) dX12_versionIn_1 rfl (by decide) rfl ?_
  refine r_loop (P := fun (J : Int → Md → Option (Int × Md)) => ∀ (v3_2 : Int) (M_2 : Md), RunO l Γ k_X12_versionIn 3 encI (emM K0) 2 [(0, .ref mo), (1, wi a1), (2, wi a2), (3, wi v3_2)] [] M_2 (J v3_2 M_2)) ?_ (fun L2 hL2 => ?_) (fun J2 hJ2 => ?_)
  · intros; exact ro_none
  · intro v3_2 M_2
    refine r_iload_n (x := v3_2) dX12_versionIn_2 rfl rfl ?_
    refine r_aload_n (x := mo) dX12_versionIn_3 rfl rfl ?_
    refine r_mget (kk := 8) h inU12 rfl (by decide) uf_192 rfl rfl dX12_versionIn_4 ?_
    refine r_icmp_ge (tgt := 37) dX12_versionIn_7 (by decide) ?_ ?_
    · refine ro_iconst (v := (-1)) dX12_versionIn_37 rfl ?_
      exact r_iret rfl dX12_versionIn_38
    · refine r_aload_n (x := mo) dX12_versionIn_10 rfl rfl ?_
      refine r_mgetA (kk := 12) h inU12 rfl (by decide) uf_31 rfl rfl dX12_versionIn_11 ?_
      refine r_iload_n (x := v3_2) dX12_versionIn_14 rfl rfl ?_
      refine r_miald h (by decide) dX12_versionIn_15 ?_
      refine r_iload_n (x := a1) dX12_versionIn_16 rfl rfl ?_
      refine r_join (P := fun (J : Md → Option (Int × Md)) => ∀ (M_31 : Md), RunO l Γ k_X12_versionIn 3 encI (emM K0) 31 [(0, .ref mo), (1, wi a1), (2, wi a2), (3, wi v3_2)] [] M_31 (J M_31)) ?_ (fun J31 hJ31 => ?_)
      · intro M_31
        refine r_iinc (x := v3_2) (lo2 := [(3, wi (v3_2 + 1)), (0, .ref mo), (1, wi a1), (2, wi a2)]) dX12_versionIn_31 rfl (by decide) rfl ?_
        refine r_goto (tgt := 2) dX12_versionIn_34 (by decide) ?_
        refine r_lo [1, 2, 3, 0] (lo2 := [(0, .ref mo), (1, wi a1), (2, wi a2), (3, wi (v3_2 + 1))]) rfl ?_
        exact hL2 _ _
      refine r_icmp_ne (tgt := 31) dX12_versionIn_17 (by decide) ?_ ?_
      · exact hJ31 _
      · refine r_aload_n (x := mo) dX12_versionIn_20 rfl rfl ?_
        refine r_iload_n (x := v3_2) dX12_versionIn_21 rfl rfl ?_
        refine r_callVi (k2 := k_X12_aheadOf) (n := 1) (rest := []) rfl kv_X12_aheadOf (c_X12_aheadOf h _ _) (by decide) um_199 rfl (Nat.le_of_ble_eq_true rfl) dX12_versionIn_22 (m_rec h) rfl (fun r2 M1 => ?_)
        refine r_iload_n (x := a2) dX12_versionIn_25 rfl rfl ?_
        refine r_icmp_ne (tgt := 31) dX12_versionIn_26 (by decide) ?_ ?_
        · exact hJ31 _
        · refine r_iload_n (x := v3_2) dX12_versionIn_29 rfl rfl ?_
          exact r_iret rfl dX12_versionIn_30
  refine r_lo [1, 2, 3, 0] (lo2 := [(0, .ref mo), (1, wi a1), (2, wi a2), (3, wi 0)]) rfl ?_
  exact hJ2 _ _
def k_X12_undoes : Kd := (yX12_undoes, cX12_undoes, 10, some .boolean, [])
theorem kv_X12_undoes : KV k_X12_undoes 3 := ⟨uw_mem 2178 (by decide +kernel) rfl, uw_mem 170 (by decide +kernel) rfl, uw_mem 2177 (by decide +kernel) rfl, uw_mem 150 (by decide +kernel) rfl, ⟨by decide +kernel, by decide +kernel⟩, by decide +kernel, by decide +kernel⟩
set_option maxHeartbeats 4000000 in
set_option maxRecDepth 100000 in
theorem c_X12_undoes {l : Launch} {Γ : Cx} {K0 : Cd} {mo : Nat} {ma : Nat → Nat} (h : mOn Γ mo ma) (a1 : Int) (a2 : Int) (a3 : Int) (M : Md) : Ct l Γ k_X12_undoes 3 encI (emM K0) [.ref mo, wi a1, wi a2, wi a3] M (fX12_undoes a1 a2 a3 M) := by
  refine ct_of (by decide +kernel) rfl (Nat.le_of_ble_eq_true rfl) ?_
  refine r_lo [0, 1, 2, 3] (lo2 := [(0, .ref mo), (1, wi a1), (2, wi a2), (3, wi a3)]) rfl ?_
  unfold fX12_undoes
  refine r_aload_n (x := mo) dX12_undoes_0 rfl rfl ?_
  refine r_iload_n (x := a2) dX12_undoes_1 rfl rfl ?_
  refine r_callVi (k2 := k_X12_sectionsOf) (n := 1) (rest := []) rfl kv_X12_sectionsOf (c_X12_sectionsOf h _ _) (by decide) um_427 rfl (Nat.le_of_ble_eq_true rfl) dX12_undoes_2 (m_rec h) rfl (fun r2 M1 => ?_)
  refine r_istore (lo2 := [(4, wi r2), (0, .ref mo), (1, wi a1), (2, wi a2), (3, wi a3)]) dX12_undoes_5 (by decide) rfl ?_
  refine r_iload (x := r2) dX12_undoes_7 rfl ?_
  refine r_aload_n (x := mo) dX12_undoes_9 rfl rfl ?_
  refine r_iload_n (x := a1) dX12_undoes_10 rfl rfl ?_
  refine r_callVi (k2 := k_X12_sectionsOf) (n := 1) (rest := [wi r2]) rfl kv_X12_sectionsOf (c_X12_sectionsOf h _ _) (by decide) um_427 rfl (Nat.le_of_ble_eq_true rfl) dX12_undoes_11 (m_rec h) rfl (fun r4 M3 => ?_)
  refine r_join (P := fun (J : Int → Md → Option (Int × Md)) => ∀ (t0_32 : Int) (M_32 : Md), RunO l Γ k_X12_undoes 3 encI (emM K0) 32 [(0, .ref mo), (1, wi a1), (2, wi a2), (3, wi a3), (4, wi r2)] [wi t0_32] M_32 (J t0_32 M_32)) ?_ (fun J32 hJ32 => ?_)
  · intro t0_32 M_32
    refine r_istore (lo2 := [(5, wi t0_32), (0, .ref mo), (1, wi a1), (2, wi a2), (3, wi a3), (4, wi r2)]) dX12_undoes_32 (by decide) rfl ?_
    refine r_bipush (v := 30) dX12_undoes_34 rfl ?_
    refine r_iload_n (x := a1) dX12_undoes_36 rfl rfl ?_
    refine r_imul dX12_undoes_37 ?_
    refine r_nm (fun x6_38 => ?_)
    refine r_istore (lo2 := [(6, wi x6_38), (5, wi t0_32), (0, .ref mo), (1, wi a1), (2, wi a2), (3, wi a3), (4, wi r2)]) dX12_undoes_38 (by decide) rfl ?_
    refine r_bipush (v := 30) dX12_undoes_40 rfl ?_
    refine r_iload_n (x := a2) dX12_undoes_42 rfl rfl ?_
    refine r_imul dX12_undoes_43 ?_
    refine r_nm (fun x7_44 => ?_)
    refine r_istore (lo2 := [(7, wi x7_44), (6, wi x6_38), (5, wi t0_32), (0, .ref mo), (1, wi a1), (2, wi a2), (3, wi a3), (4, wi r2)]) dX12_undoes_44 (by decide) rfl ?_
    refine r_bipush (v := 30) dX12_undoes_46 rfl ?_
    refine r_iload_n (x := a3) dX12_undoes_48 rfl rfl ?_
    refine r_imul dX12_undoes_49 ?_
    refine r_nm (fun x8_50 => ?_)
    refine r_istore (lo2 := [(8, wi x8_50), (7, wi x7_44), (6, wi x6_38), (5, wi t0_32), (0, .ref mo), (1, wi a1), (2, wi a2), (3, wi a3), (4, wi r2)]) dX12_undoes_50 (by decide) rfl ?_
    refine r_aload_n (x := mo) dX12_undoes_52 rfl rfl ?_
    refine ro_iconst (v := 0) dX12_undoes_53 rfl ?_
    refine r_mput (kk := 77) h inU12 rfl (by decide) uf_409 rfl rfl rfl rfl dX12_undoes_54 (fun M5 => ?_)
    refine ro_iconst (v := 0) dX12_undoes_57 rfl ?_
    refine r_istore (lo2 := [(9, wi 0), (8, wi x8_50), (7, wi x7_44), (6, wi x6_38), (5, wi t0_32), (0, .ref mo), (1, wi a1), (2, wi a2), (3, wi a3), (4, wi r2)]) dX12_undoes_58 (by decide) rfl ?_
    refine r_loop (P := fun (J : Int → Int → Md → Option (Int × Md)) => ∀ (v5_60 : Int) (v9_60 : Int) (M_60 : Md), RunO l Γ k_X12_undoes 3 encI (emM K0) 60 [(0, .ref mo), (1, wi a1), (2, wi a2), (3, wi a3), (4, wi r2), (5, wi v5_60), (6, wi x6_38), (7, wi x7_44), (8, wi x8_50), (9, wi v9_60)] [] M_60 (J v5_60 v9_60 M_60)) ?_ (fun L60 hL60 => ?_) (fun J60 hJ60 => ?_)
    · intros; exact ro_none
    · intro v5_60 v9_60 M_60
      refine r_iload (x := v9_60) dX12_undoes_60 rfl ?_
      refine r_iload (x := r2) dX12_undoes_62 rfl ?_
      refine r_join (P := fun (J : Md → Option (Int × Md)) => ∀ (M_180 : Md), RunO l Γ k_X12_undoes 3 encI (emM K0) 180 [(5, wi v5_60)] [] M_180 (J M_180)) ?_ (fun J180 hJ180 => ?_)
      · intro M_180
        refine r_iload (x := v5_60) dX12_undoes_180 rfl ?_
        exact r_zret rfl dX12_undoes_182
      refine r_icmp_ge (tgt := 180) dX12_undoes_64 (by decide) ?_ ?_
      · refine r_lo [5] (lo2 := [(5, wi v5_60)]) rfl ?_
        exact hJ180 _
      · refine r_iload (x := v5_60) dX12_undoes_67 rfl ?_
        refine r_if_eq (tgt := 180) dX12_undoes_69 (by decide) ?_ ?_
        · refine r_lo [5] (lo2 := [(5, wi v5_60)]) rfl ?_
          exact hJ180 _
        · refine r_aload_n (x := mo) dX12_undoes_72 rfl rfl ?_
          refine r_mgetA (kk := 9) h inU12 rfl (by decide) uf_22 rfl rfl dX12_undoes_73 ?_
          refine r_iload (x := x6_38) dX12_undoes_76 rfl ?_
          refine r_aload_n (x := mo) dX12_undoes_78 rfl rfl ?_
          refine r_mgetA (kk := 10) h inU12 rfl (by decide) uf_25 rfl rfl dX12_undoes_79 ?_
          refine r_iload_n (x := a1) dX12_undoes_82 rfl rfl ?_
          refine r_miald h (by decide) dX12_undoes_83 ?_
          refine r_aload_n (x := mo) dX12_undoes_84 rfl rfl ?_
          refine r_mgetA (kk := 9) h inU12 rfl (by decide) uf_22 rfl rfl dX12_undoes_85 ?_
          refine r_iload (x := x7_44) dX12_undoes_88 rfl ?_
          refine r_aload_n (x := mo) dX12_undoes_90 rfl rfl ?_
          refine r_mgetA (kk := 10) h inU12 rfl (by decide) uf_25 rfl rfl dX12_undoes_91 ?_
          refine r_iload_n (x := a2) dX12_undoes_94 rfl rfl ?_
          refine r_miald h (by decide) dX12_undoes_95 ?_
          refine r_iload (x := v9_60) dX12_undoes_96 rfl ?_
          refine r_callSi (k2 := k_X12_areAlike) (n := 7) (rest := []) rfl kv_X12_areAlike (c_X12_areAlike h _ _ _ _ _ _ _ (by decide) (by decide) _) (by decide) um_430 rfl (Nat.le_of_ble_eq_true rfl) dX12_undoes_98 rfl (fun r7 M6 => ?_)
          refine r_join (P := fun (J : Int → Md → Option (Int × Md)) => ∀ (v5_174 : Int) (M_174 : Md), RunO l Γ k_X12_undoes 3 encI (emM K0) 174 [(0, .ref mo), (1, wi a1), (2, wi a2), (3, wi a3), (4, wi r2), (5, wi v5_174), (6, wi x6_38), (7, wi x7_44), (8, wi x8_50), (9, wi v9_60)] [] M_174 (J v5_174 M_174)) ?_ (fun J174 hJ174 => ?_)
          · intro v5_174 M_174
            refine r_iinc (x := v9_60) (lo2 := [(9, wi (v9_60 + 1)), (0, .ref mo), (1, wi a1), (2, wi a2), (3, wi a3), (4, wi r2), (5, wi v5_174), (6, wi x6_38), (7, wi x7_44), (8, wi x8_50)]) dX12_undoes_174 rfl (by decide) rfl ?_
            refine r_goto (tgt := 60) dX12_undoes_177 (by decide) ?_
            refine r_lo [1, 2, 3, 4, 5, 6, 7, 8, 9, 0] (lo2 := [(0, .ref mo), (1, wi a1), (2, wi a2), (3, wi a3), (4, wi r2), (5, wi v5_174), (6, wi x6_38), (7, wi x7_44), (8, wi x8_50), (9, wi (v9_60 + 1))]) rfl ?_
            exact hL60 _ _ _
          refine r_if_eq (tgt := 125) dX12_undoes_101 (by decide) ?_ ?_
          · refine r_aload_n (x := mo) dX12_undoes_125 rfl rfl ?_
            refine r_mgetA (kk := 9) h inU12 rfl (by decide) uf_22 rfl rfl dX12_undoes_126 ?_
            refine r_iload (x := x8_50) dX12_undoes_129 rfl ?_
            refine r_aload_n (x := mo) dX12_undoes_131 rfl rfl ?_
            refine r_mgetA (kk := 10) h inU12 rfl (by decide) uf_25 rfl rfl dX12_undoes_132 ?_
            refine r_iload_n (x := a3) dX12_undoes_135 rfl rfl ?_
            refine r_miald h (by decide) dX12_undoes_136 ?_
            refine r_aload_n (x := mo) dX12_undoes_137 rfl rfl ?_
            refine r_mgetA (kk := 9) h inU12 rfl (by decide) uf_22 rfl rfl dX12_undoes_138 ?_
            refine r_iload (x := x7_44) dX12_undoes_141 rfl ?_
            refine r_aload_n (x := mo) dX12_undoes_143 rfl rfl ?_
            refine r_mgetA (kk := 10) h inU12 rfl (by decide) uf_25 rfl rfl dX12_undoes_144 ?_
            refine r_iload_n (x := a2) dX12_undoes_147 rfl rfl ?_
            refine r_miald h (by decide) dX12_undoes_148 ?_
            refine r_iload (x := v9_60) dX12_undoes_149 rfl ?_
            refine r_callSi (k2 := k_X12_areAlike) (n := 7) (rest := []) rfl kv_X12_areAlike (c_X12_areAlike h _ _ _ _ _ _ _ (by decide) (by decide) _) (by decide) um_430 rfl (Nat.le_of_ble_eq_true rfl) dX12_undoes_151 rfl (fun r9 M8 => ?_)
            refine r_istore (lo2 := [(5, wi r9), (0, .ref mo), (1, wi a1), (2, wi a2), (3, wi a3), (4, wi r2), (6, wi x6_38), (7, wi x7_44), (8, wi x8_50), (9, wi v9_60)]) dX12_undoes_154 (by decide) rfl ?_
            refine r_aload_n (x := mo) dX12_undoes_156 rfl rfl ?_
            refine r_aload_n (x := mo) dX12_undoes_157 rfl rfl ?_
            refine r_mgetA (kk := 9) h inU12 rfl (by decide) uf_22 rfl rfl dX12_undoes_158 ?_
            refine r_iload (x := x6_38) dX12_undoes_161 rfl ?_
            refine r_aload_n (x := mo) dX12_undoes_163 rfl rfl ?_
            refine r_mgetA (kk := 10) h inU12 rfl (by decide) uf_25 rfl rfl dX12_undoes_164 ?_
            refine r_iload_n (x := a1) dX12_undoes_167 rfl rfl ?_
            refine r_miald h (by decide) dX12_undoes_168 ?_
            refine r_iload (x := v9_60) dX12_undoes_169 rfl ?_
            refine r_callVv (k2 := k_X12_putSection) (n := 4) (rest := []) rfl kv_X12_putSection (c_X12_putSection h _ _ _ _ (by decide) _) (by decide) um_434 rfl (Nat.le_of_ble_eq_true rfl) dX12_undoes_171 (m_rec h) rfl (fun r11 M10 => ?_)
            refine r_lo [1, 2, 3, 4, 5, 0, 6, 7, 8, 9] (lo2 := [(0, .ref mo), (1, wi a1), (2, wi a2), (3, wi a3), (4, wi r2), (5, wi r9), (6, wi x6_38), (7, wi x7_44), (8, wi x8_50), (9, wi v9_60)]) rfl ?_
            exact hJ174 _ _
          · refine r_aload_n (x := mo) dX12_undoes_104 rfl rfl ?_
            refine r_aload_n (x := mo) dX12_undoes_105 rfl rfl ?_
            refine r_mgetA (kk := 9) h inU12 rfl (by decide) uf_22 rfl rfl dX12_undoes_106 ?_
            refine r_iload (x := x8_50) dX12_undoes_109 rfl ?_
            refine r_aload_n (x := mo) dX12_undoes_111 rfl rfl ?_
            refine r_mgetA (kk := 10) h inU12 rfl (by decide) uf_25 rfl rfl dX12_undoes_112 ?_
            refine r_iload_n (x := a3) dX12_undoes_115 rfl rfl ?_
            refine r_miald h (by decide) dX12_undoes_116 ?_
            refine r_iload (x := v9_60) dX12_undoes_117 rfl ?_
            refine r_callVv (k2 := k_X12_putSection) (n := 4) (rest := []) rfl kv_X12_putSection (c_X12_putSection h _ _ _ _ (by decide) _) (by decide) um_434 rfl (Nat.le_of_ble_eq_true rfl) dX12_undoes_119 (m_rec h) rfl (fun r13 M12 => ?_)
            refine r_goto (tgt := 174) dX12_undoes_122 (by decide) ?_
            exact hJ174 _ _
    refine r_lo [5, 6, 7, 8, 9, 4, 3, 2, 1, 0] (lo2 := [(0, .ref mo), (1, wi a1), (2, wi a2), (3, wi a3), (4, wi r2), (5, wi t0_32), (6, wi x6_38), (7, wi x7_44), (8, wi x8_50), (9, wi 0)]) rfl ?_
    exact hJ60 _ _ _
  refine r_join (P := fun (J : Md → Option (Int × Md)) => ∀ (M_31 : Md), RunO l Γ k_X12_undoes 3 encI (emM K0) 31 [(0, .ref mo), (1, wi a1), (2, wi a2), (3, wi a3), (4, wi r2)] [] M_31 (J M_31)) ?_ (fun J31 hJ31 => ?_)
  · intro M_31
    refine ro_iconst (v := 0) dX12_undoes_31 rfl ?_
    exact hJ32 _ _
  refine r_icmp_ne (tgt := 31) dX12_undoes_14 (by decide) ?_ ?_
  · refine r_lo [1, 2, 3, 4, 0] (lo2 := [(0, .ref mo), (1, wi a1), (2, wi a2), (3, wi a3), (4, wi r2)]) rfl ?_
    exact hJ31 _
  · refine r_iload (x := r2) dX12_undoes_17 rfl ?_
    refine r_aload_n (x := mo) dX12_undoes_19 rfl rfl ?_
    refine r_iload_n (x := a3) dX12_undoes_20 rfl rfl ?_
    refine r_callVi (k2 := k_X12_sectionsOf) (n := 1) (rest := [wi r2]) rfl kv_X12_sectionsOf (c_X12_sectionsOf h _ _) (by decide) um_427 rfl (Nat.le_of_ble_eq_true rfl) dX12_undoes_21 (m_rec h) rfl (fun r15 M14 => ?_)
    refine r_icmp_ne (tgt := 31) dX12_undoes_24 (by decide) ?_ ?_
    · refine r_lo [1, 2, 3, 4, 0] (lo2 := [(0, .ref mo), (1, wi a1), (2, wi a2), (3, wi a3), (4, wi r2)]) rfl ?_
      exact hJ31 _
    · refine ro_iconst (v := 1) dX12_undoes_27 rfl ?_
      refine r_goto (tgt := 32) dX12_undoes_28 (by decide) ?_
      refine r_lo [1, 2, 3, 4, 0] (lo2 := [(0, .ref mo), (1, wi a1), (2, wi a2), (3, wi a3), (4, wi r2)]) rfl ?_
      exact hJ32 _ _
def k_X12_undo : Kd := (yX12_undo, cX12_undo, 7, some .int, [])
theorem kv_X12_undo : KV k_X12_undo 2 := ⟨uw_mem 2166 (by decide +kernel) rfl, uw_mem 170 (by decide +kernel) rfl, uw_mem 2164 (by decide +kernel) rfl, uw_mem 2165 (by decide +kernel) rfl, ⟨by decide +kernel, by decide +kernel⟩, by decide +kernel, by decide +kernel⟩
set_option maxHeartbeats 4000000 in
set_option maxRecDepth 100000 in
theorem c_X12_undo {l : Launch} {Γ : Cx} {K0 : Cd} {mo : Nat} {ma : Nat → Nat} (h : mOn Γ mo ma) (a1 : Int) (a2 : Int) (M : Md) : Ct l Γ k_X12_undo 5 encI (emM K0) [.ref mo, wi a1, wi a2] M (fX12_undo a1 a2 M) := by
  refine ct_of (by decide +kernel) rfl (Nat.le_of_ble_eq_true rfl) ?_
  refine r_lo [0, 1, 2] (lo2 := [(0, .ref mo), (1, wi a1), (2, wi a2)]) rfl ?_
  unfold fX12_undo
  refine r_aload_n (x := mo) dX12_undo_0 rfl rfl ?_
  refine r_iload_n (x := a1) dX12_undo_1 rfl rfl ?_
  refine r_iload_n (x := a2) dX12_undo_2 rfl rfl ?_
  refine r_callVi (k2 := k_X12_isVersionAt) (n := 2) (rest := []) rfl kv_X12_isVersionAt (c_X12_isVersionAt h _ _ _) (by decide) um_438 rfl (Nat.le_of_ble_eq_true rfl) dX12_undo_3 (m_rec h) rfl (fun r2 M1 => ?_)
  refine r_istore_n (lo2 := [(3, wi r2), (0, .ref mo), (1, wi a1), (2, wi a2)]) dX12_undo_6 rfl (by decide) rfl ?_
  refine r_aload_n (x := mo) dX12_undo_7 rfl rfl ?_
  refine r_iload_n (x := r2) dX12_undo_8 rfl rfl ?_
  refine r_join (P := fun (J : Int → Md → Option (Int × Md)) => ∀ (t0_25 : Int) (M_25 : Md), RunO l Γ k_X12_undo 5 encI (emM K0) 25 [(0, .ref mo), (1, wi a1), (2, wi a2)] [wi t0_25, .ref mo] M_25 (J t0_25 M_25)) ?_ (fun J25 hJ25 => ?_)
  · intro t0_25 M_25
    refine r_mput (kk := 36) h inU12 rfl (by decide) uf_180 rfl rfl rfl rfl dX12_undo_25 (fun M3 => ?_)
    refine r_aload_n (x := mo) dX12_undo_28 rfl rfl ?_
    refine r_mget (kk := 36) h inU12 rfl (by decide) uf_180 rfl rfl dX12_undo_29 ?_
    refine r_if_le (tgt := 37) dX12_undo_32 (by decide) ?_ ?_
    · refine r_aload_n (x := mo) dX12_undo_37 rfl rfl ?_
      refine r_iload_n (x := a1) dX12_undo_38 rfl rfl ?_
      refine r_callVi (k2 := k_X12_presentAt) (n := 1) (rest := []) rfl kv_X12_presentAt (c_X12_presentAt h _ _) (by decide) um_209 rfl (Nat.le_of_ble_eq_true rfl) dX12_undo_39 (m_rec h) rfl (fun r5 M4 => ?_)
      refine r_istore (lo2 := [(4, wi r5), (0, .ref mo), (1, wi a1), (2, wi a2)]) dX12_undo_42 (by decide) rfl ?_
      refine r_aload_n (x := mo) dX12_undo_44 rfl rfl ?_
      refine r_aload_n (x := mo) dX12_undo_45 rfl rfl ?_
      refine r_mgetA (kk := 6) h inU12 rfl (by decide) uf_19 rfl rfl dX12_undo_46 ?_
      refine r_iload_n (x := a1) dX12_undo_49 rfl rfl ?_
      refine r_miald h (by decide) dX12_undo_50 ?_
      refine r_aload_n (x := mo) dX12_undo_51 rfl rfl ?_
      refine r_iload_n (x := a2) dX12_undo_52 rfl rfl ?_
      refine r_callVi (k2 := k_X12_aheadOf) (n := 1) (rest := [wi (M4.2 6 (ix a1)), .ref mo]) rfl kv_X12_aheadOf (c_X12_aheadOf h _ _) (by decide) um_199 rfl (Nat.le_of_ble_eq_true rfl) dX12_undo_53 (m_rec h) rfl (fun r7 M6 => ?_)
      refine ro_iconst (v := 1) dX12_undo_56 rfl ?_
      refine r_isub dX12_undo_57 ?_
      refine r_callVi (k2 := k_X12_versionIn) (n := 2) (rest := []) rfl kv_X12_versionIn (c_X12_versionIn h _ _ _) (by decide) um_454 rfl (Nat.le_of_ble_eq_true rfl) dX12_undo_58 (m_rec h) rfl (fun r9 M8 => ?_)
      refine r_istore (lo2 := [(5, wi r9), (4, wi r5), (0, .ref mo), (1, wi a1), (2, wi a2)]) dX12_undo_61 (by decide) rfl ?_
      refine r_aload_n (x := mo) dX12_undo_63 rfl rfl ?_
      refine r_aload_n (x := mo) dX12_undo_64 rfl rfl ?_
      refine r_iload_n (x := a1) dX12_undo_65 rfl rfl ?_
      refine r_callVi (k2 := k_X12_mayAt) (n := 1) (rest := [.ref mo]) rfl kv_X12_mayAt (c_X12_mayAt h _ _) (by decide) um_393 rfl (Nat.le_of_ble_eq_true rfl) dX12_undo_66 (m_rec h) rfl (fun r11 M10 => ?_)
      refine r_join (P := fun (J : Int → Md → Option (Int × Md)) => ∀ (t0_98 : Int) (M_98 : Md), RunO l Γ k_X12_undo 5 encI (emM K0) 98 [(0, .ref mo), (1, wi a1)] [wi t0_98, .ref mo] M_98 (J t0_98 M_98)) ?_ (fun J98 hJ98 => ?_)
      · intro t0_98 M_98
        refine r_mput (kk := 36) h inU12 rfl (by decide) uf_180 rfl rfl rfl rfl dX12_undo_98 (fun M12 => ?_)
        refine r_aload_n (x := mo) dX12_undo_101 rfl rfl ?_
        refine r_mget (kk := 36) h inU12 rfl (by decide) uf_180 rfl rfl dX12_undo_102 ?_
        refine r_if_le (tgt := 110) dX12_undo_105 (by decide) ?_ ?_
        · refine r_aload_n (x := mo) dX12_undo_110 rfl rfl ?_
          refine r_aload_n (x := mo) dX12_undo_111 rfl rfl ?_
          refine r_mgetA (kk := 6) h inU12 rfl (by decide) uf_19 rfl rfl dX12_undo_112 ?_
          refine r_iload_n (x := a1) dX12_undo_115 rfl rfl ?_
          refine r_miald h (by decide) dX12_undo_116 ?_
          refine r_aload_n (x := mo) dX12_undo_117 rfl rfl ?_
          refine r_mgetA (kk := 76) h inU12 rfl (by decide) uf_174 rfl rfl dX12_undo_118 ?_
          refine ro_iconst (v := 0) dX12_undo_121 rfl ?_
          refine r_aload_n (x := mo) dX12_undo_122 rfl rfl ?_
          refine r_mget (kk := 77) h inU12 rfl (by decide) uf_409 rfl rfl dX12_undo_123 ?_
          refine r_callVi (k2 := k_X12_newVersionNow) (n := 4) (rest := []) rfl kv_X12_newVersionNow (c_X12_newVersionNow h _ _ _ _ (by decide) _) (by decide) um_450 rfl (Nat.le_of_ble_eq_true rfl) dX12_undo_126 (m_rec h) rfl (fun r14 M13 => ?_)
          refine r_istore (lo2 := [(6, wi r14), (0, .ref mo), (1, wi a1)]) dX12_undo_129 (by decide) rfl ?_
          refine r_aload_n (x := mo) dX12_undo_131 rfl rfl ?_
          refine r_callVv (k2 := k_X12_settleTitles) (n := 0) (rest := []) rfl kv_X12_settleTitles (c_X12_settleTitles h _) (by decide) um_396 rfl (Nat.le_of_ble_eq_true rfl) dX12_undo_132 (m_rec h) rfl (fun r16 M15 => ?_)
          refine r_iload (x := r14) dX12_undo_135 rfl ?_
          exact r_iret rfl dX12_undo_137
        · refine ro_iconst (v := 0) dX12_undo_108 rfl ?_
          exact r_iret rfl dX12_undo_109
      refine r_join (P := fun (J : Md → Option (Int × Md)) => ∀ (M_97 : Md), RunO l Γ k_X12_undo 5 encI (emM K0) 97 [(0, .ref mo), (1, wi a1)] [.ref mo] M_97 (J M_97)) ?_ (fun J97 hJ97 => ?_)
      · intro M_97
        refine ro_iconst (v := 2) dX12_undo_97 rfl ?_
        exact hJ98 _ _
      refine r_if_eq (tgt := 97) dX12_undo_69 (by decide) ?_ ?_
      · refine r_lo [2, 3] (lo2 := [(0, .ref mo), (1, wi a1)]) rfl ?_
        exact hJ97 _
      · refine r_aload_n (x := mo) dX12_undo_72 rfl rfl ?_
        refine r_iload (x := r9) dX12_undo_73 rfl ?_
        refine r_iload_n (x := a2) dX12_undo_75 rfl rfl ?_
        refine r_iload (x := r5) dX12_undo_76 rfl ?_
        refine r_callVi (k2 := k_X12_undoes) (n := 3) (rest := [.ref mo]) rfl kv_X12_undoes (c_X12_undoes h _ _ _ _) (by decide) um_457 rfl (Nat.le_of_ble_eq_true rfl) dX12_undo_78 (m_rec h) rfl (fun r18 M17 => ?_)
        refine r_if_eq (tgt := 97) dX12_undo_81 (by decide) ?_ ?_
        · refine r_lo [2, 3] (lo2 := [(0, .ref mo), (1, wi a1)]) rfl ?_
          exact hJ97 _
        · refine r_aload_n (x := mo) dX12_undo_84 rfl rfl ?_
          refine r_iload (x := r5) dX12_undo_85 rfl ?_
          refine r_callVi (k2 := k_X12_isNew) (n := 1) (rest := [.ref mo]) rfl kv_X12_isNew (c_X12_isNew h _ _) (by decide) um_447 rfl (Nat.le_of_ble_eq_true rfl) dX12_undo_87 (m_rec h) rfl (fun r20 M19 => ?_)
          refine r_if_eq (tgt := 97) dX12_undo_90 (by decide) ?_ ?_
          · refine r_lo [2, 3] (lo2 := [(0, .ref mo), (1, wi a1)]) rfl ?_
            exact hJ97 _
          · refine ro_iconst (v := 0) dX12_undo_93 rfl ?_
            refine r_goto (tgt := 98) dX12_undo_94 (by decide) ?_
            refine r_lo [2, 3] (lo2 := [(0, .ref mo), (1, wi a1)]) rfl ?_
            exact hJ98 _ _
    · refine ro_iconst (v := 0) dX12_undo_35 rfl ?_
      exact r_iret rfl dX12_undo_36
  refine r_join (P := fun (J : Md → Option (Int × Md)) => ∀ (M_24 : Md), RunO l Γ k_X12_undo 5 encI (emM K0) 24 [(0, .ref mo), (1, wi a1), (2, wi a2)] [.ref mo] M_24 (J M_24)) ?_ (fun J24 hJ24 => ?_)
  · intro M_24
    refine ro_iconst (v := 1) dX12_undo_24 rfl ?_
    exact hJ25 _ _
  refine r_if_eq (tgt := 24) dX12_undo_9 (by decide) ?_ ?_
  · refine r_lo [1, 2, 3] (lo2 := [(0, .ref mo), (1, wi a1), (2, wi a2)]) rfl ?_
    exact hJ24 _
  · refine r_aload_n (x := mo) dX12_undo_12 rfl rfl ?_
    refine r_iload_n (x := a2) dX12_undo_13 rfl rfl ?_
    refine r_callVi (k2 := k_X12_aheadOf) (n := 1) (rest := [.ref mo]) rfl kv_X12_aheadOf (c_X12_aheadOf h _ _) (by decide) um_199 rfl (Nat.le_of_ble_eq_true rfl) dX12_undo_14 (m_rec h) rfl (fun r22 M21 => ?_)
    refine r_if_le (tgt := 24) dX12_undo_17 (by decide) ?_ ?_
    · refine r_lo [1, 2, 3] (lo2 := [(0, .ref mo), (1, wi a1), (2, wi a2)]) rfl ?_
      exact hJ24 _
    · refine ro_iconst (v := 0) dX12_undo_20 rfl ?_
      refine r_goto (tgt := 25) dX12_undo_21 (by decide) ?_
      refine r_lo [1, 2, 3] (lo2 := [(0, .ref mo), (1, wi a1), (2, wi a2)]) rfl ?_
      exact hJ25 _ _
def k_X12_versionAt : Kd := (yX12_versionAt, cX12_versionAt, 4, some .int, [])
theorem kv_X12_versionAt : KV k_X12_versionAt 2 := ⟨uw_mem 2241 (by decide +kernel) rfl, uw_mem 170 (by decide +kernel) rfl, uw_mem 2239 (by decide +kernel) rfl, uw_mem 2240 (by decide +kernel) rfl, ⟨by decide +kernel, by decide +kernel⟩, by decide +kernel, by decide +kernel⟩
set_option maxHeartbeats 4000000 in
set_option maxRecDepth 100000 in
theorem c_X12_versionAt {l : Launch} {Γ : Cx} {K0 : Cd} {mo : Nat} {ma : Nat → Nat} (h : mOn Γ mo ma) (a1 : Int) (a2 : Int) (M : Md) : Ct l Γ k_X12_versionAt 4 encI (emM K0) [.ref mo, wi a1, wi a2] M (fX12_versionAt a1 a2 M) := by
  refine ct_of (by decide +kernel) rfl (Nat.le_of_ble_eq_true rfl) ?_
  refine r_lo [0, 1, 2] (lo2 := [(0, .ref mo), (1, wi a1), (2, wi a2)]) rfl ?_
  unfold fX12_versionAt
  refine r_aload_n (x := mo) dX12_versionAt_0 rfl rfl ?_
  refine r_iload_n (x := a1) dX12_versionAt_1 rfl rfl ?_
  refine r_callVi (k2 := k_X12_hasPage) (n := 1) (rest := []) rfl kv_X12_hasPage (c_X12_hasPage h _ _) (by decide) um_381 rfl (Nat.le_of_ble_eq_true rfl) dX12_versionAt_2 (m_rec h) rfl (fun r2 M1 => ?_)
  refine r_join (P := fun (J : Int → Md → Option (Int × Md)) => ∀ (t0_27 : Int) (M_27 : Md), RunO l Γ k_X12_versionAt 4 encI (emM K0) 27 [(0, .ref mo)] [wi t0_27] M_27 (J t0_27 M_27)) ?_ (fun J27 hJ27 => ?_)
  · intro t0_27 M_27
    refine r_istore_n (lo2 := [(3, wi t0_27), (0, .ref mo)]) dX12_versionAt_27 rfl (by decide) rfl ?_
    refine r_aload_n (x := mo) dX12_versionAt_28 rfl rfl ?_
    refine r_iload_n (x := t0_27) dX12_versionAt_29 rfl rfl ?_
    refine ro_iconst (v := (-1)) dX12_versionAt_30 rfl ?_
    refine r_join (P := fun (J : Int → Md → Option (Int × Md)) => ∀ (t0_39 : Int) (M_39 : Md), RunO l Γ k_X12_versionAt 4 encI (emM K0) 39 [(0, .ref mo), (3, wi t0_27)] [wi t0_39, .ref mo] M_39 (J t0_39 M_39)) ?_ (fun J39 hJ39 => ?_)
    · intro t0_39 M_39
      refine r_mput (kk := 36) h inU12 rfl (by decide) uf_180 rfl rfl rfl rfl dX12_versionAt_39 (fun M3 => ?_)
      refine r_aload_n (x := mo) dX12_versionAt_42 rfl rfl ?_
      refine r_mget (kk := 36) h inU12 rfl (by decide) uf_180 rfl rfl dX12_versionAt_43 ?_
      refine r_join (P := fun (J : Int → Md → Option (Int × Md)) => ∀ (t0_54 : Int) (M_54 : Md), RunO l Γ k_X12_versionAt 4 encI (emM K0) 54 [] [wi t0_54] M_54 (J t0_54 M_54)) ?_ (fun J54 hJ54 => ?_)
      · intro t0_54 M_54
        exact r_iret rfl dX12_versionAt_54
      refine r_if_ne (tgt := 53) dX12_versionAt_46 (by decide) ?_ ?_
      · refine ro_iconst (v := 0) dX12_versionAt_53 rfl ?_
        refine r_lo [] (lo2 := []) rfl ?_
        exact hJ54 _ _
      · refine r_iload_n (x := t0_27) dX12_versionAt_49 rfl rfl ?_
        refine r_goto (tgt := 54) dX12_versionAt_50 (by decide) ?_
        refine r_lo [] (lo2 := []) rfl ?_
        exact hJ54 _ _
    refine r_icmp_ne (tgt := 38) dX12_versionAt_31 (by decide) ?_ ?_
    · refine ro_iconst (v := 0) dX12_versionAt_38 rfl ?_
      refine r_lo [1, 0] (lo2 := [(0, .ref mo), (3, wi t0_27)]) rfl ?_
      exact hJ39 _ _
    · refine ro_iconst (v := 1) dX12_versionAt_34 rfl ?_
      refine r_goto (tgt := 39) dX12_versionAt_35 (by decide) ?_
      refine r_lo [1, 0] (lo2 := [(0, .ref mo), (3, wi t0_27)]) rfl ?_
      exact hJ39 _ _
  refine r_join (P := fun (J : Md → Option (Int × Md)) => ∀ (M_26 : Md), RunO l Γ k_X12_versionAt 4 encI (emM K0) 26 [(0, .ref mo)] [] M_26 (J M_26)) ?_ (fun J26 hJ26 => ?_)
  · intro M_26
    refine ro_iconst (v := (-1)) dX12_versionAt_26 rfl ?_
    exact hJ27 _ _
  refine r_if_eq (tgt := 26) dX12_versionAt_5 (by decide) ?_ ?_
  · refine r_lo [0] (lo2 := [(0, .ref mo)]) rfl ?_
    exact hJ26 _
  · refine r_iload_n (x := a2) dX12_versionAt_8 rfl rfl ?_
    refine r_if_lt (tgt := 26) dX12_versionAt_9 (by decide) ?_ ?_
    · refine r_lo [0] (lo2 := [(0, .ref mo)]) rfl ?_
      exact hJ26 _
    · refine r_aload_n (x := mo) dX12_versionAt_12 rfl rfl ?_
      refine r_aload_n (x := mo) dX12_versionAt_13 rfl rfl ?_
      refine r_mgetA (kk := 6) h inU12 rfl (by decide) uf_19 rfl rfl dX12_versionAt_14 ?_
      refine r_iload_n (x := a1) dX12_versionAt_17 rfl rfl ?_
      refine r_miald h (by decide) dX12_versionAt_18 ?_
      refine r_iload_n (x := a2) dX12_versionAt_19 rfl rfl ?_
      refine r_callVi (k2 := k_X12_versionIn) (n := 2) (rest := []) rfl kv_X12_versionIn (c_X12_versionIn h _ _ _) (by decide) um_454 rfl (Nat.le_of_ble_eq_true rfl) dX12_versionAt_20 (m_rec h) rfl (fun r5 M4 => ?_)
      refine r_goto (tgt := 27) dX12_versionAt_23 (by decide) ?_
      refine r_lo [0] (lo2 := [(0, .ref mo)]) rfl ?_
      exact hJ27 _ _
def k_X12_versionsOf : Kd := (yX12_versionsOf, cX12_versionsOf, 4, some .int, [])
theorem kv_X12_versionsOf : KV k_X12_versionsOf 1 := ⟨uw_mem 2237 (by decide +kernel) rfl, uw_mem 170 (by decide +kernel) rfl, uw_mem 2236 (by decide +kernel) rfl, uw_mem 154 (by decide +kernel) rfl, ⟨by decide +kernel, by decide +kernel⟩, by decide +kernel, by decide +kernel⟩
set_option maxHeartbeats 4000000 in
set_option maxRecDepth 100000 in
theorem c_X12_versionsOf {l : Launch} {Γ : Cx} {K0 : Cd} {mo : Nat} {ma : Nat → Nat} (h : mOn Γ mo ma) (a1 : Int) (M : Md) : Ct l Γ k_X12_versionsOf 1 encI (emM K0) [.ref mo, wi a1] M (fX12_versionsOf a1 M) := by
  refine ct_of (by decide +kernel) rfl (Nat.le_of_ble_eq_true rfl) ?_
  refine r_lo [0, 1] (lo2 := [(0, .ref mo), (1, wi a1)]) rfl ?_
  unfold fX12_versionsOf
  refine ro_iconst (v := 0) dX12_versionsOf_0 rfl ?_
  refine r_istore_n (lo2 := [(2, wi 0), (0, .ref mo), (1, wi a1)]) dX12_versionsOf_1 rfl (by decide) rfl ?_
  refine ro_iconst (v := 0) dX12_versionsOf_2 rfl ?_
  refine r_istore_n (lo2 := [(3, wi 0), (2, wi 0), (0, .ref mo), (1, wi a1)]) dX12_versionsOf_3 rfl (by decide) rfl ?_
  refine r_loop (P := fun (J : Int → Int → Md → Option (Int × Md)) => ∀ (v2_4 : Int) (v3_4 : Int) (M_4 : Md), RunO l Γ k_X12_versionsOf 1 encI (emM K0) 4 [(0, .ref mo), (1, wi a1), (2, wi v2_4), (3, wi v3_4)] [] M_4 (J v2_4 v3_4 M_4)) ?_ (fun L4 hL4 => ?_) (fun J4 hJ4 => ?_)
  · intros; exact ro_none
  · intro v2_4 v3_4 M_4
    refine r_iload_n (x := v3_4) dX12_versionsOf_4 rfl rfl ?_
    refine r_aload_n (x := mo) dX12_versionsOf_5 rfl rfl ?_
    refine r_mget (kk := 8) h inU12 rfl (by decide) uf_192 rfl rfl dX12_versionsOf_6 ?_
    refine r_icmp_ge (tgt := 36) dX12_versionsOf_9 (by decide) ?_ ?_
    · refine r_iload_n (x := v2_4) dX12_versionsOf_36 rfl rfl ?_
      exact r_iret rfl dX12_versionsOf_37
    · refine r_iload_n (x := v2_4) dX12_versionsOf_12 rfl rfl ?_
      refine r_aload_n (x := mo) dX12_versionsOf_13 rfl rfl ?_
      refine r_mgetA (kk := 12) h inU12 rfl (by decide) uf_31 rfl rfl dX12_versionsOf_14 ?_
      refine r_iload_n (x := v3_4) dX12_versionsOf_17 rfl rfl ?_
      refine r_miald h (by decide) dX12_versionsOf_18 ?_
      refine r_iload_n (x := a1) dX12_versionsOf_19 rfl rfl ?_
      refine r_join (P := fun (J : Int → Md → Option (Int × Md)) => ∀ (t0_28 : Int) (M_28 : Md), RunO l Γ k_X12_versionsOf 1 encI (emM K0) 28 [(0, .ref mo), (1, wi a1), (3, wi v3_4)] [wi t0_28, wi v2_4] M_28 (J t0_28 M_28)) ?_ (fun J28 hJ28 => ?_)
      · intro t0_28 M_28
        refine r_iadd dX12_versionsOf_28 ?_
        refine r_nm (fun x2_29 => ?_)
        refine r_istore_n (lo2 := [(2, wi x2_29), (0, .ref mo), (1, wi a1), (3, wi v3_4)]) dX12_versionsOf_29 rfl (by decide) rfl ?_
        refine r_iinc (x := v3_4) (lo2 := [(3, wi (v3_4 + 1)), (2, wi x2_29), (0, .ref mo), (1, wi a1)]) dX12_versionsOf_30 rfl (by decide) rfl ?_
        refine r_goto (tgt := 4) dX12_versionsOf_33 (by decide) ?_
        refine r_lo [2, 3, 1, 0] (lo2 := [(0, .ref mo), (1, wi a1), (2, wi x2_29), (3, wi (v3_4 + 1))]) rfl ?_
        exact hL4 _ _ _
      refine r_icmp_ne (tgt := 27) dX12_versionsOf_20 (by decide) ?_ ?_
      · refine ro_iconst (v := 0) dX12_versionsOf_27 rfl ?_
        refine r_lo [0, 1, 3] (lo2 := [(0, .ref mo), (1, wi a1), (3, wi v3_4)]) rfl ?_
        exact hJ28 _ _
      · refine ro_iconst (v := 1) dX12_versionsOf_23 rfl ?_
        refine r_goto (tgt := 28) dX12_versionsOf_24 (by decide) ?_
        refine r_lo [0, 1, 3] (lo2 := [(0, .ref mo), (1, wi a1), (3, wi v3_4)]) rfl ?_
        exact hJ28 _ _
  refine r_lo [2, 3, 1, 0] (lo2 := [(0, .ref mo), (1, wi a1), (2, wi 0), (3, wi 0)]) rfl ?_
  exact hJ4 _ _ _
def k_X12_versions : Kd := (yX12_versions, cX12_versions, 2, some .int, [])
theorem kv_X12_versions : KV k_X12_versions 1 := ⟨uw_mem 2229 (by decide +kernel) rfl, uw_mem 170 (by decide +kernel) rfl, uw_mem 2227 (by decide +kernel) rfl, uw_mem 2228 (by decide +kernel) rfl, ⟨by decide +kernel, by decide +kernel⟩, by decide +kernel, by decide +kernel⟩
set_option maxHeartbeats 4000000 in
set_option maxRecDepth 100000 in
theorem c_X12_versions {l : Launch} {Γ : Cx} {K0 : Cd} {mo : Nat} {ma : Nat → Nat} (h : mOn Γ mo ma) (a1 : Int) (M : Md) : Ct l Γ k_X12_versions 4 encI (emM K0) [.ref mo, wi a1] M (fX12_versions a1 M) := by
  refine ct_of (by decide +kernel) rfl (Nat.le_of_ble_eq_true rfl) ?_
  refine r_lo [0, 1] (lo2 := [(0, .ref mo), (1, wi a1)]) rfl ?_
  unfold fX12_versions
  refine r_aload_n (x := mo) dX12_versions_0 rfl rfl ?_
  refine r_iload_n (x := a1) dX12_versions_1 rfl rfl ?_
  refine r_callVi (k2 := k_X12_asksFor) (n := 1) (rest := []) rfl kv_X12_asksFor (c_X12_asksFor h _ _) (by decide) um_470 rfl (Nat.le_of_ble_eq_true rfl) dX12_versions_2 (m_rec h) rfl (fun r2 M1 => ?_)
  refine r_join (P := fun (J : Int → Md → Option (Int × Md)) => ∀ (t0_32 : Int) (M_32 : Md), RunO l Γ k_X12_versions 4 encI (emM K0) 32 [] [wi t0_32] M_32 (J t0_32 M_32)) ?_ (fun J32 hJ32 => ?_)
  · intro t0_32 M_32
    exact r_iret rfl dX12_versions_32
  refine r_join (P := fun (J : Md → Option (Int × Md)) => ∀ (M_31 : Md), RunO l Γ k_X12_versions 4 encI (emM K0) 31 [] [] M_31 (J M_31)) ?_ (fun J31 hJ31 => ?_)
  · intro M_31
    refine ro_iconst (v := 0) dX12_versions_31 rfl ?_
    exact hJ32 _ _
  refine r_if_eq (tgt := 31) dX12_versions_5 (by decide) ?_ ?_
  · refine r_lo [] (lo2 := []) rfl ?_
    exact hJ31 _
  · refine r_aload_n (x := mo) dX12_versions_8 rfl rfl ?_
    refine r_mgetA (kk := 6) h inU12 rfl (by decide) uf_19 rfl rfl dX12_versions_9 ?_
    refine r_iload_n (x := a1) dX12_versions_12 rfl rfl ?_
    refine r_miald h (by decide) dX12_versions_13 ?_
    refine ro_iconst (v := (-1)) dX12_versions_14 rfl ?_
    refine r_icmp_eq (tgt := 31) dX12_versions_15 (by decide) ?_ ?_
    · refine r_lo [] (lo2 := []) rfl ?_
      exact hJ31 _
    · refine r_aload_n (x := mo) dX12_versions_18 rfl rfl ?_
      refine r_aload_n (x := mo) dX12_versions_19 rfl rfl ?_
      refine r_mgetA (kk := 6) h inU12 rfl (by decide) uf_19 rfl rfl dX12_versions_20 ?_
      refine r_iload_n (x := a1) dX12_versions_23 rfl rfl ?_
      refine r_miald h (by decide) dX12_versions_24 ?_
      refine r_callVi (k2 := k_X12_versionsOf) (n := 1) (rest := []) rfl kv_X12_versionsOf (c_X12_versionsOf h _ _) (by decide) um_473 rfl (Nat.le_of_ble_eq_true rfl) dX12_versions_25 (m_rec h) rfl (fun r4 M3 => ?_)
      refine r_goto (tgt := 32) dX12_versions_28 (by decide) ?_
      refine r_lo [] (lo2 := []) rfl ?_
      exact hJ32 _ _
def k_X12_wipe : Kd := (yX12_wipe, cX12_wipe, 2, some .int, [])
theorem kv_X12_wipe : KV k_X12_wipe 0 := ⟨uw_mem 2081 (by decide +kernel) rfl, uw_mem 170 (by decide +kernel) rfl, uw_mem 2079 (by decide +kernel) rfl, uw_mem 2080 (by decide +kernel) rfl, ⟨by decide +kernel, by decide +kernel⟩, by decide +kernel, by decide +kernel⟩
set_option maxHeartbeats 4000000 in
set_option maxRecDepth 100000 in
theorem c_X12_wipe {l : Launch} {Γ : Cx} {K0 : Cd} {mo : Nat} {ma : Nat → Nat} (h : mOn Γ mo ma)  (M : Md) : Ct l Γ k_X12_wipe 1 encI (emM K0) [.ref mo] M (fX12_wipe  M) := by
  refine ct_of (by decide +kernel) rfl (Nat.le_of_ble_eq_true rfl) ?_
  refine r_lo [0] (lo2 := [(0, .ref mo)]) rfl ?_
  unfold fX12_wipe
  refine r_aload_n (x := mo) dX12_wipe_0 rfl rfl ?_
  refine ro_iconst (v := 0) dX12_wipe_1 rfl ?_
  refine r_mput (kk := 36) h inU12 rfl (by decide) uf_180 rfl rfl rfl rfl dX12_wipe_2 (fun M1 => ?_)
  refine r_aload_n (x := mo) dX12_wipe_5 rfl rfl ?_
  refine r_mget (kk := 1) h inU12 rfl (by decide) uf_387 rfl rfl dX12_wipe_6 ?_
  refine r_nm (fun x1_9 => ?_)
  refine r_istore_n (lo2 := [(1, wi x1_9), (0, .ref mo)]) dX12_wipe_9 rfl (by decide) rfl ?_
  refine r_aload_n (x := mo) dX12_wipe_10 rfl rfl ?_
  refine ro_iconst (v := 0) dX12_wipe_11 rfl ?_
  refine r_mput (kk := 1) h inU12 rfl (by decide) uf_387 rfl rfl rfl rfl dX12_wipe_12 (fun M2 => ?_)
  refine r_iload_n (x := x1_9) dX12_wipe_15 rfl rfl ?_
  exact r_iret rfl dX12_wipe_16
