def k_X11_odd : Kd := (yX11_odd, cX11_odd, 2, some .int, [])
theorem kv_X11_odd : KV k_X11_odd 1 := ⟨uw_mem 1539 (by decide +kernel) rfl, uw_mem 94 (by decide +kernel) rfl, uw_mem 1537 (by decide +kernel) rfl, uw_mem 1538 (by decide +kernel) rfl, ⟨by decide +kernel, by decide +kernel⟩, by decide +kernel, by decide +kernel⟩
set_option maxHeartbeats 8000000 in
set_option maxRecDepth 100000 in
theorem c_X11_odd {l : Launch} {Γ : Cx} {M0 : Md} (hG : GK Γ l) (a0 : Nat) (a1 : Int) (C : Cd) : Ct l Γ k_X11_odd 5 encI (emC M0) [.ref a0, wi a1] C (fX11_odd a0 a1 C) := by
  refine ct_of (by decide +kernel) rfl (Nat.le_of_ble_eq_true rfl) ?_
  refine r_lo [0, 1] (lo2 := [(0, .ref a0), (1, wi a1)]) rfl ?_
  unfold fX11_odd
  refine r_iload_n (x := a1) dX11_odd_0 rfl rfl ?_
  refine r_join (P := fun (J : Int → Cd → Option (Int × Cd)) => ∀ (t0_15 : Int) (C_15 : Cd), RunO l Γ k_X11_odd 5 encI (emC M0) 15 [] [wi t0_15] C_15 (J t0_15 C_15)) ?_ (fun J15 hJ15 => ?_)
  · intro t0_15 C_15
    exact r_iret rfl dX11_odd_15
  refine r_if_eq (tgt := 11) dX11_odd_1 (by decide) ?_ ?_
  · refine r_aload_n (x := a0) dX11_odd_11 rfl rfl ?_
    refine r_ccVi (c := 14) (k2 := k_X11_lonelyTitles) (n := 0) (rest := []) um_X11_335 rfl kv_X11_lonelyTitles hc_X11 (by decide) (c_X11_lonelyTitles hG _ _) (by decide) rfl (Nat.le_of_ble_eq_true rfl) dX11_odd_12 rfl (fun r2 C1 => ?_)
    refine r_lo [] (lo2 := []) rfl ?_
    exact hJ15 r2 C1
  · refine r_aload_n (x := a0) dX11_odd_4 rfl rfl ?_
    refine r_ccVi (c := 14) (k2 := k_X11_wantedTitles) (n := 0) (rest := []) um_X11_332 rfl kv_X11_wantedTitles hc_X11 (by decide) (c_X11_wantedTitles hG _ _) (by decide) rfl (Nat.le_of_ble_eq_true rfl) dX11_odd_5 rfl (fun r4 C3 => ?_)
    refine r_goto (tgt := 15) dX11_odd_8 (by decide) ?_
    refine r_lo [] (lo2 := []) rfl ?_
    exact hJ15 r4 C3
def k_X11_queued : Kd := (yX11_queued, cX11_queued, 3, some .int, [])
theorem kv_X11_queued : KV k_X11_queued 0 := ⟨uw_mem 1535 (by decide +kernel) rfl, uw_mem 94 (by decide +kernel) rfl, uw_mem 1533 (by decide +kernel) rfl, uw_mem 1534 (by decide +kernel) rfl, ⟨by decide +kernel, by decide +kernel⟩, by decide +kernel, by decide +kernel⟩
set_option maxHeartbeats 8000000 in
set_option maxRecDepth 100000 in
theorem c_X11_queued {l : Launch} {Γ : Cx} {M0 : Md} (hG : GK Γ l) (a0 : Nat) (C : Cd) : Ct l Γ k_X11_queued 2 encI (emC M0) [.ref a0] C (fX11_queued a0 C) := by
  refine ct_of (by decide +kernel) rfl (Nat.le_of_ble_eq_true rfl) ?_
  refine r_lo [0] (lo2 := [(0, .ref a0)]) rfl ?_
  unfold fX11_queued
  refine ro_iconst (v := 0) dX11_queued_0 rfl ?_
  refine r_istore_n (lo2 := [(1, wi 0), (0, .ref a0)]) dX11_queued_1 rfl (by decide) rfl ?_
  refine ro_iconst (v := 0) dX11_queued_2 rfl ?_
  refine r_istore_n (lo2 := [(2, wi 0), (1, wi 0), (0, .ref a0)]) dX11_queued_3 rfl (by decide) rfl ?_
  refine r_loop (P := fun (J : Int → Int → Cd → Option (Int × Cd)) => ∀ (v1_4 : Int) (v2_4 : Int) (C_4 : Cd), RunO l Γ k_X11_queued 2 encI (emC M0) 4 [(0, .ref a0), (1, wi v1_4), (2, wi v2_4)] [] C_4 (J v1_4 v2_4 C_4)) ?_ (fun L4 hL4 => ?_) (fun J4 hJ4 => ?_)
  · intros; exact ro_none
  · intro v1_4 v2_4 C_4
    refine r_iload_n (x := v2_4) dX11_queued_4 rfl rfl ?_
    refine r_aload_n (x := a0) dX11_queued_5 rfl rfl ?_
    refine r_cgetR (c := 14) (kk := 1) hc_X11 rfl (by decide) inU_X11 (by decide) uf_X11_20 rfl (by decide) dX11_queued_6 (fun z1 => ?_)
    refine r_dref (fun p2 hp2 => ?_)
    subst hp2
    refine r_calen (t := 102) rfl (by decide) dX11_queued_9 ?_
    refine r_icmp_ge (tgt := 34) dX11_queued_10 (by decide) ?_ ?_
    · refine r_iload_n (x := v1_4) dX11_queued_34 rfl rfl ?_
      exact r_iret rfl dX11_queued_35
    · refine r_aload_n (x := a0) dX11_queued_13 rfl rfl ?_
      refine r_cgetR (c := 14) (kk := 1) hc_X11 rfl (by decide) inU_X11 (by decide) uf_X11_20 rfl (by decide) dX11_queued_14 (fun z3 => ?_)
      refine r_iload_n (x := v2_4) dX11_queued_17 rfl rfl ?_
      refine r_dref (fun p4 hp4 => ?_)
      subst hp4
      refine r_caald (t := 102) rfl (by decide) (by decide) dX11_queued_18 (fun z5 => ?_)
      refine r_dref (fun p6 hp6 => ?_)
      subst hp6
      refine r_ccVNi (c := 12) (k2 := k_X9_waits) (n := 0) (rest := []) hG um_X11_298 rfl kv_X9_waits hc_X9 (by decide) (c_X9_waits hG _ _) (by decide) rfl (Nat.le_of_ble_eq_true rfl) dX11_queued_19 rfl (fun r8 C7 => ?_)
      refine r_join (P := fun (J : Int → Cd → Option (Int × Cd)) => ∀ (v1_28 : Int) (C_28 : Cd), RunO l Γ k_X11_queued 2 encI (emC M0) 28 [(0, .ref a0), (1, wi v1_28), (2, wi v2_4)] [] C_28 (J v1_28 C_28)) ?_ (fun J28 hJ28 => ?_)
      · intro v1_28 C_28
        refine r_iinc (x := v2_4) (lo2 := [(2, wi (v2_4 + 1)), (0, .ref a0), (1, wi v1_28)]) dX11_queued_28 rfl (by decide) rfl ?_
        refine r_goto (tgt := 4) dX11_queued_31 (by decide) ?_
        refine r_lo [1, 2, 0] (lo2 := [(0, .ref a0), (1, wi v1_28), (2, wi (v2_4 + 1))]) rfl ?_
        exact hL4 v1_28 (v2_4 + 1) C_28
      refine r_if_eq (tgt := 28) dX11_queued_22 (by decide) ?_ ?_
      · exact hJ28 v1_4 C7
      · refine r_iinc (x := v1_4) (lo2 := [(1, wi (v1_4 + 1)), (0, .ref a0), (2, wi v2_4)]) dX11_queued_25 rfl (by decide) rfl ?_
        refine r_lo [1, 0, 2] (lo2 := [(0, .ref a0), (1, wi (v1_4 + 1)), (2, wi v2_4)]) rfl ?_
        exact hJ28 (v1_4 + 1) C7
  refine r_lo [2, 1, 0] (lo2 := [(0, .ref a0), (1, wi 0), (2, wi 0)]) rfl ?_
  exact hJ4 0 0 C
def k_X11_rank : Kd := (yX11_rank, cX11_rank, 5, some .int, [])
theorem kv_X11_rank : KV k_X11_rank 2 := ⟨uw_mem 423 (by decide +kernel) rfl, uw_mem 94 (by decide +kernel) rfl, uw_mem 421 (by decide +kernel) rfl, uw_mem 422 (by decide +kernel) rfl, ⟨by decide +kernel, by decide +kernel⟩, by decide +kernel, by decide +kernel⟩
set_option maxHeartbeats 8000000 in
set_option maxRecDepth 100000 in
theorem c_X11_rank {l : Launch} {Γ : Cx} {M0 : Md} (hG : GK Γ l) (a0 : Nat) (a1 : Int) (a2 : Int) (C : Cd) : Ct l Γ k_X11_rank 7 (encX gI) (emC M0) [.ref a0, wi a1, wi a2] C (fX11_rank a0 a1 a2 C) := by
  refine ct_of (by decide +kernel) rfl (Nat.le_of_ble_eq_true rfl) ?_
  refine r_lo [0, 1, 2] (lo2 := [(0, .ref a0), (1, wi a1), (2, wi a2)]) rfl ?_
  unfold fX11_rank
  refine r_aload_n (x := a0) dX11_rank_0 rfl rfl ?_
  refine r_iload_n (x := a1) dX11_rank_1 rfl rfl ?_
  refine r_cxV (c := 14) (h := gR) (k2 := k_X11_titleOf) (n := 1) (rest := []) um_X11_85 rfl kv_X11_titleOf hc_X11 (by decide) (c_X11_titleOf hG _ _ _) (by decide) rfl (Nat.le_of_ble_eq_true rfl) dX11_rank_2 rfl (fun r2 C1 => ?_)
  show RunO l Γ k_X11_rank 7 (encX gI) (emC M0) 5 [(0, .ref a0), (1, wi a1), (2, wi a2)] [va_rf r2] C1 _
  refine r_astoreq_n (lo2 := [(3, va_rf r2), (0, .ref a0), (1, wi a1), (2, wi a2)]) dX11_rank_5 rfl (by decide) rfl ?_
  refine r_iload_n (x := a2) dX11_rank_6 rfl rfl ?_
  refine r_join (P := fun (J : Cd → Option ((Int ⊕ Nat) × Cd)) => ∀  (C_16 : Cd), RunO l Γ k_X11_rank 7 (encX gI) (emC M0) 16 [] [] C_16 (J C_16)) ?_ (fun J16 hJ16 => ?_)
  · intro C_16
    exact r_throw (e := 0) (text := "no such rank") hG rfl rfl (by decide) (by decide) (by decide) (Nat.le_of_ble_eq_true rfl) dX11_rank_16 dX11_rank_19 dX11_rank_20 dX11_rank_22 dX11_rank_25
  refine r_if_lt (tgt := 16) dX11_rank_7 (by decide) ?_ ?_
  · refine r_lo [] (lo2 := []) rfl ?_
    exact hJ16  C1
  · refine r_iload_n (x := a2) dX11_rank_10 rfl rfl ?_
    refine r_bipush (v := 99) dX11_rank_11 rfl ?_
    refine r_icmp_le (tgt := 26) dX11_rank_13 (by decide) ?_ ?_
    · refine r_aloadq_n (x := r2) dX11_rank_26 rfl rfl ?_
      refine r_dref (fun p3 hp3 => ?_)
      subst hp3
      refine r_cgetIN (c := 12) (kk := 5) hc_X9 rfl (by decide) inU_X9 (by decide) hG uf_X11_248 rfl (by decide) dX11_rank_27 ?_
      refine r_nm (fun x4_30 => ?_)
      refine r_istore (lo2 := [(4, wi x4_30), (3, .ref p3), (0, .ref a0), (1, wi a1), (2, wi a2)]) dX11_rank_30 (by decide) rfl ?_
      refine r_aload_n (x := p3) dX11_rank_32 rfl rfl ?_
      refine r_iload_n (x := a2) dX11_rank_33 rfl rfl ?_
      refine r_cputIN (c := 12) (kk := 5) hc_X9 rfl (by decide) inU_X9 (by decide) hG uf_X11_248 rfl tyX9 tyX9_ok nmX9 (fty := .int) (by decide) rfl rfl rfl rfl dX11_rank_34 (fun C4 _ _ => ?_)
      refine r_iload (x := x4_30) dX11_rank_37 rfl ?_
      exact r_iretX rfl dX11_rank_39
    · refine r_lo [] (lo2 := []) rfl ?_
      exact hJ16  C1
def k_X11_render : Kd := (yX11_render, cX11_render, 4, none, [])
theorem kv_X11_render : KV k_X11_render 2 := ⟨uw_mem 528 (by decide +kernel) rfl, uw_mem 94 (by decide +kernel) rfl, uw_mem 527 (by decide +kernel) rfl, uw_mem 4 (by decide +kernel) rfl, ⟨by decide +kernel, by decide +kernel⟩, by decide +kernel, by decide +kernel⟩
set_option maxHeartbeats 8000000 in
set_option maxRecDepth 100000 in
theorem c_X11_render {l : Launch} {Γ : Cx} {M0 : Md} (hG : GK Γ l) (a0 : Nat) (a1 : Int) (a2 : Option Nat) (C : Cd) : Ct l Γ k_X11_render 7 encV (emC M0) [.ref a0, wi a1, va_rf a2] C (fX11_render a0 a1 a2 C) := by
  refine ct_of (by decide +kernel) rfl (by cases a2 <;> exact Nat.le_of_ble_eq_true rfl) ?_
  refine r_lo [0, 1, 2] (lo2 := [(0, .ref a0), (1, wi a1), (2, va_rf a2)]) (by cases a2 <;> rfl) ?_
  unfold fX11_render
  refine r_aloadq_n (x := a2) dX11_render_0 rfl rfl ?_
  refine r_dref (fun p1 hp1 => ?_)
  subst hp1
  refine r_cgetRN (c := 12) (kk := 3) hc_X9 rfl (by decide) inU_X9 (by decide) hG uf_X11_102 rfl (by decide) dX11_render_1 (fun z2 => ?_)
  refine r_opt (fun hn => ?_) (fun p3 hp3 => ?_)
  · subst hn
    refine r_ifnonnullN dX11_render_4 ?_
    exact r_vret rfl dX11_render_7
  · subst hp3
    refine r_ifnonnullS (a := p3) (tgt := 8) dX11_render_4 (by decide) ?_
    refine r_aload_n (x := a0) dX11_render_8 rfl rfl ?_
    refine r_cgetR (c := 14) (kk := 0) hc_X11 rfl (by decide) inU_X11 (by decide) uf_X11_10 rfl (by decide) dX11_render_9 (fun z4 => ?_)
    refine r_iload_n (x := a1) dX11_render_12 rfl rfl ?_
    refine r_aload_n (x := p1) dX11_render_13 rfl rfl ?_
    refine r_cgetRN (c := 12) (kk := 3) hc_X9 rfl (by decide) inU_X9 (by decide) hG uf_X11_102 rfl (by decide) dX11_render_14 (fun z5 => ?_)
    refine r_dref (fun p6 hp6 => ?_)
    subst hp6
    refine r_cgetRN (c := 6) (kk := 1) hc_X3 rfl (by decide) inU_X3 (by decide) hG uf_X11_148 rfl (by decide) dX11_render_17 (fun z7 => ?_)
    refine r_dref (fun p8 hp8 => ?_)
    subst hp8
    refine r_cgetRN (c := 13) (kk := 2) hc_X10 rfl (by decide) inU_X10 (by decide) hG uf_X11_130 rfl (by decide) dX11_render_20 (fun z9 => ?_)
    refine ro_iconst (v := (-1)) dX11_render_23 rfl ?_
    refine r_dref (fun p10 hp10 => ?_)
    subst hp10
    refine r_ccVNv (c := 4) (k2 := k_X1_expand) (n := 3) (rest := []) hG um_X11_304 rfl kv_X1_expand hc_X1 (by decide) (c_X1_expand hG _ _ _ _ _) (by decide) rfl (Nat.le_of_ble_eq_true rfl) dX11_render_24 rfl (fun r12 C11 => ?_)
    refine r_aload_n (x := p1) dX11_render_27 rfl rfl ?_
    refine r_cgetRN (c := 12) (kk := 0) hc_X9 rfl (by decide) inU_X9 (by decide) hG uf_X11_260 rfl (by decide) dX11_render_28 (fun z13 => ?_)
    refine r_dref (fun p14 hp14 => ?_)
    subst hp14
    refine r_cgetIN (c := 7) (kk := 4) hc_X4 rfl (by decide) inU_X4 (by decide) hG uf_X11_382 rfl (by decide) dX11_render_31 ?_
    refine r_aload_n (x := a0) dX11_render_34 rfl rfl ?_
    refine r_cgetR (c := 14) (kk := 0) hc_X11 rfl (by decide) inU_X11 (by decide) uf_X11_10 rfl (by decide) dX11_render_35 (fun z15 => ?_)
    refine r_dref (fun p16 hp16 => ?_)
    subst hp16
    refine r_cgetRN (c := 4) (kk := 7) hc_X1 rfl (by decide) inU_X1 (by decide) hG uf_X11_308 rfl (by decide) dX11_render_38 (fun z17 => ?_)
    refine r_dref (fun p18 hp18 => ?_)
    subst hp18
    refine r_cgetIN (c := 7) (kk := 4) hc_X4 rfl (by decide) inU_X4 (by decide) hG uf_X11_382 rfl (by decide) dX11_render_41 ?_
    refine r_ixor dX11_render_44 ?_
    refine r_nm (fun x3_45 => ?_)
    refine r_istore_n (lo2 := [(3, wi x3_45), (0, .ref a0), (1, wi a1), (2, .ref p1)]) dX11_render_45 rfl (by decide) rfl ?_
    refine r_aload_n (x := p1) dX11_render_46 rfl rfl ?_
    refine r_cgetRN (c := 12) (kk := 0) hc_X9 rfl (by decide) inU_X9 (by decide) hG uf_X11_260 rfl (by decide) dX11_render_47 (fun z19 => ?_)
    refine r_aload_n (x := a0) dX11_render_50 rfl rfl ?_
    refine r_cgetR (c := 14) (kk := 0) hc_X11 rfl (by decide) inU_X11 (by decide) uf_X11_10 rfl (by decide) dX11_render_51 (fun z20 => ?_)
    refine r_dref (fun p21 hp21 => ?_)
    subst hp21
    refine r_cgetRN (c := 4) (kk := 7) hc_X1 rfl (by decide) inU_X1 (by decide) hG uf_X11_308 rfl (by decide) dX11_render_54 (fun z22 => ?_)
    refine r_dref (fun p23 hp23 => ?_)
    subst hp23
    refine r_ccVNv (c := 7) (k2 := k_X4_take) (n := 1) (rest := []) hG um_X11_395 rfl kv_X4_take hc_X4 (by decide) (c_X4_take hG _ _ _) (by decide) rfl (Nat.le_of_ble_eq_true rfl) dX11_render_57 rfl (fun r25 C24 => ?_)
    refine r_aload_n (x := a0) dX11_render_60 rfl rfl ?_
    refine r_iload_n (x := x3_45) dX11_render_61 rfl rfl ?_
    refine r_ccVv (c := 14) (k2 := k_X11_noteMemberChange) (n := 1) (rest := []) um_X11_386 rfl kv_X11_noteMemberChange hc_X11 (by decide) (c_X11_noteMemberChange hG _ _ _) (by decide) rfl (Nat.le_of_ble_eq_true rfl) dX11_render_62 rfl (fun r27 C26 => ?_)
    exact r_vret rfl dX11_render_65
def k_X11_read : Kd := (yX11_read, cX11_read, 4, some .int, [])
theorem kv_X11_read : KV k_X11_read 2 := ⟨uw_mem 1398 (by decide +kernel) rfl, uw_mem 94 (by decide +kernel) rfl, uw_mem 1396 (by decide +kernel) rfl, uw_mem 1397 (by decide +kernel) rfl, ⟨by decide +kernel, by decide +kernel⟩, by decide +kernel, by decide +kernel⟩
set_option maxHeartbeats 8000000 in
set_option maxRecDepth 100000 in
theorem c_X11_read {l : Launch} {Γ : Cx} {M0 : Md} (hG : GK Γ l) (a0 : Nat) (a1 : Int) (a2 : Int) (C : Cd) : Ct l Γ k_X11_read 8 (encX gI) (emC M0) [.ref a0, wi a1, wi a2] C (fX11_read a0 a1 a2 C) := by
  refine ct_of (by decide +kernel) rfl (Nat.le_of_ble_eq_true rfl) ?_
  refine r_lo [0, 1, 2] (lo2 := [(0, .ref a0), (1, wi a1), (2, wi a2)]) rfl ?_
  unfold fX11_read
  refine r_aload_n (x := a0) dX11_read_0 rfl rfl ?_
  refine r_iload_n (x := a1) dX11_read_1 rfl rfl ?_
  refine r_cxV (c := 14) (h := gR) (k2 := k_X11_pageOf) (n := 1) (rest := []) um_X11_116 rfl kv_X11_pageOf hc_X11 (by decide) (c_X11_pageOf hG _ _ _) (by decide) rfl (Nat.le_of_ble_eq_true rfl) dX11_read_2 rfl (fun r2 C1 => ?_)
  show RunO l Γ k_X11_read 8 (encX gI) (emC M0) 5 [(0, .ref a0), (1, wi a1), (2, wi a2)] [va_rf r2] C1 _
  refine r_pop dX11_read_5 (by cases r2 <;> rfl) ?_
  refine r_aload_n (x := a0) dX11_read_6 rfl rfl ?_
  refine r_cgetR (c := 14) (kk := 1) hc_X11 rfl (by decide) inU_X11 (by decide) uf_X11_20 rfl (by decide) dX11_read_7 (fun z3 => ?_)
  refine r_iload_n (x := a1) dX11_read_10 rfl rfl ?_
  refine r_dref (fun p4 hp4 => ?_)
  subst hp4
  refine r_caald (t := 102) rfl (by decide) (by decide) dX11_read_11 (fun z5 => ?_)
  refine r_astoreq_n (lo2 := [(3, va_rf z5), (0, .ref a0), (1, wi a1), (2, wi a2)]) dX11_read_12 rfl (by decide) rfl ?_
  refine r_aloadq_n (x := z5) dX11_read_13 rfl rfl ?_
  refine r_dref (fun p6 hp6 => ?_)
  subst hp6
  refine r_cgetRN (c := 12) (kk := 0) hc_X9 rfl (by decide) inU_X9 (by decide) hG uf_X11_260 rfl (by decide) dX11_read_14 (fun z7 => ?_)
  refine r_dref (fun p8 hp8 => ?_)
  subst hp8
  refine r_cgetIN (c := 7) (kk := 1) hc_X4 rfl (by decide) inU_X4 (by decide) hG uf_X11_264 rfl (by decide) dX11_read_17 ?_
  refine r_join (P := fun (J : Cd → Option ((Int ⊕ Nat) × Cd)) => ∀  (C_43 : Cd), RunO l Γ k_X11_read 8 (encX gI) (emC M0) 43 [(3, .ref p6)] [] C_43 (J C_43)) ?_ (fun J43 hJ43 => ?_)
  · intro C_43
    refine r_aload_n (x := p6) dX11_read_43 rfl rfl ?_
    refine r_cgetRN (c := 12) (kk := 0) hc_X9 rfl (by decide) inU_X9 (by decide) hG uf_X11_260 rfl (by decide) dX11_read_44 (fun z9 => ?_)
    refine r_dref (fun p10 hp10 => ?_)
    subst hp10
    refine r_cgetRN (c := 7) (kk := 0) hc_X4 rfl (by decide) inU_X4 (by decide) hG uf_X11_273 rfl (by decide) dX11_read_47 (fun z11 => ?_)
    refine r_dref (fun p12 hp12 => ?_)
    subst hp12
    refine r_cgetIN (c := 8) (kk := 1) hc_X5 rfl (by decide) inU_X5 (by decide) hG uf_X11_277 rfl (by decide) dX11_read_50 ?_
    exact r_iretX rfl dX11_read_53
  refine r_join (P := fun (J : Cd → Option ((Int ⊕ Nat) × Cd)) => ∀  (C_37 : Cd), RunO l Γ k_X11_read 8 (encX gI) (emC M0) 37 [(0, .ref a0), (1, wi a1), (3, .ref p6)] [] C_37 (J C_37)) ?_ (fun J37 hJ37 => ?_)
  · intro C_37
    refine r_aload_n (x := a0) dX11_read_37 rfl rfl ?_
    refine r_iload_n (x := a1) dX11_read_38 rfl rfl ?_
    refine r_aload_n (x := p6) dX11_read_39 rfl rfl ?_
    refine r_ccVv (c := 14) (k2 := k_X11_render) (n := 2) (rest := []) um_X11_256 rfl kv_X11_render hc_X11 (by decide) (c_X11_render hG _ _ _ _) (by decide) rfl (Nat.le_of_ble_eq_true rfl) dX11_read_40 rfl (fun r14 C13 => ?_)
    refine r_lo [2] (lo2 := [(3, .ref p6)]) rfl ?_
    exact hJ43  C13
  refine r_if_eq (tgt := 37) dX11_read_20 (by decide) ?_ ?_
  · refine r_lo [1, 2, 0] (lo2 := [(0, .ref a0), (1, wi a1), (3, .ref p6)]) rfl ?_
    exact hJ37  C1
  · refine r_aload_n (x := p6) dX11_read_23 rfl rfl ?_
    refine r_cgetRN (c := 12) (kk := 0) hc_X9 rfl (by decide) inU_X9 (by decide) hG uf_X11_260 rfl (by decide) dX11_read_24 (fun z15 => ?_)
    refine r_dref (fun p16 hp16 => ?_)
    subst hp16
    refine r_cgetIN (c := 7) (kk := 2) hc_X4 rfl (by decide) inU_X4 (by decide) hG uf_X11_270 rfl (by decide) dX11_read_27 ?_
    refine r_if_eq (tgt := 43) dX11_read_30 (by decide) ?_ ?_
    · refine r_lo [0] (lo2 := [(3, .ref p6)]) rfl ?_
      exact hJ43  C1
    · refine r_iload_n (x := a2) dX11_read_33 rfl rfl ?_
      refine r_if_ne (tgt := 43) dX11_read_34 (by decide) ?_ ?_
      · refine r_lo [0] (lo2 := [(3, .ref p6)]) rfl ?_
        exact hJ43  C1
      · refine r_lo [1, 2, 0] (lo2 := [(0, .ref a0), (1, wi a1), (3, .ref p6)]) rfl ?_
        exact hJ37  C1
def k_X11_refuseBelowZero : Kd := (yX11_refuseBelowZero, cX11_refuseBelowZero, 2, none, [])
theorem kv_X11_refuseBelowZero : KV k_X11_refuseBelowZero 1 := ⟨uw_mem 1411 (by decide +kernel) rfl, uw_mem 94 (by decide +kernel) rfl, uw_mem 1410 (by decide +kernel) rfl, uw_mem 87 (by decide +kernel) rfl, ⟨by decide +kernel, by decide +kernel⟩, by decide +kernel, by decide +kernel⟩
set_option maxHeartbeats 8000000 in
set_option maxRecDepth 100000 in
theorem c_X11_refuseBelowZero {l : Launch} {Γ : Cx} {M0 : Md} (hG : GK Γ l) (a0 : Nat) (a1 : Int) (C : Cd) : Ct l Γ k_X11_refuseBelowZero 6 (encX gV) (emC M0) [.ref a0, wi a1] C (fX11_refuseBelowZero a0 a1 C) := by
  refine ct_of (by decide +kernel) rfl (Nat.le_of_ble_eq_true rfl) ?_
  refine r_lo [0, 1] (lo2 := [(0, .ref a0), (1, wi a1)]) rfl ?_
  unfold fX11_refuseBelowZero
  refine r_iload_n (x := a1) dX11_refuseBelowZero_0 rfl rfl ?_
  refine r_if_ge (tgt := 15) dX11_refuseBelowZero_1 (by decide) ?_ ?_
  · exact r_vretX rfl dX11_refuseBelowZero_15
  · exact r_throwW (e := 2) (text := "below 0") hG rfl rfl (by decide) (by decide) (by decide) (Nat.le_of_ble_eq_true rfl) dX11_refuseBelowZero_4 dX11_refuseBelowZero_7 dX11_refuseBelowZero_8 dX11_refuseBelowZero_11 dX11_refuseBelowZero_14
def k_X11_shown : Kd := (yX11_shown, cX11_shown, 3, some .int, [])
theorem kv_X11_shown : KV k_X11_shown 2 := ⟨uw_mem 1407 (by decide +kernel) rfl, uw_mem 94 (by decide +kernel) rfl, uw_mem 1405 (by decide +kernel) rfl, uw_mem 1406 (by decide +kernel) rfl, ⟨by decide +kernel, by decide +kernel⟩, by decide +kernel, by decide +kernel⟩
set_option maxHeartbeats 8000000 in
set_option maxRecDepth 100000 in
theorem c_X11_shown {l : Launch} {Γ : Cx} {M0 : Md} (hG : GK Γ l) (a0 : Nat) (a1 : Int) (a2 : Int) (C : Cd) : Ct l Γ k_X11_shown 8 (encX gI) (emC M0) [.ref a0, wi a1, wi a2] C (fX11_shown a0 a1 a2 C) := by
  refine ct_of (by decide +kernel) rfl (Nat.le_of_ble_eq_true rfl) ?_
  refine r_lo [0, 1, 2] (lo2 := [(0, .ref a0), (1, wi a1), (2, wi a2)]) rfl ?_
  unfold fX11_shown
  refine r_aload_n (x := a0) dX11_shown_0 rfl rfl ?_
  refine r_iload_n (x := a1) dX11_shown_1 rfl rfl ?_
  refine r_cxV (c := 14) (h := gR) (k2 := k_X11_pageOf) (n := 1) (rest := []) um_X11_116 rfl kv_X11_pageOf hc_X11 (by decide) (c_X11_pageOf hG _ _ _) (by decide) rfl (Nat.le_of_ble_eq_true rfl) dX11_shown_2 rfl (fun r2 C1 => ?_)
  show RunO l Γ k_X11_shown 8 (encX gI) (emC M0) 5 [(0, .ref a0), (1, wi a1), (2, wi a2)] [va_rf r2] C1 _
  refine r_pop dX11_shown_5 (by cases r2 <;> rfl) ?_
  refine r_aload_n (x := a0) dX11_shown_6 rfl rfl ?_
  refine r_iload_n (x := a2) dX11_shown_7 rfl rfl ?_
  refine r_cxV (c := 14) (h := gV) (k2 := k_X11_refuseBelowZero) (n := 1) (rest := []) um_X11_288 rfl kv_X11_refuseBelowZero hc_X11 (by decide) (c_X11_refuseBelowZero hG _ _ _) (by decide) rfl (Nat.le_of_ble_eq_true rfl) dX11_shown_8 rfl (fun r4 C3 => ?_)
  show RunO l Γ k_X11_shown 8 (encX gI) (emC M0) 11 [(0, .ref a0), (1, wi a1), (2, wi a2)] [] C3 _
  refine r_aload_n (x := a0) dX11_shown_11 rfl rfl ?_
  refine r_cgetR (c := 14) (kk := 1) hc_X11 rfl (by decide) inU_X11 (by decide) uf_X11_20 rfl (by decide) dX11_shown_12 (fun z5 => ?_)
  refine r_iload_n (x := a1) dX11_shown_15 rfl rfl ?_
  refine r_dref (fun p6 hp6 => ?_)
  subst hp6
  refine r_caald (t := 102) rfl (by decide) (by decide) dX11_shown_16 (fun z7 => ?_)
  refine r_dref (fun p8 hp8 => ?_)
  subst hp8
  refine r_cgetRN (c := 12) (kk := 0) hc_X9 rfl (by decide) inU_X9 (by decide) hG uf_X11_260 rfl (by decide) dX11_shown_17 (fun z9 => ?_)
  refine r_dref (fun p10 hp10 => ?_)
  subst hp10
  refine r_cgetRN (c := 7) (kk := 0) hc_X4 rfl (by decide) inU_X4 (by decide) hG uf_X11_273 rfl (by decide) dX11_shown_20 (fun z11 => ?_)
  refine r_iload_n (x := a2) dX11_shown_23 rfl rfl ?_
  refine r_dref (fun p12 hp12 => ?_)
  subst hp12
  refine r_ccVNi (c := 8) (k2 := k_X5_at) (n := 1) (rest := []) hG um_X11_301 rfl kv_X5_at hc_X5 (by decide) (c_X5_at hG _ _ _) (by decide) rfl (Nat.le_of_ble_eq_true rfl) dX11_shown_24 rfl (fun r14 C13 => ?_)
  exact r_iretX rfl dX11_shown_27
def k_X11_shownAnew : Kd := (yX11_shownAnew, cX11_shownAnew, 4, some .int, [])
theorem kv_X11_shownAnew : KV k_X11_shownAnew 2 := ⟨uw_mem 1417 (by decide +kernel) rfl, uw_mem 94 (by decide +kernel) rfl, uw_mem 1415 (by decide +kernel) rfl, uw_mem 1416 (by decide +kernel) rfl, ⟨by decide +kernel, by decide +kernel⟩, by decide +kernel, by decide +kernel⟩
set_option maxHeartbeats 8000000 in
set_option maxRecDepth 100000 in
theorem c_X11_shownAnew {l : Launch} {Γ : Cx} {M0 : Md} (hG : GK Γ l) (a0 : Nat) (a1 : Int) (a2 : Int) (C : Cd) : Ct l Γ k_X11_shownAnew 8 (encX gI) (emC M0) [.ref a0, wi a1, wi a2] C (fX11_shownAnew a0 a1 a2 C) := by
  refine ct_of (by decide +kernel) rfl (Nat.le_of_ble_eq_true rfl) ?_
  refine r_lo [0, 1, 2] (lo2 := [(0, .ref a0), (1, wi a1), (2, wi a2)]) rfl ?_
  unfold fX11_shownAnew
  refine r_aload_n (x := a0) dX11_shownAnew_0 rfl rfl ?_
  refine r_iload_n (x := a1) dX11_shownAnew_1 rfl rfl ?_
  refine r_cxV (c := 14) (h := gR) (k2 := k_X11_pageOf) (n := 1) (rest := []) um_X11_116 rfl kv_X11_pageOf hc_X11 (by decide) (c_X11_pageOf hG _ _ _) (by decide) rfl (Nat.le_of_ble_eq_true rfl) dX11_shownAnew_2 rfl (fun r2 C1 => ?_)
  show RunO l Γ k_X11_shownAnew 8 (encX gI) (emC M0) 5 [(0, .ref a0), (1, wi a1), (2, wi a2)] [va_rf r2] C1 _
  refine r_astoreq_n (lo2 := [(3, va_rf r2), (0, .ref a0), (1, wi a1), (2, wi a2)]) dX11_shownAnew_5 rfl (by decide) rfl ?_
  refine r_aload_n (x := a0) dX11_shownAnew_6 rfl rfl ?_
  refine r_iload_n (x := a2) dX11_shownAnew_7 rfl rfl ?_
  refine r_cxV (c := 14) (h := gV) (k2 := k_X11_refuseBelowZero) (n := 1) (rest := []) um_X11_288 rfl kv_X11_refuseBelowZero hc_X11 (by decide) (c_X11_refuseBelowZero hG _ _ _) (by decide) rfl (Nat.le_of_ble_eq_true rfl) dX11_shownAnew_8 rfl (fun r4 C3 => ?_)
  show RunO l Γ k_X11_shownAnew 8 (encX gI) (emC M0) 11 [(3, va_rf r2), (0, .ref a0), (1, wi a1), (2, wi a2)] [] C3 _
  refine r_aload_n (x := a0) dX11_shownAnew_11 rfl rfl ?_
  refine r_cgetR (c := 14) (kk := 0) hc_X11 rfl (by decide) inU_X11 (by decide) uf_X11_10 rfl (by decide) dX11_shownAnew_12 (fun z5 => ?_)
  refine r_iload_n (x := a1) dX11_shownAnew_15 rfl rfl ?_
  refine r_aloadq_n (x := r2) dX11_shownAnew_16 rfl rfl ?_
  refine r_dref (fun p6 hp6 => ?_)
  subst hp6
  refine r_cgetRN (c := 6) (kk := 1) hc_X3 rfl (by decide) inU_X3 (by decide) hG uf_X11_148 rfl (by decide) dX11_shownAnew_17 (fun z7 => ?_)
  refine r_dref (fun p8 hp8 => ?_)
  subst hp8
  refine r_cgetRN (c := 13) (kk := 2) hc_X10 rfl (by decide) inU_X10 (by decide) hG uf_X11_130 rfl (by decide) dX11_shownAnew_20 (fun z9 => ?_)
  refine ro_iconst (v := (-1)) dX11_shownAnew_23 rfl ?_
  refine r_dref (fun p10 hp10 => ?_)
  subst hp10
  refine r_ccVNv (c := 4) (k2 := k_X1_expand) (n := 3) (rest := []) hG um_X11_304 rfl kv_X1_expand hc_X1 (by decide) (c_X1_expand hG _ _ _ _ _) (by decide) rfl (Nat.le_of_ble_eq_true rfl) dX11_shownAnew_24 rfl (fun r12 C11 => ?_)
  refine r_aload_n (x := a0) dX11_shownAnew_27 rfl rfl ?_
  refine r_cgetR (c := 14) (kk := 0) hc_X11 rfl (by decide) inU_X11 (by decide) uf_X11_10 rfl (by decide) dX11_shownAnew_28 (fun z13 => ?_)
  refine r_dref (fun p14 hp14 => ?_)
  subst hp14
  refine r_cgetRN (c := 4) (kk := 7) hc_X1 rfl (by decide) inU_X1 (by decide) hG uf_X11_308 rfl (by decide) dX11_shownAnew_31 (fun z15 => ?_)
  refine r_dref (fun p16 hp16 => ?_)
  subst hp16
  refine r_cgetRN (c := 7) (kk := 0) hc_X4 rfl (by decide) inU_X4 (by decide) hG uf_X11_273 rfl (by decide) dX11_shownAnew_34 (fun z17 => ?_)
  refine r_iload_n (x := a2) dX11_shownAnew_37 rfl rfl ?_
  refine r_dref (fun p18 hp18 => ?_)
  subst hp18
  refine r_ccVNi (c := 8) (k2 := k_X5_at) (n := 1) (rest := []) hG um_X11_301 rfl kv_X5_at hc_X5 (by decide) (c_X5_at hG _ _ _) (by decide) rfl (Nat.le_of_ble_eq_true rfl) dX11_shownAnew_38 rfl (fun r20 C19 => ?_)
  exact r_iretX rfl dX11_shownAnew_41
def k_X11_token : Kd := (yX11_token, cX11_token, 3, some .int, [])
theorem kv_X11_token : KV k_X11_token 2 := ⟨uw_mem 1440 (by decide +kernel) rfl, uw_mem 94 (by decide +kernel) rfl, uw_mem 1438 (by decide +kernel) rfl, uw_mem 1439 (by decide +kernel) rfl, ⟨by decide +kernel, by decide +kernel⟩, by decide +kernel, by decide +kernel⟩
set_option maxHeartbeats 8000000 in
set_option maxRecDepth 100000 in
theorem c_X11_token {l : Launch} {Γ : Cx} {M0 : Md} (hG : GK Γ l) (a0 : Nat) (a1 : Int) (a2 : Int) {sT : Nat → Nat} (hS : STs Γ sT) (C : Cd) : Ct l Γ k_X11_token 6 (encX gI) (emC M0) [.ref a0, wi a1, wi a2] C (fX11_token a0 a1 a2 C) := by
  refine ct_of (by decide +kernel) rfl (Nat.le_of_ble_eq_true rfl) ?_
  refine r_lo [0, 1, 2] (lo2 := [(0, .ref a0), (1, wi a1), (2, wi a2)]) rfl ?_
  unfold fX11_token
  refine r_aload_n (x := a0) dX11_token_0 rfl rfl ?_
  refine r_gets 0 hS (by decide) us_X11_54 rfl dX11_token_1 ?_
  refine r_iload_n (x := a1) dX11_token_4 rfl rfl ?_
  refine r_iload_n (x := a2) dX11_token_5 rfl rfl ?_
  refine r_ccVi (c := 14) (k2 := k_X11_isAmong) (n := 3) (rest := []) um_X11_58 rfl kv_X11_isAmong hc_X11 (by decide) (c_X11_isAmong hG _ _ _ _ hS (by decide) _) (by decide) rfl (Nat.le_of_ble_eq_true rfl) dX11_token_6 rfl (fun r2 C1 => ?_)
  refine r_if_ne (tgt := 22) dX11_token_9 (by decide) ?_ ?_
  · refine r_aload_n (x := a0) dX11_token_22 rfl rfl ?_
    refine r_cgetR (c := 14) (kk := 3) hc_X11 rfl (by decide) inU_X11 (by decide) uf_X11_31 rfl (by decide) dX11_token_23 (fun z3 => ?_)
    refine r_dref (fun p4 hp4 => ?_)
    subst hp4
    refine r_cgetIN (c := 11) (kk := 2) hc_X8 rfl (by decide) inU_X8 (by decide) hG uf_X11_69 rfl (by decide) dX11_token_26 ?_
    refine r_bipush (v := 30) dX11_token_29 rfl ?_
    refine r_icmp_lt (tgt := 44) dX11_token_31 (by decide) ?_ ?_
    · refine r_aload_n (x := a0) dX11_token_44 rfl rfl ?_
      refine r_cgetR (c := 14) (kk := 3) hc_X11 rfl (by decide) inU_X11 (by decide) uf_X11_31 rfl (by decide) dX11_token_45 (fun z5 => ?_)
      refine r_iload_n (x := a1) dX11_token_48 rfl rfl ?_
      refine r_sipush (v := 1000) dX11_token_49 rfl ?_
      refine r_imul dX11_token_52 ?_
      refine r_iload_n (x := a2) dX11_token_53 rfl rfl ?_
      refine r_iadd dX11_token_54 ?_
      refine r_dref (fun p6 hp6 => ?_)
      subst hp6
      refine r_ccVNv (c := 11) (k2 := k_X8_add) (n := 1) (rest := []) hG um_X11_77 rfl kv_X8_add hc_X8 (by decide) (c_X8_add hG _ _ _) (by decide) rfl (Nat.le_of_ble_eq_true rfl) dX11_token_55 rfl (fun r8 C7 => ?_)
      refine r_aload_n (x := a0) dX11_token_58 rfl rfl ?_
      refine r_cgetR (c := 14) (kk := 3) hc_X11 rfl (by decide) inU_X11 (by decide) uf_X11_31 rfl (by decide) dX11_token_59 (fun z9 => ?_)
      refine r_dref (fun p10 hp10 => ?_)
      subst hp10
      refine r_cgetIN (c := 11) (kk := 2) hc_X8 rfl (by decide) inU_X8 (by decide) hG uf_X11_69 rfl (by decide) dX11_token_62 ?_
      exact r_iretX rfl dX11_token_65
    · exact r_throw (e := 1) (text := "the draft is full") hG rfl rfl (by decide) (by decide) (by decide) (Nat.le_of_ble_eq_true rfl) dX11_token_34 dX11_token_37 dX11_token_38 dX11_token_40 dX11_token_43
  · exact r_throw (e := 0) (text := "no such token") hG rfl rfl (by decide) (by decide) (by decide) (Nat.le_of_ble_eq_true rfl) dX11_token_12 dX11_token_15 dX11_token_16 dX11_token_18 dX11_token_21
def k_X11_tokenAt : Kd := (yX11_tokenAt, cX11_tokenAt, 4, some .int, [])
theorem kv_X11_tokenAt : KV k_X11_tokenAt 2 := ⟨uw_mem 1421 (by decide +kernel) rfl, uw_mem 94 (by decide +kernel) rfl, uw_mem 1419 (by decide +kernel) rfl, uw_mem 1420 (by decide +kernel) rfl, ⟨by decide +kernel, by decide +kernel⟩, by decide +kernel, by decide +kernel⟩
set_option maxHeartbeats 8000000 in
set_option maxRecDepth 100000 in
theorem c_X11_tokenAt {l : Launch} {Γ : Cx} {M0 : Md} (hG : GK Γ l) (a0 : Nat) (a1 : Int) (a2 : Int) (C : Cd) : Ct l Γ k_X11_tokenAt 8 (encX gI) (emC M0) [.ref a0, wi a1, wi a2] C (fX11_tokenAt a0 a1 a2 C) := by
  refine ct_of (by decide +kernel) rfl (Nat.le_of_ble_eq_true rfl) ?_
  refine r_lo [0, 1, 2] (lo2 := [(0, .ref a0), (1, wi a1), (2, wi a2)]) rfl ?_
  unfold fX11_tokenAt
  refine r_aload_n (x := a0) dX11_tokenAt_0 rfl rfl ?_
  refine r_iload_n (x := a1) dX11_tokenAt_1 rfl rfl ?_
  refine r_cxV (c := 14) (h := gR) (k2 := k_X11_pageOf) (n := 1) (rest := []) um_X11_116 rfl kv_X11_pageOf hc_X11 (by decide) (c_X11_pageOf hG _ _ _) (by decide) rfl (Nat.le_of_ble_eq_true rfl) dX11_tokenAt_2 rfl (fun r2 C1 => ?_)
  show RunO l Γ k_X11_tokenAt 8 (encX gI) (emC M0) 5 [(0, .ref a0), (1, wi a1), (2, wi a2)] [va_rf r2] C1 _
  refine r_astoreq_n (lo2 := [(3, va_rf r2), (0, .ref a0), (1, wi a1), (2, wi a2)]) dX11_tokenAt_5 rfl (by decide) rfl ?_
  refine r_aload_n (x := a0) dX11_tokenAt_6 rfl rfl ?_
  refine r_iload_n (x := a2) dX11_tokenAt_7 rfl rfl ?_
  refine r_cxV (c := 14) (h := gV) (k2 := k_X11_refuseBelowZero) (n := 1) (rest := []) um_X11_288 rfl kv_X11_refuseBelowZero hc_X11 (by decide) (c_X11_refuseBelowZero hG _ _ _) (by decide) rfl (Nat.le_of_ble_eq_true rfl) dX11_tokenAt_8 rfl (fun r4 C3 => ?_)
  show RunO l Γ k_X11_tokenAt 8 (encX gI) (emC M0) 11 [(3, va_rf r2), (0, .ref a0), (1, wi a1), (2, wi a2)] [] C3 _
  refine r_aloadq_n (x := r2) dX11_tokenAt_11 rfl rfl ?_
  refine r_dref (fun p5 hp5 => ?_)
  subst hp5
  refine r_cgetRN (c := 6) (kk := 1) hc_X3 rfl (by decide) inU_X3 (by decide) hG uf_X11_148 rfl (by decide) dX11_tokenAt_12 (fun z6 => ?_)
  refine r_dref (fun p7 hp7 => ?_)
  subst hp7
  refine r_cgetRN (c := 13) (kk := 2) hc_X10 rfl (by decide) inU_X10 (by decide) hG uf_X11_130 rfl (by decide) dX11_tokenAt_15 (fun z8 => ?_)
  refine r_iload_n (x := a2) dX11_tokenAt_18 rfl rfl ?_
  refine r_dref (fun p9 hp9 => ?_)
  subst hp9
  refine r_ccVNi (c := 11) (k2 := k_X8_codeAt) (n := 1) (rest := []) hG um_X11_291 rfl kv_X8_codeAt hc_X8 (by decide) (c_X8_codeAt hG _ _ _) (by decide) rfl (Nat.le_of_ble_eq_true rfl) dX11_tokenAt_19 rfl (fun r11 C10 => ?_)
  exact r_iretX rfl dX11_tokenAt_22
def k_X11_translate : Kd := (yX11_translate, cX11_translate, 7, some .int, [])
theorem kv_X11_translate : KV k_X11_translate 3 := ⟨uw_mem 1402 (by decide +kernel) rfl, uw_mem 94 (by decide +kernel) rfl, uw_mem 1400 (by decide +kernel) rfl, uw_mem 1401 (by decide +kernel) rfl, ⟨by decide +kernel, by decide +kernel⟩, by decide +kernel, by decide +kernel⟩
set_option maxHeartbeats 8000000 in
set_option maxRecDepth 100000 in
theorem c_X11_translate {l : Launch} {Γ : Cx} {M0 : Md} (hG : GK Γ l) (a0 : Nat) (a1 : Int) (a2 : Int) (a3 : Int) (C : Cd) : Ct l Γ k_X11_translate 8 (encX gI) (emC M0) [.ref a0, wi a1, wi a2, wi a3] C (fX11_translate a0 a1 a2 a3 C) := by
  refine ct_of (by decide +kernel) rfl (Nat.le_of_ble_eq_true rfl) ?_
  refine r_lo [0, 1, 2, 3] (lo2 := [(0, .ref a0), (1, wi a1), (2, wi a2), (3, wi a3)]) rfl ?_
  unfold fX11_translate
  refine r_aload_n (x := a0) dX11_translate_0 rfl rfl ?_
  refine r_iload_n (x := a3) dX11_translate_1 rfl rfl ?_
  refine r_cxV (c := 14) (h := gR) (k2 := k_X11_titleOf) (n := 1) (rest := []) um_X11_85 rfl kv_X11_titleOf hc_X11 (by decide) (c_X11_titleOf hG _ _ _) (by decide) rfl (Nat.le_of_ble_eq_true rfl) dX11_translate_2 rfl (fun r2 C1 => ?_)
  show RunO l Γ k_X11_translate 8 (encX gI) (emC M0) 5 [(0, .ref a0), (1, wi a1), (2, wi a2), (3, wi a3)] [va_rf r2] C1 _
  refine r_pop dX11_translate_5 (by cases r2 <;> rfl) ?_
  refine r_aload_n (x := a0) dX11_translate_6 rfl rfl ?_
  refine r_iload_n (x := a1) dX11_translate_7 rfl rfl ?_
  refine r_cxV (c := 14) (h := gR) (k2 := k_X11_pageOf) (n := 1) (rest := []) um_X11_116 rfl kv_X11_pageOf hc_X11 (by decide) (c_X11_pageOf hG _ _ _) (by decide) rfl (Nat.le_of_ble_eq_true rfl) dX11_translate_8 rfl (fun r4 C3 => ?_)
  show RunO l Γ k_X11_translate 8 (encX gI) (emC M0) 11 [(0, .ref a0), (1, wi a1), (2, wi a2), (3, wi a3)] [va_rf r4] C3 _
  refine r_astoreq (lo2 := [(4, va_rf r4), (0, .ref a0), (1, wi a1), (2, wi a2), (3, wi a3)]) dX11_translate_11 (by decide) rfl ?_
  refine r_iload_n (x := a2) dX11_translate_13 rfl rfl ?_
  refine ro_iconst (v := 1) dX11_translate_14 rfl ?_
  refine r_join (P := fun (J : Cd → Option ((Int ⊕ Nat) × Cd)) => ∀  (C_28 : Cd), RunO l Γ k_X11_translate 8 (encX gI) (emC M0) 28 [] [] C_28 (J C_28)) ?_ (fun J28 hJ28 => ?_)
  · intro C_28
    exact r_throw (e := 0) (text := "no such translation") hG rfl rfl (by decide) (by decide) (by decide) (Nat.le_of_ble_eq_true rfl) dX11_translate_28 dX11_translate_31 dX11_translate_32 dX11_translate_34 dX11_translate_37
  refine r_icmp_lt (tgt := 28) dX11_translate_15 (by decide) ?_ ?_
  · refine r_lo [] (lo2 := []) rfl ?_
    exact hJ28  C3
  · refine r_iload_n (x := a2) dX11_translate_18 rfl rfl ?_
    refine ro_iconst (v := 2) dX11_translate_19 rfl ?_
    refine r_icmp_gt (tgt := 28) dX11_translate_20 (by decide) ?_ ?_
    · refine r_lo [] (lo2 := []) rfl ?_
      exact hJ28  C3
    · refine r_iload_n (x := a1) dX11_translate_23 rfl rfl ?_
      refine r_iload_n (x := a3) dX11_translate_24 rfl rfl ?_
      refine r_icmp_ne (tgt := 38) dX11_translate_25 (by decide) ?_ ?_
      · refine r_aload_n (x := a0) dX11_translate_38 rfl rfl ?_
        refine r_cgetR (c := 14) (kk := 1) hc_X11 rfl (by decide) inU_X11 (by decide) uf_X11_20 rfl (by decide) dX11_translate_39 (fun z5 => ?_)
        refine r_iload_n (x := a1) dX11_translate_42 rfl rfl ?_
        refine r_dref (fun p6 hp6 => ?_)
        subst hp6
        refine r_caald (t := 102) rfl (by decide) (by decide) dX11_translate_43 (fun z7 => ?_)
        refine r_astoreq (lo2 := [(5, va_rf z7), (4, va_rf r4), (0, .ref a0), (1, wi a1), (2, wi a2), (3, wi a3)]) dX11_translate_44 (by decide) (by cases r4 <;> rfl) ?_
        refine r_aloadq (x := z7) dX11_translate_46 rfl ?_
        refine r_dref (fun p8 hp8 => ?_)
        subst hp8
        refine r_cgetRN (c := 12) (kk := 1) hc_X9 rfl (by decide) inU_X9 (by decide) hG uf_X11_220 rfl (by decide) dX11_translate_48 (fun z9 => ?_)
        refine r_iload_n (x := a2) dX11_translate_51 rfl rfl ?_
        refine r_dref (fun p10 hp10 => ?_)
        subst hp10
        refine r_ciald dX11_translate_52 ?_
        refine r_nm (fun x6_53 => ?_)
        refine r_istore (lo2 := [(6, wi x6_53), (5, .ref p8), (4, va_rf r4), (0, .ref a0), (1, wi a1), (2, wi a2), (3, wi a3)]) dX11_translate_53 (by decide) rfl ?_
        refine r_aload (x := p8) dX11_translate_55 rfl ?_
        refine r_cgetRN (c := 12) (kk := 1) hc_X9 rfl (by decide) inU_X9 (by decide) hG uf_X11_220 rfl (by decide) dX11_translate_57 (fun z11 => ?_)
        refine r_iload_n (x := a2) dX11_translate_60 rfl rfl ?_
        refine r_iload_n (x := a3) dX11_translate_61 rfl rfl ?_
        refine r_dref (fun p12 hp12 => ?_)
        subst hp12
        refine r_ciast dX11_translate_62 (fun C13 _ _ => ?_)
        refine r_aload (x := p8) dX11_translate_63 rfl ?_
        refine r_cgetRN (c := 12) (kk := 2) hc_X9 rfl (by decide) inU_X9 (by decide) hG uf_X11_223 rfl (by decide) dX11_translate_65 (fun z14 => ?_)
        refine r_iload_n (x := a2) dX11_translate_68 rfl rfl ?_
        refine r_aloadq (x := r4) dX11_translate_69 rfl ?_
        refine r_dref (fun p15 hp15 => ?_)
        subst hp15
        refine r_cgetRN (c := 6) (kk := 1) hc_X3 rfl (by decide) inU_X3 (by decide) hG uf_X11_148 rfl (by decide) dX11_translate_71 (fun z16 => ?_)
        refine r_dref (fun p17 hp17 => ?_)
        subst hp17
        refine r_cgetIN (c := 13) (kk := 0) hc_X10 rfl (by decide) inU_X10 (by decide) hG uf_X11_226 rfl (by decide) dX11_translate_74 ?_
        refine r_dref (fun p18 hp18 => ?_)
        subst hp18
        refine r_ciast dX11_translate_77 (fun C19 _ _ => ?_)
        refine r_iload (x := x6_53) dX11_translate_78 rfl ?_
        exact r_iretX rfl dX11_translate_80
      · refine r_lo [] (lo2 := []) rfl ?_
        exact hJ28  C3
def k_X11_undo : Kd := (yX11_undo, cX11_undo, 8, some .int, [])
theorem kv_X11_undo : KV k_X11_undo 2 := ⟨uw_mem 1319 (by decide +kernel) rfl, uw_mem 94 (by decide +kernel) rfl, uw_mem 1317 (by decide +kernel) rfl, uw_mem 1318 (by decide +kernel) rfl, ⟨by decide +kernel, by decide +kernel⟩, by decide +kernel, by decide +kernel⟩
set_option maxHeartbeats 8000000 in
set_option maxRecDepth 100000 in
theorem c_X11_undo {l : Launch} {Γ : Cx} {M0 : Md} (hG : GK Γ l) (a0 : Nat) (a1 : Int) (a2 : Int) (C : Cd) : Ct l Γ k_X11_undo 12 (encX gI) (emC M0) [.ref a0, wi a1, wi a2] C (fX11_undo a0 a1 a2 C) := by
  refine ct_of (by decide +kernel) rfl (Nat.le_of_ble_eq_true rfl) ?_
  refine r_lo [0, 1, 2] (lo2 := [(0, .ref a0), (1, wi a1), (2, wi a2)]) rfl ?_
  unfold fX11_undo
  refine r_aload_n (x := a0) dX11_undo_0 rfl rfl ?_
  refine r_iload_n (x := a1) dX11_undo_1 rfl rfl ?_
  refine r_cxV (c := 14) (h := gR) (k2 := k_X11_pageOf) (n := 1) (rest := []) um_X11_116 rfl kv_X11_pageOf hc_X11 (by decide) (c_X11_pageOf hG _ _ _) (by decide) rfl (Nat.le_of_ble_eq_true rfl) dX11_undo_2 rfl (fun r2 C1 => ?_)
  show RunO l Γ k_X11_undo 12 (encX gI) (emC M0) 5 [(0, .ref a0), (1, wi a1), (2, wi a2)] [va_rf r2] C1 _
  refine r_astoreq_n (lo2 := [(3, va_rf r2), (0, .ref a0), (1, wi a1), (2, wi a2)]) dX11_undo_5 rfl (by decide) rfl ?_
  refine r_aloadq_n (x := r2) dX11_undo_6 rfl rfl ?_
  refine r_iload_n (x := a2) dX11_undo_7 rfl rfl ?_
  refine r_dref (fun p3 hp3 => ?_)
  subst hp3
  refine r_ccVNi (c := 6) (k2 := k_X3_indexOf) (n := 1) (rest := []) hG um_X11_120 rfl kv_X3_indexOf hc_X3 (by decide) (c_X3_indexOf hG _ _ _) (by decide) rfl (Nat.le_of_ble_eq_true rfl) dX11_undo_8 rfl (fun r5 C4 => ?_)
  refine r_istore (lo2 := [(4, wi r5), (3, .ref p3), (0, .ref a0), (1, wi a1), (2, wi a2)]) dX11_undo_11 (by decide) rfl ?_
  refine r_aload_n (x := p3) dX11_undo_13 rfl rfl ?_
  refine r_iload (x := r5) dX11_undo_14 rfl ?_
  refine r_ccVNr (c := 6) (k2 := k_X3_versionAtIndex) (n := 1) (rest := []) hG um_X11_126 rfl kv_X3_versionAtIndex hc_X3 (by decide) (c_X3_versionAtIndex hG _ _ _) (by decide) rfl (Nat.le_of_ble_eq_true rfl) dX11_undo_16 rfl (fun r7 C6 => ?_)
  refine r_astoreq (lo2 := [(5, va_rf r7), (4, wi r5), (3, .ref p3), (0, .ref a0), (1, wi a1), (2, wi a2)]) dX11_undo_19 (by decide) rfl ?_
  refine r_aload_n (x := p3) dX11_undo_21 rfl rfl ?_
  refine r_iload (x := r5) dX11_undo_22 rfl ?_
  refine ro_iconst (v := 1) dX11_undo_24 rfl ?_
  refine r_isub dX11_undo_25 ?_
  refine r_ccVNr (c := 6) (k2 := k_X3_versionAtIndex) (n := 1) (rest := []) hG um_X11_126 rfl kv_X3_versionAtIndex hc_X3 (by decide) (c_X3_versionAtIndex hG _ _ _) (by decide) rfl (Nat.le_of_ble_eq_true rfl) dX11_undo_26 rfl (fun r9 C8 => ?_)
  refine r_astoreq (lo2 := [(6, va_rf r9), (5, va_rf r7), (4, wi r5), (3, .ref p3), (0, .ref a0), (1, wi a1), (2, wi a2)]) dX11_undo_29 (by decide) (by cases r7 <;> rfl) ?_
  refine r_aloadq (x := r7) dX11_undo_31 rfl ?_
  refine r_join (P := fun (J : Cd → Option ((Int ⊕ Nat) × Cd)) => ∀  (C_41 : Cd), RunO l Γ k_X11_undo 12 (encX gI) (emC M0) 41 [] [] C_41 (J C_41)) ?_ (fun J41 hJ41 => ?_)
  · intro C_41
    exact r_throw (e := 2) (text := "no such version") hG rfl rfl (by decide) (by decide) (by decide) (Nat.le_of_ble_eq_true rfl) dX11_undo_41 dX11_undo_44 dX11_undo_45 dX11_undo_47 dX11_undo_50
  refine r_opt (fun hn => ?_) (fun p10 hp10 => ?_)
  · subst hn
    refine r_ifnullN (tgt := 41) dX11_undo_33 (by decide) ?_
    refine r_lo [] (lo2 := []) rfl ?_
    exact hJ41  C8
  · subst hp10
    refine r_ifnullS (a := p10) dX11_undo_33 ?_
    refine r_aloadq (x := r9) dX11_undo_36 rfl ?_
    refine r_opt (fun hn => ?_) (fun p11 hp11 => ?_)
    · subst hn
      refine r_ifnonnullN dX11_undo_38 ?_
      refine r_lo [] (lo2 := []) rfl ?_
      exact hJ41  C8
    · subst hp11
      refine r_ifnonnullS (a := p11) (tgt := 51) dX11_undo_38 (by decide) ?_
      refine r_aload_n (x := a0) dX11_undo_51 rfl rfl ?_
      refine r_aload_n (x := a0) dX11_undo_52 rfl rfl ?_
      refine r_cgetR (c := 14) (kk := 1) hc_X11 rfl (by decide) inU_X11 (by decide) uf_X11_20 rfl (by decide) dX11_undo_53 (fun z12 => ?_)
      refine r_iload_n (x := a1) dX11_undo_56 rfl rfl ?_
      refine r_dref (fun p13 hp13 => ?_)
      subst hp13
      refine r_caald (t := 102) rfl (by decide) (by decide) dX11_undo_57 (fun z14 => ?_)
      refine r_ccVi (c := 14) (k2 := k_X11_mayActAt) (n := 1) (rest := []) um_X11_91 rfl kv_X11_mayActAt hc_X11 (by decide) (c_X11_mayActAt hG _ _ _) (by decide) rfl (Nat.le_of_ble_eq_true rfl) dX11_undo_58 rfl (fun r16 C15 => ?_)
      refine r_join (P := fun (J : Int → Cd → Option ((Int ⊕ Nat) × Cd)) => ∀ (t0_103 : Int) (C_103 : Cd), RunO l Γ k_X11_undo 12 (encX gI) (emC M0) 103 [(0, .ref a0), (1, wi a1), (3, .ref p3)] [wi t0_103] C_103 (J t0_103 C_103)) ?_ (fun J103 hJ103 => ?_)
      · intro t0_103 C_103
        refine r_istore (lo2 := [(7, wi t0_103), (0, .ref a0), (1, wi a1), (3, .ref p3)]) dX11_undo_103 (by decide) rfl ?_
        refine r_iload (x := t0_103) dX11_undo_105 rfl ?_
        refine r_join (P := fun (J : Cd → Option ((Int ⊕ Nat) × Cd)) => ∀  (C_137 : Cd), RunO l Γ k_X11_undo 12 (encX gI) (emC M0) 137 [] [] C_137 (J C_137)) ?_ (fun J137 hJ137 => ?_)
        · intro C_137
          exact r_throw (e := 1) (text := "it cannot be undone") hG rfl rfl (by decide) (by decide) (by decide) (Nat.le_of_ble_eq_true rfl) dX11_undo_137 dX11_undo_140 dX11_undo_141 dX11_undo_143 dX11_undo_146
        refine r_if_eq (tgt := 137) dX11_undo_107 (by decide) ?_ ?_
        · refine r_lo [] (lo2 := []) rfl ?_
          exact hJ137  C_103
        · refine r_aload_n (x := a0) dX11_undo_110 rfl rfl ?_
          refine r_cgetR (c := 14) (kk := 5) hc_X11 rfl (by decide) inU_X11 (by decide) uf_X11_38 rfl (by decide) dX11_undo_111 (fun z17 => ?_)
          refine r_dref (fun p18 hp18 => ?_)
          subst hp18
          refine r_ccVNi (c := 11) (k2 := k_X8_isText) (n := 0) (rest := []) hG um_X11_106 rfl kv_X8_isText hc_X8 (by decide) (c_X8_isText hG _ _) (by decide) rfl (Nat.le_of_ble_eq_true rfl) dX11_undo_114 rfl (fun r20 C19 => ?_)
          refine r_if_eq (tgt := 137) dX11_undo_117 (by decide) ?_ ?_
          · refine r_lo [] (lo2 := []) rfl ?_
            exact hJ137  C19
          · refine r_aload_n (x := a0) dX11_undo_120 rfl rfl ?_
            refine r_cgetR (c := 14) (kk := 5) hc_X11 rfl (by decide) inU_X11 (by decide) uf_X11_38 rfl (by decide) dX11_undo_121 (fun z21 => ?_)
            refine r_aload_n (x := p3) dX11_undo_124 rfl rfl ?_
            refine r_cgetRN (c := 6) (kk := 1) hc_X3 rfl (by decide) inU_X3 (by decide) hG uf_X11_148 rfl (by decide) dX11_undo_125 (fun z22 => ?_)
            refine r_dref (fun p23 hp23 => ?_)
            subst hp23
            refine r_cgetRN (c := 13) (kk := 2) hc_X10 rfl (by decide) inU_X10 (by decide) hG uf_X11_130 rfl (by decide) dX11_undo_128 (fun z24 => ?_)
            refine r_dref (fun p25 hp25 => ?_)
            subst hp25
            refine r_ccVNi (c := 11) (k2 := k_X8_sameAs) (n := 1) (rest := []) hG um_X11_156 rfl kv_X8_sameAs hc_X8 (by decide) (c_X8_sameAs hG _ _ _) (by decide) rfl (Nat.le_of_ble_eq_true rfl) dX11_undo_131 rfl (fun r27 C26 => ?_)
            refine r_if_eq (tgt := 147) dX11_undo_134 (by decide) ?_ ?_
            · refine r_aload_n (x := a0) dX11_undo_147 rfl rfl ?_
              refine r_iload_n (x := a1) dX11_undo_148 rfl rfl ?_
              refine r_aload_n (x := p3) dX11_undo_149 rfl rfl ?_
              refine r_aload_n (x := a0) dX11_undo_150 rfl rfl ?_
              refine r_cgetR (c := 14) (kk := 5) hc_X11 rfl (by decide) inU_X11 (by decide) uf_X11_38 rfl (by decide) dX11_undo_151 (fun z28 => ?_)
              refine r_ccVi (c := 14) (k2 := k_X11_addNextVersion) (n := 3) (rest := []) um_X11_162 rfl kv_X11_addNextVersion hc_X11 (by decide) (c_X11_addNextVersion hG _ _ _ _ _) (by decide) rfl (Nat.le_of_ble_eq_true rfl) dX11_undo_154 rfl (fun r30 C29 => ?_)
              exact r_iretX rfl dX11_undo_157
            · refine r_lo [] (lo2 := []) rfl ?_
              exact hJ137  C26
      refine r_join (P := fun (J : Cd → Option ((Int ⊕ Nat) × Cd)) => ∀  (C_102 : Cd), RunO l Γ k_X11_undo 12 (encX gI) (emC M0) 102 [(0, .ref a0), (1, wi a1), (3, .ref p3)] [] C_102 (J C_102)) ?_ (fun J102 hJ102 => ?_)
      · intro C_102
        refine ro_iconst (v := 0) dX11_undo_102 rfl ?_
        exact hJ103 0 C_102
      refine r_if_eq (tgt := 102) dX11_undo_61 (by decide) ?_ ?_
      · refine r_lo [4, 5, 3] (lo2 := [(0, .ref a0), (1, wi a1), (3, .ref p3)]) rfl ?_
        exact hJ102  C15
      · refine r_aload_n (x := a0) dX11_undo_64 rfl rfl ?_
        refine r_cgetI (c := 14) (kk := 7) hc_X11 rfl (by decide) inU_X11 (by decide) uf_X11_45 rfl (by decide) dX11_undo_65 ?_
        refine r_bipush (v := 120) dX11_undo_68 rfl ?_
        refine r_icmp_ge (tgt := 102) dX11_undo_70 (by decide) ?_ ?_
        · refine r_lo [4, 5, 3] (lo2 := [(0, .ref a0), (1, wi a1), (3, .ref p3)]) rfl ?_
          exact hJ102  C15
        · refine r_aload_n (x := a0) dX11_undo_73 rfl rfl ?_
          refine r_aload (x := p10) dX11_undo_74 rfl ?_
          refine r_cgetRN (c := 13) (kk := 2) hc_X10 rfl (by decide) inU_X10 (by decide) hG uf_X11_130 rfl (by decide) dX11_undo_76 (fun z31 => ?_)
          refine r_aload (x := p11) dX11_undo_79 rfl ?_
          refine r_cgetRN (c := 13) (kk := 2) hc_X10 rfl (by decide) inU_X10 (by decide) hG uf_X11_130 rfl (by decide) dX11_undo_81 (fun z32 => ?_)
          refine r_aload_n (x := p3) dX11_undo_84 rfl rfl ?_
          refine r_cgetRN (c := 6) (kk := 1) hc_X3 rfl (by decide) inU_X3 (by decide) hG uf_X11_148 rfl (by decide) dX11_undo_85 (fun z33 => ?_)
          refine r_dref (fun p34 hp34 => ?_)
          subst hp34
          refine r_cgetRN (c := 13) (kk := 2) hc_X10 rfl (by decide) inU_X10 (by decide) hG uf_X11_130 rfl (by decide) dX11_undo_88 (fun z35 => ?_)
          refine ro_iconst (v := 0) dX11_undo_91 rfl ?_
          refine r_ccVi (c := 14) (k2 := k_X11_merge) (n := 4) (rest := []) um_X11_152 rfl kv_X11_merge hc_X11 (by decide) (c_X11_merge hG _ _ _ _ _ _) (by decide) rfl (Nat.le_of_ble_eq_true rfl) dX11_undo_92 rfl (fun r37 C36 => ?_)
          refine r_if_eq (tgt := 102) dX11_undo_95 (by decide) ?_ ?_
          · refine r_lo [4, 5, 3] (lo2 := [(0, .ref a0), (1, wi a1), (3, .ref p3)]) rfl ?_
            exact hJ102  C36
          · refine ro_iconst (v := 1) dX11_undo_98 rfl ?_
            refine r_goto (tgt := 103) dX11_undo_99 (by decide) ?_
            refine r_lo [4, 5, 3] (lo2 := [(0, .ref a0), (1, wi a1), (3, .ref p3)]) rfl ?_
            exact hJ103 1 C36
def k_X11_versionAt : Kd := (yX11_versionAt, cX11_versionAt, 5, some .int, [])
theorem kv_X11_versionAt : KV k_X11_versionAt 2 := ⟨uw_mem 1426 (by decide +kernel) rfl, uw_mem 94 (by decide +kernel) rfl, uw_mem 1424 (by decide +kernel) rfl, uw_mem 1425 (by decide +kernel) rfl, ⟨by decide +kernel, by decide +kernel⟩, by decide +kernel, by decide +kernel⟩
set_option maxHeartbeats 8000000 in
set_option maxRecDepth 100000 in
theorem c_X11_versionAt {l : Launch} {Γ : Cx} {M0 : Md} (hG : GK Γ l) (a0 : Nat) (a1 : Int) (a2 : Int) (C : Cd) : Ct l Γ k_X11_versionAt 7 (encX gI) (emC M0) [.ref a0, wi a1, wi a2] C (fX11_versionAt a0 a1 a2 C) := by
  refine ct_of (by decide +kernel) rfl (Nat.le_of_ble_eq_true rfl) ?_
  refine r_lo [0, 1, 2] (lo2 := [(0, .ref a0), (1, wi a1), (2, wi a2)]) rfl ?_
  unfold fX11_versionAt
  refine r_aload_n (x := a0) dX11_versionAt_0 rfl rfl ?_
  refine r_iload_n (x := a1) dX11_versionAt_1 rfl rfl ?_
  refine r_cxV (c := 14) (h := gR) (k2 := k_X11_titleOf) (n := 1) (rest := []) um_X11_85 rfl kv_X11_titleOf hc_X11 (by decide) (c_X11_titleOf hG _ _ _) (by decide) rfl (Nat.le_of_ble_eq_true rfl) dX11_versionAt_2 rfl (fun r2 C1 => ?_)
  show RunO l Γ k_X11_versionAt 7 (encX gI) (emC M0) 5 [(0, .ref a0), (1, wi a1), (2, wi a2)] [va_rf r2] C1 _
  refine r_dref (fun p3 hp3 => ?_)
  subst hp3
  refine r_cgetRN (c := 12) (kk := 3) hc_X9 rfl (by decide) inU_X9 (by decide) hG uf_X11_102 rfl (by decide) dX11_versionAt_5 (fun z4 => ?_)
  refine r_astoreq_n (lo2 := [(3, va_rf z4), (0, .ref a0), (1, wi a1), (2, wi a2)]) dX11_versionAt_8 rfl (by decide) rfl ?_
  refine r_aloadq_n (x := z4) dX11_versionAt_9 rfl rfl ?_
  refine r_join (P := fun (J : Option Nat → Cd → Option ((Int ⊕ Nat) × Cd)) => ∀ (t0_22 : Option Nat) (C_22 : Cd), RunO l Γ k_X11_versionAt 7 (encX gI) (emC M0) 22 [] [va_rf t0_22] C_22 (J t0_22 C_22)) ?_ (fun J22 hJ22 => ?_)
  · intro t0_22 C_22
    refine r_astoreq (lo2 := [(4, va_rf t0_22)]) dX11_versionAt_22 (by decide) rfl ?_
    refine r_aloadq (x := t0_22) dX11_versionAt_24 rfl ?_
    refine r_opt (fun hn => ?_) (fun p5 hp5 => ?_)
    · subst hn
      refine r_ifnonnullN dX11_versionAt_26 ?_
      exact r_throw (e := 2) (text := "no such version") hG rfl rfl (by decide) (by decide) (by decide) (Nat.le_of_ble_eq_true rfl) dX11_versionAt_29 dX11_versionAt_32 dX11_versionAt_33 dX11_versionAt_35 dX11_versionAt_38
    · subst hp5
      refine r_ifnonnullS (a := p5) (tgt := 39) dX11_versionAt_26 (by decide) ?_
      refine r_aload (x := p5) dX11_versionAt_39 rfl ?_
      refine r_cgetIN (c := 13) (kk := 0) hc_X10 rfl (by decide) inU_X10 (by decide) hG uf_X11_226 rfl (by decide) dX11_versionAt_41 ?_
      exact r_iretX rfl dX11_versionAt_44
  refine r_opt (fun hn => ?_) (fun p6 hp6 => ?_)
  · subst hn
    refine r_ifnonnullN dX11_versionAt_10 ?_
    refine r_null dX11_versionAt_13 ?_
    refine r_goto (tgt := 22) dX11_versionAt_14 (by decide) ?_
    refine r_lo [] (lo2 := []) rfl ?_
    exact hJ22 none C1
  · subst hp6
    refine r_ifnonnullS (a := p6) (tgt := 17) dX11_versionAt_10 (by decide) ?_
    refine r_aload_n (x := p6) dX11_versionAt_17 rfl rfl ?_
    refine r_iload_n (x := a2) dX11_versionAt_18 rfl rfl ?_
    refine r_ccVNr (c := 6) (k2 := k_X3_versionAtIndex) (n := 1) (rest := []) hG um_X11_126 rfl kv_X3_versionAtIndex hc_X3 (by decide) (c_X3_versionAtIndex hG _ _ _) (by decide) rfl (Nat.le_of_ble_eq_true rfl) dX11_versionAt_19 rfl (fun r8 C7 => ?_)
    refine r_lo [] (lo2 := []) rfl ?_
    exact hJ22 r8 C7
def k_X11_versions : Kd := (yX11_versions, cX11_versions, 3, some .int, [])
theorem kv_X11_versions : KV k_X11_versions 1 := ⟨uw_mem 1487 (by decide +kernel) rfl, uw_mem 94 (by decide +kernel) rfl, uw_mem 1485 (by decide +kernel) rfl, uw_mem 1486 (by decide +kernel) rfl, ⟨by decide +kernel, by decide +kernel⟩, by decide +kernel, by decide +kernel⟩
set_option maxHeartbeats 8000000 in
set_option maxRecDepth 100000 in
theorem c_X11_versions {l : Launch} {Γ : Cx} {M0 : Md} (hG : GK Γ l) (a0 : Nat) (a1 : Int) (C : Cd) : Ct l Γ k_X11_versions 7 (encX gI) (emC M0) [.ref a0, wi a1] C (fX11_versions a0 a1 C) := by
  refine ct_of (by decide +kernel) rfl (Nat.le_of_ble_eq_true rfl) ?_
  refine r_lo [0, 1] (lo2 := [(0, .ref a0), (1, wi a1)]) rfl ?_
  unfold fX11_versions
  refine r_aload_n (x := a0) dX11_versions_0 rfl rfl ?_
  refine r_iload_n (x := a1) dX11_versions_1 rfl rfl ?_
  refine r_cxV (c := 14) (h := gR) (k2 := k_X11_titleOf) (n := 1) (rest := []) um_X11_85 rfl kv_X11_titleOf hc_X11 (by decide) (c_X11_titleOf hG _ _ _) (by decide) rfl (Nat.le_of_ble_eq_true rfl) dX11_versions_2 rfl (fun r2 C1 => ?_)
  show RunO l Γ k_X11_versions 7 (encX gI) (emC M0) 5 [(0, .ref a0), (1, wi a1)] [va_rf r2] C1 _
  refine r_dref (fun p3 hp3 => ?_)
  subst hp3
  refine r_cgetRN (c := 12) (kk := 3) hc_X9 rfl (by decide) inU_X9 (by decide) hG uf_X11_102 rfl (by decide) dX11_versions_5 (fun z4 => ?_)
  refine r_astoreq_n (lo2 := [(2, va_rf z4), (0, .ref a0), (1, wi a1)]) dX11_versions_8 rfl (by decide) rfl ?_
  refine r_aloadq_n (x := z4) dX11_versions_9 rfl rfl ?_
  refine r_join (P := fun (J : Int → Cd → Option ((Int ⊕ Nat) × Cd)) => ∀ (t0_24 : Int) (C_24 : Cd), RunO l Γ k_X11_versions 7 (encX gI) (emC M0) 24 [] [wi t0_24] C_24 (J t0_24 C_24)) ?_ (fun J24 hJ24 => ?_)
  · intro t0_24 C_24
    exact r_iretX rfl dX11_versions_24
  refine r_opt (fun hn => ?_) (fun p5 hp5 => ?_)
  · subst hn
    refine r_ifnonnullN dX11_versions_10 ?_
    refine ro_iconst (v := 0) dX11_versions_13 rfl ?_
    refine r_goto (tgt := 24) dX11_versions_14 (by decide) ?_
    refine r_lo [] (lo2 := []) rfl ?_
    exact hJ24 0 C1
  · subst hp5
    refine r_ifnonnullS (a := p5) (tgt := 17) dX11_versions_10 (by decide) ?_
    refine r_aload_n (x := p5) dX11_versions_17 rfl rfl ?_
    refine r_cgetRN (c := 6) (kk := 0) hc_X3 rfl (by decide) inU_X3 (by decide) hG uf_X11_280 rfl (by decide) dX11_versions_18 (fun z6 => ?_)
    refine r_dref (fun p7 hp7 => ?_)
    subst hp7
    refine r_ccVi (c := 2) (k2 := k_AL_size) (n := 0) (rest := []) um_X11_284 rfl kv_AL_size hc_Jx4a65c (by decide) (c_AL_size hG _ _) (by decide) rfl (Nat.le_of_ble_eq_true rfl) dX11_versions_21 rfl (fun r9 C8 => ?_)
    refine r_lo [] (lo2 := []) rfl ?_
    exact hJ24 r9 C8
def k_X11_wipe : Kd := (yX11_wipe, cX11_wipe, 2, some .int, [])
theorem kv_X11_wipe : KV k_X11_wipe 0 := ⟨uw_mem 1433 (by decide +kernel) rfl, uw_mem 94 (by decide +kernel) rfl, uw_mem 1431 (by decide +kernel) rfl, uw_mem 1432 (by decide +kernel) rfl, ⟨by decide +kernel, by decide +kernel⟩, by decide +kernel, by decide +kernel⟩
set_option maxHeartbeats 8000000 in
set_option maxRecDepth 100000 in
theorem c_X11_wipe {l : Launch} {Γ : Cx} {M0 : Md} (hG : GK Γ l) (a0 : Nat) (C : Cd) : Ct l Γ k_X11_wipe 2 encI (emC M0) [.ref a0] C (fX11_wipe a0 C) := by
  refine ct_of (by decide +kernel) rfl (Nat.le_of_ble_eq_true rfl) ?_
  refine r_lo [0] (lo2 := [(0, .ref a0)]) rfl ?_
  unfold fX11_wipe
  refine r_aload_n (x := a0) dX11_wipe_0 rfl rfl ?_
  refine r_cgetR (c := 14) (kk := 3) hc_X11 rfl (by decide) inU_X11 (by decide) uf_X11_31 rfl (by decide) dX11_wipe_1 (fun z1 => ?_)
  refine r_dref (fun p2 hp2 => ?_)
  subst hp2
  refine r_cgetIN (c := 11) (kk := 2) hc_X8 rfl (by decide) inU_X8 (by decide) hG uf_X11_69 rfl (by decide) dX11_wipe_4 ?_
  refine r_nm (fun x1_7 => ?_)
  refine r_istore_n (lo2 := [(1, wi x1_7), (0, .ref a0)]) dX11_wipe_7 rfl (by decide) rfl ?_
  refine r_aload_n (x := a0) dX11_wipe_8 rfl rfl ?_
  refine r_cgetR (c := 14) (kk := 3) hc_X11 rfl (by decide) inU_X11 (by decide) uf_X11_31 rfl (by decide) dX11_wipe_9 (fun z3 => ?_)
  refine r_dref (fun p4 hp4 => ?_)
  subst hp4
  refine r_ccVNv (c := 11) (k2 := k_X8_clear) (n := 0) (rest := []) hG um_X11_80 rfl kv_X8_clear hc_X8 (by decide) (c_X8_clear hG _ _) (by decide) rfl (Nat.le_of_ble_eq_true rfl) dX11_wipe_12 rfl (fun r6 C5 => ?_)
  refine r_iload_n (x := x1_7) dX11_wipe_15 rfl rfl ?_
  exact r_iret rfl dX11_wipe_16
def k_X11_work : Kd := (yX11_work, cX11_work, 5, some .int, [])
theorem kv_X11_work : KV k_X11_work 1 := ⟨uw_mem 515 (by decide +kernel) rfl, uw_mem 94 (by decide +kernel) rfl, uw_mem 513 (by decide +kernel) rfl, uw_mem 514 (by decide +kernel) rfl, ⟨by decide +kernel, by decide +kernel⟩, by decide +kernel, by decide +kernel⟩
set_option maxHeartbeats 8000000 in
set_option maxRecDepth 100000 in
theorem c_X11_work {l : Launch} {Γ : Cx} {M0 : Md} (hG : GK Γ l) (a0 : Nat) (a1 : Int) (C : Cd) : Ct l Γ k_X11_work 8 (encX gI) (emC M0) [.ref a0, wi a1] C (fX11_work a0 a1 C) := by
  refine ct_of (by decide +kernel) rfl (Nat.le_of_ble_eq_true rfl) ?_
  refine r_lo [0, 1] (lo2 := [(0, .ref a0), (1, wi a1)]) rfl ?_
  unfold fX11_work
  refine r_iload_n (x := a1) dX11_work_0 rfl rfl ?_
  refine ro_iconst (v := 1) dX11_work_1 rfl ?_
  refine r_join (P := fun (J : Cd → Option ((Int ⊕ Nat) × Cd)) => ∀  (C_10 : Cd), RunO l Γ k_X11_work 8 (encX gI) (emC M0) 10 [] [] C_10 (J C_10)) ?_ (fun J10 hJ10 => ?_)
  · intro C_10
    exact r_throw (e := 0) (text := "not so many") hG rfl rfl (by decide) (by decide) (by decide) (Nat.le_of_ble_eq_true rfl) dX11_work_10 dX11_work_13 dX11_work_14 dX11_work_16 dX11_work_19
  refine r_icmp_lt (tgt := 10) dX11_work_2 (by decide) ?_ ?_
  · refine r_lo [] (lo2 := []) rfl ?_
    exact hJ10  C
  · refine r_iload_n (x := a1) dX11_work_5 rfl rfl ?_
    refine ro_iconst (v := 4) dX11_work_6 rfl ?_
    refine r_icmp_le (tgt := 20) dX11_work_7 (by decide) ?_ ?_
    · refine ro_iconst (v := 0) dX11_work_20 rfl ?_
      refine r_istore_n (lo2 := [(2, wi 0), (0, .ref a0), (1, wi a1)]) dX11_work_21 rfl (by decide) rfl ?_
      refine ro_iconst (v := 0) dX11_work_22 rfl ?_
      refine r_istore_n (lo2 := [(3, wi 0), (2, wi 0), (0, .ref a0), (1, wi a1)]) dX11_work_23 rfl (by decide) rfl ?_
      refine r_loop (P := fun (J : Int → Int → Cd → Option ((Int ⊕ Nat) × Cd)) => ∀ (v2_24 : Int) (v3_24 : Int) (C_24 : Cd), RunO l Γ k_X11_work 8 (encX gI) (emC M0) 24 [(0, .ref a0), (1, wi a1), (2, wi v2_24), (3, wi v3_24)] [] C_24 (J v2_24 v3_24 C_24)) ?_ (fun L24 hL24 => ?_) (fun J24 hJ24 => ?_)
      · intros; exact ro_none
      · intro v2_24 v3_24 C_24
        refine r_iload_n (x := v3_24) dX11_work_24 rfl rfl ?_
        refine r_iload_n (x := a1) dX11_work_25 rfl rfl ?_
        refine r_join (P := fun (J : Cd → Option ((Int ⊕ Nat) × Cd)) => ∀  (C_66 : Cd), RunO l Γ k_X11_work 8 (encX gI) (emC M0) 66 [(2, wi v2_24)] [] C_66 (J C_66)) ?_ (fun J66 hJ66 => ?_)
        · intro C_66
          refine r_iload_n (x := v2_24) dX11_work_66 rfl rfl ?_
          exact r_iretX rfl dX11_work_67
        refine r_icmp_ge (tgt := 66) dX11_work_26 (by decide) ?_ ?_
        · refine r_lo [2] (lo2 := [(2, wi v2_24)]) rfl ?_
          exact hJ66  C_24
        · refine r_aload_n (x := a0) dX11_work_29 rfl rfl ?_
          refine r_ccVi (c := 14) (k2 := k_X11_firstInQueue) (n := 0) (rest := []) um_X11_253 rfl kv_X11_firstInQueue hc_X11 (by decide) (c_X11_firstInQueue hG _ _) (by decide) rfl (Nat.le_of_ble_eq_true rfl) dX11_work_30 rfl (fun r2 C1 => ?_)
          refine r_istore (lo2 := [(4, wi r2), (0, .ref a0), (1, wi a1), (2, wi v2_24), (3, wi v3_24)]) dX11_work_33 (by decide) rfl ?_
          refine r_iload (x := r2) dX11_work_35 rfl ?_
          refine ro_iconst (v := (-1)) dX11_work_37 rfl ?_
          refine r_icmp_ne (tgt := 44) dX11_work_38 (by decide) ?_ ?_
          · refine r_aload_n (x := a0) dX11_work_44 rfl rfl ?_
            refine r_iload (x := r2) dX11_work_45 rfl ?_
            refine r_aload_n (x := a0) dX11_work_47 rfl rfl ?_
            refine r_cgetR (c := 14) (kk := 1) hc_X11 rfl (by decide) inU_X11 (by decide) uf_X11_20 rfl (by decide) dX11_work_48 (fun z3 => ?_)
            refine r_iload (x := r2) dX11_work_51 rfl ?_
            refine r_dref (fun p4 hp4 => ?_)
            subst hp4
            refine r_caald (t := 102) rfl (by decide) (by decide) dX11_work_53 (fun z5 => ?_)
            refine r_ccVv (c := 14) (k2 := k_X11_render) (n := 2) (rest := []) um_X11_256 rfl kv_X11_render hc_X11 (by decide) (c_X11_render hG _ _ _ _) (by decide) rfl (Nat.le_of_ble_eq_true rfl) dX11_work_54 rfl (fun r7 C6 => ?_)
            refine r_iinc (x := v2_24) (lo2 := [(2, wi (v2_24 + 1)), (4, wi r2), (0, .ref a0), (1, wi a1), (3, wi v3_24)]) dX11_work_57 rfl (by decide) rfl ?_
            refine r_iinc (x := v3_24) (lo2 := [(3, wi (v3_24 + 1)), (2, wi (v2_24 + 1)), (4, wi r2), (0, .ref a0), (1, wi a1)]) dX11_work_60 rfl (by decide) rfl ?_
            refine r_goto (tgt := 24) dX11_work_63 (by decide) ?_
            refine r_lo [3, 4, 1, 0] (lo2 := [(0, .ref a0), (1, wi a1), (2, wi (v2_24 + 1)), (3, wi (v3_24 + 1))]) rfl ?_
            exact hL24 (v2_24 + 1) (v3_24 + 1) C6
          · refine r_goto (tgt := 66) dX11_work_41 (by decide) ?_
            refine r_lo [3] (lo2 := [(2, wi v2_24)]) rfl ?_
            exact hJ66  C1
      refine r_lo [2, 3, 1, 0] (lo2 := [(0, .ref a0), (1, wi a1), (2, wi 0), (3, wi 0)]) rfl ?_
      exact hJ24 0 0 C
    · refine r_lo [] (lo2 := []) rfl ?_
      exact hJ10  C
