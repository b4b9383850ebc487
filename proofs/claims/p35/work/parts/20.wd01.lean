def k_L_digest : Kd := (yL_digest, cL_digest, 7, some .long, [])
theorem kv_L_digest : KS k_L_digest 3 := ⟨uw_mem 1509 (by decide +kernel) rfl, uw_mem 93 (by decide +kernel) rfl, uw_mem 1508 (by decide +kernel) rfl, ⟨by decide +kernel, by decide +kernel⟩, by decide +kernel, by decide +kernel⟩
set_option maxHeartbeats 8000000 in
set_option maxRecDepth 100000 in
theorem c_L_digest {l : Launch} {Γ : Cx} {M0 : Md} (hG : GK Γ l) (hX : XN Γ) (a0 : Nat) (a1 : Int) (a2 : Int) (C : Cd) : Ct l Γ k_L_digest 14 encJ (emC M0) [.ref a0, wi a1, wi a2] C (fW_digest a0 a1 a2 C) := by
  refine ct_of (by decide +kernel) rfl (Nat.le_of_ble_eq_true rfl) ?_
  refine r_lo [0, 1, 2] (lo2 := [(0, .ref a0), (1, wi a1), (2, wi a2)]) rfl ?_
  unfold fW_digest
  refine r_lconst (x := 1) dL_digest_0 rfl ?_
  refine r_lstore_n (lo2 := [(3, vl 1), (0, .ref a0), (1, wi a1), (2, wi a2)]) dL_digest_1 rfl (by decide) rfl ?_
  refine r_aload_n (x := a0) dL_digest_2 rfl rfl ?_
  refine r_iload_n (x := a1) dL_digest_3 rfl rfl ?_
  refine r_iload_n (x := a2) dL_digest_4 rfl rfl ?_
  refine ro_iconst (v := 0) dL_digest_5 rfl ?_
  refine ro_iconst (v := 0) dL_digest_6 rfl ?_
  refine r_csHi (J := fun (C_ : Cd) => C_) (k2 := k_L_does) (n := 5) (rest := []) (fun _ => rfl) kv_L_does (c_L_does (M0 := M0) hG hX a0 a1 a2 0 0 _) (by decide) um_L_132 rfl (Nat.le_of_ble_eq_true rfl) dL_digest_7 rfl (fun r1 C2 => ?_)
  show RunO l Γ k_L_digest 14 encJ (emC M0) 10 [(3, vl 1), (0, .ref a0), (1, wi a1), (2, wi a2)] [wi r1] C2 _
  refine r_istore (lo2 := [(5, wi r1), (3, vl 1), (0, .ref a0), (1, wi a1), (2, wi a2)]) dL_digest_10 (by decide) rfl ?_
  refine ro_iconst (v := 1) dL_digest_12 rfl ?_
  refine r_istore (lo2 := [(6, wi 1), (5, wi r1), (3, vl 1), (0, .ref a0), (1, wi a1), (2, wi a2)]) dL_digest_13 (by decide) rfl ?_
  refine r_loop (P := fun (J : Int → Int → Int → Cd → Option (Int × Cd)) => ∀ (v3_15 : Int) (v5_15 : Int) (v6_15 : Int) (C_15 : Cd), RunO l Γ k_L_digest 14 encJ (emC M0) 15 [(0, .ref a0), (1, wi a1), (2, wi a2), (3, vl v3_15), (5, wi v5_15), (6, wi v6_15)] [] C_15 (J v3_15 v5_15 v6_15 C_15)) ?_ (fun L15 hL15 => ?_) (fun J15 hJ15 => ?_)
  · intros; exact ro_none
  · intro v3_15 v5_15 v6_15 C_15
    refine r_iload (x := v5_15) dL_digest_15 rfl ?_
    refine r_if_lt (tgt := 51) dL_digest_17 (by decide) ?_ ?_
    · refine r_lload_n (x := v3_15) dL_digest_51 rfl rfl ?_
      exact r_lret rfl dL_digest_52
    · refine r_lload_n (x := v3_15) dL_digest_20 rfl rfl ?_
      refine r_ldc2 (v := 1000003) uc_L_23 dL_digest_21 ?_
      refine r_lmul dL_digest_24 ?_
      refine r_iload (x := v5_15) dL_digest_25 rfl ?_
      refine r_i2l dL_digest_27 ?_
      refine r_ladd dL_digest_28 ?_
      refine r_ldc2 (v := 17) uc_L_25 dL_digest_29 ?_
      refine r_ladd dL_digest_32 ?_
      refine r_nml (fun x3_33 => ?_)
      refine r_lstore_n (lo2 := [(3, vl x3_33), (0, .ref a0), (1, wi a1), (2, wi a2), (5, wi v5_15), (6, wi v6_15)]) dL_digest_33 rfl (by decide) rfl ?_
      refine r_aload_n (x := a0) dL_digest_34 rfl rfl ?_
      refine r_iload_n (x := a1) dL_digest_35 rfl rfl ?_
      refine r_iload_n (x := a2) dL_digest_36 rfl rfl ?_
      refine r_iload (x := v6_15) dL_digest_37 rfl ?_
      refine ro_iconst (v := 0) dL_digest_39 rfl ?_
      refine r_csHi (J := fun (C_ : Cd) => C_) (k2 := k_L_does) (n := 5) (rest := []) (fun _ => rfl) kv_L_does (c_L_does (M0 := M0) hG hX a0 a1 a2 v6_15 0 _) (by decide) um_L_132 rfl (Nat.le_of_ble_eq_true rfl) dL_digest_40 rfl (fun r3 C4 => ?_)
      show RunO l Γ k_L_digest 14 encJ (emC M0) 43 [(3, vl x3_33), (0, .ref a0), (1, wi a1), (2, wi a2), (5, wi v5_15), (6, wi v6_15)] [wi r3] C4 _
      refine r_istore (lo2 := [(5, wi r3), (3, vl x3_33), (0, .ref a0), (1, wi a1), (2, wi a2), (6, wi v6_15)]) dL_digest_43 (by decide) rfl ?_
      refine r_iinc (x := v6_15) (lo2 := [(6, wi (v6_15 + 1)), (5, wi r3), (3, vl x3_33), (0, .ref a0), (1, wi a1), (2, wi a2)]) dL_digest_45 rfl (by decide) rfl ?_
      refine r_goto (tgt := 15) dL_digest_48 (by decide) ?_
      refine r_lo [3, 4, 5, 2, 1, 0] (lo2 := [(0, .ref a0), (1, wi a1), (2, wi a2), (3, vl x3_33), (5, wi r3), (6, wi (v6_15 + 1))]) rfl ?_
      exact hL15 x3_33 r3 (v6_15 + 1) C4
  refine r_lo [3, 4, 5, 2, 1, 0] (lo2 := [(0, .ref a0), (1, wi a1), (2, wi a2), (3, vl 1), (5, wi r1), (6, wi 1)]) rfl ?_
  exact hJ15 1 r1 1 C2
def k_L_drafts : Kd := (yL_drafts, cL_drafts, 7, some .boolean, [])
theorem kv_L_drafts : KS k_L_drafts 2 := ⟨uw_mem 1429 (by decide +kernel) rfl, uw_mem 93 (by decide +kernel) rfl, uw_mem 1428 (by decide +kernel) rfl, ⟨by decide +kernel, by decide +kernel⟩, by decide +kernel, by decide +kernel⟩
set_option maxHeartbeats 8000000 in
set_option maxRecDepth 100000 in
theorem b_L_drafts_96 {l : Launch} {Γ : Cx} {M0 : Md} (hG : GK Γ l) {sT : Nat → Nat} (hS : STs Γ sT) (a0 : Nat) (a1 : Int) (v5_19 : Int) (v3_31 : Int) (v6_31 : Int) (L31 : Int → Int → Int → Cd → Option (Int × Cd)) (hL31 : ∀ (v3_31 : Int) (v4_31 : Int) (v6_31 : Int) (C_31 : Cd), RunO l Γ k_L_drafts 7 encI (emC M0) 31 [(0, .ref a0), (1, vl a1), (3, wi v3_31), (4, wi v4_31), (5, wi v5_19), (6, wi v6_31)] [] C_31 (L31 v3_31 v4_31 v6_31 C_31)) : ∀ (t0_96 : Int) (C_96 : Cd), RunO l Γ k_L_drafts 7 encI (emC M0) 96 [(0, .ref a0), (1, vl a1), (3, wi (v3_31 + 1)), (5, wi v5_19), (6, wi v6_31)] [wi t0_96] C_96 (fW_drafts_96 L31 v3_31 v6_31 t0_96 C_96) := by
  intro t0_96 C_96
  unfold fW_drafts_96
  refine r_istore (lo2 := [(4, wi t0_96), (0, .ref a0), (1, vl a1), (3, wi (v3_31 + 1)), (5, wi v5_19), (6, wi v6_31)]) dL_drafts_96 (by decide) rfl ?_
  refine r_iinc (x := v6_31) (lo2 := [(6, wi (v6_31 + 1)), (4, wi t0_96), (0, .ref a0), (1, vl a1), (3, wi (v3_31 + 1)), (5, wi v5_19)]) dL_drafts_98 rfl (by decide) rfl ?_
  refine r_goto (tgt := 31) dL_drafts_101 (by decide) ?_
  refine r_lo [2, 3, 4, 1, 5, 0] (lo2 := [(0, .ref a0), (1, vl a1), (3, wi (v3_31 + 1)), (4, wi t0_96), (5, wi v5_19), (6, wi (v6_31 + 1))]) rfl ?_
  exact hL31 (v3_31 + 1) t0_96 (v6_31 + 1) C_96
set_option maxHeartbeats 8000000 in
set_option maxRecDepth 100000 in
theorem b_L_drafts_95 {l : Launch} {Γ : Cx} {M0 : Md} (hG : GK Γ l) {sT : Nat → Nat} (hS : STs Γ sT) (a0 : Nat) (a1 : Int) (v5_19 : Int) (v3_31 : Int) (v6_31 : Int) (J96 : Int → Cd → Option (Int × Cd)) (hJ96 : ∀ (t0_96 : Int) (C_96 : Cd), RunO l Γ k_L_drafts 7 encI (emC M0) 96 [(0, .ref a0), (1, vl a1), (3, wi (v3_31 + 1)), (5, wi v5_19), (6, wi v6_31)] [wi t0_96] C_96 (J96 t0_96 C_96)) : ∀ (C_95 : Cd), RunO l Γ k_L_drafts 7 encI (emC M0) 95 [(0, .ref a0), (1, vl a1), (3, wi (v3_31 + 1)), (5, wi v5_19), (6, wi v6_31)] [] C_95 (fW_drafts_95 J96 C_95) := by
  intro C_95
  unfold fW_drafts_95
  refine ro_iconst (v := 0) dL_drafts_95 rfl ?_
  exact hJ96 0 C_95
set_option maxHeartbeats 8000000 in
set_option maxRecDepth 100000 in
theorem b_L_drafts_31 {l : Launch} {Γ : Cx} {M0 : Md} (hG : GK Γ l) {sT : Nat → Nat} (hS : STs Γ sT) (a0 : Nat) (a1 : Int) (v5_19 : Int) (L19 : Int → Int → Int → Cd → Option (Int × Cd)) (hL19 : ∀ (v3_19 : Int) (v4_19 : Int) (v5_19 : Int) (C_19 : Cd), RunO l Γ k_L_drafts 7 encI (emC M0) 19 [(0, .ref a0), (1, vl a1), (3, wi v3_19), (4, wi v4_19), (5, wi v5_19)] [] C_19 (L19 v3_19 v4_19 v5_19 C_19)) (L31 : Int → Int → Int → Cd → Option (Int × Cd)) (hL31 : ∀ (v3_31 : Int) (v4_31 : Int) (v6_31 : Int) (C_31 : Cd), RunO l Γ k_L_drafts 7 encI (emC M0) 31 [(0, .ref a0), (1, vl a1), (3, wi v3_31), (4, wi v4_31), (5, wi v5_19), (6, wi v6_31)] [] C_31 (L31 v3_31 v4_31 v6_31 C_31)) : ∀ (v3_31 : Int) (v4_31 : Int) (v6_31 : Int) (C_31 : Cd), RunO l Γ k_L_drafts 7 encI (emC M0) 31 [(0, .ref a0), (1, vl a1), (3, wi v3_31), (4, wi v4_31), (5, wi v5_19), (6, wi v6_31)] [] C_31 (fW_drafts_31 a0 a1 L19 v5_19 L31 v3_31 v4_31 v6_31 C_31) := by
  intro v3_31 v4_31 v6_31 C_31
  unfold fW_drafts_31
  refine r_lload_n (x := a1) dL_drafts_31 rfl rfl ?_
  refine r_iload (x := v5_19) dL_drafts_32 rfl ?_
  refine r_csi (J := fun (_ : Unit) => C_31) (k2 := k_L_macro) (n := 2) (rest := []) (fun _ => rfl) rfl kv_L_macro (c_L_macro (σ0 := _) a1 v5_19) (by decide) um_L_19 rfl (Nat.le_of_ble_eq_true rfl) dL_drafts_34 rfl (fun r4 _ => ?_)
  show RunO l Γ k_L_drafts 7 encI (emC M0) 37 [(0, .ref a0), (1, vl a1), (3, wi v3_31), (4, wi v4_31), (5, wi v5_19), (6, wi v6_31)] [wi r4] C_31 _
  refine r_iload (x := v6_31) dL_drafts_37 rfl ?_
  refine r_csi (J := fun (_ : Unit) => C_31) (k2 := k_L_code) (n := 2) (rest := []) (fun _ => rfl) rfl kv_L_code (c_L_code (σ0 := _) r4 v6_31) (by decide) um_L_113 rfl (Nat.le_of_ble_eq_true rfl) dL_drafts_39 rfl (fun r5 _ => ?_)
  show RunO l Γ k_L_drafts 7 encI (emC M0) 42 [(0, .ref a0), (1, vl a1), (3, wi v3_31), (4, wi v4_31), (5, wi v5_19), (6, wi v6_31)] [wi r5] C_31 _
  refine r_if_lt (tgt := 104) dL_drafts_42 (by decide) ?_ ?_
  · refine r_iinc (x := v5_19) (lo2 := [(5, wi (v5_19 + 1)), (0, .ref a0), (1, vl a1), (3, wi v3_31), (4, wi v4_31), (6, wi v6_31)]) dL_drafts_104 rfl (by decide) rfl ?_
    refine r_goto (tgt := 19) dL_drafts_107 (by decide) ?_
    refine r_lo [1, 2, 3, 4, 0] (lo2 := [(0, .ref a0), (1, vl a1), (3, wi v3_31), (4, wi v4_31), (5, wi (v5_19 + 1))]) rfl ?_
    exact hL19 v3_31 v4_31 (v5_19 + 1) C_31
  · refine r_iinc (x := v3_31) (lo2 := [(3, wi (v3_31 + 1)), (0, .ref a0), (1, vl a1), (4, wi v4_31), (5, wi v5_19), (6, wi v6_31)]) dL_drafts_45 rfl (by decide) rfl ?_
    refine r_iload (x := v4_31) dL_drafts_48 rfl ?_
    refine r_join (P := fun (J : Int → Cd → Option (Int × Cd)) => ∀ (t0_96 : Int) (C_96 : Cd), RunO l Γ k_L_drafts 7 encI (emC M0) 96 [(0, .ref a0), (1, vl a1), (3, wi (v3_31 + 1)), (5, wi v5_19), (6, wi v6_31)] [wi t0_96] C_96 (J t0_96 C_96)) ?_ (fun J96 hJ96 => ?_)
    · exact b_L_drafts_96 hG hS a0 a1 v5_19 v3_31 v6_31 L31 hL31
    refine r_join (P := fun (J : Cd → Option (Int × Cd)) => ∀ (C_95 : Cd), RunO l Γ k_L_drafts 7 encI (emC M0) 95 [(0, .ref a0), (1, vl a1), (3, wi (v3_31 + 1)), (5, wi v5_19), (6, wi v6_31)] [] C_95 (J C_95)) ?_ (fun J95 hJ95 => ?_)
    · exact b_L_drafts_95 hG hS a0 a1 v5_19 v3_31 v6_31 J96 hJ96
    refine r_if_eq (tgt := 95) dL_drafts_50 (by decide) ?_ ?_
    · refine r_lo [1, 2, 0, 4, 5] (lo2 := [(0, .ref a0), (1, vl a1), (3, wi (v3_31 + 1)), (5, wi v5_19), (6, wi v6_31)]) rfl ?_
      exact hJ95 C_31
    · refine r_aload_n (x := a0) dL_drafts_53 rfl rfl ?_
      refine r_lload_n (x := a1) dL_drafts_54 rfl rfl ?_
      refine r_iload (x := v5_19) dL_drafts_55 rfl ?_
      refine r_csi (J := fun (_ : Unit) => C_31) (k2 := k_L_macro) (n := 2) (rest := [.ref a0]) (fun _ => rfl) rfl kv_L_macro (c_L_macro (σ0 := _) a1 v5_19) (by decide) um_L_19 rfl (Nat.le_of_ble_eq_true rfl) dL_drafts_57 rfl (fun r6 _ => ?_)
      show RunO l Γ k_L_drafts 7 encI (emC M0) 60 [(3, wi (v3_31 + 1)), (0, .ref a0), (1, vl a1), (4, wi v4_31), (5, wi v5_19), (6, wi v6_31)] [wi r6, .ref a0] C_31 _
      refine r_iload (x := v6_31) dL_drafts_60 rfl ?_
      refine r_csi (J := fun (_ : Unit) => C_31) (k2 := k_L_code) (n := 2) (rest := [.ref a0]) (fun _ => rfl) rfl kv_L_code (c_L_code (σ0 := _) r6 v6_31) (by decide) um_L_113 rfl (Nat.le_of_ble_eq_true rfl) dL_drafts_62 rfl (fun r7 _ => ?_)
      show RunO l Γ k_L_drafts 7 encI (emC M0) 65 [(3, wi (v3_31 + 1)), (0, .ref a0), (1, vl a1), (4, wi v4_31), (5, wi v5_19), (6, wi v6_31)] [wi r7, .ref a0] C_31 _
      refine r_sipush (v := 1000) dL_drafts_65 rfl ?_
      refine r_idiv dL_drafts_68 (by decide) ?_
      refine r_lload_n (x := a1) dL_drafts_69 rfl rfl ?_
      refine r_iload (x := v5_19) dL_drafts_70 rfl ?_
      refine r_csi (J := fun (_ : Unit) => C_31) (k2 := k_L_macro) (n := 2) (rest := [wi (divI r7 1000), .ref a0]) (fun _ => rfl) rfl kv_L_macro (c_L_macro (σ0 := _) a1 v5_19) (by decide) um_L_19 rfl (Nat.le_of_ble_eq_true rfl) dL_drafts_72 rfl (fun r8 _ => ?_)
      show RunO l Γ k_L_drafts 7 encI (emC M0) 75 [(3, wi (v3_31 + 1)), (0, .ref a0), (1, vl a1), (4, wi v4_31), (5, wi v5_19), (6, wi v6_31)] [wi r8, wi (divI r7 1000), .ref a0] C_31 _
      refine r_iload (x := v6_31) dL_drafts_75 rfl ?_
      refine r_csi (J := fun (_ : Unit) => C_31) (k2 := k_L_code) (n := 2) (rest := [wi (divI r7 1000), .ref a0]) (fun _ => rfl) rfl kv_L_code (c_L_code (σ0 := _) r8 v6_31) (by decide) um_L_113 rfl (Nat.le_of_ble_eq_true rfl) dL_drafts_77 rfl (fun r9 _ => ?_)
      show RunO l Γ k_L_drafts 7 encI (emC M0) 80 [(3, wi (v3_31 + 1)), (0, .ref a0), (1, vl a1), (4, wi v4_31), (5, wi v5_19), (6, wi v6_31)] [wi r9, wi (divI r7 1000), .ref a0] C_31 _
      refine r_sipush (v := 1000) dL_drafts_80 rfl ?_
      refine r_irem dL_drafts_83 (by decide) ?_
      refine r_cx1 (M0 := M0) (J := fun (C_ : Cd) => C_) (k2 := k_X11_token) (c := 14) (T := TX11) (N := 10) (n := 2) (rest := []) (fun _ => rfl) rfl um_L_116 kv_X11_token hc_X11 (by decide) (c_X11_token hG _ _ _ hS _) (by decide) rfl (Nat.le_of_ble_eq_true rfl) dL_drafts_84 rfl (fun r10 C11 => ?_)
      show RunO l Γ k_L_drafts 7 encI (emC M0) 87 [(3, wi (v3_31 + 1)), (0, .ref a0), (1, vl a1), (4, wi v4_31), (5, wi v5_19), (6, wi v6_31)] [wi r10] C11 _
      refine r_iload_n (x := v3_31 + 1) dL_drafts_87 rfl rfl ?_
      refine r_icmp_ne (tgt := 95) dL_drafts_88 (by decide) ?_ ?_
      · refine r_lo [1, 2, 0, 4, 5] (lo2 := [(0, .ref a0), (1, vl a1), (3, wi (v3_31 + 1)), (5, wi v5_19), (6, wi v6_31)]) rfl ?_
        exact hJ95 C11
      · refine ro_iconst (v := 1) dL_drafts_91 rfl ?_
        refine r_goto (tgt := 96) dL_drafts_92 (by decide) ?_
        refine r_lo [1, 2, 0, 4, 5] (lo2 := [(0, .ref a0), (1, vl a1), (3, wi (v3_31 + 1)), (5, wi v5_19), (6, wi v6_31)]) rfl ?_
        exact hJ96 1 C11
set_option maxHeartbeats 8000000 in
set_option maxRecDepth 100000 in
theorem b_L_drafts_19 {l : Launch} {Γ : Cx} {M0 : Md} (hG : GK Γ l) {sT : Nat → Nat} (hS : STs Γ sT) (a0 : Nat) (a1 : Int) (L19 : Int → Int → Int → Cd → Option (Int × Cd)) (hL19 : ∀ (v3_19 : Int) (v4_19 : Int) (v5_19 : Int) (C_19 : Cd), RunO l Γ k_L_drafts 7 encI (emC M0) 19 [(0, .ref a0), (1, vl a1), (3, wi v3_19), (4, wi v4_19), (5, wi v5_19)] [] C_19 (L19 v3_19 v4_19 v5_19 C_19)) : ∀ (v3_19 : Int) (v4_19 : Int) (v5_19 : Int) (C_19 : Cd), RunO l Γ k_L_drafts 7 encI (emC M0) 19 [(0, .ref a0), (1, vl a1), (3, wi v3_19), (4, wi v4_19), (5, wi v5_19)] [] C_19 (fW_drafts_19 a0 a1 L19 v3_19 v4_19 v5_19 C_19) := by
  intro v3_19 v4_19 v5_19 C_19
  unfold fW_drafts_19
  refine r_iload (x := v5_19) dL_drafts_19 rfl ?_
  refine r_lload_n (x := a1) dL_drafts_21 rfl rfl ?_
  refine r_csi (J := fun (_ : Unit) => C_19) (k2 := k_L_macros) (n := 1) (rest := [wi v5_19]) (fun _ => rfl) rfl kv_L_macros (c_L_macros (σ0 := _) a1) (by decide) um_L_7 rfl (Nat.le_of_ble_eq_true rfl) dL_drafts_22 rfl (fun r3 _ => ?_)
  show RunO l Γ k_L_drafts 7 encI (emC M0) 25 [(0, .ref a0), (1, vl a1), (3, wi v3_19), (4, wi v4_19), (5, wi v5_19)] [wi r3, wi v5_19] C_19 _
  refine r_icmp_ge (tgt := 110) dL_drafts_25 (by decide) ?_ ?_
  · refine r_iload (x := v4_19) dL_drafts_110 rfl ?_
    exact r_zret rfl dL_drafts_112
  · refine ro_iconst (v := 0) dL_drafts_28 rfl ?_
    refine r_istore (lo2 := [(6, wi 0), (0, .ref a0), (1, vl a1), (3, wi v3_19), (4, wi v4_19), (5, wi v5_19)]) dL_drafts_29 (by decide) rfl ?_
    refine r_loop (P := fun (J : Int → Int → Int → Cd → Option (Int × Cd)) => ∀ (v3_31 : Int) (v4_31 : Int) (v6_31 : Int) (C_31 : Cd), RunO l Γ k_L_drafts 7 encI (emC M0) 31 [(0, .ref a0), (1, vl a1), (3, wi v3_31), (4, wi v4_31), (5, wi v5_19), (6, wi v6_31)] [] C_31 (J v3_31 v4_31 v6_31 C_31)) ?_ (fun L31 hL31 => ?_) (fun J31 hJ31 => ?_)
    · intros; exact ro_none
    · exact b_L_drafts_31 hG hS a0 a1 v5_19 L19 hL19 L31 hL31
    refine r_lo [1, 2, 3, 4, 5, 0] (lo2 := [(0, .ref a0), (1, vl a1), (3, wi v3_19), (4, wi v4_19), (5, wi v5_19), (6, wi 0)]) rfl ?_
    exact hJ31 v3_19 v4_19 0 C_19
set_option maxHeartbeats 8000000 in
set_option maxRecDepth 100000 in
theorem b_L_drafts_14 {l : Launch} {Γ : Cx} {M0 : Md} (hG : GK Γ l) {sT : Nat → Nat} (hS : STs Γ sT) (a0 : Nat) (a1 : Int) : ∀ (t0_14 : Int) (C_14 : Cd), RunO l Γ k_L_drafts 7 encI (emC M0) 14 [(0, .ref a0), (1, vl a1), (3, wi 0)] [wi t0_14] C_14 (fW_drafts_14 a0 a1 t0_14 C_14) := by
  intro t0_14 C_14
  unfold fW_drafts_14
  refine r_istore (lo2 := [(4, wi t0_14), (0, .ref a0), (1, vl a1), (3, wi 0)]) dL_drafts_14 (by decide) rfl ?_
  refine ro_iconst (v := 0) dL_drafts_16 rfl ?_
  refine r_istore (lo2 := [(5, wi 0), (4, wi t0_14), (0, .ref a0), (1, vl a1), (3, wi 0)]) dL_drafts_17 (by decide) rfl ?_
  refine r_loop (P := fun (J : Int → Int → Int → Cd → Option (Int × Cd)) => ∀ (v3_19 : Int) (v4_19 : Int) (v5_19 : Int) (C_19 : Cd), RunO l Γ k_L_drafts 7 encI (emC M0) 19 [(0, .ref a0), (1, vl a1), (3, wi v3_19), (4, wi v4_19), (5, wi v5_19)] [] C_19 (J v3_19 v4_19 v5_19 C_19)) ?_ (fun L19 hL19 => ?_) (fun J19 hJ19 => ?_)
  · intros; exact ro_none
  · exact b_L_drafts_19 hG hS a0 a1 L19 hL19
  refine r_lo [2, 3, 4, 1, 0] (lo2 := [(0, .ref a0), (1, vl a1), (3, wi 0), (4, wi t0_14), (5, wi 0)]) rfl ?_
  exact hJ19 0 t0_14 0 C_14
set_option maxHeartbeats 8000000 in
set_option maxRecDepth 100000 in
theorem c_L_drafts {l : Launch} {Γ : Cx} {M0 : Md} (hG : GK Γ l) {sT : Nat → Nat} (hS : STs Γ sT) (a0 : Nat) (a1 : Int) (C : Cd) : Ct l Γ k_L_drafts 7 encI (emC M0) [.ref a0, vl a1] C (fW_drafts a0 a1 C) := by
  refine ct_of (by decide +kernel) rfl (Nat.le_of_ble_eq_true rfl) ?_
  refine r_lo [0, 1] (lo2 := [(0, .ref a0), (1, vl a1)]) rfl ?_
  unfold fW_drafts
  refine ro_iconst (v := 0) dL_drafts_0 rfl ?_
  refine r_istore_n (lo2 := [(3, wi 0), (0, .ref a0), (1, vl a1)]) dL_drafts_1 rfl (by decide) rfl ?_
  refine r_aload_n (x := a0) dL_drafts_2 rfl rfl ?_
  refine r_cc1 (M0 := M0) (J := fun (C_ : Cd) => C_) (k2 := k_X11_wipe) (c := 14) (T := TX11) (N := 10) (n := 0) (rest := []) (fun _ => rfl) rfl um_L_109 kv_X11_wipe hc_X11 (by decide) (c_X11_wipe hG _ _) (by decide) rfl (Nat.le_of_ble_eq_true rfl) dL_drafts_3 rfl (fun r1 C2 => ?_)
  show RunO l Γ k_L_drafts 7 encI (emC M0) 6 [(3, wi 0), (0, .ref a0), (1, vl a1)] [wi r1] C2 _
  refine r_join (P := fun (J : Int → Cd → Option (Int × Cd)) => ∀ (t0_14 : Int) (C_14 : Cd), RunO l Γ k_L_drafts 7 encI (emC M0) 14 [(0, .ref a0), (1, vl a1), (3, wi 0)] [wi t0_14] C_14 (J t0_14 C_14)) ?_ (fun J14 hJ14 => ?_)
  · exact b_L_drafts_14 hG hS a0 a1
  refine r_if_lt (tgt := 13) dL_drafts_6 (by decide) ?_ ?_
  · refine ro_iconst (v := 0) dL_drafts_13 rfl ?_
    refine r_lo [1, 2, 0] (lo2 := [(0, .ref a0), (1, vl a1), (3, wi 0)]) rfl ?_
    exact hJ14 0 C2
  · refine ro_iconst (v := 1) dL_drafts_9 rfl ?_
    refine r_goto (tgt := 14) dL_drafts_10 (by decide) ?_
    refine r_lo [1, 2, 0] (lo2 := [(0, .ref a0), (1, vl a1), (3, wi 0)]) rfl ?_
    exact hJ14 1 C2
def k_L_drawn : Kd := (yL_drawn, cL_drawn, 7, some .long, [])
theorem kv_L_drawn : KS k_L_drawn 1 := ⟨uw_mem 1472 (by decide +kernel) rfl, uw_mem 93 (by decide +kernel) rfl, uw_mem 1471 (by decide +kernel) rfl, ⟨by decide +kernel, by decide +kernel⟩, by decide +kernel, by decide +kernel⟩
set_option maxHeartbeats 8000000 in
set_option maxRecDepth 100000 in
theorem b_L_drawn_130 {l : Launch} {Γ : Cx} {σ0 : St} (a0 : Int) (x1_5 : Int) (v2_37 : Int) (v4_37 : Int) (t0_85 : Int) (L37 : Int → Int → Option (Int × Unit)) (hL37 : ∀ (v2_37 : Int) (v4_37 : Int), RunO l Γ k_L_drawn 1 encJ (emU σ0) 37 [(0, wi a0), (1, wi x1_5), (2, vl v2_37), (4, wi v4_37)] [] () (L37 v2_37 v4_37)) : ∀ (t0_130 : Int), RunO l Γ k_L_drawn 1 encJ (emU σ0) 130 [(0, wi a0), (1, wi x1_5), (4, wi v4_37)] [wi t0_130, wi 16, wi t0_85, vl (lshlI v2_37 10)] () (fW_drawn_130 L37 v2_37 v4_37 t0_85 t0_130) := by
  intro t0_130
  unfold fW_drawn_130
  refine r_imul dL_drawn_130 ?_
  refine r_iadd dL_drawn_131 ?_
  refine r_i2l dL_drawn_132 ?_
  refine r_lor dL_drawn_133 ?_
  refine r_nml (fun x2_134 => ?_)
  refine r_lstore_n (lo2 := [(2, vl x2_134), (0, wi a0), (1, wi x1_5), (4, wi v4_37)]) dL_drawn_134 rfl (by decide) rfl ?_
  refine r_iinc (x := v4_37) (lo2 := [(4, wi (v4_37 + 1)), (2, vl x2_134), (0, wi a0), (1, wi x1_5)]) dL_drawn_135 rfl (by decide) rfl ?_
  refine r_goto (tgt := 37) dL_drawn_138 (by decide) ?_
  refine r_lo [2, 3, 1, 0] (lo2 := [(0, wi a0), (1, wi x1_5), (2, vl x2_134), (4, wi (v4_37 + 1))]) rfl ?_
  exact hL37 x2_134 (v4_37 + 1)
set_option maxHeartbeats 8000000 in
set_option maxRecDepth 100000 in
theorem b_L_drawn_129 {l : Launch} {Γ : Cx} {σ0 : St} (a0 : Int) (x1_5 : Int) (v2_37 : Int) (v4_37 : Int) (x5_53 : Int) (t0_85 : Int) (J130 : Int → Option (Int × Unit)) (hJ130 : ∀ (t0_130 : Int), RunO l Γ k_L_drawn 1 encJ (emU σ0) 130 [(0, wi a0), (1, wi x1_5), (4, wi v4_37)] [wi t0_130, wi 16, wi t0_85, vl (lshlI v2_37 10)] () (J130 t0_130)) : ∀ (t0_129 : Int), RunO l Γ k_L_drawn 1 encJ (emU σ0) 129 [(0, wi a0), (1, wi x1_5), (4, wi v4_37)] [wi t0_129, wi (divI x5_53 13), wi 16, wi t0_85, vl (lshlI v2_37 10)] () (fW_drawn_129 x5_53 J130 t0_129) := by
  intro t0_129
  unfold fW_drawn_129
  refine r_iremT dL_drawn_129 ?_
  exact hJ130 (remI (divI x5_53 13) t0_129)
set_option maxHeartbeats 8000000 in
set_option maxRecDepth 100000 in
theorem b_L_drawn_122 {l : Launch} {Γ : Cx} {σ0 : St} (a0 : Int) (x1_5 : Int) (v2_37 : Int) (v4_37 : Int) (x5_53 : Int) (t0_85 : Int) (J129 : Int → Option (Int × Unit)) (hJ129 : ∀ (t0_129 : Int), RunO l Γ k_L_drawn 1 encJ (emU σ0) 129 [(0, wi a0), (1, wi x1_5), (4, wi v4_37)] [wi t0_129, wi (divI x5_53 13), wi 16, wi t0_85, vl (lshlI v2_37 10)] () (J129 t0_129)) : RunO l Γ k_L_drawn 1 encJ (emU σ0) 122 [(0, wi a0), (1, wi x1_5), (4, wi v4_37)] [wi (divI x5_53 13), wi 16, wi t0_85, vl (lshlI v2_37 10)] () (fW_drawn_122 J129) := by
  unfold fW_drawn_122
  refine r_bipush (v := 60) dL_drawn_122 rfl ?_
  refine r_goto (tgt := 129) dL_drawn_124 (by decide) ?_
  exact hJ129 60
set_option maxHeartbeats 8000000 in
set_option maxRecDepth 100000 in
theorem b_L_drawn_85 {l : Launch} {Γ : Cx} {σ0 : St} (a0 : Int) (x1_5 : Int) (v2_37 : Int) (v4_37 : Int) (x5_53 : Int) (L37 : Int → Int → Option (Int × Unit)) (hL37 : ∀ (v2_37 : Int) (v4_37 : Int), RunO l Γ k_L_drawn 1 encJ (emU σ0) 37 [(0, wi a0), (1, wi x1_5), (2, vl v2_37), (4, wi v4_37)] [] () (L37 v2_37 v4_37)) : ∀ (t0_85 : Int), RunO l Γ k_L_drawn 1 encJ (emU σ0) 85 [(0, wi a0), (1, wi x1_5), (2, vl v2_37), (4, wi v4_37), (5, wi x5_53)] [wi t0_85] () (fW_drawn_85 L37 v2_37 v4_37 x5_53 t0_85) := by
  intro t0_85
  unfold fW_drawn_85
  refine r_istore (lo2 := [(6, wi t0_85), (0, wi a0), (1, wi x1_5), (2, vl v2_37), (4, wi v4_37), (5, wi x5_53)]) dL_drawn_85 (by decide) rfl ?_
  refine r_lload_n (x := v2_37) dL_drawn_87 rfl rfl ?_
  refine r_bipush (v := 10) dL_drawn_88 rfl ?_
  refine r_lshl dL_drawn_90 ?_
  refine r_iload (x := t0_85) dL_drawn_91 rfl ?_
  refine r_bipush (v := 16) dL_drawn_93 rfl ?_
  refine r_iload (x := t0_85) dL_drawn_95 rfl ?_
  refine ro_iconst (v := 4) dL_drawn_97 rfl ?_
  refine r_join (P := fun (J : Int → Option (Int × Unit)) => ∀ (t0_130 : Int), RunO l Γ k_L_drawn 1 encJ (emU σ0) 130 [(0, wi a0), (1, wi x1_5), (4, wi v4_37)] [wi t0_130, wi 16, wi t0_85, vl (lshlI v2_37 10)] () (J t0_130)) ?_ (fun J130 hJ130 => ?_)
  · exact b_L_drawn_130 a0 x1_5 v2_37 v4_37 t0_85 L37 hL37
  refine r_icmp_ne (tgt := 105) dL_drawn_98 (by decide) ?_ ?_
  · refine r_iload (x := x5_53) dL_drawn_105 rfl ?_
    refine r_bipush (v := 13) dL_drawn_107 rfl ?_
    refine r_idiv dL_drawn_109 (by decide) ?_
    refine r_iload (x := t0_85) dL_drawn_110 rfl ?_
    refine r_join (P := fun (J : Int → Option (Int × Unit)) => ∀ (t0_129 : Int), RunO l Γ k_L_drawn 1 encJ (emU σ0) 129 [(0, wi a0), (1, wi x1_5), (4, wi v4_37)] [wi t0_129, wi (divI x5_53 13), wi 16, wi t0_85, vl (lshlI v2_37 10)] () (J t0_129)) ?_ (fun J129 hJ129 => ?_)
    · exact b_L_drawn_129 a0 x1_5 v2_37 v4_37 x5_53 t0_85 J130 hJ130
    refine r_join (P := fun (J : Option (Int × Unit)) => RunO l Γ k_L_drawn 1 encJ (emU σ0) 122 [(0, wi a0), (1, wi x1_5), (4, wi v4_37)] [wi (divI x5_53 13), wi 16, wi t0_85, vl (lshlI v2_37 10)] () J) ?_ (fun J122 hJ122 => ?_)
    · exact b_L_drawn_122 a0 x1_5 v2_37 v4_37 x5_53 t0_85 J129 hJ129
    refine r_if_eq (tgt := 122) dL_drawn_112 (by decide) ?_ ?_
    · refine r_lo [1, 2, 4] (lo2 := [(0, wi a0), (1, wi x1_5), (4, wi v4_37)]) rfl ?_
      exact hJ122
    · refine r_iload (x := t0_85) dL_drawn_115 rfl ?_
      refine r_bipush (v := 7) dL_drawn_117 rfl ?_
      refine r_icmp_le (tgt := 127) dL_drawn_119 (by decide) ?_ ?_
      · refine r_bipush (v := 8) dL_drawn_127 rfl ?_
        refine r_lo [1, 2, 4] (lo2 := [(0, wi a0), (1, wi x1_5), (4, wi v4_37)]) rfl ?_
        exact hJ129 8
      · refine r_lo [1, 2, 4] (lo2 := [(0, wi a0), (1, wi x1_5), (4, wi v4_37)]) rfl ?_
        exact hJ122
  · refine ro_iconst (v := 0) dL_drawn_101 rfl ?_
    refine r_goto (tgt := 130) dL_drawn_102 (by decide) ?_
    refine r_lo [1, 2, 4] (lo2 := [(0, wi a0), (1, wi x1_5), (4, wi v4_37)]) rfl ?_
    exact hJ130 0
set_option maxHeartbeats 8000000 in
set_option maxRecDepth 100000 in
theorem b_L_drawn_37 {l : Launch} {Γ : Cx} {σ0 : St} (a0 : Int) (x1_5 : Int) (L37 : Int → Int → Option (Int × Unit)) (hL37 : ∀ (v2_37 : Int) (v4_37 : Int), RunO l Γ k_L_drawn 1 encJ (emU σ0) 37 [(0, wi a0), (1, wi x1_5), (2, vl v2_37), (4, wi v4_37)] [] () (L37 v2_37 v4_37)) : ∀ (v2_37 : Int) (v4_37 : Int), RunO l Γ k_L_drawn 1 encJ (emU σ0) 37 [(0, wi a0), (1, wi x1_5), (2, vl v2_37), (4, wi v4_37)] [] () (fW_drawn_37 a0 x1_5 L37 v2_37 v4_37) := by
  intro v2_37 v4_37
  unfold fW_drawn_37
  refine r_iload (x := v4_37) dL_drawn_37 rfl ?_
  refine r_iload_n (x := x1_5) dL_drawn_39 rfl rfl ?_
  refine r_icmp_ge (tgt := 141) dL_drawn_40 (by decide) ?_ ?_
  · refine r_lload_n (x := v2_37) dL_drawn_141 rfl rfl ?_
    exact r_lret rfl dL_drawn_142
  · refine r_iload_n (x := a0) dL_drawn_43 rfl rfl ?_
    refine r_bipush (v := 7) dL_drawn_44 rfl ?_
    refine r_bipush (v := 13) dL_drawn_46 rfl ?_
    refine r_iload (x := v4_37) dL_drawn_48 rfl ?_
    refine r_imul dL_drawn_50 ?_
    refine r_iadd dL_drawn_51 ?_
    refine r_idivT dL_drawn_52 ?_
    refine r_nm (fun x5_53 => ?_)
    refine r_istore (lo2 := [(5, wi x5_53), (0, wi a0), (1, wi x1_5), (2, vl v2_37), (4, wi v4_37)]) dL_drawn_53 (by decide) rfl ?_
    refine r_iload (x := x5_53) dL_drawn_55 rfl ?_
    refine r_bipush (v := 13) dL_drawn_57 rfl ?_
    refine r_irem dL_drawn_59 (by decide) ?_
    refine r_bipush (v := 10) dL_drawn_60 rfl ?_
    refine r_join (P := fun (J : Int → Option (Int × Unit)) => ∀ (t0_85 : Int), RunO l Γ k_L_drawn 1 encJ (emU σ0) 85 [(0, wi a0), (1, wi x1_5), (2, vl v2_37), (4, wi v4_37), (5, wi x5_53)] [wi t0_85] () (J t0_85)) ?_ (fun J85 hJ85 => ?_)
    · exact b_L_drawn_85 a0 x1_5 v2_37 v4_37 x5_53 L37 hL37
    refine r_icmp_ge (tgt := 73) dL_drawn_62 (by decide) ?_ ?_
    · refine r_iload (x := x5_53) dL_drawn_73 rfl ?_
      refine ro_iconst (v := 2) dL_drawn_75 rfl ?_
      refine r_irem dL_drawn_76 (by decide) ?_
      refine r_if_ne (tgt := 84) dL_drawn_77 (by decide) ?_ ?_
      · refine ro_iconst (v := 0) dL_drawn_84 rfl ?_
        refine r_lo [1, 2, 3, 4, 0] (lo2 := [(0, wi a0), (1, wi x1_5), (2, vl v2_37), (4, wi v4_37), (5, wi x5_53)]) rfl ?_
        exact hJ85 0
      · refine ro_iconst (v := 2) dL_drawn_80 rfl ?_
        refine r_goto (tgt := 85) dL_drawn_81 (by decide) ?_
        refine r_lo [1, 2, 3, 4, 0] (lo2 := [(0, wi a0), (1, wi x1_5), (2, vl v2_37), (4, wi v4_37), (5, wi x5_53)]) rfl ?_
        exact hJ85 2
    · refine r_iload (x := x5_53) dL_drawn_65 rfl ?_
      refine r_bipush (v := 13) dL_drawn_67 rfl ?_
      refine r_irem dL_drawn_69 (by decide) ?_
      refine r_goto (tgt := 85) dL_drawn_70 (by decide) ?_
      refine r_lo [1, 2, 3, 4, 0] (lo2 := [(0, wi a0), (1, wi x1_5), (2, vl v2_37), (4, wi v4_37), (5, wi x5_53)]) rfl ?_
      exact hJ85 (remI x5_53 13)
set_option maxHeartbeats 8000000 in
set_option maxRecDepth 100000 in
theorem c_L_drawn {l : Launch} {Γ : Cx} {σ0 : St} (a0 : Int)  : Ct l Γ k_L_drawn 1 encJ (emU σ0) [wi a0] () (fW_drawn a0) := by
  refine ct_of (by decide +kernel) rfl (Nat.le_of_ble_eq_true rfl) ?_
  refine r_lo [0] (lo2 := [(0, wi a0)]) rfl ?_
  unfold fW_drawn
  refine ro_iconst (v := 1) dL_drawn_0 rfl ?_
  refine r_iload_n (x := a0) dL_drawn_1 rfl rfl ?_
  refine ro_iconst (v := 5) dL_drawn_2 rfl ?_
  refine r_irem dL_drawn_3 (by decide) ?_
  refine r_iadd dL_drawn_4 ?_
  refine r_nm (fun x1_5 => ?_)
  refine r_istore_n (lo2 := [(1, wi x1_5), (0, wi a0)]) dL_drawn_5 rfl (by decide) rfl ?_
  refine r_lconst (x := 1) dL_drawn_6 rfl ?_
  refine r_lstore_n (lo2 := [(2, vl 1), (1, wi x1_5), (0, wi a0)]) dL_drawn_7 rfl (by decide) rfl ?_
  refine r_iload_n (x := a0) dL_drawn_8 rfl rfl ?_
  refine r_bipush (v := 11) dL_drawn_9 rfl ?_
  refine r_irem dL_drawn_11 (by decide) ?_
  refine r_if_ne (tgt := 34) dL_drawn_12 (by decide) ?_ ?_
  · refine ro_iconst (v := 0) dL_drawn_34 rfl ?_
    refine r_istore (lo2 := [(4, wi 0), (2, vl 1), (1, wi x1_5), (0, wi a0)]) dL_drawn_35 (by decide) rfl ?_
    refine r_loop (P := fun (J : Int → Int → Option (Int × Unit)) => ∀ (v2_37 : Int) (v4_37 : Int), RunO l Γ k_L_drawn 1 encJ (emU σ0) 37 [(0, wi a0), (1, wi x1_5), (2, vl v2_37), (4, wi v4_37)] [] () (J v2_37 v4_37)) ?_ (fun L37 hL37 => ?_) (fun J37 hJ37 => ?_)
    · intros; exact ro_none
    · exact b_L_drawn_37 a0 x1_5 L37 hL37
    refine r_lo [3, 2, 1, 0] (lo2 := [(0, wi a0), (1, wi x1_5), (2, vl 1), (4, wi 0)]) rfl ?_
    exact hJ37 1 0
  · refine r_ldc2 (v := 1024) uc_L_130 dL_drawn_15 ?_
    refine r_bipush (v := 10) dL_drawn_18 rfl ?_
    refine r_bipush (v := 16) dL_drawn_20 rfl ?_
    refine r_iload_n (x := a0) dL_drawn_22 rfl rfl ?_
    refine r_bipush (v := 11) dL_drawn_23 rfl ?_
    refine r_idiv dL_drawn_25 (by decide) ?_
    refine r_bipush (v := 8) dL_drawn_26 rfl ?_
    refine r_irem dL_drawn_28 (by decide) ?_
    refine r_imul dL_drawn_29 ?_
    refine r_iadd dL_drawn_30 ?_
    refine r_i2l dL_drawn_31 ?_
    refine r_lor dL_drawn_32 ?_
    exact r_lret rfl dL_drawn_33
def k_L_members : Kd := (yL_members, cL_members, 4, some .int, [])
theorem kv_L_members : KS k_L_members 2 := ⟨uw_mem 761 (by decide +kernel) rfl, uw_mem 93 (by decide +kernel) rfl, uw_mem 760 (by decide +kernel) rfl, ⟨by decide +kernel, by decide +kernel⟩, by decide +kernel, by decide +kernel⟩
set_option maxHeartbeats 8000000 in
set_option maxRecDepth 100000 in
theorem c_L_members {l : Launch} {Γ : Cx} {ad : Nat → Nat} {K0 : Cd} (h : wOn Γ) (hm : ∀ k, k ≤ 10 → ad k ≠ 0) (a1 : Int) (E : Rw) : Ct l Γ k_L_members 1 encI (emW ad K0) [.ref (ad 6), wi a1] E (fW_members a1 E) := by
  refine ct_of (by decide +kernel) rfl (Nat.le_of_ble_eq_true rfl) ?_
  refine r_lo [0, 1] (lo2 := [(0, .ref (ad 6)), (1, wi a1)]) rfl ?_
  unfold fW_members
  refine ro_iconst (v := 0) dL_members_0 rfl ?_
  refine r_istore_n (lo2 := [(2, wi 0), (0, .ref (ad 6)), (1, wi a1)]) dL_members_1 rfl (by decide) rfl ?_
  refine ro_iconst (v := 0) dL_members_2 rfl ?_
  refine r_istore_n (lo2 := [(3, wi 0), (2, wi 0), (0, .ref (ad 6)), (1, wi a1)]) dL_members_3 rfl (by decide) rfl ?_
  refine r_loop (P := fun (J : Int → Int → Rw → Option (Int × Rw)) => ∀ (v2_4 : Int) (v3_4 : Int) (E_4 : Rw), RunO l Γ k_L_members 1 encI (emW ad K0) 4 [(0, .ref (ad 6)), (1, wi a1), (2, wi v2_4), (3, wi v3_4)] [] E_4 (J v2_4 v3_4 E_4)) ?_ (fun L4 hL4 => ?_) (fun J4 hJ4 => ?_)
  · intros; exact ro_none
  · intro v2_4 v3_4 E_4
    refine r_iload_n (x := v3_4) dL_members_4 rfl rfl ?_
    refine r_bipush (v := 8) dL_members_5 rfl ?_
    refine r_icmp_ge (tgt := 46) dL_members_7 (by decide) ?_ ?_
    · refine r_iload_n (x := v2_4) dL_members_46 rfl rfl ?_
      exact r_iret rfl dL_members_47
    · refine r_iload_n (x := v2_4) dL_members_10 rfl rfl ?_
      refine r_aload_n (x := ad 6) dL_members_11 rfl rfl ?_
      refine r_bipush (v := 7) dL_members_12 rfl ?_
      refine r_iload_n (x := v3_4) dL_members_14 rfl rfl ?_
      refine r_imul dL_members_15 ?_
      refine r_wiald h (by decide) (hm 6 (by decide)) dL_members_16 ?_
      refine r_join (P := fun (J : Int → Rw → Option (Int × Rw)) => ∀ (t0_36 : Int) (E_36 : Rw), RunO l Γ k_L_members 1 encI (emW ad K0) 36 [(0, .ref (ad 6)), (1, wi a1), (3, wi v3_4)] [wi t0_36, wi v2_4] E_36 (J t0_36 E_36)) ?_ (fun J36 hJ36 => ?_)
      · intro t0_36 E_36
        refine r_iload_n (x := v3_4) dL_members_36 rfl rfl ?_
        refine r_ishl dL_members_37 ?_
        refine r_ior dL_members_38 ?_
        refine r_nm (fun x2_39 => ?_)
        refine r_istore_n (lo2 := [(2, wi x2_39), (0, .ref (ad 6)), (1, wi a1), (3, wi v3_4)]) dL_members_39 rfl (by decide) rfl ?_
        refine r_iinc (x := v3_4) (lo2 := [(3, wi (v3_4 + 1)), (2, wi x2_39), (0, .ref (ad 6)), (1, wi a1)]) dL_members_40 rfl (by decide) rfl ?_
        refine r_goto (tgt := 4) dL_members_43 (by decide) ?_
        refine r_lo [2, 3, 1, 0] (lo2 := [(0, .ref (ad 6)), (1, wi a1), (2, wi x2_39), (3, wi (v3_4 + 1))]) rfl ?_
        exact hL4 x2_39 (v3_4 + 1) E_36
      refine r_if_le (tgt := 35) dL_members_17 (by decide) ?_ ?_
      · refine ro_iconst (v := 0) dL_members_35 rfl ?_
        refine r_lo [0, 1, 3] (lo2 := [(0, .ref (ad 6)), (1, wi a1), (3, wi v3_4)]) rfl ?_
        exact hJ36 0 E_4
      · refine r_aload_n (x := ad 6) dL_members_20 rfl rfl ?_
        refine r_bipush (v := 7) dL_members_21 rfl ?_
        refine r_iload_n (x := v3_4) dL_members_23 rfl rfl ?_
        refine r_imul dL_members_24 ?_
        refine ro_iconst (v := 4) dL_members_25 rfl ?_
        refine r_iadd dL_members_26 ?_
        refine r_wiald h (by decide) (hm 6 (by decide)) dL_members_27 ?_
        refine r_iload_n (x := a1) dL_members_28 rfl rfl ?_
        refine r_ishr dL_members_29 ?_
        refine ro_iconst (v := 1) dL_members_30 rfl ?_
        refine r_iand dL_members_31 ?_
        refine r_goto (tgt := 36) dL_members_32 (by decide) ?_
        refine r_lo [0, 1, 3] (lo2 := [(0, .ref (ad 6)), (1, wi a1), (3, wi v3_4)]) rfl ?_
        exact hJ36 (andI (shrI (E_4 6 (ix ((7 * v3_4) + 4))) a1) 1) E_4
  refine r_lo [2, 3, 1, 0] (lo2 := [(0, .ref (ad 6)), (1, wi a1), (2, wi 0), (3, wi 0)]) rfl ?_
  exact hJ4 0 0 E
def k_L_many : Kd := (yL_many, cL_many, 3, some .int, [])
theorem kv_L_many : KS k_L_many 1 := ⟨uw_mem 764 (by decide +kernel) rfl, uw_mem 93 (by decide +kernel) rfl, uw_mem 763 (by decide +kernel) rfl, ⟨by decide +kernel, by decide +kernel⟩, by decide +kernel, by decide +kernel⟩
set_option maxHeartbeats 8000000 in
set_option maxRecDepth 100000 in
theorem c_L_many {l : Launch} {Γ : Cx} {σ0 : St} (a0 : Int)  : Ct l Γ k_L_many 1 encI (emU σ0) [wi a0] () (fW_many a0) := by
  refine ct_of (by decide +kernel) rfl (Nat.le_of_ble_eq_true rfl) ?_
  refine r_lo [0] (lo2 := [(0, wi a0)]) rfl ?_
  unfold fW_many
  refine ro_iconst (v := 0) dL_many_0 rfl ?_
  refine r_istore_n (lo2 := [(1, wi 0), (0, wi a0)]) dL_many_1 rfl (by decide) rfl ?_
  refine r_iload_n (x := a0) dL_many_2 rfl rfl ?_
  refine r_istore_n (lo2 := [(2, wi a0), (1, wi 0), (0, wi a0)]) dL_many_3 rfl (by decide) rfl ?_
  refine r_loop (P := fun (J : Int → Int → Option (Int × Unit)) => ∀ (v1_4 : Int) (v2_4 : Int), RunO l Γ k_L_many 1 encI (emU σ0) 4 [(1, wi v1_4), (2, wi v2_4)] [] () (J v1_4 v2_4)) ?_ (fun L4 hL4 => ?_) (fun J4 hJ4 => ?_)
  · intros; exact ro_none
  · intro v1_4 v2_4
    refine r_iload_n (x := v2_4) dL_many_4 rfl rfl ?_
    refine r_if_le (tgt := 21) dL_many_5 (by decide) ?_ ?_
    · refine r_iload_n (x := v1_4) dL_many_21 rfl rfl ?_
      exact r_iret rfl dL_many_22
    · refine r_iload_n (x := v1_4) dL_many_8 rfl rfl ?_
      refine r_iload_n (x := v2_4) dL_many_9 rfl rfl ?_
      refine ro_iconst (v := 1) dL_many_10 rfl ?_
      refine r_iand dL_many_11 ?_
      refine r_iadd dL_many_12 ?_
      refine r_nm (fun x1_13 => ?_)
      refine r_istore_n (lo2 := [(1, wi x1_13), (2, wi v2_4)]) dL_many_13 rfl (by decide) rfl ?_
      refine r_iload_n (x := v2_4) dL_many_14 rfl rfl ?_
      refine ro_iconst (v := 1) dL_many_15 rfl ?_
      refine r_ishr dL_many_16 ?_
      refine r_nm (fun x2_17 => ?_)
      refine r_istore_n (lo2 := [(2, wi x2_17), (1, wi x1_13)]) dL_many_17 rfl (by decide) rfl ?_
      refine r_goto (tgt := 4) dL_many_18 (by decide) ?_
      refine r_lo [1, 0] (lo2 := [(1, wi x1_13), (2, wi x2_17)]) rfl ?_
      exact hL4 x1_13 x2_17
  refine r_lo [1, 0] (lo2 := [(1, wi 0), (2, wi a0)]) rfl ?_
  exact hJ4 0 a0
def k_L_present : Kd := (yL_present, cL_present, 7, some .int, [])
theorem kv_L_present : KS k_L_present 4 := ⟨uw_mem 737 (by decide +kernel) rfl, uw_mem 93 (by decide +kernel) rfl, uw_mem 736 (by decide +kernel) rfl, ⟨by decide +kernel, by decide +kernel⟩, by decide +kernel, by decide +kernel⟩
set_option maxHeartbeats 8000000 in
set_option maxRecDepth 100000 in
theorem c_L_present {l : Launch} {Γ : Cx} {ad : Nat → Nat} {K0 : Cd} (h : wOn Γ) (hm : ∀ k, k ≤ 10 → ad k ≠ 0) (a3 : Int) (E : Rw) : Ct l Γ k_L_present 1 encI (emW ad K0) [.ref (ad 0), .ref (ad 1), .ref (ad 2), wi a3] E (fW_present a3 E) := by
  refine ct_of (by decide +kernel) rfl (Nat.le_of_ble_eq_true rfl) ?_
  refine r_lo [0, 1, 2, 3] (lo2 := [(0, .ref (ad 0)), (1, .ref (ad 1)), (2, .ref (ad 2)), (3, wi a3)]) rfl ?_
  unfold fW_present
  refine ro_iconst (v := (-1)) dL_present_0 rfl ?_
  refine r_istore (lo2 := [(4, wi (-1)), (0, .ref (ad 0)), (1, .ref (ad 1)), (2, .ref (ad 2)), (3, wi a3)]) dL_present_1 (by decide) rfl ?_
  refine ro_iconst (v := 0) dL_present_3 rfl ?_
  refine r_istore (lo2 := [(5, wi 0), (4, wi (-1)), (0, .ref (ad 0)), (1, .ref (ad 1)), (2, .ref (ad 2)), (3, wi a3)]) dL_present_4 (by decide) rfl ?_
  refine r_loop (P := fun (J : Int → Int → Rw → Option (Int × Rw)) => ∀ (v4_6 : Int) (v5_6 : Int) (E_6 : Rw), RunO l Γ k_L_present 1 encI (emW ad K0) 6 [(0, .ref (ad 0)), (1, .ref (ad 1)), (2, .ref (ad 2)), (3, wi a3), (4, wi v4_6), (5, wi v5_6)] [] E_6 (J v4_6 v5_6 E_6)) ?_ (fun L6 hL6 => ?_) (fun J6 hJ6 => ?_)
  · intros; exact ro_none
  · intro v4_6 v5_6 E_6
    refine r_iload (x := v5_6) dL_present_6 rfl ?_
    refine r_aload_n (x := ad 0) dL_present_8 rfl rfl ?_
    refine ro_iconst (v := 0) dL_present_9 rfl ?_
    refine r_wiald h (by decide) (hm 0 (by decide)) dL_present_10 ?_
    refine r_join (P := fun (J : Rw → Option (Int × Rw)) => ∀ (E_94 : Rw), RunO l Γ k_L_present 1 encI (emW ad K0) 94 [(4, wi v4_6)] [] E_94 (J E_94)) ?_ (fun J94 hJ94 => ?_)
    · intro E_94
      refine r_iload (x := v4_6) dL_present_94 rfl ?_
      exact r_iret rfl dL_present_96
    refine r_icmp_ge (tgt := 94) dL_present_11 (by decide) ?_ ?_
    · refine r_lo [4] (lo2 := [(4, wi v4_6)]) rfl ?_
      exact hJ94 E_6
    · refine r_iload_n (x := a3) dL_present_14 rfl rfl ?_
      refine r_bipush (v := 8) dL_present_15 rfl ?_
      refine r_icmp_ge (tgt := 94) dL_present_17 (by decide) ?_ ?_
      · refine r_lo [4] (lo2 := [(4, wi v4_6)]) rfl ?_
        exact hJ94 E_6
      · refine r_aload_n (x := ad 1) dL_present_20 rfl rfl ?_
        refine r_iload_n (x := a3) dL_present_21 rfl rfl ?_
        refine r_bipush (v := 8) dL_present_22 rfl ?_
        refine r_irem dL_present_24 (by decide) ?_
        refine r_wiald h (by decide) (hm 1 (by decide)) dL_present_25 ?_
        refine r_if_le (tgt := 94) dL_present_26 (by decide) ?_ ?_
        · refine r_lo [4] (lo2 := [(4, wi v4_6)]) rfl ?_
          exact hJ94 E_6
        · refine r_aload_n (x := ad 2) dL_present_29 rfl rfl ?_
          refine ro_iconst (v := 2) dL_present_30 rfl ?_
          refine r_iload (x := v5_6) dL_present_31 rfl ?_
          refine r_imul dL_present_33 ?_
          refine r_wiald h (by decide) (hm 2 (by decide)) dL_present_34 ?_
          refine r_aload_n (x := ad 1) dL_present_35 rfl rfl ?_
          refine r_iload_n (x := a3) dL_present_36 rfl rfl ?_
          refine r_wiald h (by decide) (hm 1 (by decide)) dL_present_37 ?_
          refine ro_iconst (v := 1) dL_present_38 rfl ?_
          refine r_isub dL_present_39 ?_
          refine r_join (P := fun (J : Int → Rw → Option (Int × Rw)) => ∀ (t0_48 : Int) (E_48 : Rw), RunO l Γ k_L_present 1 encI (emW ad K0) 48 [(0, .ref (ad 0)), (1, .ref (ad 1)), (2, .ref (ad 2)), (3, wi a3), (4, wi v4_6), (5, wi v5_6)] [wi t0_48] E_48 (J t0_48 E_48)) ?_ (fun J48 hJ48 => ?_)
          · intro t0_48 E_48
            refine r_istore (lo2 := [(6, wi t0_48), (0, .ref (ad 0)), (1, .ref (ad 1)), (2, .ref (ad 2)), (3, wi a3), (4, wi v4_6), (5, wi v5_6)]) dL_present_48 (by decide) rfl ?_
            refine r_iload (x := t0_48) dL_present_50 rfl ?_
            refine r_join (P := fun (J : Int → Rw → Option (Int × Rw)) => ∀ (t0_86 : Int) (E_86 : Rw), RunO l Γ k_L_present 1 encI (emW ad K0) 86 [(0, .ref (ad 0)), (1, .ref (ad 1)), (2, .ref (ad 2)), (3, wi a3), (5, wi v5_6)] [wi t0_86] E_86 (J t0_86 E_86)) ?_ (fun J86 hJ86 => ?_)
            · intro t0_86 E_86
              refine r_istore (lo2 := [(4, wi t0_86), (0, .ref (ad 0)), (1, .ref (ad 1)), (2, .ref (ad 2)), (3, wi a3), (5, wi v5_6)]) dL_present_86 (by decide) rfl ?_
              refine r_iinc (x := v5_6) (lo2 := [(5, wi (v5_6 + 1)), (4, wi t0_86), (0, .ref (ad 0)), (1, .ref (ad 1)), (2, .ref (ad 2)), (3, wi a3)]) dL_present_88 rfl (by decide) rfl ?_
              refine r_goto (tgt := 6) dL_present_91 (by decide) ?_
              refine r_lo [2, 3, 4, 5, 1, 0] (lo2 := [(0, .ref (ad 0)), (1, .ref (ad 1)), (2, .ref (ad 2)), (3, wi a3), (4, wi t0_86), (5, wi (v5_6 + 1))]) rfl ?_
              exact hL6 t0_86 (v5_6 + 1) E_86
            refine r_join (P := fun (J : Rw → Option (Int × Rw)) => ∀ (E_84 : Rw), RunO l Γ k_L_present 1 encI (emW ad K0) 84 [(0, .ref (ad 0)), (1, .ref (ad 1)), (2, .ref (ad 2)), (3, wi a3), (4, wi v4_6), (5, wi v5_6)] [] E_84 (J E_84)) ?_ (fun J84 hJ84 => ?_)
            · intro E_84
              refine r_iload (x := v4_6) dL_present_84 rfl ?_
              refine r_lo [0, 1, 2, 3, 5] (lo2 := [(0, .ref (ad 0)), (1, .ref (ad 1)), (2, .ref (ad 2)), (3, wi a3), (5, wi v5_6)]) rfl ?_
              exact hJ86 v4_6 E_84
            refine r_if_eq (tgt := 84) dL_present_52 (by decide) ?_ ?_
            · refine r_lo [1, 2, 3, 4, 5, 6] (lo2 := [(0, .ref (ad 0)), (1, .ref (ad 1)), (2, .ref (ad 2)), (3, wi a3), (4, wi v4_6), (5, wi v5_6)]) rfl ?_
              exact hJ84 E_48
            · refine r_iload (x := v4_6) dL_present_55 rfl ?_
              refine r_join (P := fun (J : Rw → Option (Int × Rw)) => ∀ (E_79 : Rw), RunO l Γ k_L_present 1 encI (emW ad K0) 79 [(0, .ref (ad 0)), (1, .ref (ad 1)), (2, .ref (ad 2)), (3, wi a3), (5, wi v5_6)] [] E_79 (J E_79)) ?_ (fun J79 hJ79 => ?_)
              · intro E_79
                refine r_iload (x := v5_6) dL_present_79 rfl ?_
                refine r_goto (tgt := 86) dL_present_81 (by decide) ?_
                exact hJ86 v5_6 E_79
              refine r_if_lt (tgt := 79) dL_present_57 (by decide) ?_ ?_
              · refine r_lo [1, 2, 3, 4, 6] (lo2 := [(0, .ref (ad 0)), (1, .ref (ad 1)), (2, .ref (ad 2)), (3, wi a3), (5, wi v5_6)]) rfl ?_
                exact hJ79 E_48
              · refine r_aload_n (x := ad 2) dL_present_60 rfl rfl ?_
                refine ro_iconst (v := 2) dL_present_61 rfl ?_
                refine r_iload (x := v5_6) dL_present_62 rfl ?_
                refine r_imul dL_present_64 ?_
                refine ro_iconst (v := 1) dL_present_65 rfl ?_
                refine r_iadd dL_present_66 ?_
                refine r_wiald h (by decide) (hm 2 (by decide)) dL_present_67 ?_
                refine r_aload_n (x := ad 2) dL_present_68 rfl rfl ?_
                refine ro_iconst (v := 2) dL_present_69 rfl ?_
                refine r_iload (x := v4_6) dL_present_70 rfl ?_
                refine r_imul dL_present_72 ?_
                refine ro_iconst (v := 1) dL_present_73 rfl ?_
                refine r_iadd dL_present_74 ?_
                refine r_wiald h (by decide) (hm 2 (by decide)) dL_present_75 ?_
                refine r_icmp_lt (tgt := 84) dL_present_76 (by decide) ?_ ?_
                · refine r_lo [1, 2, 3, 4, 5, 6] (lo2 := [(0, .ref (ad 0)), (1, .ref (ad 1)), (2, .ref (ad 2)), (3, wi a3), (4, wi v4_6), (5, wi v5_6)]) rfl ?_
                  exact hJ84 E_48
                · refine r_lo [1, 2, 3, 4, 6] (lo2 := [(0, .ref (ad 0)), (1, .ref (ad 1)), (2, .ref (ad 2)), (3, wi a3), (5, wi v5_6)]) rfl ?_
                  exact hJ79 E_48
          refine r_icmp_ne (tgt := 47) dL_present_40 (by decide) ?_ ?_
          · refine ro_iconst (v := 0) dL_present_47 rfl ?_
            exact hJ48 0 E_6
          · refine ro_iconst (v := 1) dL_present_43 rfl ?_
            refine r_goto (tgt := 48) dL_present_44 (by decide) ?_
            exact hJ48 1 E_6
  refine r_lo [2, 3, 4, 5, 1, 0] (lo2 := [(0, .ref (ad 0)), (1, .ref (ad 1)), (2, .ref (ad 2)), (3, wi a3), (4, wi (-1)), (5, wi 0)]) rfl ?_
  exact hJ6 (-1) 0 E
def k_L_gives : Kd := (yL_gives, cL_gives, 14, some .long, [])
theorem kv_L_gives : KS k_L_gives 9 := ⟨uw_mem 753 (by decide +kernel) rfl, uw_mem 93 (by decide +kernel) rfl, uw_mem 752 (by decide +kernel) rfl, ⟨by decide +kernel, by decide +kernel⟩, by decide +kernel, by decide +kernel⟩
set_option maxHeartbeats 8000000 in
set_option maxRecDepth 100000 in
theorem b_L_gives_259 {l : Launch} {Γ : Cx} {ad : Nat → Nat} {K0 : Cd} (h : wOn Γ) (hm : ∀ k, k ≤ 10 → ad k ≠ 0) (kz : Nat) (hz : kz = 10 ∨ kz = 11) (hz0 : ad kz ≠ 0) : ∀ (v10_259 : Int) (E_259 : Rw), RunO l Γ k_L_gives 2 encJ (emW ad K0) 259 [(10, vl v10_259)] [] E_259 (fW_gives_259 v10_259 E_259) := by
  intro v10_259 E_259
  unfold fW_gives_259
  refine r_lload (x := v10_259) dL_gives_259 rfl ?_
  exact r_lret rfl dL_gives_261
set_option maxHeartbeats 8000000 in
set_option maxRecDepth 100000 in
theorem b_L_gives_33 {l : Launch} {Γ : Cx} {ad : Nat → Nat} {K0 : Cd} (h : wOn Γ) (hm : ∀ k, k ≤ 10 → ad k ≠ 0) (kz : Nat) (a5 : Int) (a8 : Int) (hz : kz = 10 ∨ kz = 11) (hz0 : ad kz ≠ 0) (J259 : Int → Rw → Option (Int × Rw)) (hJ259 : ∀ (v10_259 : Int) (E_259 : Rw), RunO l Γ k_L_gives 2 encJ (emW ad K0) 259 [(10, vl v10_259)] [] E_259 (J259 v10_259 E_259)) : ∀ (E_33 : Rw), RunO l Γ k_L_gives 2 encJ (emW ad K0) 33 [(4, .ref (ad kz)), (8, wi a8), (10, vl a5)] [] E_33 (fW_gives_33 kz a5 a8 J259 E_33) := by
  intro E_33
  unfold fW_gives_33
  refine r_aload (x := ad kz) dL_gives_33 rfl ?_
  refine r_lload (x := a5) dL_gives_35 rfl ?_
  refine r_iload (x := a8) dL_gives_37 rfl ?_
  refine r_csj (J := fun (E_ : Rw) => E_) (k2 := k_L_comes) (n := 3) (rest := []) (fun _ => rfl) rfl kv_L_comes (c_L_comes h hm kz a5 a8 hz hz0 _) (by decide) um_L_27 rfl (Nat.le_of_ble_eq_true rfl) dL_gives_39 rfl (fun r1 E2 => ?_)
  show RunO l Γ k_L_gives 2 encJ (emW ad K0) 42 [(4, .ref (ad kz)), (8, wi a8), (10, vl a5)] [vl r1] E2 _
  refine r_lstore (lo2 := [(10, vl r1), (4, .ref (ad kz)), (8, wi a8)]) dL_gives_42 (by decide) rfl ?_
  refine r_goto (tgt := 259) dL_gives_44 (by decide) ?_
  refine r_lo [0] (lo2 := [(10, vl r1)]) rfl ?_
  exact hJ259 r1 E2
set_option maxHeartbeats 8000000 in
set_option maxRecDepth 100000 in
theorem b_L_gives_60 {l : Launch} {Γ : Cx} {ad : Nat → Nat} {K0 : Cd} (h : wOn Γ) (hm : ∀ k, k ≤ 10 → ad k ≠ 0) (kz : Nat) (a5 : Int) (a8 : Int) (hz : kz = 10 ∨ kz = 11) (hz0 : ad kz ≠ 0) (J259 : Int → Rw → Option (Int × Rw)) (hJ259 : ∀ (v10_259 : Int) (E_259 : Rw), RunO l Γ k_L_gives 2 encJ (emW ad K0) 259 [(10, vl v10_259)] [] E_259 (J259 v10_259 E_259)) : ∀ (E_60 : Rw), RunO l Γ k_L_gives 2 encJ (emW ad K0) 60 [(4, .ref (ad kz)), (8, wi a8), (10, vl a5)] [] E_60 (fW_gives_60 kz a5 a8 J259 E_60) := by
  intro E_60
  unfold fW_gives_60
  refine r_aload (x := ad kz) dL_gives_60 rfl ?_
  refine ro_iconst (v := 0) dL_gives_62 rfl ?_
  refine r_dup2 dL_gives_63 rfl rfl ?_
  refine r_wiald h (wz_mem hz) hz0 dL_gives_64 ?_
  refine ro_iconst (v := 1) dL_gives_65 rfl ?_
  refine r_iload (x := a8) dL_gives_66 rfl ?_
  refine r_ishl dL_gives_68 ?_
  refine r_ior dL_gives_69 ?_
  refine r_wiast h (wz_mem hz) hz0 dL_gives_70 (fun E3 => ?_)
  refine r_aload (x := ad kz) dL_gives_71 rfl ?_
  refine r_lload (x := a5) dL_gives_73 rfl ?_
  refine r_sipush (v := 1000) dL_gives_75 rfl ?_
  refine r_iload (x := a8) dL_gives_78 rfl ?_
  refine r_iadd dL_gives_80 ?_
  refine r_csj (J := fun (E_ : Rw) => E_) (k2 := k_L_comes) (n := 3) (rest := []) (fun _ => rfl) rfl kv_L_comes (c_L_comes h hm kz a5 (1000 + a8) hz hz0 _) (by decide) um_L_27 rfl (Nat.le_of_ble_eq_true rfl) dL_gives_81 rfl (fun r4 E5 => ?_)
  show RunO l Γ k_L_gives 2 encJ (emW ad K0) 84 [(4, .ref (ad kz)), (8, wi a8), (10, vl a5)] [vl r4] E5 _
  refine r_lstore (lo2 := [(10, vl r4), (4, .ref (ad kz)), (8, wi a8)]) dL_gives_84 (by decide) rfl ?_
  refine r_goto (tgt := 259) dL_gives_86 (by decide) ?_
  refine r_lo [0] (lo2 := [(10, vl r4)]) rfl ?_
  exact hJ259 r4 E5
