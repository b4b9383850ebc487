def k_L_settles : Kd := (yL_settles, cL_settles, 7, none, [])
theorem kv_L_settles : KS k_L_settles 5 := ⟨uw_mem 776 (by decide +kernel) rfl, uw_mem 93 (by decide +kernel) rfl, uw_mem 775 (by decide +kernel) rfl, ⟨by decide +kernel, by decide +kernel⟩, by decide +kernel, by decide +kernel⟩
set_option maxHeartbeats 8000000 in
set_option maxRecDepth 100000 in
theorem c_L_settles {l : Launch} {Γ : Cx} {ad : Nat → Nat} {K0 : Cd} (h : wOn Γ) (hm : ∀ k, k ≤ 10 → ad k ≠ 0)  (E : Rw) : Ct l Γ k_L_settles 2 encV (emW ad K0) [.ref (ad 0), .ref (ad 1), .ref (ad 2), .ref (ad 4), .ref (ad 5)] E (fW_settles E) := by
  refine ct_of (by decide +kernel) rfl (Nat.le_of_ble_eq_true rfl) ?_
  refine r_lo [0, 1, 2, 3, 4] (lo2 := [(0, .ref (ad 0)), (1, .ref (ad 1)), (2, .ref (ad 2)), (3, .ref (ad 4)), (4, .ref (ad 5))]) rfl ?_
  unfold fW_settles
  refine ro_iconst (v := 0) dL_settles_0 rfl ?_
  refine r_istore (lo2 := [(5, wi 0), (0, .ref (ad 0)), (1, .ref (ad 1)), (2, .ref (ad 2)), (3, .ref (ad 4)), (4, .ref (ad 5))]) dL_settles_1 (by decide) rfl ?_
  refine r_loop (P := fun (J : Int → Rw → Option (Unit × Rw)) => ∀ (v5_3 : Int) (E_3 : Rw), RunO l Γ k_L_settles 2 encV (emW ad K0) 3 [(0, .ref (ad 0)), (1, .ref (ad 1)), (2, .ref (ad 2)), (3, .ref (ad 4)), (4, .ref (ad 5)), (5, wi v5_3)] [] E_3 (J v5_3 E_3)) ?_ (fun L3 hL3 => ?_) (fun J3 hJ3 => ?_)
  · intros; exact ro_none
  · intro v5_3 E_3
    refine r_iload (x := v5_3) dL_settles_3 rfl ?_
    refine r_bipush (v := 8) dL_settles_5 rfl ?_
    refine r_icmp_ge (tgt := 59) dL_settles_7 (by decide) ?_ ?_
    · exact r_vret rfl dL_settles_59
    · refine r_aload_n (x := ad 0) dL_settles_10 rfl rfl ?_
      refine r_aload_n (x := ad 1) dL_settles_11 rfl rfl ?_
      refine r_aload_n (x := ad 2) dL_settles_12 rfl rfl ?_
      refine r_iload (x := v5_3) dL_settles_13 rfl ?_
      refine r_csi (J := fun (E_ : Rw) => E_) (k2 := k_L_present) (n := 4) (rest := []) (fun _ => rfl) rfl kv_L_present (c_L_present h hm v5_3 _) (by decide) um_L_15 rfl (Nat.le_of_ble_eq_true rfl) dL_settles_15 rfl (fun r1 E2 => ?_)
      show RunO l Γ k_L_settles 2 encV (emW ad K0) 18 [(0, .ref (ad 0)), (1, .ref (ad 1)), (2, .ref (ad 2)), (3, .ref (ad 4)), (4, .ref (ad 5)), (5, wi v5_3)] [wi r1] E2 _
      refine ro_iconst (v := 1) dL_settles_18 rfl ?_
      refine r_iadd dL_settles_19 ?_
      refine r_nm (fun x6_20 => ?_)
      refine r_istore (lo2 := [(6, wi x6_20), (0, .ref (ad 0)), (1, .ref (ad 1)), (2, .ref (ad 2)), (3, .ref (ad 4)), (4, .ref (ad 5)), (5, wi v5_3)]) dL_settles_20 (by decide) rfl ?_
      refine r_iload (x := x6_20) dL_settles_22 rfl ?_
      refine r_aload (x := ad 5) dL_settles_24 rfl ?_
      refine r_iload (x := v5_3) dL_settles_26 rfl ?_
      refine r_wiald h (by decide) (hm 5 (by decide)) dL_settles_28 ?_
      refine r_join (P := fun (J : Rw → Option (Unit × Rw)) => ∀ (E_53 : Rw), RunO l Γ k_L_settles 2 encV (emW ad K0) 53 [(0, .ref (ad 0)), (1, .ref (ad 1)), (2, .ref (ad 2)), (3, .ref (ad 4)), (4, .ref (ad 5)), (5, wi v5_3)] [] E_53 (J E_53)) ?_ (fun J53 hJ53 => ?_)
      · intro E_53
        refine r_iinc (x := v5_3) (lo2 := [(5, wi (v5_3 + 1)), (0, .ref (ad 0)), (1, .ref (ad 1)), (2, .ref (ad 2)), (3, .ref (ad 4)), (4, .ref (ad 5))]) dL_settles_53 rfl (by decide) rfl ?_
        refine r_goto (tgt := 3) dL_settles_56 (by decide) ?_
        refine r_lo [1, 2, 3, 4, 5, 0] (lo2 := [(0, .ref (ad 0)), (1, .ref (ad 1)), (2, .ref (ad 2)), (3, .ref (ad 4)), (4, .ref (ad 5)), (5, wi (v5_3 + 1))]) rfl ?_
        exact hL3 (v5_3 + 1) E_53
      refine r_icmp_eq (tgt := 53) dL_settles_29 (by decide) ?_ ?_
      · refine r_lo [1, 2, 3, 4, 5, 6] (lo2 := [(0, .ref (ad 0)), (1, .ref (ad 1)), (2, .ref (ad 2)), (3, .ref (ad 4)), (4, .ref (ad 5)), (5, wi v5_3)]) rfl ?_
        exact hJ53 E2
      · refine r_aload_n (x := ad 0) dL_settles_32 rfl rfl ?_
        refine ro_iconst (v := 3) dL_settles_33 rfl ?_
        refine r_dup2 dL_settles_34 rfl rfl ?_
        refine r_wiald h (by decide) (hm 0 (by decide)) dL_settles_35 ?_
        refine ro_iconst (v := 1) dL_settles_36 rfl ?_
        refine r_iadd dL_settles_37 ?_
        refine r_wiast h (by decide) (hm 0 (by decide)) dL_settles_38 (fun E3 => ?_)
        refine r_aload_n (x := ad 4) dL_settles_39 rfl rfl ?_
        refine r_iload (x := v5_3) dL_settles_40 rfl ?_
        refine r_aload_n (x := ad 0) dL_settles_42 rfl rfl ?_
        refine ro_iconst (v := 3) dL_settles_43 rfl ?_
        refine r_wiald h (by decide) (hm 0 (by decide)) dL_settles_44 ?_
        refine r_wiast h (by decide) (hm 4 (by decide)) dL_settles_45 (fun E4 => ?_)
        refine r_aload (x := ad 5) dL_settles_46 rfl ?_
        refine r_iload (x := v5_3) dL_settles_48 rfl ?_
        refine r_iload (x := x6_20) dL_settles_50 rfl ?_
        refine r_wiast h (by decide) (hm 5 (by decide)) dL_settles_52 (fun E5 => ?_)
        refine r_lo [1, 2, 3, 4, 5, 6] (lo2 := [(0, .ref (ad 0)), (1, .ref (ad 1)), (2, .ref (ad 2)), (3, .ref (ad 4)), (4, .ref (ad 5)), (5, wi v5_3)]) rfl ?_
        exact hJ53 E5
  refine r_lo [1, 2, 3, 4, 5, 0] (lo2 := [(0, .ref (ad 0)), (1, .ref (ad 1)), (2, .ref (ad 2)), (3, .ref (ad 4)), (4, .ref (ad 5)), (5, wi 0)]) rfl ?_
  exact hJ3 0 E
def k_L_isMoved : Kd := (yL_isMoved, cL_isMoved, 22, some .boolean, [])
theorem kv_L_isMoved : KS k_L_isMoved 10 := ⟨uw_mem 1551 (by decide +kernel) rfl, uw_mem 93 (by decide +kernel) rfl, uw_mem 1550 (by decide +kernel) rfl, ⟨by decide +kernel, by decide +kernel⟩, by decide +kernel, by decide +kernel⟩
set_option maxHeartbeats 8000000 in
set_option maxRecDepth 100000 in
theorem c_L_isMoved {l : Launch} {Γ : Cx} {ma : Nat → Nat} (h : wOn Γ) (hm : ∀ k, k ≤ 10 → ma k ≠ 0) (hG : GK Γ l) (hX : XN Γ) (a0 : Nat) (a9 : Int) (E : Rw) (C : Cd) (q : (Nat → Nat)) : Ct l Γ k_L_isMoved 14 encI (em3 ma) [.ref a0, .ref (ma 0), .ref (ma 1), .ref (ma 2), .ref (ma 3), .ref (ma 4), .ref (ma 5), .ref (ma 6), .ref (ma 8), wi a9] (E, C, q) (fW_isMoved a0 a9 E C q) := by
  refine ct_of (by decide +kernel) rfl (Nat.le_of_ble_eq_true rfl) ?_
  refine r_lo [0, 1, 2, 3, 4, 5, 6, 7, 8, 9] (lo2 := [(0, .ref a0), (1, .ref (ma 0)), (2, .ref (ma 1)), (3, .ref (ma 2)), (4, .ref (ma 3)), (5, .ref (ma 4)), (6, .ref (ma 5)), (7, .ref (ma 6)), (8, .ref (ma 8)), (9, wi a9)]) rfl ?_
  unfold fW_isMoved
  refine ro_iconst (v := 0) dL_isMoved_0 rfl ?_
  refine r_istore (lo2 := [(10, wi 0), (0, .ref a0), (1, .ref (ma 0)), (2, .ref (ma 1)), (3, .ref (ma 2)), (4, .ref (ma 3)), (5, .ref (ma 4)), (6, .ref (ma 5)), (7, .ref (ma 6)), (8, .ref (ma 8)), (9, wi a9)]) dL_isMoved_1 (by decide) rfl ?_
  refine ro_iconst (v := 0) dL_isMoved_3 rfl ?_
  refine r_istore (lo2 := [(11, wi 0), (10, wi 0), (0, .ref a0), (1, .ref (ma 0)), (2, .ref (ma 1)), (3, .ref (ma 2)), (4, .ref (ma 3)), (5, .ref (ma 4)), (6, .ref (ma 5)), (7, .ref (ma 6)), (8, .ref (ma 8)), (9, wi a9)]) dL_isMoved_4 (by decide) rfl ?_
  refine ro_iconst (v := 0) dL_isMoved_6 rfl ?_
  refine r_istore (lo2 := [(12, wi 0), (11, wi 0), (10, wi 0), (0, .ref a0), (1, .ref (ma 0)), (2, .ref (ma 1)), (3, .ref (ma 2)), (4, .ref (ma 3)), (5, .ref (ma 4)), (6, .ref (ma 5)), (7, .ref (ma 6)), (8, .ref (ma 8)), (9, wi a9)]) dL_isMoved_7 (by decide) rfl ?_
  refine r_loop (P := fun (J : Int → Int → Int → Rw → Cd → (Nat → Nat) → Option (Int × S3)) => ∀ (v10_9 : Int) (v11_9 : Int) (v12_9 : Int) (E_9 : Rw) (C_9 : Cd) (q_9 : (Nat → Nat)), RunO l Γ k_L_isMoved 14 encI (em3 ma) 9 [(0, .ref a0), (1, .ref (ma 0)), (2, .ref (ma 1)), (3, .ref (ma 2)), (4, .ref (ma 3)), (5, .ref (ma 4)), (6, .ref (ma 5)), (7, .ref (ma 6)), (8, .ref (ma 8)), (9, wi a9), (10, wi v10_9), (11, wi v11_9), (12, wi v12_9)] [] (E_9, C_9, q_9) (J v10_9 v11_9 v12_9 E_9 C_9 q_9)) ?_ (fun L9 hL9 => ?_) (fun J9 hJ9 => ?_)
  · intros; exact ro_none
  · intro v10_9 v11_9 v12_9 E_9 C_9 q_9
    show RunO l Γ k_L_isMoved 14 encI (em3 ma) 9 [(0, .ref a0), (1, .ref (ma 0)), (2, .ref (ma 1)), (3, .ref (ma 2)), (4, .ref (ma 3)), (5, .ref (ma 4)), (6, .ref (ma 5)), (7, .ref (ma 6)), (8, .ref (ma 8)), (9, wi a9), (10, wi v10_9), (11, wi v11_9), (12, wi v12_9)] [] (E_9, C_9, q_9) (fW_isMoved_9 a0 a9 L9 v10_9 v11_9 v12_9 E_9 C_9 q_9)
    unfold fW_isMoved_9
    refine r_iload (x := v12_9) dL_isMoved_9 rfl ?_
    refine ro_iconst (v := 4) dL_isMoved_11 rfl ?_
    refine r_icmp_ge (tgt := 73) dL_isMoved_12 (by decide) ?_ ?_
    · refine r_iload (x := v10_9) dL_isMoved_73 rfl ?_
      refine r_join (P := fun (J : Int → Rw → Cd → (Nat → Nat) → Option (Int × S3)) => ∀ (t0_88 : Int) (E_88 : Rw) (C_88 : Cd) (q_88 : (Nat → Nat)), RunO l Γ k_L_isMoved 14 encI (em3 ma) 88 [(0, .ref a0), (1, .ref (ma 0)), (2, .ref (ma 1)), (3, .ref (ma 2)), (4, .ref (ma 3)), (5, .ref (ma 4)), (6, .ref (ma 5)), (7, .ref (ma 6)), (8, .ref (ma 8)), (9, wi a9), (10, wi v10_9)] [wi t0_88] (E_88, C_88, q_88) (J t0_88 E_88 C_88 q_88)) ?_ (fun J88 hJ88 => ?_)
      · intro t0_88 E_88 C_88 q_88
        show RunO l Γ k_L_isMoved 14 encI (em3 ma) 88 [(0, .ref a0), (1, .ref (ma 0)), (2, .ref (ma 1)), (3, .ref (ma 2)), (4, .ref (ma 3)), (5, .ref (ma 4)), (6, .ref (ma 5)), (7, .ref (ma 6)), (8, .ref (ma 8)), (9, wi a9), (10, wi v10_9)] [wi t0_88] (E_88, C_88, q_88) (fW_isMoved_88 a0 a9 v10_9 t0_88 E_88 C_88 q_88)
        unfold fW_isMoved_88
        refine r_istore (lo2 := [(12, wi t0_88), (0, .ref a0), (1, .ref (ma 0)), (2, .ref (ma 1)), (3, .ref (ma 2)), (4, .ref (ma 3)), (5, .ref (ma 4)), (6, .ref (ma 5)), (7, .ref (ma 6)), (8, .ref (ma 8)), (9, wi a9), (10, wi v10_9)]) dL_isMoved_88 (by decide) rfl ?_
        refine ro_iconst (v := 0) dL_isMoved_90 rfl ?_
        refine r_istore (lo2 := [(13, wi 0), (12, wi t0_88), (0, .ref a0), (1, .ref (ma 0)), (2, .ref (ma 1)), (3, .ref (ma 2)), (4, .ref (ma 3)), (5, .ref (ma 4)), (6, .ref (ma 5)), (7, .ref (ma 6)), (8, .ref (ma 8)), (9, wi a9), (10, wi v10_9)]) dL_isMoved_91 (by decide) rfl ?_
        refine r_loop (P := fun (J : Int → Rw → Cd → (Nat → Nat) → Option (Int × S3)) => ∀ (v13_93 : Int) (E_93 : Rw) (C_93 : Cd) (q_93 : (Nat → Nat)), RunO l Γ k_L_isMoved 14 encI (em3 ma) 93 [(0, .ref a0), (1, .ref (ma 0)), (2, .ref (ma 1)), (3, .ref (ma 2)), (4, .ref (ma 3)), (5, .ref (ma 4)), (6, .ref (ma 5)), (7, .ref (ma 6)), (8, .ref (ma 8)), (9, wi a9), (10, wi v10_9), (12, wi t0_88), (13, wi v13_93)] [] (E_93, C_93, q_93) (J v13_93 E_93 C_93 q_93)) ?_ (fun L93 hL93 => ?_) (fun J93 hJ93 => ?_)
        · intros; exact ro_none
        · intro v13_93 E_93 C_93 q_93
          show RunO l Γ k_L_isMoved 14 encI (em3 ma) 93 [(0, .ref a0), (1, .ref (ma 0)), (2, .ref (ma 1)), (3, .ref (ma 2)), (4, .ref (ma 3)), (5, .ref (ma 4)), (6, .ref (ma 5)), (7, .ref (ma 6)), (8, .ref (ma 8)), (9, wi a9), (10, wi v10_9), (12, wi t0_88), (13, wi v13_93)] [] (E_93, C_93, q_93) (fW_isMoved_93 a0 a9 v10_9 t0_88 L93 v13_93 E_93 C_93 q_93)
          unfold fW_isMoved_93
          refine r_iload (x := v13_93) dL_isMoved_93 rfl ?_
          refine ro_iconst (v := 4) dL_isMoved_95 rfl ?_
          refine r_join (P := fun (J : Rw → Cd → (Nat → Nat) → Option (Int × S3)) => ∀ (E_170 : Rw) (C_170 : Cd) (q_170 : (Nat → Nat)), RunO l Γ k_L_isMoved 14 encI (em3 ma) 170 [(0, .ref a0), (1, .ref (ma 0)), (2, .ref (ma 1)), (3, .ref (ma 2)), (4, .ref (ma 3)), (5, .ref (ma 4)), (6, .ref (ma 5)), (9, wi a9), (10, wi v10_9), (12, wi t0_88)] [] (E_170, C_170, q_170) (J E_170 C_170 q_170)) ?_ (fun J170 hJ170 => ?_)
          · intro E_170 C_170 q_170
            show RunO l Γ k_L_isMoved 14 encI (em3 ma) 170 [(0, .ref a0), (1, .ref (ma 0)), (2, .ref (ma 1)), (3, .ref (ma 2)), (4, .ref (ma 3)), (5, .ref (ma 4)), (6, .ref (ma 5)), (9, wi a9), (10, wi v10_9), (12, wi t0_88)] [] (E_170, C_170, q_170) (fW_isMoved_170 a0 a9 v10_9 t0_88 E_170 C_170 q_170)
            unfold fW_isMoved_170
            refine r_aload_n (x := ma 0) dL_isMoved_170 rfl rfl ?_
            refine r_aload_n (x := ma 1) dL_isMoved_171 rfl rfl ?_
            refine r_aload_n (x := ma 2) dL_isMoved_172 rfl rfl ?_
            refine r_aload (x := ma 4) dL_isMoved_173 rfl ?_
            refine r_aload (x := ma 5) dL_isMoved_175 rfl ?_
            refine r_csv (J := fun (E_ : Rw) => (E_, C_170, q_170)) (k2 := k_L_settles) (n := 5) (rest := []) (fun _ => rfl) rfl kv_L_settles (c_L_settles (ad := adq ma q_170) (K0 := C_170) h (adq_hm hm)  _) (by decide) um_L_231 rfl (Nat.le_of_ble_eq_true rfl) dL_isMoved_177 rfl (fun r1 E2 => ?_)
            show RunO l Γ k_L_isMoved 14 encI (em3 ma) 180 [(0, .ref a0), (1, .ref (ma 0)), (2, .ref (ma 1)), (3, .ref (ma 2)), (4, .ref (ma 3)), (5, .ref (ma 4)), (6, .ref (ma 5)), (9, wi a9), (10, wi v10_9), (12, wi t0_88)] [] (E2, C_170, q_170) _
            refine ro_iconst (v := 0) dL_isMoved_180 rfl ?_
            refine r_istore (lo2 := [(13, wi 0), (0, .ref a0), (1, .ref (ma 0)), (2, .ref (ma 1)), (3, .ref (ma 2)), (4, .ref (ma 3)), (5, .ref (ma 4)), (6, .ref (ma 5)), (9, wi a9), (10, wi v10_9), (12, wi t0_88)]) dL_isMoved_181 (by decide) rfl ?_
            refine ro_iconst (v := 0) dL_isMoved_183 rfl ?_
            refine r_istore (lo2 := [(14, wi 0), (13, wi 0), (0, .ref a0), (1, .ref (ma 0)), (2, .ref (ma 1)), (3, .ref (ma 2)), (4, .ref (ma 3)), (5, .ref (ma 4)), (6, .ref (ma 5)), (9, wi a9), (10, wi v10_9), (12, wi t0_88)]) dL_isMoved_184 (by decide) rfl ?_
            refine r_loop (P := fun (J : Int → Int → Rw → Cd → (Nat → Nat) → Option (Int × S3)) => ∀ (v13_186 : Int) (v14_186 : Int) (E_186 : Rw) (C_186 : Cd) (q_186 : (Nat → Nat)), RunO l Γ k_L_isMoved 14 encI (em3 ma) 186 [(0, .ref a0), (1, .ref (ma 0)), (2, .ref (ma 1)), (3, .ref (ma 2)), (4, .ref (ma 3)), (9, wi a9), (10, wi v10_9), (12, wi t0_88), (13, wi v13_186), (14, wi v14_186)] [] (E_186, C_186, q_186) (J v13_186 v14_186 E_186 C_186 q_186)) ?_ (fun L186 hL186 => ?_) (fun J186 hJ186 => ?_)
            · intros; exact ro_none
            · intro v13_186 v14_186 E_186 C_186 q_186
              show RunO l Γ k_L_isMoved 14 encI (em3 ma) 186 [(0, .ref a0), (1, .ref (ma 0)), (2, .ref (ma 1)), (3, .ref (ma 2)), (4, .ref (ma 3)), (9, wi a9), (10, wi v10_9), (12, wi t0_88), (13, wi v13_186), (14, wi v14_186)] [] (E_186, C_186, q_186) (fW_isMoved_186 a0 a9 v10_9 t0_88 L186 v13_186 v14_186 E_186 C_186 q_186)
              unfold fW_isMoved_186
              refine r_iload (x := v14_186) dL_isMoved_186 rfl ?_
              refine r_bipush (v := 8) dL_isMoved_188 rfl ?_
              refine r_join (P := fun (J : Rw → Cd → (Nat → Nat) → Option (Int × S3)) => ∀ (E_405 : Rw) (C_405 : Cd) (q_405 : (Nat → Nat)), RunO l Γ k_L_isMoved 14 encI (em3 ma) 405 [(0, .ref a0), (9, wi a9), (12, wi t0_88), (13, wi v13_186)] [] (E_405, C_405, q_405) (J E_405 C_405 q_405)) ?_ (fun J405 hJ405 => ?_)
              · intro E_405 C_405 q_405
                show RunO l Γ k_L_isMoved 14 encI (em3 ma) 405 [(0, .ref a0), (9, wi a9), (12, wi t0_88), (13, wi v13_186)] [] (E_405, C_405, q_405) (fW_isMoved_405 a0 a9 t0_88 v13_186 E_405 C_405 q_405)
                unfold fW_isMoved_405
                refine r_aload_n (x := a0) dL_isMoved_405 rfl rfl ?_
                refine ro_iconst (v := 5) dL_isMoved_406 rfl ?_
                refine r_iload (x := a9) dL_isMoved_407 rfl ?_
                refine ro_iconst (v := 1) dL_isMoved_409 rfl ?_
                refine r_iload (x := a9) dL_isMoved_410 rfl ?_
                refine r_isub dL_isMoved_412 ?_
                refine ro_iconst (v := 0) dL_isMoved_413 rfl ?_
                refine r_csHi (J := fun (C_ : Cd) => (E_405, C_, q_405)) (k2 := k_L_does) (n := 5) (rest := []) (fun _ => rfl) kv_L_does (c_L_does hG hX a0 5 a9 (1 - a9) 0 _) (by decide) um_L_132 rfl (Nat.le_of_ble_eq_true rfl) dL_isMoved_414 rfl (fun r3 C4 => ?_)
                show RunO l Γ k_L_isMoved 14 encI (em3 ma) 417 [(0, .ref a0), (9, wi a9), (12, wi t0_88), (13, wi v13_186)] [wi r3] (E_405, C4, q_405) _
                refine r_iload (x := t0_88) dL_isMoved_417 rfl ?_
                refine r_join (P := fun (J : Int → Rw → Cd → (Nat → Nat) → Option (Int × S3)) => ∀ (t0_429 : Int) (E_429 : Rw) (C_429 : Cd) (q_429 : (Nat → Nat)), RunO l Γ k_L_isMoved 14 encI (em3 ma) 429 [] [wi t0_429, wi r3] (E_429, C_429, q_429) (J t0_429 E_429 C_429 q_429)) ?_ (fun J429 hJ429 => ?_)
                · intro t0_429 E_429 C_429 q_429
                  show RunO l Γ k_L_isMoved 14 encI (em3 ma) 429 [] [wi t0_429, wi r3] (E_429, C_429, q_429) (fW_isMoved_429 r3 t0_429 E_429 C_429 q_429)
                  unfold fW_isMoved_429
                  refine r_join (P := fun (J : Int → Rw → Cd → (Nat → Nat) → Option (Int × S3)) => ∀ (t0_437 : Int) (E_437 : Rw) (C_437 : Cd) (q_437 : (Nat → Nat)), RunO l Γ k_L_isMoved 14 encI (em3 ma) 437 [] [wi t0_437] (E_437, C_437, q_437) (J t0_437 E_437 C_437 q_437)) ?_ (fun J437 hJ437 => ?_)
                  · intro t0_437 E_437 C_437 q_437
                    show RunO l Γ k_L_isMoved 14 encI (em3 ma) 437 [] [wi t0_437] (E_437, C_437, q_437) (fW_isMoved_437 t0_437 E_437 C_437 q_437)
                    unfold fW_isMoved_437
                    exact r_zret rfl dL_isMoved_437
                  refine r_icmp_ne (tgt := 436) dL_isMoved_429 (by decide) ?_ ?_
                  · refine ro_iconst (v := 0) dL_isMoved_436 rfl ?_
                    exact hJ437 0 E_429 C_429 q_429
                  · refine ro_iconst (v := 1) dL_isMoved_432 rfl ?_
                    refine r_goto (tgt := 437) dL_isMoved_433 (by decide) ?_
                    exact hJ437 1 E_429 C_429 q_429
                refine r_if_eq (tgt := 427) dL_isMoved_419 (by decide) ?_ ?_
                · refine r_bipush (v := (-13)) dL_isMoved_427 rfl ?_
                  refine r_lo [] (lo2 := []) rfl ?_
                  exact hJ429 (-13) E_405 C4 q_405
                · refine r_iload (x := v13_186) dL_isMoved_422 rfl ?_
                  refine r_goto (tgt := 429) dL_isMoved_424 (by decide) ?_
                  refine r_lo [] (lo2 := []) rfl ?_
                  exact hJ429 v13_186 E_405 C4 q_405
              refine r_icmp_ge (tgt := 405) dL_isMoved_190 (by decide) ?_ ?_
              · refine r_lo [0, 5, 7, 8] (lo2 := [(0, .ref a0), (9, wi a9), (12, wi t0_88), (13, wi v13_186)]) rfl ?_
                exact hJ405 E_186 C_186 q_186
              · refine r_iload (x := t0_88) dL_isMoved_193 rfl ?_
                refine r_if_eq (tgt := 405) dL_isMoved_195 (by decide) ?_ ?_
                · refine r_lo [0, 5, 7, 8] (lo2 := [(0, .ref a0), (9, wi a9), (12, wi t0_88), (13, wi v13_186)]) rfl ?_
                  exact hJ405 E_186 C_186 q_186
                · refine r_aload_n (x := ma 0) dL_isMoved_198 rfl rfl ?_
                  refine r_aload_n (x := ma 1) dL_isMoved_199 rfl rfl ?_
                  refine r_aload_n (x := ma 2) dL_isMoved_200 rfl rfl ?_
                  refine r_iload (x := v14_186) dL_isMoved_201 rfl ?_
                  refine r_csi (J := fun (E_ : Rw) => (E_, C_186, q_186)) (k2 := k_L_present) (n := 4) (rest := []) (fun _ => rfl) rfl kv_L_present (c_L_present (ad := adq ma q_186) (K0 := C_186) h (adq_hm hm) v14_186 _) (by decide) um_L_15 rfl (Nat.le_of_ble_eq_true rfl) dL_isMoved_203 rfl (fun r5 E6 => ?_)
                  show RunO l Γ k_L_isMoved 14 encI (em3 ma) 206 [(0, .ref a0), (1, .ref (ma 0)), (2, .ref (ma 1)), (3, .ref (ma 2)), (4, .ref (ma 3)), (9, wi a9), (10, wi v10_9), (12, wi t0_88), (13, wi v13_186), (14, wi v14_186)] [wi r5] (E6, C_186, q_186) _
                  refine r_istore (lo2 := [(15, wi r5), (0, .ref a0), (1, .ref (ma 0)), (2, .ref (ma 1)), (3, .ref (ma 2)), (4, .ref (ma 3)), (9, wi a9), (10, wi v10_9), (12, wi t0_88), (13, wi v13_186), (14, wi v14_186)]) dL_isMoved_206 (by decide) rfl ?_
                  refine r_lconst (x := 1) dL_isMoved_208 rfl ?_
                  refine r_lstore (lo2 := [(16, vl 1), (15, wi r5), (0, .ref a0), (1, .ref (ma 0)), (2, .ref (ma 1)), (3, .ref (ma 2)), (4, .ref (ma 3)), (9, wi a9), (10, wi v10_9), (12, wi t0_88), (13, wi v13_186), (14, wi v14_186)]) dL_isMoved_209 (by decide) rfl ?_
                  refine ro_iconst (v := 0) dL_isMoved_211 rfl ?_
                  refine r_istore (lo2 := [(18, wi 0), (16, vl 1), (15, wi r5), (0, .ref a0), (1, .ref (ma 0)), (2, .ref (ma 1)), (3, .ref (ma 2)), (4, .ref (ma 3)), (9, wi a9), (10, wi v10_9), (12, wi t0_88), (13, wi v13_186), (14, wi v14_186)]) dL_isMoved_212 (by decide) rfl ?_
                  refine r_loop (P := fun (J : Int → Int → Rw → Cd → (Nat → Nat) → Option (Int × S3)) => ∀ (v16_214 : Int) (v18_214 : Int) (E_214 : Rw) (C_214 : Cd) (q_214 : (Nat → Nat)), RunO l Γ k_L_isMoved 14 encI (em3 ma) 214 [(0, .ref a0), (1, .ref (ma 0)), (2, .ref (ma 1)), (3, .ref (ma 2)), (4, .ref (ma 3)), (9, wi a9), (10, wi v10_9), (12, wi t0_88), (13, wi v13_186), (14, wi v14_186), (15, wi r5), (16, vl v16_214), (18, wi v18_214)] [] (E_214, C_214, q_214) (J v16_214 v18_214 E_214 C_214 q_214)) ?_ (fun L214 hL214 => ?_) (fun J214 hJ214 => ?_)
                  · intros; exact ro_none
                  · intro v16_214 v18_214 E_214 C_214 q_214
                    show RunO l Γ k_L_isMoved 14 encI (em3 ma) 214 [(0, .ref a0), (1, .ref (ma 0)), (2, .ref (ma 1)), (3, .ref (ma 2)), (4, .ref (ma 3)), (9, wi a9), (10, wi v10_9), (12, wi t0_88), (13, wi v13_186), (14, wi v14_186), (15, wi r5), (16, vl v16_214), (18, wi v18_214)] [] (E_214, C_214, q_214) (fW_isMoved_214 a9 v10_9 L186 v13_186 v14_186 r5 L214 v16_214 v18_214 E_214 C_214 q_214)
                    unfold fW_isMoved_214
                    refine r_iload (x := r5) dL_isMoved_214 rfl ?_
                    refine r_join (P := fun (J : Rw → Cd → (Nat → Nat) → Option (Int × S3)) => ∀ (E_353 : Rw) (C_353 : Cd) (q_353 : (Nat → Nat)), RunO l Γ k_L_isMoved 14 encI (em3 ma) 353 [(0, .ref a0), (1, .ref (ma 0)), (2, .ref (ma 1)), (3, .ref (ma 2)), (4, .ref (ma 3)), (9, wi a9), (10, wi v10_9), (12, wi t0_88), (13, wi v13_186), (14, wi v14_186), (15, wi r5), (16, vl v16_214)] [] (E_353, C_353, q_353) (J E_353 C_353 q_353)) ?_ (fun J353 hJ353 => ?_)
                    · intro E_353 C_353 q_353
                      show RunO l Γ k_L_isMoved 14 encI (em3 ma) 353 [(0, .ref a0), (1, .ref (ma 0)), (2, .ref (ma 1)), (3, .ref (ma 2)), (4, .ref (ma 3)), (9, wi a9), (10, wi v10_9), (12, wi t0_88), (13, wi v13_186), (14, wi v14_186), (15, wi r5), (16, vl v16_214)] [] (E_353, C_353, q_353) (fW_isMoved_353 L186 v13_186 v14_186 r5 v16_214 E_353 C_353 q_353)
                      unfold fW_isMoved_353
                      refine r_iload (x := r5) dL_isMoved_353 rfl ?_
                      refine r_join (P := fun (J : Int → Rw → Cd → (Nat → Nat) → Option (Int × S3)) => ∀ (v13_399 : Int) (E_399 : Rw) (C_399 : Cd) (q_399 : (Nat → Nat)), RunO l Γ k_L_isMoved 14 encI (em3 ma) 399 [(0, .ref a0), (1, .ref (ma 0)), (2, .ref (ma 1)), (3, .ref (ma 2)), (4, .ref (ma 3)), (9, wi a9), (10, wi v10_9), (12, wi t0_88), (13, wi v13_399), (14, wi v14_186)] [] (E_399, C_399, q_399) (J v13_399 E_399 C_399 q_399)) ?_ (fun J399 hJ399 => ?_)
                      · intro v13_399 E_399 C_399 q_399
                        show RunO l Γ k_L_isMoved 14 encI (em3 ma) 399 [(0, .ref a0), (1, .ref (ma 0)), (2, .ref (ma 1)), (3, .ref (ma 2)), (4, .ref (ma 3)), (9, wi a9), (10, wi v10_9), (12, wi t0_88), (13, wi v13_399), (14, wi v14_186)] [] (E_399, C_399, q_399) (fW_isMoved_399 L186 v14_186 v13_399 E_399 C_399 q_399)
                        unfold fW_isMoved_399
                        refine r_iinc (x := v14_186) (lo2 := [(14, wi (v14_186 + 1)), (0, .ref a0), (1, .ref (ma 0)), (2, .ref (ma 1)), (3, .ref (ma 2)), (4, .ref (ma 3)), (9, wi a9), (10, wi v10_9), (12, wi t0_88), (13, wi v13_399)]) dL_isMoved_399 rfl (by decide) rfl ?_
                        refine r_goto (tgt := 186) dL_isMoved_402 (by decide) ?_
                        refine r_lo [1, 2, 3, 4, 5, 6, 7, 8, 9, 0] (lo2 := [(0, .ref a0), (1, .ref (ma 0)), (2, .ref (ma 1)), (3, .ref (ma 2)), (4, .ref (ma 3)), (9, wi a9), (10, wi v10_9), (12, wi t0_88), (13, wi v13_399), (14, wi (v14_186 + 1))]) rfl ?_
                        exact hL186 v13_399 (v14_186 + 1) E_399 C_399 q_399
                      refine r_if_lt (tgt := 399) dL_isMoved_355 (by decide) ?_ ?_
                      · refine r_lo [0, 1, 2, 3, 4, 5, 6, 7, 8, 9] (lo2 := [(0, .ref a0), (1, .ref (ma 0)), (2, .ref (ma 1)), (3, .ref (ma 2)), (4, .ref (ma 3)), (9, wi a9), (10, wi v10_9), (12, wi t0_88), (13, wi v13_186), (14, wi v14_186)]) rfl ?_
                        exact hJ399 v13_186 E_353 C_353 q_353
                      · refine r_lload (x := v16_214) dL_isMoved_358 rfl ?_
                        refine r_aload (x := ma 3) dL_isMoved_360 rfl ?_
                        refine r_iload (x := r5) dL_isMoved_362 rfl ?_
                        refine r_wlald3 h (by decide) (by decide) (hm 3 (by decide)) dL_isMoved_364 ?_
                        refine r_lcmp dL_isMoved_365 ?_
                        refine r_if_eq (tgt := 399) dL_isMoved_366 (by decide) ?_ ?_
                        · refine r_lo [0, 1, 2, 3, 4, 5, 6, 7, 8, 9] (lo2 := [(0, .ref a0), (1, .ref (ma 0)), (2, .ref (ma 1)), (3, .ref (ma 2)), (4, .ref (ma 3)), (9, wi a9), (10, wi v10_9), (12, wi t0_88), (13, wi v13_186), (14, wi v14_186)]) rfl ?_
                          exact hJ399 v13_186 E_353 C_353 q_353
                        · refine r_aload_n (x := ma 0) dL_isMoved_369 rfl rfl ?_
                          refine ro_iconst (v := 2) dL_isMoved_370 rfl ?_
                          refine r_dup2 dL_isMoved_371 rfl rfl ?_
                          refine r_wiald3 h (by decide) (by decide) (hm 0 (by decide)) dL_isMoved_372 ?_
                          refine ro_iconst (v := 1) dL_isMoved_373 rfl ?_
                          refine r_iadd dL_isMoved_374 ?_
                          refine r_wiast3 h (by decide) (by decide) (hm 0 (by decide)) dL_isMoved_375 (fun E7 => ?_)
                          refine r_aload_n (x := ma 0) dL_isMoved_376 rfl rfl ?_
                          refine r_aload_n (x := ma 2) dL_isMoved_377 rfl rfl ?_
                          refine r_aload (x := ma 3) dL_isMoved_378 rfl ?_
                          refine r_aload_n (x := ma 1) dL_isMoved_380 rfl rfl ?_
                          refine r_iload (x := v14_186) dL_isMoved_381 rfl ?_
                          refine r_wiald3 h (by decide) (by decide) (hm 1 (by decide)) dL_isMoved_383 ?_
                          refine ro_iconst (v := 1) dL_isMoved_384 rfl ?_
                          refine r_isub dL_isMoved_385 ?_
                          refine r_aload_n (x := ma 0) dL_isMoved_386 rfl rfl ?_
                          refine ro_iconst (v := 2) dL_isMoved_387 rfl ?_
                          refine r_wiald3 h (by decide) (by decide) (hm 0 (by decide)) dL_isMoved_388 ?_
                          refine r_lload (x := v16_214) dL_isMoved_389 rfl ?_
                          refine r_csi (J := fun (E_ : Rw) => (E_, C_353, q_353)) (k2 := k_L_adds) (n := 6) (rest := []) (fun _ => rfl) rfl kv_L_adds (c_L_adds (ad := adq ma q_353) (K0 := C_353) h (adq_hm hm) ((E7 1 (ix v14_186)) - 1) (E7 0 (ix 2)) v16_214 _) (by decide) um_L_194 rfl (Nat.le_of_ble_eq_true rfl) dL_isMoved_391 rfl (fun r8 E9 => ?_)
                          show RunO l Γ k_L_isMoved 14 encI (em3 ma) 394 [(0, .ref a0), (1, .ref (ma 0)), (2, .ref (ma 1)), (3, .ref (ma 2)), (4, .ref (ma 3)), (9, wi a9), (10, wi v10_9), (12, wi t0_88), (13, wi v13_186), (14, wi v14_186), (15, wi r5), (16, vl v16_214)] [wi r8] (E9, C_353, q_353) _
                          refine r_istore (lo2 := [(18, wi r8), (0, .ref a0), (1, .ref (ma 0)), (2, .ref (ma 1)), (3, .ref (ma 2)), (4, .ref (ma 3)), (9, wi a9), (10, wi v10_9), (12, wi t0_88), (13, wi v13_186), (14, wi v14_186), (15, wi r5), (16, vl v16_214)]) dL_isMoved_394 (by decide) rfl ?_
                          refine r_iinc (x := v13_186) (lo2 := [(13, wi (v13_186 + 1)), (18, wi r8), (0, .ref a0), (1, .ref (ma 0)), (2, .ref (ma 1)), (3, .ref (ma 2)), (4, .ref (ma 3)), (9, wi a9), (10, wi v10_9), (12, wi t0_88), (14, wi v14_186), (15, wi r5), (16, vl v16_214)]) dL_isMoved_396 rfl (by decide) rfl ?_
                          refine r_lo [2, 3, 4, 5, 6, 7, 8, 9, 0, 10] (lo2 := [(0, .ref a0), (1, .ref (ma 0)), (2, .ref (ma 1)), (3, .ref (ma 2)), (4, .ref (ma 3)), (9, wi a9), (10, wi v10_9), (12, wi t0_88), (13, wi (v13_186 + 1)), (14, wi v14_186)]) rfl ?_
                          exact hJ399 (v13_186 + 1) E9 C_353 q_353
                    refine r_if_lt (tgt := 353) dL_isMoved_216 (by decide) ?_ ?_
                    · refine r_lo [0, 1, 2, 3, 4, 5, 6, 7, 8, 9, 10, 11] (lo2 := [(0, .ref a0), (1, .ref (ma 0)), (2, .ref (ma 1)), (3, .ref (ma 2)), (4, .ref (ma 3)), (9, wi a9), (10, wi v10_9), (12, wi t0_88), (13, wi v13_186), (14, wi v14_186), (15, wi r5), (16, vl v16_214)]) rfl ?_
                      exact hJ353 E_214 C_214 q_214
                    · refine r_iload (x := v18_214) dL_isMoved_219 rfl ?_
                      refine r_aload (x := ma 3) dL_isMoved_221 rfl ?_
                      refine r_iload (x := r5) dL_isMoved_223 rfl ?_
                      refine r_wlald3 h (by decide) (by decide) (hm 3 (by decide)) dL_isMoved_225 ?_
                      refine r_csi (J := fun (_ : Unit) => (E_214, C_214, q_214)) (k2 := k_L_macros) (n := 1) (rest := [wi v18_214]) (fun _ => rfl) rfl kv_L_macros (c_L_macros (σ0 := _) (E_214 3 (ix r5))) (by decide) um_L_7 rfl (Nat.le_of_ble_eq_true rfl) dL_isMoved_226 rfl (fun r10 _ => ?_)
                      show RunO l Γ k_L_isMoved 14 encI (em3 ma) 229 [(0, .ref a0), (1, .ref (ma 0)), (2, .ref (ma 1)), (3, .ref (ma 2)), (4, .ref (ma 3)), (9, wi a9), (10, wi v10_9), (12, wi t0_88), (13, wi v13_186), (14, wi v14_186), (15, wi r5), (16, vl v16_214), (18, wi v18_214)] [wi r10, wi v18_214] (E_214, C_214, q_214) _
                      refine r_icmp_ge (tgt := 353) dL_isMoved_229 (by decide) ?_ ?_
                      · refine r_lo [0, 1, 2, 3, 4, 5, 6, 7, 8, 9, 10, 11] (lo2 := [(0, .ref a0), (1, .ref (ma 0)), (2, .ref (ma 1)), (3, .ref (ma 2)), (4, .ref (ma 3)), (9, wi a9), (10, wi v10_9), (12, wi t0_88), (13, wi v13_186), (14, wi v14_186), (15, wi r5), (16, vl v16_214)]) rfl ?_
                        exact hJ353 E_214 C_214 q_214
                      · refine r_aload (x := ma 3) dL_isMoved_232 rfl ?_
                        refine r_iload (x := r5) dL_isMoved_234 rfl ?_
                        refine r_wlald3 h (by decide) (by decide) (hm 3 (by decide)) dL_isMoved_236 ?_
                        refine r_iload (x := v18_214) dL_isMoved_237 rfl ?_
                        refine r_csi (J := fun (_ : Unit) => (E_214, C_214, q_214)) (k2 := k_L_macro) (n := 2) (rest := []) (fun _ => rfl) rfl kv_L_macro (c_L_macro (σ0 := _) (E_214 3 (ix r5)) v18_214) (by decide) um_L_19 rfl (Nat.le_of_ble_eq_true rfl) dL_isMoved_239 rfl (fun r11 _ => ?_)
                        show RunO l Γ k_L_isMoved 14 encI (em3 ma) 242 [(0, .ref a0), (1, .ref (ma 0)), (2, .ref (ma 1)), (3, .ref (ma 2)), (4, .ref (ma 3)), (9, wi a9), (10, wi v10_9), (12, wi t0_88), (13, wi v13_186), (14, wi v14_186), (15, wi r5), (16, vl v16_214), (18, wi v18_214)] [wi r11] (E_214, C_214, q_214) _
                        refine r_istore (lo2 := [(19, wi r11), (0, .ref a0), (1, .ref (ma 0)), (2, .ref (ma 1)), (3, .ref (ma 2)), (4, .ref (ma 3)), (9, wi a9), (10, wi v10_9), (12, wi t0_88), (13, wi v13_186), (14, wi v14_186), (15, wi r5), (16, vl v16_214), (18, wi v18_214)]) dL_isMoved_242 (by decide) rfl ?_
                        refine r_iload (x := r11) dL_isMoved_244 rfl ?_
                        refine r_bipush (v := 16) dL_isMoved_246 rfl ?_
                        refine r_irem dL_isMoved_248 (by decide) ?_
                        refine ro_iconst (v := 1) dL_isMoved_249 rfl ?_
                        refine r_join (P := fun (J : Int → Rw → Cd → (Nat → Nat) → Option (Int × S3)) => ∀ (t0_277 : Int) (E_277 : Rw) (C_277 : Cd) (q_277 : (Nat → Nat)), RunO l Γ k_L_isMoved 14 encI (em3 ma) 277 [(0, .ref a0), (1, .ref (ma 0)), (2, .ref (ma 1)), (3, .ref (ma 2)), (4, .ref (ma 3)), (9, wi a9), (10, wi v10_9), (12, wi t0_88), (13, wi v13_186), (14, wi v14_186), (15, wi r5), (16, vl v16_214), (18, wi v18_214), (19, wi r11)] [wi t0_277] (E_277, C_277, q_277) (J t0_277 E_277 C_277 q_277)) ?_ (fun J277 hJ277 => ?_)
                        · intro t0_277 E_277 C_277 q_277
                          show RunO l Γ k_L_isMoved 14 encI (em3 ma) 277 [(0, .ref a0), (1, .ref (ma 0)), (2, .ref (ma 1)), (3, .ref (ma 2)), (4, .ref (ma 3)), (9, wi a9), (10, wi v10_9), (12, wi t0_88), (13, wi v13_186), (14, wi v14_186), (15, wi r5), (16, vl v16_214), (18, wi v18_214), (19, wi r11)] [wi t0_277] (E_277, C_277, q_277) (fW_isMoved_277 a9 v10_9 L214 v16_214 v18_214 r11 t0_277 E_277 C_277 q_277)
                          unfold fW_isMoved_277
                          refine r_istore (lo2 := [(20, wi t0_277), (0, .ref a0), (1, .ref (ma 0)), (2, .ref (ma 1)), (3, .ref (ma 2)), (4, .ref (ma 3)), (9, wi a9), (10, wi v10_9), (12, wi t0_88), (13, wi v13_186), (14, wi v14_186), (15, wi r5), (16, vl v16_214), (18, wi v18_214), (19, wi r11)]) dL_isMoved_277 (by decide) rfl ?_
                          refine r_iload (x := t0_277) dL_isMoved_279 rfl ?_
                          refine r_join (P := fun (J : Int → Rw → Cd → (Nat → Nat) → Option (Int × S3)) => ∀ (t0_315 : Int) (E_315 : Rw) (C_315 : Cd) (q_315 : (Nat → Nat)), RunO l Γ k_L_isMoved 14 encI (em3 ma) 315 [(0, .ref a0), (1, .ref (ma 0)), (2, .ref (ma 1)), (3, .ref (ma 2)), (4, .ref (ma 3)), (9, wi a9), (10, wi v10_9), (12, wi t0_88), (13, wi v13_186), (14, wi v14_186), (15, wi r5), (16, vl v16_214), (18, wi v18_214), (19, wi r11)] [wi t0_315] (E_315, C_315, q_315) (J t0_315 E_315 C_315 q_315)) ?_ (fun J315 hJ315 => ?_)
                          · intro t0_315 E_315 C_315 q_315
                            show RunO l Γ k_L_isMoved 14 encI (em3 ma) 315 [(0, .ref a0), (1, .ref (ma 0)), (2, .ref (ma 1)), (3, .ref (ma 2)), (4, .ref (ma 3)), (9, wi a9), (10, wi v10_9), (12, wi t0_88), (13, wi v13_186), (14, wi v14_186), (15, wi r5), (16, vl v16_214), (18, wi v18_214), (19, wi r11)] [wi t0_315] (E_315, C_315, q_315) (fW_isMoved_315 a9 L214 v16_214 v18_214 r11 t0_315 E_315 C_315 q_315)
                            unfold fW_isMoved_315
                            refine r_istore (lo2 := [(21, wi t0_315), (0, .ref a0), (1, .ref (ma 0)), (2, .ref (ma 1)), (3, .ref (ma 2)), (4, .ref (ma 3)), (9, wi a9), (10, wi v10_9), (12, wi t0_88), (13, wi v13_186), (14, wi v14_186), (15, wi r5), (16, vl v16_214), (18, wi v18_214), (19, wi r11)]) dL_isMoved_315 (by decide) rfl ?_
                            refine r_lload (x := v16_214) dL_isMoved_317 rfl ?_
                            refine r_bipush (v := 10) dL_isMoved_319 rfl ?_
                            refine r_lshl dL_isMoved_321 ?_
                            refine r_iload (x := r11) dL_isMoved_322 rfl ?_
                            refine r_iload (x := t0_315) dL_isMoved_324 rfl ?_
                            refine r_join (P := fun (J : Int → Rw → Cd → (Nat → Nat) → Option (Int × S3)) => ∀ (t0_342 : Int) (E_342 : Rw) (C_342 : Cd) (q_342 : (Nat → Nat)), RunO l Γ k_L_isMoved 14 encI (em3 ma) 342 [(0, .ref a0), (1, .ref (ma 0)), (2, .ref (ma 1)), (3, .ref (ma 2)), (4, .ref (ma 3)), (9, wi a9), (10, wi v10_9), (12, wi t0_88), (13, wi v13_186), (14, wi v14_186), (15, wi r5), (18, wi v18_214)] [wi t0_342, wi r11, vl (lshlI v16_214 10)] (E_342, C_342, q_342) (J t0_342 E_342 C_342 q_342)) ?_ (fun J342 hJ342 => ?_)
                            · intro t0_342 E_342 C_342 q_342
                              show RunO l Γ k_L_isMoved 14 encI (em3 ma) 342 [(0, .ref a0), (1, .ref (ma 0)), (2, .ref (ma 1)), (3, .ref (ma 2)), (4, .ref (ma 3)), (9, wi a9), (10, wi v10_9), (12, wi t0_88), (13, wi v13_186), (14, wi v14_186), (15, wi r5), (18, wi v18_214)] [wi t0_342, wi r11, vl (lshlI v16_214 10)] (E_342, C_342, q_342) (fW_isMoved_342 L214 v16_214 v18_214 r11 t0_342 E_342 C_342 q_342)
                              unfold fW_isMoved_342
                              refine r_iadd dL_isMoved_342 ?_
                              refine r_i2l dL_isMoved_343 ?_
                              refine r_lor dL_isMoved_344 ?_
                              refine r_nml (fun x16_345 => ?_)
                              refine r_lstore (lo2 := [(16, vl x16_345), (0, .ref a0), (1, .ref (ma 0)), (2, .ref (ma 1)), (3, .ref (ma 2)), (4, .ref (ma 3)), (9, wi a9), (10, wi v10_9), (12, wi t0_88), (13, wi v13_186), (14, wi v14_186), (15, wi r5), (18, wi v18_214)]) dL_isMoved_345 (by decide) rfl ?_
                              refine r_iinc (x := v18_214) (lo2 := [(18, wi (v18_214 + 1)), (16, vl x16_345), (0, .ref a0), (1, .ref (ma 0)), (2, .ref (ma 1)), (3, .ref (ma 2)), (4, .ref (ma 3)), (9, wi a9), (10, wi v10_9), (12, wi t0_88), (13, wi v13_186), (14, wi v14_186), (15, wi r5)]) dL_isMoved_347 rfl (by decide) rfl ?_
                              refine r_goto (tgt := 214) dL_isMoved_350 (by decide) ?_
                              refine r_lo [2, 3, 4, 5, 6, 7, 8, 9, 10, 11, 12, 1, 0] (lo2 := [(0, .ref a0), (1, .ref (ma 0)), (2, .ref (ma 1)), (3, .ref (ma 2)), (4, .ref (ma 3)), (9, wi a9), (10, wi v10_9), (12, wi t0_88), (13, wi v13_186), (14, wi v14_186), (15, wi r5), (16, vl x16_345), (18, wi (v18_214 + 1))]) rfl ?_
                              exact hL214 x16_345 (v18_214 + 1) E_342 C_342 q_342
                            refine r_if_eq (tgt := 341) dL_isMoved_326 (by decide) ?_ ?_
                            · refine ro_iconst (v := 0) dL_isMoved_341 rfl ?_
                              refine r_lo [1, 2, 3, 4, 5, 6, 7, 8, 9, 10, 11, 13] (lo2 := [(0, .ref a0), (1, .ref (ma 0)), (2, .ref (ma 1)), (3, .ref (ma 2)), (4, .ref (ma 3)), (9, wi a9), (10, wi v10_9), (12, wi t0_88), (13, wi v13_186), (14, wi v14_186), (15, wi r5), (18, wi v18_214)]) rfl ?_
                              exact hJ342 0 E_315 C_315 q_315
                            · refine r_bipush (v := 64) dL_isMoved_329 rfl ?_
                              refine r_sipush (v := 128) dL_isMoved_331 rfl ?_
                              refine r_iload (x := a9) dL_isMoved_334 rfl ?_
                              refine r_imul dL_isMoved_336 ?_
                              refine r_isub dL_isMoved_337 ?_
                              refine r_goto (tgt := 342) dL_isMoved_338 (by decide) ?_
                              refine r_lo [1, 2, 3, 4, 5, 6, 7, 8, 9, 10, 11, 13] (lo2 := [(0, .ref a0), (1, .ref (ma 0)), (2, .ref (ma 1)), (3, .ref (ma 2)), (4, .ref (ma 3)), (9, wi a9), (10, wi v10_9), (12, wi t0_88), (13, wi v13_186), (14, wi v14_186), (15, wi r5), (18, wi v18_214)]) rfl ?_
                              exact hJ342 (64 - (128 * a9)) E_315 C_315 q_315
                          refine r_join (P := fun (J : Rw → Cd → (Nat → Nat) → Option (Int × S3)) => ∀ (E_314 : Rw) (C_314 : Cd) (q_314 : (Nat → Nat)), RunO l Γ k_L_isMoved 14 encI (em3 ma) 314 [(0, .ref a0), (1, .ref (ma 0)), (2, .ref (ma 1)), (3, .ref (ma 2)), (4, .ref (ma 3)), (9, wi a9), (10, wi v10_9), (12, wi t0_88), (13, wi v13_186), (14, wi v14_186), (15, wi r5), (16, vl v16_214), (18, wi v18_214), (19, wi r11)] [] (E_314, C_314, q_314) (J E_314 C_314 q_314)) ?_ (fun J314 hJ314 => ?_)
                          · intro E_314 C_314 q_314
                            show RunO l Γ k_L_isMoved 14 encI (em3 ma) 314 [(0, .ref a0), (1, .ref (ma 0)), (2, .ref (ma 1)), (3, .ref (ma 2)), (4, .ref (ma 3)), (9, wi a9), (10, wi v10_9), (12, wi t0_88), (13, wi v13_186), (14, wi v14_186), (15, wi r5), (16, vl v16_214), (18, wi v18_214), (19, wi r11)] [] (E_314, C_314, q_314) (fW_isMoved_314 J315 E_314 C_314 q_314)
                            unfold fW_isMoved_314
                            refine ro_iconst (v := 0) dL_isMoved_314 rfl ?_
                            exact hJ315 0 E_314 C_314 q_314
                          refine r_if_eq (tgt := 314) dL_isMoved_281 (by decide) ?_ ?_
                          · refine r_lo [1, 2, 3, 4, 5, 6, 7, 8, 9, 10, 11, 12, 13, 14] (lo2 := [(0, .ref a0), (1, .ref (ma 0)), (2, .ref (ma 1)), (3, .ref (ma 2)), (4, .ref (ma 3)), (9, wi a9), (10, wi v10_9), (12, wi t0_88), (13, wi v13_186), (14, wi v14_186), (15, wi r5), (16, vl v16_214), (18, wi v18_214), (19, wi r11)]) rfl ?_
                            exact hJ314 E_277 C_277 q_277
                          · refine r_iload (x := r11) dL_isMoved_284 rfl ?_
                            refine r_bipush (v := 64) dL_isMoved_286 rfl ?_
                            refine r_idiv dL_isMoved_288 (by decide) ?_
                            refine r_iload (x := a9) dL_isMoved_289 rfl ?_
                            refine r_icmp_ne (tgt := 314) dL_isMoved_291 (by decide) ?_ ?_
                            · refine r_lo [1, 2, 3, 4, 5, 6, 7, 8, 9, 10, 11, 12, 13, 14] (lo2 := [(0, .ref a0), (1, .ref (ma 0)), (2, .ref (ma 1)), (3, .ref (ma 2)), (4, .ref (ma 3)), (9, wi a9), (10, wi v10_9), (12, wi t0_88), (13, wi v13_186), (14, wi v14_186), (15, wi r5), (16, vl v16_214), (18, wi v18_214), (19, wi r11)]) rfl ?_
                              exact hJ314 E_277 C_277 q_277
                            · refine r_iload (x := v10_9) dL_isMoved_294 rfl ?_
                              refine r_iload (x := r11) dL_isMoved_296 rfl ?_
                              refine r_bipush (v := 16) dL_isMoved_298 rfl ?_
                              refine r_idiv dL_isMoved_300 (by decide) ?_
                              refine ro_iconst (v := 4) dL_isMoved_301 rfl ?_
                              refine r_irem dL_isMoved_302 (by decide) ?_
                              refine r_ishr dL_isMoved_303 ?_
                              refine ro_iconst (v := 1) dL_isMoved_304 rfl ?_
                              refine r_iand dL_isMoved_305 ?_
                              refine ro_iconst (v := 1) dL_isMoved_306 rfl ?_
                              refine r_icmp_ne (tgt := 314) dL_isMoved_307 (by decide) ?_ ?_
                              · refine r_lo [1, 2, 3, 4, 5, 6, 7, 8, 9, 10, 11, 12, 13, 14] (lo2 := [(0, .ref a0), (1, .ref (ma 0)), (2, .ref (ma 1)), (3, .ref (ma 2)), (4, .ref (ma 3)), (9, wi a9), (10, wi v10_9), (12, wi t0_88), (13, wi v13_186), (14, wi v14_186), (15, wi r5), (16, vl v16_214), (18, wi v18_214), (19, wi r11)]) rfl ?_
                                exact hJ314 E_277 C_277 q_277
                              · refine ro_iconst (v := 1) dL_isMoved_310 rfl ?_
                                refine r_goto (tgt := 315) dL_isMoved_311 (by decide) ?_
                                refine r_lo [1, 2, 3, 4, 5, 6, 7, 8, 9, 10, 11, 12, 13, 14] (lo2 := [(0, .ref a0), (1, .ref (ma 0)), (2, .ref (ma 1)), (3, .ref (ma 2)), (4, .ref (ma 3)), (9, wi a9), (10, wi v10_9), (12, wi t0_88), (13, wi v13_186), (14, wi v14_186), (15, wi r5), (16, vl v16_214), (18, wi v18_214), (19, wi r11)]) rfl ?_
                                exact hJ315 1 E_277 C_277 q_277
                        refine r_join (P := fun (J : Rw → Cd → (Nat → Nat) → Option (Int × S3)) => ∀ (E_272 : Rw) (C_272 : Cd) (q_272 : (Nat → Nat)), RunO l Γ k_L_isMoved 14 encI (em3 ma) 272 [(0, .ref a0), (1, .ref (ma 0)), (2, .ref (ma 1)), (3, .ref (ma 2)), (4, .ref (ma 3)), (9, wi a9), (10, wi v10_9), (12, wi t0_88), (13, wi v13_186), (14, wi v14_186), (15, wi r5), (16, vl v16_214), (18, wi v18_214), (19, wi r11)] [] (E_272, C_272, q_272) (J E_272 C_272 q_272)) ?_ (fun J272 hJ272 => ?_)
                        · intro E_272 C_272 q_272
                          show RunO l Γ k_L_isMoved 14 encI (em3 ma) 272 [(0, .ref a0), (1, .ref (ma 0)), (2, .ref (ma 1)), (3, .ref (ma 2)), (4, .ref (ma 3)), (9, wi a9), (10, wi v10_9), (12, wi t0_88), (13, wi v13_186), (14, wi v14_186), (15, wi r5), (16, vl v16_214), (18, wi v18_214), (19, wi r11)] [] (E_272, C_272, q_272) (fW_isMoved_272 J277 E_272 C_272 q_272)
                          unfold fW_isMoved_272
                          refine ro_iconst (v := 1) dL_isMoved_272 rfl ?_
                          refine r_goto (tgt := 277) dL_isMoved_273 (by decide) ?_
                          exact hJ277 1 E_272 C_272 q_272
                        refine r_icmp_eq (tgt := 272) dL_isMoved_250 (by decide) ?_ ?_
                        · refine r_lo [1, 2, 3, 4, 5, 6, 7, 8, 9, 10, 11, 12, 13, 0] (lo2 := [(0, .ref a0), (1, .ref (ma 0)), (2, .ref (ma 1)), (3, .ref (ma 2)), (4, .ref (ma 3)), (9, wi a9), (10, wi v10_9), (12, wi t0_88), (13, wi v13_186), (14, wi v14_186), (15, wi r5), (16, vl v16_214), (18, wi v18_214), (19, wi r11)]) rfl ?_
                          exact hJ272 E_214 C_214 q_214
                        · refine r_iload (x := r11) dL_isMoved_253 rfl ?_
                          refine r_bipush (v := 16) dL_isMoved_255 rfl ?_
                          refine r_irem dL_isMoved_257 (by decide) ?_
                          refine ro_iconst (v := 2) dL_isMoved_258 rfl ?_
                          refine r_icmp_eq (tgt := 272) dL_isMoved_259 (by decide) ?_ ?_
                          · refine r_lo [1, 2, 3, 4, 5, 6, 7, 8, 9, 10, 11, 12, 13, 0] (lo2 := [(0, .ref a0), (1, .ref (ma 0)), (2, .ref (ma 1)), (3, .ref (ma 2)), (4, .ref (ma 3)), (9, wi a9), (10, wi v10_9), (12, wi t0_88), (13, wi v13_186), (14, wi v14_186), (15, wi r5), (16, vl v16_214), (18, wi v18_214), (19, wi r11)]) rfl ?_
                            exact hJ272 E_214 C_214 q_214
                          · refine r_iload (x := r11) dL_isMoved_262 rfl ?_
                            refine r_bipush (v := 16) dL_isMoved_264 rfl ?_
                            refine r_irem dL_isMoved_266 (by decide) ?_
                            refine r_bipush (v := 10) dL_isMoved_267 rfl ?_
                            refine r_icmp_ne (tgt := 276) dL_isMoved_269 (by decide) ?_ ?_
                            · refine ro_iconst (v := 0) dL_isMoved_276 rfl ?_
                              refine r_lo [1, 2, 3, 4, 5, 6, 7, 8, 9, 10, 11, 12, 13, 0] (lo2 := [(0, .ref a0), (1, .ref (ma 0)), (2, .ref (ma 1)), (3, .ref (ma 2)), (4, .ref (ma 3)), (9, wi a9), (10, wi v10_9), (12, wi t0_88), (13, wi v13_186), (14, wi v14_186), (15, wi r5), (16, vl v16_214), (18, wi v18_214), (19, wi r11)]) rfl ?_
                              exact hJ277 0 E_214 C_214 q_214
                            · refine r_lo [1, 2, 3, 4, 5, 6, 7, 8, 9, 10, 11, 12, 13, 0] (lo2 := [(0, .ref a0), (1, .ref (ma 0)), (2, .ref (ma 1)), (3, .ref (ma 2)), (4, .ref (ma 3)), (9, wi a9), (10, wi v10_9), (12, wi t0_88), (13, wi v13_186), (14, wi v14_186), (15, wi r5), (16, vl v16_214), (18, wi v18_214), (19, wi r11)]) rfl ?_
                              exact hJ272 E_214 C_214 q_214
                  refine r_lo [3, 4, 5, 6, 7, 8, 9, 10, 11, 12, 2, 1, 0] (lo2 := [(0, .ref a0), (1, .ref (ma 0)), (2, .ref (ma 1)), (3, .ref (ma 2)), (4, .ref (ma 3)), (9, wi a9), (10, wi v10_9), (12, wi t0_88), (13, wi v13_186), (14, wi v14_186), (15, wi r5), (16, vl 1), (18, wi 0)]) rfl ?_
                  exact hJ214 1 0 E6 C_186 q_186
            refine r_lo [2, 3, 4, 5, 6, 9, 10, 11, 1, 0] (lo2 := [(0, .ref a0), (1, .ref (ma 0)), (2, .ref (ma 1)), (3, .ref (ma 2)), (4, .ref (ma 3)), (9, wi a9), (10, wi v10_9), (12, wi t0_88), (13, wi 0), (14, wi 0)]) rfl ?_
            exact hJ186 0 0 E2 C_170 q_170
          refine r_icmp_ge (tgt := 170) dL_isMoved_96 (by decide) ?_ ?_
          · refine r_lo [0, 1, 2, 3, 4, 5, 6, 9, 10, 11] (lo2 := [(0, .ref a0), (1, .ref (ma 0)), (2, .ref (ma 1)), (3, .ref (ma 2)), (4, .ref (ma 3)), (5, .ref (ma 4)), (6, .ref (ma 5)), (9, wi a9), (10, wi v10_9), (12, wi t0_88)]) rfl ?_
            exact hJ170 E_93 C_93 q_93
          · refine r_iload (x := t0_88) dL_isMoved_99 rfl ?_
            refine r_if_eq (tgt := 170) dL_isMoved_101 (by decide) ?_ ?_
            · refine r_lo [0, 1, 2, 3, 4, 5, 6, 9, 10, 11] (lo2 := [(0, .ref a0), (1, .ref (ma 0)), (2, .ref (ma 1)), (3, .ref (ma 2)), (4, .ref (ma 3)), (5, .ref (ma 4)), (6, .ref (ma 5)), (9, wi a9), (10, wi v10_9), (12, wi t0_88)]) rfl ?_
              exact hJ170 E_93 C_93 q_93
            · refine r_aload_n (x := ma 0) dL_isMoved_104 rfl rfl ?_
              refine r_aload (x := ma 6) dL_isMoved_105 rfl ?_
              refine r_aload (x := ma 8) dL_isMoved_107 rfl ?_
              refine ro_iconst (v := 4) dL_isMoved_109 rfl ?_
              refine r_iload (x := a9) dL_isMoved_110 rfl ?_
              refine r_imul dL_isMoved_112 ?_
              refine r_iload (x := v13_93) dL_isMoved_113 rfl ?_
              refine r_iadd dL_isMoved_115 ?_
              refine ro_iconst (v := 0) dL_isMoved_116 rfl ?_
              refine r_csv (J := fun (E_ : Rw) => (E_, C_93, q_93)) (k2 := k_L_sets) (n := 5) (rest := []) (fun _ => rfl) rfl kv_L_sets (c_L_sets (ad := adq ma q_93) (K0 := C_93) h (adq_hm hm) ((4 * a9) + v13_93) 0 _) (by decide) um_L_51 rfl (Nat.le_of_ble_eq_true rfl) dL_isMoved_117 rfl (fun r12 E13 => ?_)
              show RunO l Γ k_L_isMoved 14 encI (em3 ma) 120 [(0, .ref a0), (1, .ref (ma 0)), (2, .ref (ma 1)), (3, .ref (ma 2)), (4, .ref (ma 3)), (5, .ref (ma 4)), (6, .ref (ma 5)), (7, .ref (ma 6)), (8, .ref (ma 8)), (9, wi a9), (10, wi v10_9), (12, wi t0_88), (13, wi v13_93)] [] (E13, C_93, q_93) _
              refine r_aload (x := ma 6) dL_isMoved_120 rfl ?_
              refine r_bipush (v := 7) dL_isMoved_122 rfl ?_
              refine ro_iconst (v := 4) dL_isMoved_124 rfl ?_
              refine r_iload (x := a9) dL_isMoved_125 rfl ?_
              refine r_imul dL_isMoved_127 ?_
              refine r_iload (x := v13_93) dL_isMoved_128 rfl ?_
              refine r_iadd dL_isMoved_130 ?_
              refine r_imul dL_isMoved_131 ?_
              refine ro_iconst (v := 0) dL_isMoved_132 rfl ?_
              refine r_wiast3 h (by decide) (by decide) (hm 6 (by decide)) dL_isMoved_133 (fun E14 => ?_)
              refine r_aload_n (x := ma 1) dL_isMoved_134 rfl rfl ?_
              refine ro_iconst (v := 4) dL_isMoved_135 rfl ?_
              refine ro_iconst (v := 4) dL_isMoved_136 rfl ?_
              refine r_iload (x := a9) dL_isMoved_137 rfl ?_
              refine r_imul dL_isMoved_139 ?_
              refine r_isub dL_isMoved_140 ?_
              refine r_iload (x := v13_93) dL_isMoved_141 rfl ?_
              refine r_iadd dL_isMoved_143 ?_
              refine r_aload_n (x := ma 1) dL_isMoved_144 rfl rfl ?_
              refine ro_iconst (v := 4) dL_isMoved_145 rfl ?_
              refine r_iload (x := a9) dL_isMoved_146 rfl ?_
              refine r_imul dL_isMoved_148 ?_
              refine r_iload (x := v13_93) dL_isMoved_149 rfl ?_
              refine r_iadd dL_isMoved_151 ?_
              refine r_wiald3 h (by decide) (by decide) (hm 1 (by decide)) dL_isMoved_152 ?_
              refine r_wiast3 h (by decide) (by decide) (hm 1 (by decide)) dL_isMoved_153 (fun E15 => ?_)
              refine r_aload_n (x := ma 1) dL_isMoved_154 rfl rfl ?_
              refine ro_iconst (v := 4) dL_isMoved_155 rfl ?_
              refine r_iload (x := a9) dL_isMoved_156 rfl ?_
              refine r_imul dL_isMoved_158 ?_
              refine r_iload (x := v13_93) dL_isMoved_159 rfl ?_
              refine r_iadd dL_isMoved_161 ?_
              refine ro_iconst (v := 0) dL_isMoved_162 rfl ?_
              refine r_wiast3 h (by decide) (by decide) (hm 1 (by decide)) dL_isMoved_163 (fun E16 => ?_)
              refine r_iinc (x := v13_93) (lo2 := [(13, wi (v13_93 + 1)), (0, .ref a0), (1, .ref (ma 0)), (2, .ref (ma 1)), (3, .ref (ma 2)), (4, .ref (ma 3)), (5, .ref (ma 4)), (6, .ref (ma 5)), (7, .ref (ma 6)), (8, .ref (ma 8)), (9, wi a9), (10, wi v10_9), (12, wi t0_88)]) dL_isMoved_164 rfl (by decide) rfl ?_
              refine r_goto (tgt := 93) dL_isMoved_167 (by decide) ?_
              refine r_lo [1, 2, 3, 4, 5, 6, 7, 8, 9, 10, 11, 12, 0] (lo2 := [(0, .ref a0), (1, .ref (ma 0)), (2, .ref (ma 1)), (3, .ref (ma 2)), (4, .ref (ma 3)), (5, .ref (ma 4)), (6, .ref (ma 5)), (7, .ref (ma 6)), (8, .ref (ma 8)), (9, wi a9), (10, wi v10_9), (12, wi t0_88), (13, wi (v13_93 + 1))]) rfl ?_
              exact hL93 (v13_93 + 1) E16 C_93 q_93
        refine r_lo [2, 3, 4, 5, 6, 7, 8, 9, 10, 11, 12, 1, 0] (lo2 := [(0, .ref a0), (1, .ref (ma 0)), (2, .ref (ma 1)), (3, .ref (ma 2)), (4, .ref (ma 3)), (5, .ref (ma 4)), (6, .ref (ma 5)), (7, .ref (ma 6)), (8, .ref (ma 8)), (9, wi a9), (10, wi v10_9), (12, wi t0_88), (13, wi 0)]) rfl ?_
        exact hJ93 0 E_88 C_88 q_88
      refine r_join (P := fun (J : Rw → Cd → (Nat → Nat) → Option (Int × S3)) => ∀ (E_87 : Rw) (C_87 : Cd) (q_87 : (Nat → Nat)), RunO l Γ k_L_isMoved 14 encI (em3 ma) 87 [(0, .ref a0), (1, .ref (ma 0)), (2, .ref (ma 1)), (3, .ref (ma 2)), (4, .ref (ma 3)), (5, .ref (ma 4)), (6, .ref (ma 5)), (7, .ref (ma 6)), (8, .ref (ma 8)), (9, wi a9), (10, wi v10_9)] [] (E_87, C_87, q_87) (J E_87 C_87 q_87)) ?_ (fun J87 hJ87 => ?_)
      · intro E_87 C_87 q_87
        show RunO l Γ k_L_isMoved 14 encI (em3 ma) 87 [(0, .ref a0), (1, .ref (ma 0)), (2, .ref (ma 1)), (3, .ref (ma 2)), (4, .ref (ma 3)), (5, .ref (ma 4)), (6, .ref (ma 5)), (7, .ref (ma 6)), (8, .ref (ma 8)), (9, wi a9), (10, wi v10_9)] [] (E_87, C_87, q_87) (fW_isMoved_87 J88 E_87 C_87 q_87)
        unfold fW_isMoved_87
        refine ro_iconst (v := 0) dL_isMoved_87 rfl ?_
        exact hJ88 0 E_87 C_87 q_87
      refine r_if_le (tgt := 87) dL_isMoved_75 (by decide) ?_ ?_
      · refine r_lo [0, 1, 2, 3, 4, 5, 6, 7, 8, 9, 10] (lo2 := [(0, .ref a0), (1, .ref (ma 0)), (2, .ref (ma 1)), (3, .ref (ma 2)), (4, .ref (ma 3)), (5, .ref (ma 4)), (6, .ref (ma 5)), (7, .ref (ma 6)), (8, .ref (ma 8)), (9, wi a9), (10, wi v10_9)]) rfl ?_
        exact hJ87 E_9 C_9 q_9
      · refine r_iload (x := v11_9) dL_isMoved_78 rfl ?_
        refine r_if_ne (tgt := 87) dL_isMoved_80 (by decide) ?_ ?_
        · refine r_lo [0, 1, 2, 3, 4, 5, 6, 7, 8, 9, 10] (lo2 := [(0, .ref a0), (1, .ref (ma 0)), (2, .ref (ma 1)), (3, .ref (ma 2)), (4, .ref (ma 3)), (5, .ref (ma 4)), (6, .ref (ma 5)), (7, .ref (ma 6)), (8, .ref (ma 8)), (9, wi a9), (10, wi v10_9)]) rfl ?_
          exact hJ87 E_9 C_9 q_9
        · refine ro_iconst (v := 1) dL_isMoved_83 rfl ?_
          refine r_goto (tgt := 88) dL_isMoved_84 (by decide) ?_
          refine r_lo [0, 1, 2, 3, 4, 5, 6, 7, 8, 9, 10] (lo2 := [(0, .ref a0), (1, .ref (ma 0)), (2, .ref (ma 1)), (3, .ref (ma 2)), (4, .ref (ma 3)), (5, .ref (ma 4)), (6, .ref (ma 5)), (7, .ref (ma 6)), (8, .ref (ma 8)), (9, wi a9), (10, wi v10_9)]) rfl ?_
          exact hJ88 1 E_9 C_9 q_9
    · refine r_iload (x := v10_9) dL_isMoved_15 rfl ?_
      refine r_aload_n (x := ma 1) dL_isMoved_17 rfl rfl ?_
      refine ro_iconst (v := 4) dL_isMoved_18 rfl ?_
      refine r_iload (x := a9) dL_isMoved_19 rfl ?_
      refine r_imul dL_isMoved_21 ?_
      refine r_iload (x := v12_9) dL_isMoved_22 rfl ?_
      refine r_iadd dL_isMoved_24 ?_
      refine r_wiald3 h (by decide) (by decide) (hm 1 (by decide)) dL_isMoved_25 ?_
      refine r_join (P := fun (J : Int → Rw → Cd → (Nat → Nat) → Option (Int × S3)) => ∀ (t0_37 : Int) (E_37 : Rw) (C_37 : Cd) (q_37 : (Nat → Nat)), RunO l Γ k_L_isMoved 14 encI (em3 ma) 37 [(0, .ref a0), (1, .ref (ma 0)), (2, .ref (ma 1)), (3, .ref (ma 2)), (4, .ref (ma 3)), (5, .ref (ma 4)), (6, .ref (ma 5)), (7, .ref (ma 6)), (8, .ref (ma 8)), (9, wi a9), (11, wi v11_9), (12, wi v12_9)] [wi t0_37, wi v10_9] (E_37, C_37, q_37) (J t0_37 E_37 C_37 q_37)) ?_ (fun J37 hJ37 => ?_)
      · intro t0_37 E_37 C_37 q_37
        show RunO l Γ k_L_isMoved 14 encI (em3 ma) 37 [(0, .ref a0), (1, .ref (ma 0)), (2, .ref (ma 1)), (3, .ref (ma 2)), (4, .ref (ma 3)), (5, .ref (ma 4)), (6, .ref (ma 5)), (7, .ref (ma 6)), (8, .ref (ma 8)), (9, wi a9), (11, wi v11_9), (12, wi v12_9)] [wi t0_37, wi v10_9] (E_37, C_37, q_37) (fW_isMoved_37 a9 L9 v10_9 v11_9 v12_9 t0_37 E_37 C_37 q_37)
        unfold fW_isMoved_37
        refine r_ior dL_isMoved_37 ?_
        refine r_nm (fun x10_38 => ?_)
        refine r_istore (lo2 := [(10, wi x10_38), (0, .ref a0), (1, .ref (ma 0)), (2, .ref (ma 1)), (3, .ref (ma 2)), (4, .ref (ma 3)), (5, .ref (ma 4)), (6, .ref (ma 5)), (7, .ref (ma 6)), (8, .ref (ma 8)), (9, wi a9), (11, wi v11_9), (12, wi v12_9)]) dL_isMoved_38 (by decide) rfl ?_
        refine r_iload (x := v11_9) dL_isMoved_40 rfl ?_
        refine r_aload_n (x := ma 1) dL_isMoved_42 rfl rfl ?_
        refine ro_iconst (v := 4) dL_isMoved_43 rfl ?_
        refine ro_iconst (v := 4) dL_isMoved_44 rfl ?_
        refine r_iload (x := a9) dL_isMoved_45 rfl ?_
        refine r_imul dL_isMoved_47 ?_
        refine r_isub dL_isMoved_48 ?_
        refine r_iload (x := v12_9) dL_isMoved_49 rfl ?_
        refine r_iadd dL_isMoved_51 ?_
        refine r_wiald3 h (by decide) (by decide) (hm 1 (by decide)) dL_isMoved_52 ?_
        refine r_join (P := fun (J : Int → Rw → Cd → (Nat → Nat) → Option (Int × S3)) => ∀ (t0_64 : Int) (E_64 : Rw) (C_64 : Cd) (q_64 : (Nat → Nat)), RunO l Γ k_L_isMoved 14 encI (em3 ma) 64 [(0, .ref a0), (1, .ref (ma 0)), (2, .ref (ma 1)), (3, .ref (ma 2)), (4, .ref (ma 3)), (5, .ref (ma 4)), (6, .ref (ma 5)), (7, .ref (ma 6)), (8, .ref (ma 8)), (9, wi a9), (10, wi x10_38), (12, wi v12_9)] [wi t0_64, wi v11_9] (E_64, C_64, q_64) (J t0_64 E_64 C_64 q_64)) ?_ (fun J64 hJ64 => ?_)
        · intro t0_64 E_64 C_64 q_64
          show RunO l Γ k_L_isMoved 14 encI (em3 ma) 64 [(0, .ref a0), (1, .ref (ma 0)), (2, .ref (ma 1)), (3, .ref (ma 2)), (4, .ref (ma 3)), (5, .ref (ma 4)), (6, .ref (ma 5)), (7, .ref (ma 6)), (8, .ref (ma 8)), (9, wi a9), (10, wi x10_38), (12, wi v12_9)] [wi t0_64, wi v11_9] (E_64, C_64, q_64) (fW_isMoved_64 L9 v11_9 v12_9 x10_38 t0_64 E_64 C_64 q_64)
          unfold fW_isMoved_64
          refine r_ior dL_isMoved_64 ?_
          refine r_nm (fun x11_65 => ?_)
          refine r_istore (lo2 := [(11, wi x11_65), (0, .ref a0), (1, .ref (ma 0)), (2, .ref (ma 1)), (3, .ref (ma 2)), (4, .ref (ma 3)), (5, .ref (ma 4)), (6, .ref (ma 5)), (7, .ref (ma 6)), (8, .ref (ma 8)), (9, wi a9), (10, wi x10_38), (12, wi v12_9)]) dL_isMoved_65 (by decide) rfl ?_
          refine r_iinc (x := v12_9) (lo2 := [(12, wi (v12_9 + 1)), (11, wi x11_65), (0, .ref a0), (1, .ref (ma 0)), (2, .ref (ma 1)), (3, .ref (ma 2)), (4, .ref (ma 3)), (5, .ref (ma 4)), (6, .ref (ma 5)), (7, .ref (ma 6)), (8, .ref (ma 8)), (9, wi a9), (10, wi x10_38)]) dL_isMoved_67 rfl (by decide) rfl ?_
          refine r_goto (tgt := 9) dL_isMoved_70 (by decide) ?_
          refine r_lo [2, 3, 4, 5, 6, 7, 8, 9, 10, 11, 12, 1, 0] (lo2 := [(0, .ref a0), (1, .ref (ma 0)), (2, .ref (ma 1)), (3, .ref (ma 2)), (4, .ref (ma 3)), (5, .ref (ma 4)), (6, .ref (ma 5)), (7, .ref (ma 6)), (8, .ref (ma 8)), (9, wi a9), (10, wi x10_38), (11, wi x11_65), (12, wi (v12_9 + 1))]) rfl ?_
          exact hL9 x10_38 x11_65 (v12_9 + 1) E_64 C_64 q_64
        refine r_if_le (tgt := 63) dL_isMoved_53 (by decide) ?_ ?_
        · refine ro_iconst (v := 0) dL_isMoved_63 rfl ?_
          refine r_lo [1, 2, 3, 4, 5, 6, 7, 8, 9, 10, 0, 12] (lo2 := [(0, .ref a0), (1, .ref (ma 0)), (2, .ref (ma 1)), (3, .ref (ma 2)), (4, .ref (ma 3)), (5, .ref (ma 4)), (6, .ref (ma 5)), (7, .ref (ma 6)), (8, .ref (ma 8)), (9, wi a9), (10, wi x10_38), (12, wi v12_9)]) rfl ?_
          exact hJ64 0 E_37 C_37 q_37
        · refine ro_iconst (v := 1) dL_isMoved_56 rfl ?_
          refine r_iload (x := v12_9) dL_isMoved_57 rfl ?_
          refine r_ishl dL_isMoved_59 ?_
          refine r_goto (tgt := 64) dL_isMoved_60 (by decide) ?_
          refine r_lo [1, 2, 3, 4, 5, 6, 7, 8, 9, 10, 0, 12] (lo2 := [(0, .ref a0), (1, .ref (ma 0)), (2, .ref (ma 1)), (3, .ref (ma 2)), (4, .ref (ma 3)), (5, .ref (ma 4)), (6, .ref (ma 5)), (7, .ref (ma 6)), (8, .ref (ma 8)), (9, wi a9), (10, wi x10_38), (12, wi v12_9)]) rfl ?_
          exact hJ64 (shlI 1 v12_9) E_37 C_37 q_37
      refine r_if_le (tgt := 36) dL_isMoved_26 (by decide) ?_ ?_
      · refine ro_iconst (v := 0) dL_isMoved_36 rfl ?_
        refine r_lo [0, 1, 2, 3, 4, 5, 6, 7, 8, 9, 11, 12] (lo2 := [(0, .ref a0), (1, .ref (ma 0)), (2, .ref (ma 1)), (3, .ref (ma 2)), (4, .ref (ma 3)), (5, .ref (ma 4)), (6, .ref (ma 5)), (7, .ref (ma 6)), (8, .ref (ma 8)), (9, wi a9), (11, wi v11_9), (12, wi v12_9)]) rfl ?_
        exact hJ37 0 E_9 C_9 q_9
      · refine ro_iconst (v := 1) dL_isMoved_29 rfl ?_
        refine r_iload (x := v12_9) dL_isMoved_30 rfl ?_
        refine r_ishl dL_isMoved_32 ?_
        refine r_goto (tgt := 37) dL_isMoved_33 (by decide) ?_
        refine r_lo [0, 1, 2, 3, 4, 5, 6, 7, 8, 9, 11, 12] (lo2 := [(0, .ref a0), (1, .ref (ma 0)), (2, .ref (ma 1)), (3, .ref (ma 2)), (4, .ref (ma 3)), (5, .ref (ma 4)), (6, .ref (ma 5)), (7, .ref (ma 6)), (8, .ref (ma 8)), (9, wi a9), (11, wi v11_9), (12, wi v12_9)]) rfl ?_
        exact hJ37 (shlI 1 v12_9) E_9 C_9 q_9
  refine r_lo [3, 4, 5, 6, 7, 8, 9, 10, 11, 12, 2, 1, 0] (lo2 := [(0, .ref a0), (1, .ref (ma 0)), (2, .ref (ma 1)), (3, .ref (ma 2)), (4, .ref (ma 3)), (5, .ref (ma 4)), (6, .ref (ma 5)), (7, .ref (ma 6)), (8, .ref (ma 8)), (9, wi a9), (10, wi 0), (11, wi 0), (12, wi 0)]) rfl ?_
  exact hJ9 0 0 0 E C q
def k_L_isStale : Kd := (yL_isStale, cL_isStale, 8, some .boolean, [])
theorem kv_L_isStale : KS k_L_isStale 5 := ⟨uw_mem 770 (by decide +kernel) rfl, uw_mem 93 (by decide +kernel) rfl, uw_mem 769 (by decide +kernel) rfl, ⟨by decide +kernel, by decide +kernel⟩, by decide +kernel, by decide +kernel⟩
set_option maxHeartbeats 8000000 in
set_option maxRecDepth 100000 in
theorem c_L_isStale {l : Launch} {Γ : Cx} {ad : Nat → Nat} {K0 : Cd} (h : wOn Γ) (hm : ∀ k, k ≤ 10 → ad k ≠ 0) (a4 : Int) (E : Rw) : Ct l Γ k_L_isStale 1 encI (emW ad K0) [.ref (ad 1), .ref (ad 4), .ref (ad 6), .ref (ad 8), wi a4] E (fW_isStale a4 E) := by
  refine ct_of (by decide +kernel) rfl (Nat.le_of_ble_eq_true rfl) ?_
  refine r_lo [0, 1, 2, 3, 4] (lo2 := [(0, .ref (ad 1)), (1, .ref (ad 4)), (2, .ref (ad 6)), (3, .ref (ad 8)), (4, wi a4)]) rfl ?_
  unfold fW_isStale
  refine r_aload_n (x := ad 6) dL_isStale_0 rfl rfl ?_
  refine r_bipush (v := 7) dL_isStale_1 rfl ?_
  refine r_iload (x := a4) dL_isStale_3 rfl ?_
  refine r_imul dL_isStale_5 ?_
  refine r_wiald h (by decide) (hm 6 (by decide)) dL_isStale_6 ?_
  refine ro_iconst (v := 1) dL_isStale_7 rfl ?_
  refine r_isub dL_isStale_8 ?_
  refine r_nm (fun x5_9 => ?_)
  refine r_istore (lo2 := [(5, wi x5_9), (0, .ref (ad 1)), (1, .ref (ad 4)), (2, .ref (ad 6)), (3, .ref (ad 8)), (4, wi a4)]) dL_isStale_9 (by decide) rfl ?_
  refine r_iload (x := x5_9) dL_isStale_11 rfl ?_
  refine r_join (P := fun (J : Int → Rw → Option (Int × Rw)) => ∀ (t0_30 : Int) (E_30 : Rw), RunO l Γ k_L_isStale 1 encI (emW ad K0) 30 [(0, .ref (ad 1)), (1, .ref (ad 4)), (2, .ref (ad 6)), (3, .ref (ad 8)), (4, wi a4), (5, wi x5_9)] [wi t0_30] E_30 (J t0_30 E_30)) ?_ (fun J30 hJ30 => ?_)
  · intro t0_30 E_30
    refine r_istore (lo2 := [(6, wi t0_30), (0, .ref (ad 1)), (1, .ref (ad 4)), (2, .ref (ad 6)), (3, .ref (ad 8)), (4, wi a4), (5, wi x5_9)]) dL_isStale_30 (by decide) rfl ?_
    refine ro_iconst (v := 0) dL_isStale_32 rfl ?_
    refine r_istore (lo2 := [(7, wi 0), (6, wi t0_30), (0, .ref (ad 1)), (1, .ref (ad 4)), (2, .ref (ad 6)), (3, .ref (ad 8)), (4, wi a4), (5, wi x5_9)]) dL_isStale_33 (by decide) rfl ?_
    refine r_loop (P := fun (J : Int → Int → Rw → Option (Int × Rw)) => ∀ (v6_35 : Int) (v7_35 : Int) (E_35 : Rw), RunO l Γ k_L_isStale 1 encI (emW ad K0) 35 [(0, .ref (ad 1)), (1, .ref (ad 4)), (2, .ref (ad 6)), (3, .ref (ad 8)), (4, wi a4), (5, wi x5_9), (6, wi v6_35), (7, wi v7_35)] [] E_35 (J v6_35 v7_35 E_35)) ?_ (fun L35 hL35 => ?_) (fun J35 hJ35 => ?_)
    · intros; exact ro_none
    · intro v6_35 v7_35 E_35
      refine r_iload (x := v7_35) dL_isStale_35 rfl ?_
      refine r_bipush (v := 8) dL_isStale_37 rfl ?_
      refine r_icmp_ge (tgt := 114) dL_isStale_39 (by decide) ?_ ?_
      · refine r_iload (x := v6_35) dL_isStale_114 rfl ?_
        refine r_join (P := fun (J : Int → Rw → Option (Int × Rw)) => ∀ (t0_131 : Int) (E_131 : Rw), RunO l Γ k_L_isStale 1 encI (emW ad K0) 131 [] [wi t0_131] E_131 (J t0_131 E_131)) ?_ (fun J131 hJ131 => ?_)
        · intro t0_131 E_131
          exact r_zret rfl dL_isStale_131
        refine r_join (P := fun (J : Rw → Option (Int × Rw)) => ∀ (E_130 : Rw), RunO l Γ k_L_isStale 1 encI (emW ad K0) 130 [] [] E_130 (J E_130)) ?_ (fun J130 hJ130 => ?_)
        · intro E_130
          refine ro_iconst (v := 0) dL_isStale_130 rfl ?_
          exact hJ131 0 E_130
        refine r_if_eq (tgt := 130) dL_isStale_116 (by decide) ?_ ?_
        · refine r_lo [] (lo2 := []) rfl ?_
          exact hJ130 E_35
        · refine r_aload_n (x := ad 1) dL_isStale_119 rfl rfl ?_
          refine r_iload (x := a4) dL_isStale_120 rfl ?_
          refine r_wiald h (by decide) (hm 1 (by decide)) dL_isStale_122 ?_
          refine r_if_le (tgt := 130) dL_isStale_123 (by decide) ?_ ?_
          · refine r_lo [] (lo2 := []) rfl ?_
            exact hJ130 E_35
          · refine ro_iconst (v := 1) dL_isStale_126 rfl ?_
            refine r_goto (tgt := 131) dL_isStale_127 (by decide) ?_
            refine r_lo [] (lo2 := []) rfl ?_
            exact hJ131 1 E_35
      · refine r_iload (x := v6_35) dL_isStale_42 rfl ?_
        refine r_join (P := fun (J : Int → Rw → Option (Int × Rw)) => ∀ (t0_106 : Int) (E_106 : Rw), RunO l Γ k_L_isStale 1 encI (emW ad K0) 106 [(0, .ref (ad 1)), (1, .ref (ad 4)), (2, .ref (ad 6)), (3, .ref (ad 8)), (4, wi a4), (5, wi x5_9), (7, wi v7_35)] [wi t0_106] E_106 (J t0_106 E_106)) ?_ (fun J106 hJ106 => ?_)
        · intro t0_106 E_106
          refine r_istore (lo2 := [(6, wi t0_106), (0, .ref (ad 1)), (1, .ref (ad 4)), (2, .ref (ad 6)), (3, .ref (ad 8)), (4, wi a4), (5, wi x5_9), (7, wi v7_35)]) dL_isStale_106 (by decide) rfl ?_
          refine r_iinc (x := v7_35) (lo2 := [(7, wi (v7_35 + 1)), (6, wi t0_106), (0, .ref (ad 1)), (1, .ref (ad 4)), (2, .ref (ad 6)), (3, .ref (ad 8)), (4, wi a4), (5, wi x5_9)]) dL_isStale_108 rfl (by decide) rfl ?_
          refine r_goto (tgt := 35) dL_isStale_111 (by decide) ?_
          refine r_lo [2, 3, 4, 5, 6, 7, 1, 0] (lo2 := [(0, .ref (ad 1)), (1, .ref (ad 4)), (2, .ref (ad 6)), (3, .ref (ad 8)), (4, wi a4), (5, wi x5_9), (6, wi t0_106), (7, wi (v7_35 + 1))]) rfl ?_
          exact hL35 t0_106 (v7_35 + 1) E_106
        refine r_join (P := fun (J : Rw → Option (Int × Rw)) => ∀ (E_101 : Rw), RunO l Γ k_L_isStale 1 encI (emW ad K0) 101 [(0, .ref (ad 1)), (1, .ref (ad 4)), (2, .ref (ad 6)), (3, .ref (ad 8)), (4, wi a4), (5, wi x5_9), (7, wi v7_35)] [] E_101 (J E_101)) ?_ (fun J101 hJ101 => ?_)
        · intro E_101
          refine ro_iconst (v := 1) dL_isStale_101 rfl ?_
          refine r_goto (tgt := 106) dL_isStale_102 (by decide) ?_
          exact hJ106 1 E_101
        refine r_if_ne (tgt := 101) dL_isStale_44 (by decide) ?_ ?_
        · refine r_lo [0, 1, 2, 3, 4, 5, 7] (lo2 := [(0, .ref (ad 1)), (1, .ref (ad 4)), (2, .ref (ad 6)), (3, .ref (ad 8)), (4, wi a4), (5, wi x5_9), (7, wi v7_35)]) rfl ?_
          exact hJ101 E_35
        · refine r_aload_n (x := ad 6) dL_isStale_47 rfl rfl ?_
          refine r_bipush (v := 7) dL_isStale_48 rfl ?_
          refine r_iload (x := a4) dL_isStale_50 rfl ?_
          refine r_imul dL_isStale_52 ?_
          refine ro_iconst (v := 3) dL_isStale_53 rfl ?_
          refine r_iadd dL_isStale_54 ?_
          refine r_wiald h (by decide) (hm 6 (by decide)) dL_isStale_55 ?_
          refine r_iload (x := v7_35) dL_isStale_56 rfl ?_
          refine r_ishr dL_isStale_58 ?_
          refine ro_iconst (v := 1) dL_isStale_59 rfl ?_
          refine r_iand dL_isStale_60 ?_
          refine ro_iconst (v := 1) dL_isStale_61 rfl ?_
          refine r_join (P := fun (J : Rw → Option (Int × Rw)) => ∀ (E_74 : Rw), RunO l Γ k_L_isStale 1 encI (emW ad K0) 74 [(0, .ref (ad 1)), (1, .ref (ad 4)), (2, .ref (ad 6)), (3, .ref (ad 8)), (4, wi a4), (5, wi x5_9), (7, wi v7_35)] [] E_74 (J E_74)) ?_ (fun J74 hJ74 => ?_)
          · intro E_74
            refine r_aload_n (x := ad 6) dL_isStale_74 rfl rfl ?_
            refine r_bipush (v := 7) dL_isStale_75 rfl ?_
            refine r_iload (x := a4) dL_isStale_77 rfl ?_
            refine r_imul dL_isStale_79 ?_
            refine ro_iconst (v := 5) dL_isStale_80 rfl ?_
            refine r_iadd dL_isStale_81 ?_
            refine r_wiald h (by decide) (hm 6 (by decide)) dL_isStale_82 ?_
            refine r_iload (x := v7_35) dL_isStale_83 rfl ?_
            refine r_ishr dL_isStale_85 ?_
            refine ro_iconst (v := 1) dL_isStale_86 rfl ?_
            refine r_iand dL_isStale_87 ?_
            refine ro_iconst (v := 1) dL_isStale_88 rfl ?_
            refine r_join (P := fun (J : Rw → Option (Int × Rw)) => ∀ (E_105 : Rw), RunO l Γ k_L_isStale 1 encI (emW ad K0) 105 [(0, .ref (ad 1)), (1, .ref (ad 4)), (2, .ref (ad 6)), (3, .ref (ad 8)), (4, wi a4), (5, wi x5_9), (7, wi v7_35)] [] E_105 (J E_105)) ?_ (fun J105 hJ105 => ?_)
            · intro E_105
              refine ro_iconst (v := 0) dL_isStale_105 rfl ?_
              exact hJ106 0 E_105
            refine r_icmp_ne (tgt := 105) dL_isStale_89 (by decide) ?_ ?_
            · exact hJ105 E_74
            · refine r_aload_n (x := ad 8) dL_isStale_92 rfl rfl ?_
              refine r_iload (x := v7_35) dL_isStale_93 rfl ?_
              refine r_wiald h (by decide) (hm 8 (by decide)) dL_isStale_95 ?_
              refine r_iload (x := x5_9) dL_isStale_96 rfl ?_
              refine r_icmp_le (tgt := 105) dL_isStale_98 (by decide) ?_ ?_
              · exact hJ105 E_74
              · exact hJ101 E_74
          refine r_icmp_ne (tgt := 74) dL_isStale_62 (by decide) ?_ ?_
          · refine r_lo [0, 1, 2, 3, 4, 5, 7] (lo2 := [(0, .ref (ad 1)), (1, .ref (ad 4)), (2, .ref (ad 6)), (3, .ref (ad 8)), (4, wi a4), (5, wi x5_9), (7, wi v7_35)]) rfl ?_
            exact hJ74 E_35
          · refine r_aload_n (x := ad 4) dL_isStale_65 rfl rfl ?_
            refine r_iload (x := v7_35) dL_isStale_66 rfl ?_
            refine r_wiald h (by decide) (hm 4 (by decide)) dL_isStale_68 ?_
            refine r_iload (x := x5_9) dL_isStale_69 rfl ?_
            refine r_icmp_gt (tgt := 101) dL_isStale_71 (by decide) ?_ ?_
            · refine r_lo [0, 1, 2, 3, 4, 5, 7] (lo2 := [(0, .ref (ad 1)), (1, .ref (ad 4)), (2, .ref (ad 6)), (3, .ref (ad 8)), (4, wi a4), (5, wi x5_9), (7, wi v7_35)]) rfl ?_
              exact hJ101 E_35
            · refine r_lo [0, 1, 2, 3, 4, 5, 7] (lo2 := [(0, .ref (ad 1)), (1, .ref (ad 4)), (2, .ref (ad 6)), (3, .ref (ad 8)), (4, wi a4), (5, wi x5_9), (7, wi v7_35)]) rfl ?_
              exact hJ74 E_35
    refine r_lo [2, 3, 4, 5, 6, 7, 1, 0] (lo2 := [(0, .ref (ad 1)), (1, .ref (ad 4)), (2, .ref (ad 6)), (3, .ref (ad 8)), (4, wi a4), (5, wi x5_9), (6, wi t0_30), (7, wi 0)]) rfl ?_
    exact hJ35 t0_30 0 E_30
  refine r_join (P := fun (J : Rw → Option (Int × Rw)) => ∀ (E_25 : Rw), RunO l Γ k_L_isStale 1 encI (emW ad K0) 25 [(0, .ref (ad 1)), (1, .ref (ad 4)), (2, .ref (ad 6)), (3, .ref (ad 8)), (4, wi a4), (5, wi x5_9)] [] E_25 (J E_25)) ?_ (fun J25 hJ25 => ?_)
  · intro E_25
    refine ro_iconst (v := 1) dL_isStale_25 rfl ?_
    refine r_goto (tgt := 30) dL_isStale_26 (by decide) ?_
    exact hJ30 1 E_25
  refine r_if_lt (tgt := 25) dL_isStale_13 (by decide) ?_ ?_
  · refine r_lo [1, 2, 3, 4, 5, 0] (lo2 := [(0, .ref (ad 1)), (1, .ref (ad 4)), (2, .ref (ad 6)), (3, .ref (ad 8)), (4, wi a4), (5, wi x5_9)]) rfl ?_
    exact hJ25 E
  · refine r_aload_n (x := ad 4) dL_isStale_16 rfl rfl ?_
    refine r_iload (x := a4) dL_isStale_17 rfl ?_
    refine r_wiald h (by decide) (hm 4 (by decide)) dL_isStale_19 ?_
    refine r_iload (x := x5_9) dL_isStale_20 rfl ?_
    refine r_icmp_le (tgt := 29) dL_isStale_22 (by decide) ?_ ?_
    · refine ro_iconst (v := 0) dL_isStale_29 rfl ?_
      refine r_lo [1, 2, 3, 4, 5, 0] (lo2 := [(0, .ref (ad 1)), (1, .ref (ad 4)), (2, .ref (ad 6)), (3, .ref (ad 8)), (4, wi a4), (5, wi x5_9)]) rfl ?_
      exact hJ30 0 E
    · refine r_lo [1, 2, 3, 4, 5, 0] (lo2 := [(0, .ref (ad 1)), (1, .ref (ad 4)), (2, .ref (ad 6)), (3, .ref (ad 8)), (4, wi a4), (5, wi x5_9)]) rfl ?_
      exact hJ25 E
def k_L_isText : Kd := (yL_isText, cL_isText, 4, some .boolean, [])
theorem kv_L_isText : KS k_L_isText 1 := ⟨uw_mem 1451 (by decide +kernel) rfl, uw_mem 93 (by decide +kernel) rfl, uw_mem 1450 (by decide +kernel) rfl, ⟨by decide +kernel, by decide +kernel⟩, by decide +kernel, by decide +kernel⟩
set_option maxHeartbeats 8000000 in
set_option maxRecDepth 100000 in
theorem c_L_isText {l : Launch} {Γ : Cx} {σ0 : St} (a0 : Int)  : Ct l Γ k_L_isText 3 encI (emU σ0) [vl a0] () (fW_isText a0) := by
  refine ct_of (by decide +kernel) rfl (Nat.le_of_ble_eq_true rfl) ?_
  refine r_lo [0] (lo2 := [(0, vl a0)]) rfl ?_
  unfold fW_isText
  refine r_lload_n (x := a0) dL_isText_0 rfl rfl ?_
  refine r_csi (J := fun (_ : Unit) => ()) (k2 := k_L_macros) (n := 1) (rest := []) (fun _ => rfl) rfl kv_L_macros (c_L_macros (σ0 := _) a0) (by decide) um_L_7 rfl (Nat.le_of_ble_eq_true rfl) dL_isText_1 rfl (fun r1 _ => ?_)
  show RunO l Γ k_L_isText 3 encI (emU σ0) 4 [(0, vl a0)] [wi r1] () _
  refine r_join (P := fun (J : Int → Option (Int × Unit)) => ∀ (t0_21 : Int), RunO l Γ k_L_isText 3 encI (emU σ0) 21 [(0, vl a0)] [wi t0_21] () (J t0_21)) ?_ (fun J21 hJ21 => ?_)
  · intro t0_21
    refine r_istore_n (lo2 := [(2, wi t0_21), (0, vl a0)]) dL_isText_21 rfl (by decide) rfl ?_
    refine ro_iconst (v := 0) dL_isText_22 rfl ?_
    refine r_istore_n (lo2 := [(3, wi 0), (2, wi t0_21), (0, vl a0)]) dL_isText_23 rfl (by decide) rfl ?_
    refine r_loop (P := fun (J : Int → Int → Option (Int × Unit)) => ∀ (v2_24 : Int) (v3_24 : Int), RunO l Γ k_L_isText 3 encI (emU σ0) 24 [(0, vl a0), (2, wi v2_24), (3, wi v3_24)] [] () (J v2_24 v3_24)) ?_ (fun L24 hL24 => ?_) (fun J24 hJ24 => ?_)
    · intros; exact ro_none
    · intro v2_24 v3_24
      refine r_iload_n (x := v3_24) dL_isText_24 rfl rfl ?_
      refine r_lload_n (x := a0) dL_isText_25 rfl rfl ?_
      refine r_csi (J := fun (_ : Unit) => ()) (k2 := k_L_macros) (n := 1) (rest := [wi v3_24]) (fun _ => rfl) rfl kv_L_macros (c_L_macros (σ0 := _) a0) (by decide) um_L_7 rfl (Nat.le_of_ble_eq_true rfl) dL_isText_26 rfl (fun r2 _ => ?_)
      show RunO l Γ k_L_isText 3 encI (emU σ0) 29 [(0, vl a0), (2, wi v2_24), (3, wi v3_24)] [wi r2, wi v3_24] () _
      refine r_join (P := fun (J : Option (Int × Unit)) => RunO l Γ k_L_isText 3 encI (emU σ0) 69 [(2, wi v2_24)] [] () J) ?_ (fun J69 hJ69 => ?_)
      · skip
        refine r_iload_n (x := v2_24) dL_isText_69 rfl rfl ?_
        exact r_zret rfl dL_isText_70
      refine r_icmp_ge (tgt := 69) dL_isText_29 (by decide) ?_ ?_
      · refine r_lo [1] (lo2 := [(2, wi v2_24)]) rfl ?_
        exact hJ69
      · refine r_lload_n (x := a0) dL_isText_32 rfl rfl ?_
        refine r_csi (J := fun (_ : Unit) => ()) (k2 := k_L_macros) (n := 1) (rest := []) (fun _ => rfl) rfl kv_L_macros (c_L_macros (σ0 := _) a0) (by decide) um_L_7 rfl (Nat.le_of_ble_eq_true rfl) dL_isText_33 rfl (fun r3 _ => ?_)
        show RunO l Γ k_L_isText 3 encI (emU σ0) 36 [(0, vl a0), (2, wi v2_24), (3, wi v3_24)] [wi r3] () _
        refine ro_iconst (v := 1) dL_isText_36 rfl ?_
        refine r_icmp_le (tgt := 69) dL_isText_37 (by decide) ?_ ?_
        · refine r_lo [1] (lo2 := [(2, wi v2_24)]) rfl ?_
          exact hJ69
        · refine r_iload_n (x := v2_24) dL_isText_40 rfl rfl ?_
          refine r_join (P := fun (J : Int → Option (Int × Unit)) => ∀ (t0_62 : Int), RunO l Γ k_L_isText 3 encI (emU σ0) 62 [(0, vl a0), (3, wi v3_24)] [wi t0_62] () (J t0_62)) ?_ (fun J62 hJ62 => ?_)
          · intro t0_62
            refine r_istore_n (lo2 := [(2, wi t0_62), (0, vl a0), (3, wi v3_24)]) dL_isText_62 rfl (by decide) rfl ?_
            refine r_iinc (x := v3_24) (lo2 := [(3, wi (v3_24 + 1)), (2, wi t0_62), (0, vl a0)]) dL_isText_63 rfl (by decide) rfl ?_
            refine r_goto (tgt := 24) dL_isText_66 (by decide) ?_
            refine r_lo [2, 1, 0] (lo2 := [(0, vl a0), (2, wi t0_62), (3, wi (v3_24 + 1))]) rfl ?_
            exact hL24 t0_62 (v3_24 + 1)
          refine r_join (P := fun (J : Option (Int × Unit)) => RunO l Γ k_L_isText 3 encI (emU σ0) 61 [(0, vl a0), (3, wi v3_24)] [] () J) ?_ (fun J61 hJ61 => ?_)
          · skip
            refine ro_iconst (v := 0) dL_isText_61 rfl ?_
            exact hJ62 0
          refine r_if_eq (tgt := 61) dL_isText_41 (by decide) ?_ ?_
          · refine r_lo [0, 2] (lo2 := [(0, vl a0), (3, wi v3_24)]) rfl ?_
            exact hJ61
          · refine r_lload_n (x := a0) dL_isText_44 rfl rfl ?_
            refine r_iload_n (x := v3_24) dL_isText_45 rfl rfl ?_
            refine r_csi (J := fun (_ : Unit) => ()) (k2 := k_L_macro) (n := 2) (rest := []) (fun _ => rfl) rfl kv_L_macro (c_L_macro (σ0 := _) a0 v3_24) (by decide) um_L_19 rfl (Nat.le_of_ble_eq_true rfl) dL_isText_46 rfl (fun r4 _ => ?_)
            show RunO l Γ k_L_isText 3 encI (emU σ0) 49 [(0, vl a0), (2, wi v2_24), (3, wi v3_24)] [wi r4] () _
            refine r_bipush (v := 16) dL_isText_49 rfl ?_
            refine r_irem dL_isText_51 (by decide) ?_
            refine r_bipush (v := 10) dL_isText_52 rfl ?_
            refine r_icmp_eq (tgt := 61) dL_isText_54 (by decide) ?_ ?_
            · refine r_lo [0, 2] (lo2 := [(0, vl a0), (3, wi v3_24)]) rfl ?_
              exact hJ61
            · refine ro_iconst (v := 1) dL_isText_57 rfl ?_
              refine r_goto (tgt := 62) dL_isText_58 (by decide) ?_
              refine r_lo [0, 2] (lo2 := [(0, vl a0), (3, wi v3_24)]) rfl ?_
              exact hJ62 1
    refine r_lo [2, 1, 0] (lo2 := [(0, vl a0), (2, wi t0_21), (3, wi 0)]) rfl ?_
    exact hJ24 t0_21 0
  refine r_join (P := fun (J : Option (Int × Unit)) => RunO l Γ k_L_isText 3 encI (emU σ0) 20 [(0, vl a0)] [] () J) ?_ (fun J20 hJ20 => ?_)
  · skip
    refine ro_iconst (v := 0) dL_isText_20 rfl ?_
    exact hJ21 0
  refine r_if_le (tgt := 20) dL_isText_4 (by decide) ?_ ?_
  · exact hJ20
  · refine r_lload_n (x := a0) dL_isText_7 rfl rfl ?_
    refine r_csi (J := fun (_ : Unit) => ()) (k2 := k_L_macros) (n := 1) (rest := []) (fun _ => rfl) rfl kv_L_macros (c_L_macros (σ0 := _) a0) (by decide) um_L_7 rfl (Nat.le_of_ble_eq_true rfl) dL_isText_8 rfl (fun r5 _ => ?_)
    show RunO l Γ k_L_isText 3 encI (emU σ0) 11 [(0, vl a0)] [wi r5] () _
    refine r_bipush (v := 6) dL_isText_11 rfl ?_
    refine r_icmp_ge (tgt := 20) dL_isText_13 (by decide) ?_ ?_
    · exact hJ20
    · refine ro_iconst (v := 1) dL_isText_16 rfl ?_
      refine r_goto (tgt := 21) dL_isText_17 (by decide) ?_
      exact hJ21 1
def k_L_versionOf : Kd := (yL_versionOf, cL_versionOf, 8, some .int, [])
theorem kv_L_versionOf : KS k_L_versionOf 5 := ⟨uw_mem 1476 (by decide +kernel) rfl, uw_mem 93 (by decide +kernel) rfl, uw_mem 1475 (by decide +kernel) rfl, ⟨by decide +kernel, by decide +kernel⟩, by decide +kernel, by decide +kernel⟩
set_option maxHeartbeats 8000000 in
set_option maxRecDepth 100000 in
theorem c_L_versionOf {l : Launch} {Γ : Cx} {ad : Nat → Nat} {K0 : Cd} (h : wOn Γ) (hm : ∀ k, k ≤ 10 → ad k ≠ 0) (a3 : Int) (a4 : Int) (E : Rw) : Ct l Γ k_L_versionOf 1 encI (emW ad K0) [.ref (ad 0), .ref (ad 1), .ref (ad 2), wi a3, wi a4] E (fW_versionOf a3 a4 E) := by
  refine ct_of (by decide +kernel) rfl (Nat.le_of_ble_eq_true rfl) ?_
  refine r_lo [0, 1, 2, 3, 4] (lo2 := [(0, .ref (ad 0)), (1, .ref (ad 1)), (2, .ref (ad 2)), (3, wi a3), (4, wi a4)]) rfl ?_
  unfold fW_versionOf
  refine r_iload (x := a4) dL_versionOf_0 rfl ?_
  refine r_istore (lo2 := [(5, wi a4), (0, .ref (ad 0)), (1, .ref (ad 1)), (2, .ref (ad 2)), (3, wi a3), (4, wi a4)]) dL_versionOf_2 (by decide) rfl ?_
  refine ro_iconst (v := 1) dL_versionOf_4 rfl ?_
  refine r_istore (lo2 := [(6, wi 1), (5, wi a4), (0, .ref (ad 0)), (1, .ref (ad 1)), (2, .ref (ad 2)), (3, wi a3), (4, wi a4)]) dL_versionOf_5 (by decide) rfl ?_
  refine r_loop (P := fun (J : Int → Int → Rw → Option (Int × Rw)) => ∀ (v5_7 : Int) (v6_7 : Int) (E_7 : Rw), RunO l Γ k_L_versionOf 1 encI (emW ad K0) 7 [(0, .ref (ad 0)), (1, .ref (ad 1)), (2, .ref (ad 2)), (3, wi a3), (5, wi v5_7), (6, wi v6_7)] [] E_7 (J v5_7 v6_7 E_7)) ?_ (fun L7 hL7 => ?_) (fun J7 hJ7 => ?_)
  · intros; exact ro_none
  · intro v5_7 v6_7 E_7
    refine r_iload (x := v6_7) dL_versionOf_7 rfl ?_
    refine r_aload_n (x := ad 0) dL_versionOf_9 rfl rfl ?_
    refine ro_iconst (v := 2) dL_versionOf_10 rfl ?_
    refine r_wiald h (by decide) (hm 0 (by decide)) dL_versionOf_11 ?_
    refine r_icmp_gt (tgt := 82) dL_versionOf_12 (by decide) ?_ ?_
    · refine ro_iconst (v := (-1)) dL_versionOf_82 rfl ?_
      exact r_iret rfl dL_versionOf_83
    · refine ro_iconst (v := 0) dL_versionOf_15 rfl ?_
      refine r_istore (lo2 := [(7, wi 0), (0, .ref (ad 0)), (1, .ref (ad 1)), (2, .ref (ad 2)), (3, wi a3), (5, wi v5_7), (6, wi v6_7)]) dL_versionOf_16 (by decide) rfl ?_
      refine r_loop (P := fun (J : Int → Int → Rw → Option (Int × Rw)) => ∀ (v5_18 : Int) (v7_18 : Int) (E_18 : Rw), RunO l Γ k_L_versionOf 1 encI (emW ad K0) 18 [(0, .ref (ad 0)), (1, .ref (ad 1)), (2, .ref (ad 2)), (3, wi a3), (5, wi v5_18), (6, wi v6_7), (7, wi v7_18)] [] E_18 (J v5_18 v7_18 E_18)) ?_ (fun L18 hL18 => ?_) (fun J18 hJ18 => ?_)
      · intros; exact ro_none
      · intro v5_18 v7_18 E_18
        refine r_iload (x := v7_18) dL_versionOf_18 rfl ?_
        refine r_aload_n (x := ad 0) dL_versionOf_20 rfl rfl ?_
        refine ro_iconst (v := 0) dL_versionOf_21 rfl ?_
        refine r_wiald h (by decide) (hm 0 (by decide)) dL_versionOf_22 ?_
        refine r_icmp_ge (tgt := 76) dL_versionOf_23 (by decide) ?_ ?_
        · refine r_iinc (x := v6_7) (lo2 := [(6, wi (v6_7 + 1)), (0, .ref (ad 0)), (1, .ref (ad 1)), (2, .ref (ad 2)), (3, wi a3), (5, wi v5_18), (7, wi v7_18)]) dL_versionOf_76 rfl (by decide) rfl ?_
          refine r_goto (tgt := 7) dL_versionOf_79 (by decide) ?_
          refine r_lo [1, 2, 3, 4, 5, 0] (lo2 := [(0, .ref (ad 0)), (1, .ref (ad 1)), (2, .ref (ad 2)), (3, wi a3), (5, wi v5_18), (6, wi (v6_7 + 1))]) rfl ?_
          exact hL7 v5_18 (v6_7 + 1) E_18
        · refine r_aload_n (x := ad 1) dL_versionOf_26 rfl rfl ?_
          refine r_iload_n (x := a3) dL_versionOf_27 rfl rfl ?_
          refine r_wiald h (by decide) (hm 1 (by decide)) dL_versionOf_28 ?_
          refine r_join (P := fun (J : Int → Rw → Option (Int × Rw)) => ∀ (v5_70 : Int) (E_70 : Rw), RunO l Γ k_L_versionOf 1 encI (emW ad K0) 70 [(0, .ref (ad 0)), (1, .ref (ad 1)), (2, .ref (ad 2)), (3, wi a3), (5, wi v5_70), (6, wi v6_7), (7, wi v7_18)] [] E_70 (J v5_70 E_70)) ?_ (fun J70 hJ70 => ?_)
          · intro v5_70 E_70
            refine r_iinc (x := v7_18) (lo2 := [(7, wi (v7_18 + 1)), (0, .ref (ad 0)), (1, .ref (ad 1)), (2, .ref (ad 2)), (3, wi a3), (5, wi v5_70), (6, wi v6_7)]) dL_versionOf_70 rfl (by decide) rfl ?_
            refine r_goto (tgt := 18) dL_versionOf_73 (by decide) ?_
            refine r_lo [1, 2, 3, 4, 5, 6, 0] (lo2 := [(0, .ref (ad 0)), (1, .ref (ad 1)), (2, .ref (ad 2)), (3, wi a3), (5, wi v5_70), (6, wi v6_7), (7, wi (v7_18 + 1))]) rfl ?_
            exact hL18 v5_70 (v7_18 + 1) E_70
          refine r_if_le (tgt := 70) dL_versionOf_29 (by decide) ?_ ?_
          · exact hJ70 v5_18 E_18
          · refine r_aload_n (x := ad 2) dL_versionOf_32 rfl rfl ?_
            refine ro_iconst (v := 2) dL_versionOf_33 rfl ?_
            refine r_iload (x := v7_18) dL_versionOf_34 rfl ?_
            refine r_imul dL_versionOf_36 ?_
            refine r_wiald h (by decide) (hm 2 (by decide)) dL_versionOf_37 ?_
            refine r_aload_n (x := ad 1) dL_versionOf_38 rfl rfl ?_
            refine r_iload_n (x := a3) dL_versionOf_39 rfl rfl ?_
            refine r_wiald h (by decide) (hm 1 (by decide)) dL_versionOf_40 ?_
            refine ro_iconst (v := 1) dL_versionOf_41 rfl ?_
            refine r_isub dL_versionOf_42 ?_
            refine r_icmp_ne (tgt := 70) dL_versionOf_43 (by decide) ?_ ?_
            · exact hJ70 v5_18 E_18
            · refine r_aload_n (x := ad 2) dL_versionOf_46 rfl rfl ?_
              refine ro_iconst (v := 2) dL_versionOf_47 rfl ?_
              refine r_iload (x := v7_18) dL_versionOf_48 rfl ?_
              refine r_imul dL_versionOf_50 ?_
              refine ro_iconst (v := 1) dL_versionOf_51 rfl ?_
              refine r_iadd dL_versionOf_52 ?_
              refine r_wiald h (by decide) (hm 2 (by decide)) dL_versionOf_53 ?_
              refine r_iload (x := v6_7) dL_versionOf_54 rfl ?_
              refine r_icmp_ne (tgt := 70) dL_versionOf_56 (by decide) ?_ ?_
              · exact hJ70 v5_18 E_18
              · refine r_iload (x := v5_18) dL_versionOf_59 rfl ?_
                refine r_if_ne (tgt := 67) dL_versionOf_61 (by decide) ?_ ?_
                · refine r_iinc (x := v5_18) (lo2 := [(5, wi (v5_18 + (-1))), (0, .ref (ad 0)), (1, .ref (ad 1)), (2, .ref (ad 2)), (3, wi a3), (6, wi v6_7), (7, wi v7_18)]) dL_versionOf_67 rfl (by decide) rfl ?_
                  refine r_lo [1, 2, 3, 4, 0, 5, 6] (lo2 := [(0, .ref (ad 0)), (1, .ref (ad 1)), (2, .ref (ad 2)), (3, wi a3), (5, wi (v5_18 + (-1))), (6, wi v6_7), (7, wi v7_18)]) rfl ?_
                  exact hJ70 (v5_18 + (-1)) E_18
                · refine r_iload (x := v7_18) dL_versionOf_64 rfl ?_
                  exact r_iret rfl dL_versionOf_66
      refine r_lo [1, 2, 3, 4, 5, 6, 0] (lo2 := [(0, .ref (ad 0)), (1, .ref (ad 1)), (2, .ref (ad 2)), (3, wi a3), (5, wi v5_7), (6, wi v6_7), (7, wi 0)]) rfl ?_
      exact hJ18 v5_7 0 E_7
  refine r_lo [2, 3, 4, 5, 1, 0] (lo2 := [(0, .ref (ad 0)), (1, .ref (ad 1)), (2, .ref (ad 2)), (3, wi a3), (5, wi a4), (6, wi 1)]) rfl ?_
  exact hJ7 a4 1 E
def k_L_isWiki : Kd := (yL_isWiki, cL_isWiki, 24, some .boolean, [])
theorem kv_L_isWiki : KS k_L_isWiki 11 := ⟨uw_mem 1479 (by decide +kernel) rfl, uw_mem 93 (by decide +kernel) rfl, uw_mem 1478 (by decide +kernel) rfl, ⟨by decide +kernel, by decide +kernel⟩, by decide +kernel, by decide +kernel⟩
set_option maxHeartbeats 8000000 in
set_option maxRecDepth 100000 in
theorem c_L_isWiki {l : Launch} {Γ : Cx} {ma : Nat → Nat} (h : wOn Γ) (hm : ∀ k, k ≤ 10 → ma k ≠ 0) (hG : GK Γ l) (hX : XN Γ) (a0 : Nat) (a10 : Int) (E : Rw) (C : Cd) (q : (Nat → Nat)) : Ct l Γ k_L_isWiki 15 encI (em3 ma) [.ref a0, .ref (ma 0), .ref (ma 1), .ref (ma 2), .ref (ma 3), .ref (ma 4), .ref (ma 6), .ref (ma 7), .ref (ma 8), .ref (ma 9), wi a10] (E, C, q) (fW_isWiki a0 a10 E C q) := by
  refine ct_of (by decide +kernel) rfl (Nat.le_of_ble_eq_true rfl) ?_
  refine r_lo [0, 1, 2, 3, 4, 5, 6, 7, 8, 9, 10] (lo2 := [(0, .ref a0), (1, .ref (ma 0)), (2, .ref (ma 1)), (3, .ref (ma 2)), (4, .ref (ma 3)), (5, .ref (ma 4)), (6, .ref (ma 6)), (7, .ref (ma 7)), (8, .ref (ma 8)), (9, .ref (ma 9)), (10, wi a10)]) rfl ?_
  unfold fW_isWiki
  refine r_bipush (v := 8) dL_isWiki_0 rfl ?_
  refine r_new3 (kk := 11) (n := 8) h (by decide) (by decide) rfl (by decide) rfl ua_I dL_isWiki_2 ?_
  refine r_nm4 (fun E1 C2 q3 y4 => ?_)
  refine r_astore (lo2 := [(11, .ref y4), (0, .ref a0), (1, .ref (ma 0)), (2, .ref (ma 1)), (3, .ref (ma 2)), (4, .ref (ma 3)), (5, .ref (ma 4)), (6, .ref (ma 6)), (7, .ref (ma 7)), (8, .ref (ma 8)), (9, .ref (ma 9)), (10, wi a10)]) dL_isWiki_4 (by decide) rfl ?_
  refine r_aload_n (x := a0) dL_isWiki_6 rfl rfl ?_
  refine r_cc1 (J := fun (C_ : Cd) => (E1, C_, q3)) (k2 := k_X11_clock) (c := 14) (T := TX11) (N := 10) (n := 0) (rest := []) (fun _ => rfl) rfl um_L_136 kv_X11_clock hc_X11 (by decide) (c_X11_clock hG _ _) (by decide) rfl (Nat.le_of_ble_eq_true rfl) dL_isWiki_7 rfl (fun r5 C6 => ?_)
  show RunO l Γ k_L_isWiki 15 encI (em3 ma) 10 [(11, .ref y4), (0, .ref a0), (1, .ref (ma 0)), (2, .ref (ma 1)), (3, .ref (ma 2)), (4, .ref (ma 3)), (5, .ref (ma 4)), (6, .ref (ma 6)), (7, .ref (ma 7)), (8, .ref (ma 8)), (9, .ref (ma 9)), (10, wi a10)] [wi r5] (E1, C6, q3) _
  refine r_aload_n (x := ma 0) dL_isWiki_10 rfl rfl ?_
  refine ro_iconst (v := 2) dL_isWiki_11 rfl ?_
  refine r_wiald3 h (by decide) (by decide) (hm 0 (by decide)) dL_isWiki_12 ?_
  refine r_join (P := fun (J : Int → Rw → Cd → (Nat → Nat) → Option (Int × S3)) => ∀ (t0_21 : Int) (E_21 : Rw) (C_21 : Cd) (q_21 : (Nat → Nat)), RunO l Γ k_L_isWiki 15 encI (em3 ma) 21 [(0, .ref a0), (1, .ref (ma 0)), (2, .ref (ma 1)), (3, .ref (ma 2)), (4, .ref (ma 3)), (5, .ref (ma 4)), (6, .ref (ma 6)), (7, .ref (ma 7)), (8, .ref (ma 8)), (9, .ref (ma 9)), (10, wi a10), (11, .ref y4)] [wi t0_21] (E_21, C_21, q_21) (J t0_21 E_21 C_21 q_21)) ?_ (fun J21 hJ21 => ?_)
  · intro t0_21 E_21 C_21 q_21
    show RunO l Γ k_L_isWiki 15 encI (em3 ma) 21 [(0, .ref a0), (1, .ref (ma 0)), (2, .ref (ma 1)), (3, .ref (ma 2)), (4, .ref (ma 3)), (5, .ref (ma 4)), (6, .ref (ma 6)), (7, .ref (ma 7)), (8, .ref (ma 8)), (9, .ref (ma 9)), (10, wi a10), (11, .ref y4)] [wi t0_21] (E_21, C_21, q_21) (fW_isWiki_21 a0 a10 y4 t0_21 E_21 C_21 q_21)
    unfold fW_isWiki_21
    refine r_istore (lo2 := [(12, wi t0_21), (0, .ref a0), (1, .ref (ma 0)), (2, .ref (ma 1)), (3, .ref (ma 2)), (4, .ref (ma 3)), (5, .ref (ma 4)), (6, .ref (ma 6)), (7, .ref (ma 7)), (8, .ref (ma 8)), (9, .ref (ma 9)), (10, wi a10), (11, .ref y4)]) dL_isWiki_21 (by decide) rfl ?_
    refine ro_iconst (v := 0) dL_isWiki_23 rfl ?_
    refine r_istore (lo2 := [(13, wi 0), (12, wi t0_21), (0, .ref a0), (1, .ref (ma 0)), (2, .ref (ma 1)), (3, .ref (ma 2)), (4, .ref (ma 3)), (5, .ref (ma 4)), (6, .ref (ma 6)), (7, .ref (ma 7)), (8, .ref (ma 8)), (9, .ref (ma 9)), (10, wi a10), (11, .ref y4)]) dL_isWiki_24 (by decide) rfl ?_
    refine ro_iconst (v := 0) dL_isWiki_26 rfl ?_
    refine r_istore (lo2 := [(14, wi 0), (13, wi 0), (12, wi t0_21), (0, .ref a0), (1, .ref (ma 0)), (2, .ref (ma 1)), (3, .ref (ma 2)), (4, .ref (ma 3)), (5, .ref (ma 4)), (6, .ref (ma 6)), (7, .ref (ma 7)), (8, .ref (ma 8)), (9, .ref (ma 9)), (10, wi a10), (11, .ref y4)]) dL_isWiki_27 (by decide) rfl ?_
    refine ro_iconst (v := 0) dL_isWiki_29 rfl ?_
    refine r_istore (lo2 := [(15, wi 0), (14, wi 0), (13, wi 0), (12, wi t0_21), (0, .ref a0), (1, .ref (ma 0)), (2, .ref (ma 1)), (3, .ref (ma 2)), (4, .ref (ma 3)), (5, .ref (ma 4)), (6, .ref (ma 6)), (7, .ref (ma 7)), (8, .ref (ma 8)), (9, .ref (ma 9)), (10, wi a10), (11, .ref y4)]) dL_isWiki_30 (by decide) rfl ?_
    refine r_loop (P := fun (J : Int → Int → Int → Int → Rw → Cd → (Nat → Nat) → Option (Int × S3)) => ∀ (v12_32 : Int) (v13_32 : Int) (v14_32 : Int) (v15_32 : Int) (E_32 : Rw) (C_32 : Cd) (q_32 : (Nat → Nat)), RunO l Γ k_L_isWiki 15 encI (em3 ma) 32 [(0, .ref a0), (1, .ref (ma 0)), (2, .ref (ma 1)), (3, .ref (ma 2)), (4, .ref (ma 3)), (5, .ref (ma 4)), (6, .ref (ma 6)), (7, .ref (ma 7)), (8, .ref (ma 8)), (9, .ref (ma 9)), (10, wi a10), (11, .ref y4), (12, wi v12_32), (13, wi v13_32), (14, wi v14_32), (15, wi v15_32)] [] (E_32, C_32, q_32) (J v12_32 v13_32 v14_32 v15_32 E_32 C_32 q_32)) ?_ (fun L32 hL32 => ?_) (fun J32 hJ32 => ?_)
    · intros; exact ro_none
    · intro v12_32 v13_32 v14_32 v15_32 E_32 C_32 q_32
      show RunO l Γ k_L_isWiki 15 encI (em3 ma) 32 [(0, .ref a0), (1, .ref (ma 0)), (2, .ref (ma 1)), (3, .ref (ma 2)), (4, .ref (ma 3)), (5, .ref (ma 4)), (6, .ref (ma 6)), (7, .ref (ma 7)), (8, .ref (ma 8)), (9, .ref (ma 9)), (10, wi a10), (11, .ref y4), (12, wi v12_32), (13, wi v13_32), (14, wi v14_32), (15, wi v15_32)] [] (E_32, C_32, q_32) (fW_isWiki_32 a0 a10 y4 L32 v12_32 v13_32 v14_32 v15_32 E_32 C_32 q_32)
      unfold fW_isWiki_32
      refine r_iload (x := v15_32) dL_isWiki_32 rfl ?_
      refine r_bipush (v := 8) dL_isWiki_34 rfl ?_
      refine r_join (P := fun (J : Rw → Cd → (Nat → Nat) → Option (Int × S3)) => ∀ (E_650 : Rw) (C_650 : Cd) (q_650 : (Nat → Nat)), RunO l Γ k_L_isWiki 15 encI (em3 ma) 650 [(0, .ref a0), (6, .ref (ma 6)), (12, wi v12_32), (13, wi v13_32), (14, wi v14_32)] [] (E_650, C_650, q_650) (J E_650 C_650 q_650)) ?_ (fun J650 hJ650 => ?_)
      · intro E_650 C_650 q_650
        show RunO l Γ k_L_isWiki 15 encI (em3 ma) 650 [(0, .ref a0), (6, .ref (ma 6)), (12, wi v12_32), (13, wi v13_32), (14, wi v14_32)] [] (E_650, C_650, q_650) (fW_isWiki_650 a0 v12_32 v13_32 v14_32 E_650 C_650 q_650)
        unfold fW_isWiki_650
        refine ro_iconst (v := 0) dL_isWiki_650 rfl ?_
        refine r_istore (lo2 := [(15, wi 0), (0, .ref a0), (6, .ref (ma 6)), (12, wi v12_32), (13, wi v13_32), (14, wi v14_32)]) dL_isWiki_651 (by decide) rfl ?_
        refine r_loop (P := fun (J : Int → Int → Rw → Cd → (Nat → Nat) → Option (Int × S3)) => ∀ (v12_653 : Int) (v15_653 : Int) (E_653 : Rw) (C_653 : Cd) (q_653 : (Nat → Nat)), RunO l Γ k_L_isWiki 15 encI (em3 ma) 653 [(0, .ref a0), (6, .ref (ma 6)), (12, wi v12_653), (13, wi v13_32), (14, wi v14_32), (15, wi v15_653)] [] (E_653, C_653, q_653) (J v12_653 v15_653 E_653 C_653 q_653)) ?_ (fun L653 hL653 => ?_) (fun J653 hJ653 => ?_)
        · intros; exact ro_none
        · intro v12_653 v15_653 E_653 C_653 q_653
          show RunO l Γ k_L_isWiki 15 encI (em3 ma) 653 [(0, .ref a0), (6, .ref (ma 6)), (12, wi v12_653), (13, wi v13_32), (14, wi v14_32), (15, wi v15_653)] [] (E_653, C_653, q_653) (fW_isWiki_653 a0 v13_32 v14_32 L653 v12_653 v15_653 E_653 C_653 q_653)
          unfold fW_isWiki_653
          refine r_iload (x := v15_653) dL_isWiki_653 rfl ?_
          refine r_bipush (v := 8) dL_isWiki_655 rfl ?_
          refine r_join (P := fun (J : Rw → Cd → (Nat → Nat) → Option (Int × S3)) => ∀ (E_694 : Rw) (C_694 : Cd) (q_694 : (Nat → Nat)), RunO l Γ k_L_isWiki 15 encI (em3 ma) 694 [(0, .ref a0), (12, wi v12_653), (13, wi v13_32), (14, wi v14_32)] [] (E_694, C_694, q_694) (J E_694 C_694 q_694)) ?_ (fun J694 hJ694 => ?_)
          · intro E_694 C_694 q_694
            show RunO l Γ k_L_isWiki 15 encI (em3 ma) 694 [(0, .ref a0), (12, wi v12_653), (13, wi v13_32), (14, wi v14_32)] [] (E_694, C_694, q_694) (fW_isWiki_694 a0 v13_32 v14_32 v12_653 E_694 C_694 q_694)
            unfold fW_isWiki_694
            refine r_iload (x := v12_653) dL_isWiki_694 rfl ?_
            refine r_join (P := fun (J : Int → Rw → Cd → (Nat → Nat) → Option (Int × S3)) => ∀ (t0_723 : Int) (E_723 : Rw) (C_723 : Cd) (q_723 : (Nat → Nat)), RunO l Γ k_L_isWiki 15 encI (em3 ma) 723 [] [wi t0_723] (E_723, C_723, q_723) (J t0_723 E_723 C_723 q_723)) ?_ (fun J723 hJ723 => ?_)
            · intro t0_723 E_723 C_723 q_723
              show RunO l Γ k_L_isWiki 15 encI (em3 ma) 723 [] [wi t0_723] (E_723, C_723, q_723) (fW_isWiki_723 t0_723 E_723 C_723 q_723)
              unfold fW_isWiki_723
              exact r_zret rfl dL_isWiki_723
            refine r_join (P := fun (J : Rw → Cd → (Nat → Nat) → Option (Int × S3)) => ∀ (E_722 : Rw) (C_722 : Cd) (q_722 : (Nat → Nat)), RunO l Γ k_L_isWiki 15 encI (em3 ma) 722 [] [] (E_722, C_722, q_722) (J E_722 C_722 q_722)) ?_ (fun J722 hJ722 => ?_)
            · intro E_722 C_722 q_722
              show RunO l Γ k_L_isWiki 15 encI (em3 ma) 722 [] [] (E_722, C_722, q_722) (fW_isWiki_722 J723 E_722 C_722 q_722)
              unfold fW_isWiki_722
              refine ro_iconst (v := 0) dL_isWiki_722 rfl ?_
              exact hJ723 0 E_722 C_722 q_722
            refine r_if_eq (tgt := 722) dL_isWiki_696 (by decide) ?_ ?_
            · refine r_lo [] (lo2 := []) rfl ?_
              exact hJ722 E_694 C_694 q_694
            · refine r_aload_n (x := a0) dL_isWiki_699 rfl rfl ?_
              refine r_cc1 (J := fun (C_ : Cd) => (E_694, C_, q_694)) (k2 := k_X11_queued) (c := 14) (T := TX11) (N := 10) (n := 0) (rest := []) (fun _ => rfl) rfl um_L_172 kv_X11_queued hc_X11 (by decide) (c_X11_queued hG _ _) (by decide) rfl (Nat.le_of_ble_eq_true rfl) dL_isWiki_700 rfl (fun r7 C8 => ?_)
              show RunO l Γ k_L_isWiki 15 encI (em3 ma) 703 [(0, .ref a0), (12, wi v12_653), (13, wi v13_32), (14, wi v14_32)] [wi r7] (E_694, C8, q_694) _
              refine r_iload (x := v13_32) dL_isWiki_703 rfl ?_
              refine r_icmp_ne (tgt := 722) dL_isWiki_705 (by decide) ?_ ?_
              · refine r_lo [] (lo2 := []) rfl ?_
                exact hJ722 E_694 C8 q_694
              · refine r_aload_n (x := a0) dL_isWiki_708 rfl rfl ?_
                refine ro_iconst (v := 1) dL_isWiki_709 rfl ?_
                refine r_cc1 (J := fun (C_ : Cd) => (E_694, C_, q_694)) (k2 := k_X11_odd) (c := 14) (T := TX11) (N := 10) (n := 1) (rest := []) (fun _ => rfl) rfl um_L_175 kv_X11_odd hc_X11 (by decide) (c_X11_odd hG _ _ _) (by decide) rfl (Nat.le_of_ble_eq_true rfl) dL_isWiki_710 rfl (fun r9 C10 => ?_)
                show RunO l Γ k_L_isWiki 15 encI (em3 ma) 713 [(0, .ref a0), (12, wi v12_653), (13, wi v13_32), (14, wi v14_32)] [wi r9] (E_694, C10, q_694) _
                refine r_iload (x := v14_32) dL_isWiki_713 rfl ?_
                refine r_icmp_ne (tgt := 722) dL_isWiki_715 (by decide) ?_ ?_
                · refine r_lo [] (lo2 := []) rfl ?_
                  exact hJ722 E_694 C10 q_694
                · refine ro_iconst (v := 1) dL_isWiki_718 rfl ?_
                  refine r_goto (tgt := 723) dL_isWiki_719 (by decide) ?_
                  refine r_lo [] (lo2 := []) rfl ?_
                  exact hJ723 1 E_694 C10 q_694
          refine r_icmp_ge (tgt := 694) dL_isWiki_657 (by decide) ?_ ?_
          · refine r_lo [0, 2, 3, 4] (lo2 := [(0, .ref a0), (12, wi v12_653), (13, wi v13_32), (14, wi v14_32)]) rfl ?_
            exact hJ694 E_653 C_653 q_653
          · refine r_iload (x := v12_653) dL_isWiki_660 rfl ?_
            refine r_if_eq (tgt := 694) dL_isWiki_662 (by decide) ?_ ?_
            · refine r_lo [0, 2, 3, 4] (lo2 := [(0, .ref a0), (12, wi v12_653), (13, wi v13_32), (14, wi v14_32)]) rfl ?_
              exact hJ694 E_653 C_653 q_653
            · refine r_aload_n (x := a0) dL_isWiki_665 rfl rfl ?_
              refine r_iload (x := v15_653) dL_isWiki_666 rfl ?_
              refine r_cx1 (J := fun (C_ : Cd) => (E_653, C_, q_653)) (k2 := k_X11_members) (c := 14) (T := TX11) (N := 10) (n := 1) (rest := []) (fun _ => rfl) rfl um_L_170 kv_X11_members hc_X11 (by decide) (c_X11_members hG _ _ _) (by decide) rfl (Nat.le_of_ble_eq_true rfl) dL_isWiki_668 rfl (fun r11 C12 => ?_)
              show RunO l Γ k_L_isWiki 15 encI (em3 ma) 671 [(0, .ref a0), (6, .ref (ma 6)), (12, wi v12_653), (13, wi v13_32), (14, wi v14_32), (15, wi v15_653)] [wi r11] (E_653, C12, q_653) _
              refine r_aload (x := ma 6) dL_isWiki_671 rfl ?_
              refine r_iload (x := v15_653) dL_isWiki_673 rfl ?_
              refine r_csi (J := fun (E_ : Rw) => (E_, C12, q_653)) (k2 := k_L_members) (n := 2) (rest := [wi r11]) (fun _ => rfl) rfl kv_L_members (c_L_members (ad := adq ma q_653) (K0 := C12) h (adq_hm hm) v15_653 _) (by decide) um_L_31 rfl (Nat.le_of_ble_eq_true rfl) dL_isWiki_675 rfl (fun r13 E14 => ?_)
              show RunO l Γ k_L_isWiki 15 encI (em3 ma) 678 [(0, .ref a0), (6, .ref (ma 6)), (12, wi v12_653), (13, wi v13_32), (14, wi v14_32), (15, wi v15_653)] [wi r13, wi r11] (E14, C12, q_653) _
              refine r_join (P := fun (J : Int → Rw → Cd → (Nat → Nat) → Option (Int × S3)) => ∀ (t0_686 : Int) (E_686 : Rw) (C_686 : Cd) (q_686 : (Nat → Nat)), RunO l Γ k_L_isWiki 15 encI (em3 ma) 686 [(0, .ref a0), (6, .ref (ma 6)), (13, wi v13_32), (14, wi v14_32), (15, wi v15_653)] [wi t0_686] (E_686, C_686, q_686) (J t0_686 E_686 C_686 q_686)) ?_ (fun J686 hJ686 => ?_)
              · intro t0_686 E_686 C_686 q_686
                show RunO l Γ k_L_isWiki 15 encI (em3 ma) 686 [(0, .ref a0), (6, .ref (ma 6)), (13, wi v13_32), (14, wi v14_32), (15, wi v15_653)] [wi t0_686] (E_686, C_686, q_686) (fW_isWiki_686 L653 v15_653 t0_686 E_686 C_686 q_686)
                unfold fW_isWiki_686
                refine r_istore (lo2 := [(12, wi t0_686), (0, .ref a0), (6, .ref (ma 6)), (13, wi v13_32), (14, wi v14_32), (15, wi v15_653)]) dL_isWiki_686 (by decide) rfl ?_
                refine r_iinc (x := v15_653) (lo2 := [(15, wi (v15_653 + 1)), (12, wi t0_686), (0, .ref a0), (6, .ref (ma 6)), (13, wi v13_32), (14, wi v14_32)]) dL_isWiki_688 rfl (by decide) rfl ?_
                refine r_goto (tgt := 653) dL_isWiki_691 (by decide) ?_
                refine r_lo [2, 3, 1, 4, 5, 0] (lo2 := [(0, .ref a0), (6, .ref (ma 6)), (12, wi t0_686), (13, wi v13_32), (14, wi v14_32), (15, wi (v15_653 + 1))]) rfl ?_
                exact hL653 t0_686 (v15_653 + 1) E_686 C_686 q_686
              refine r_icmp_ne (tgt := 685) dL_isWiki_678 (by decide) ?_ ?_
              · refine ro_iconst (v := 0) dL_isWiki_685 rfl ?_
                refine r_lo [0, 1, 3, 4, 5] (lo2 := [(0, .ref a0), (6, .ref (ma 6)), (13, wi v13_32), (14, wi v14_32), (15, wi v15_653)]) rfl ?_
                exact hJ686 0 E14 C12 q_653
              · refine ro_iconst (v := 1) dL_isWiki_681 rfl ?_
                refine r_goto (tgt := 686) dL_isWiki_682 (by decide) ?_
                refine r_lo [0, 1, 3, 4, 5] (lo2 := [(0, .ref a0), (6, .ref (ma 6)), (13, wi v13_32), (14, wi v14_32), (15, wi v15_653)]) rfl ?_
                exact hJ686 1 E14 C12 q_653
        refine r_lo [1, 2, 3, 4, 5, 0] (lo2 := [(0, .ref a0), (6, .ref (ma 6)), (12, wi v12_32), (13, wi v13_32), (14, wi v14_32), (15, wi 0)]) rfl ?_
        exact hJ653 v12_32 0 E_650 C_650 q_650
      refine r_icmp_ge (tgt := 650) dL_isWiki_36 (by decide) ?_ ?_
      · refine r_lo [0, 6, 12, 13, 14] (lo2 := [(0, .ref a0), (6, .ref (ma 6)), (12, wi v12_32), (13, wi v13_32), (14, wi v14_32)]) rfl ?_
        exact hJ650 E_32 C_32 q_32
      · refine r_iload (x := v12_32) dL_isWiki_39 rfl ?_
        refine r_if_eq (tgt := 650) dL_isWiki_41 (by decide) ?_ ?_
        · refine r_lo [0, 6, 12, 13, 14] (lo2 := [(0, .ref a0), (6, .ref (ma 6)), (12, wi v12_32), (13, wi v13_32), (14, wi v14_32)]) rfl ?_
          exact hJ650 E_32 C_32 q_32
        · refine r_aload_n (x := ma 0) dL_isWiki_44 rfl rfl ?_
          refine r_aload_n (x := ma 1) dL_isWiki_45 rfl rfl ?_
          refine r_aload_n (x := ma 2) dL_isWiki_46 rfl rfl ?_
          refine r_iload (x := v15_32) dL_isWiki_47 rfl ?_
          refine r_csi (J := fun (E_ : Rw) => (E_, C_32, q_32)) (k2 := k_L_present) (n := 4) (rest := []) (fun _ => rfl) rfl kv_L_present (c_L_present (ad := adq ma q_32) (K0 := C_32) h (adq_hm hm) v15_32 _) (by decide) um_L_15 rfl (Nat.le_of_ble_eq_true rfl) dL_isWiki_49 rfl (fun r15 E16 => ?_)
          show RunO l Γ k_L_isWiki 15 encI (em3 ma) 52 [(0, .ref a0), (1, .ref (ma 0)), (2, .ref (ma 1)), (3, .ref (ma 2)), (4, .ref (ma 3)), (5, .ref (ma 4)), (6, .ref (ma 6)), (7, .ref (ma 7)), (8, .ref (ma 8)), (9, .ref (ma 9)), (10, wi a10), (11, .ref y4), (12, wi v12_32), (13, wi v13_32), (14, wi v14_32), (15, wi v15_32)] [wi r15] (E16, C_32, q_32) _
          refine r_istore (lo2 := [(16, wi r15), (0, .ref a0), (1, .ref (ma 0)), (2, .ref (ma 1)), (3, .ref (ma 2)), (4, .ref (ma 3)), (5, .ref (ma 4)), (6, .ref (ma 6)), (7, .ref (ma 7)), (8, .ref (ma 8)), (9, .ref (ma 9)), (10, wi a10), (11, .ref y4), (12, wi v12_32), (13, wi v13_32), (14, wi v14_32), (15, wi v15_32)]) dL_isWiki_52 (by decide) rfl ?_
          refine ro_iconst (v := 0) dL_isWiki_54 rfl ?_
          refine r_istore (lo2 := [(17, wi 0), (16, wi r15), (0, .ref a0), (1, .ref (ma 0)), (2, .ref (ma 1)), (3, .ref (ma 2)), (4, .ref (ma 3)), (5, .ref (ma 4)), (6, .ref (ma 6)), (7, .ref (ma 7)), (8, .ref (ma 8)), (9, .ref (ma 9)), (10, wi a10), (11, .ref y4), (12, wi v12_32), (13, wi v13_32), (14, wi v14_32), (15, wi v15_32)]) dL_isWiki_55 (by decide) rfl ?_
          refine r_loop (P := fun (J : Int → Rw → Cd → (Nat → Nat) → Option (Int × S3)) => ∀ (v17_57 : Int) (E_57 : Rw) (C_57 : Cd) (q_57 : (Nat → Nat)), RunO l Γ k_L_isWiki 15 encI (em3 ma) 57 [(0, .ref a0), (1, .ref (ma 0)), (2, .ref (ma 1)), (3, .ref (ma 2)), (4, .ref (ma 3)), (5, .ref (ma 4)), (6, .ref (ma 6)), (7, .ref (ma 7)), (8, .ref (ma 8)), (9, .ref (ma 9)), (10, wi a10), (11, .ref y4), (13, wi v13_32), (14, wi v14_32), (15, wi v15_32), (16, wi r15), (17, wi v17_57)] [] (E_57, C_57, q_57) (J v17_57 E_57 C_57 q_57)) ?_ (fun L57 hL57 => ?_) (fun J57 hJ57 => ?_)
          · intros; exact ro_none
          · intro v17_57 E_57 C_57 q_57
            show RunO l Γ k_L_isWiki 15 encI (em3 ma) 57 [(0, .ref a0), (1, .ref (ma 0)), (2, .ref (ma 1)), (3, .ref (ma 2)), (4, .ref (ma 3)), (5, .ref (ma 4)), (6, .ref (ma 6)), (7, .ref (ma 7)), (8, .ref (ma 8)), (9, .ref (ma 9)), (10, wi a10), (11, .ref y4), (13, wi v13_32), (14, wi v14_32), (15, wi v15_32), (16, wi r15), (17, wi v17_57)] [] (E_57, C_57, q_57) (fW_isWiki_57 a0 a10 y4 L32 v13_32 v14_32 v15_32 r15 L57 v17_57 E_57 C_57 q_57)
            unfold fW_isWiki_57
            refine r_aload_n (x := ma 0) dL_isWiki_57 rfl rfl ?_
            refine r_aload_n (x := ma 1) dL_isWiki_58 rfl rfl ?_
            refine r_aload_n (x := ma 2) dL_isWiki_59 rfl rfl ?_
            refine r_iload (x := v15_32) dL_isWiki_60 rfl ?_
            refine r_iload (x := v17_57) dL_isWiki_62 rfl ?_
            refine r_csi (J := fun (E_ : Rw) => (E_, C_57, q_57)) (k2 := k_L_versionOf) (n := 5) (rest := []) (fun _ => rfl) rfl kv_L_versionOf (c_L_versionOf (ad := adq ma q_57) (K0 := C_57) h (adq_hm hm) v15_32 v17_57 _) (by decide) um_L_139 rfl (Nat.le_of_ble_eq_true rfl) dL_isWiki_64 rfl (fun r17 E18 => ?_)
            show RunO l Γ k_L_isWiki 15 encI (em3 ma) 67 [(0, .ref a0), (1, .ref (ma 0)), (2, .ref (ma 1)), (3, .ref (ma 2)), (4, .ref (ma 3)), (5, .ref (ma 4)), (6, .ref (ma 6)), (7, .ref (ma 7)), (8, .ref (ma 8)), (9, .ref (ma 9)), (10, wi a10), (11, .ref y4), (13, wi v13_32), (14, wi v14_32), (15, wi v15_32), (16, wi r15), (17, wi v17_57)] [wi r17] (E18, C_57, q_57) _
            refine r_if_lt (tgt := 76) dL_isWiki_67 (by decide) ?_ ?_
            · refine r_aload_n (x := ma 1) dL_isWiki_76 rfl rfl ?_
              refine r_aload (x := ma 4) dL_isWiki_77 rfl ?_
              refine r_aload (x := ma 6) dL_isWiki_79 rfl ?_
              refine r_aload (x := ma 8) dL_isWiki_81 rfl ?_
              refine r_iload (x := v15_32) dL_isWiki_83 rfl ?_
              refine r_csi (J := fun (E_ : Rw) => (E_, C_57, q_57)) (k2 := k_L_isStale) (n := 5) (rest := []) (fun _ => rfl) rfl kv_L_isStale (c_L_isStale (ad := adq ma q_57) (K0 := C_57) h (adq_hm hm) v15_32 _) (by decide) um_L_55 rfl (Nat.le_of_ble_eq_true rfl) dL_isWiki_85 rfl (fun r19 E20 => ?_)
              show RunO l Γ k_L_isWiki 15 encI (em3 ma) 88 [(0, .ref a0), (1, .ref (ma 0)), (2, .ref (ma 1)), (3, .ref (ma 2)), (4, .ref (ma 3)), (5, .ref (ma 4)), (6, .ref (ma 6)), (7, .ref (ma 7)), (8, .ref (ma 8)), (9, .ref (ma 9)), (10, wi a10), (11, .ref y4), (13, wi v13_32), (14, wi v14_32), (15, wi v15_32), (16, wi r15), (17, wi v17_57)] [wi r19] (E20, C_57, q_57) _
              refine r_istore (lo2 := [(18, wi r19), (0, .ref a0), (1, .ref (ma 0)), (2, .ref (ma 1)), (3, .ref (ma 2)), (4, .ref (ma 3)), (5, .ref (ma 4)), (6, .ref (ma 6)), (7, .ref (ma 7)), (8, .ref (ma 8)), (9, .ref (ma 9)), (10, wi a10), (11, .ref y4), (13, wi v13_32), (14, wi v14_32), (15, wi v15_32), (16, wi r15), (17, wi v17_57)]) dL_isWiki_88 (by decide) rfl ?_
              refine r_aload (x := ma 6) dL_isWiki_90 rfl ?_
              refine r_bipush (v := 7) dL_isWiki_92 rfl ?_
              refine r_iload (x := v15_32) dL_isWiki_94 rfl ?_
              refine r_imul dL_isWiki_96 ?_
              refine r_wiald3 h (by decide) (by decide) (hm 6 (by decide)) dL_isWiki_97 ?_
              refine r_join (P := fun (J : Int → Rw → Cd → (Nat → Nat) → Option (Int × S3)) => ∀ (t0_106 : Int) (E_106 : Rw) (C_106 : Cd) (q_106 : (Nat → Nat)), RunO l Γ k_L_isWiki 15 encI (em3 ma) 106 [(0, .ref a0), (1, .ref (ma 0)), (2, .ref (ma 1)), (3, .ref (ma 2)), (4, .ref (ma 3)), (5, .ref (ma 4)), (6, .ref (ma 6)), (7, .ref (ma 7)), (8, .ref (ma 8)), (9, .ref (ma 9)), (10, wi a10), (11, .ref y4), (13, wi v13_32), (14, wi v14_32), (15, wi v15_32), (16, wi r15), (17, wi v17_57), (18, wi r19)] [wi t0_106] (E_106, C_106, q_106) (J t0_106 E_106 C_106 q_106)) ?_ (fun J106 hJ106 => ?_)
              · intro t0_106 E_106 C_106 q_106
                show RunO l Γ k_L_isWiki 15 encI (em3 ma) 106 [(0, .ref a0), (1, .ref (ma 0)), (2, .ref (ma 1)), (3, .ref (ma 2)), (4, .ref (ma 3)), (5, .ref (ma 4)), (6, .ref (ma 6)), (7, .ref (ma 7)), (8, .ref (ma 8)), (9, .ref (ma 9)), (10, wi a10), (11, .ref y4), (13, wi v13_32), (14, wi v14_32), (15, wi v15_32), (16, wi r15), (17, wi v17_57), (18, wi r19)] [wi t0_106] (E_106, C_106, q_106) (fW_isWiki_106 a0 a10 y4 L32 v13_32 v14_32 v15_32 r15 v17_57 r19 t0_106 E_106 C_106 q_106)
                unfold fW_isWiki_106
                refine r_istore (lo2 := [(19, wi t0_106), (0, .ref a0), (1, .ref (ma 0)), (2, .ref (ma 1)), (3, .ref (ma 2)), (4, .ref (ma 3)), (5, .ref (ma 4)), (6, .ref (ma 6)), (7, .ref (ma 7)), (8, .ref (ma 8)), (9, .ref (ma 9)), (10, wi a10), (11, .ref y4), (13, wi v13_32), (14, wi v14_32), (15, wi v15_32), (16, wi r15), (17, wi v17_57), (18, wi r19)]) dL_isWiki_106 (by decide) rfl ?_
                refine r_iload (x := v13_32) dL_isWiki_108 rfl ?_
                refine r_iload (x := r19) dL_isWiki_110 rfl ?_
                refine r_join (P := fun (J : Int → Rw → Cd → (Nat → Nat) → Option (Int × S3)) => ∀ (t0_120 : Int) (E_120 : Rw) (C_120 : Cd) (q_120 : (Nat → Nat)), RunO l Γ k_L_isWiki 15 encI (em3 ma) 120 [(0, .ref a0), (1, .ref (ma 0)), (2, .ref (ma 1)), (3, .ref (ma 2)), (4, .ref (ma 3)), (5, .ref (ma 4)), (6, .ref (ma 6)), (7, .ref (ma 7)), (8, .ref (ma 8)), (9, .ref (ma 9)), (10, wi a10), (11, .ref y4), (14, wi v14_32), (15, wi v15_32), (16, wi r15), (17, wi v17_57), (18, wi r19), (19, wi t0_106)] [wi t0_120, wi v13_32] (E_120, C_120, q_120) (J t0_120 E_120 C_120 q_120)) ?_ (fun J120 hJ120 => ?_)
                · intro t0_120 E_120 C_120 q_120
                  show RunO l Γ k_L_isWiki 15 encI (em3 ma) 120 [(0, .ref a0), (1, .ref (ma 0)), (2, .ref (ma 1)), (3, .ref (ma 2)), (4, .ref (ma 3)), (5, .ref (ma 4)), (6, .ref (ma 6)), (7, .ref (ma 7)), (8, .ref (ma 8)), (9, .ref (ma 9)), (10, wi a10), (11, .ref y4), (14, wi v14_32), (15, wi v15_32), (16, wi r15), (17, wi v17_57), (18, wi r19), (19, wi t0_106)] [wi t0_120, wi v13_32] (E_120, C_120, q_120) (fW_isWiki_120 a0 a10 y4 L32 v13_32 v14_32 v15_32 r15 v17_57 r19 t0_106 t0_120 E_120 C_120 q_120)
                  unfold fW_isWiki_120
                  refine r_iadd dL_isWiki_120 ?_
                  refine r_nm (fun x13_121 => ?_)
                  refine r_istore (lo2 := [(13, wi x13_121), (0, .ref a0), (1, .ref (ma 0)), (2, .ref (ma 1)), (3, .ref (ma 2)), (4, .ref (ma 3)), (5, .ref (ma 4)), (6, .ref (ma 6)), (7, .ref (ma 7)), (8, .ref (ma 8)), (9, .ref (ma 9)), (10, wi a10), (11, .ref y4), (14, wi v14_32), (15, wi v15_32), (16, wi r15), (17, wi v17_57), (18, wi r19), (19, wi t0_106)]) dL_isWiki_121 (by decide) rfl ?_
                  refine r_aload_n (x := a0) dL_isWiki_123 rfl rfl ?_
                  refine r_iload (x := v15_32) dL_isWiki_124 rfl ?_
                  refine r_cx1 (J := fun (C_ : Cd) => (E_120, C_, q_120)) (k2 := k_X11_versions) (c := 14) (T := TX11) (N := 10) (n := 1) (rest := []) (fun _ => rfl) rfl um_L_143 kv_X11_versions hc_X11 (by decide) (c_X11_versions hG _ _ _) (by decide) rfl (Nat.le_of_ble_eq_true rfl) dL_isWiki_126 rfl (fun r21 C22 => ?_)
                  show RunO l Γ k_L_isWiki 15 encI (em3 ma) 129 [(13, wi x13_121), (0, .ref a0), (1, .ref (ma 0)), (2, .ref (ma 1)), (3, .ref (ma 2)), (4, .ref (ma 3)), (5, .ref (ma 4)), (6, .ref (ma 6)), (7, .ref (ma 7)), (8, .ref (ma 8)), (9, .ref (ma 9)), (10, wi a10), (11, .ref y4), (14, wi v14_32), (15, wi v15_32), (16, wi r15), (17, wi v17_57), (18, wi r19), (19, wi t0_106)] [wi r21] (E_120, C22, q_120) _
                  refine r_iload (x := v17_57) dL_isWiki_129 rfl ?_
                  refine r_join (P := fun (J : Int → Rw → Cd → (Nat → Nat) → Option (Int × S3)) => ∀ (t0_266 : Int) (E_266 : Rw) (C_266 : Cd) (q_266 : (Nat → Nat)), RunO l Γ k_L_isWiki 15 encI (em3 ma) 266 [(0, .ref a0), (1, .ref (ma 0)), (2, .ref (ma 1)), (3, .ref (ma 2)), (4, .ref (ma 3)), (5, .ref (ma 4)), (6, .ref (ma 6)), (7, .ref (ma 7)), (8, .ref (ma 8)), (9, .ref (ma 9)), (10, wi a10), (11, .ref y4), (13, wi x13_121), (14, wi v14_32), (15, wi v15_32), (16, wi r15), (18, wi r19), (19, wi t0_106)] [wi t0_266] (E_266, C_266, q_266) (J t0_266 E_266 C_266 q_266)) ?_ (fun J266 hJ266 => ?_)
                  · intro t0_266 E_266 C_266 q_266
                    show RunO l Γ k_L_isWiki 15 encI (em3 ma) 266 [(0, .ref a0), (1, .ref (ma 0)), (2, .ref (ma 1)), (3, .ref (ma 2)), (4, .ref (ma 3)), (5, .ref (ma 4)), (6, .ref (ma 6)), (7, .ref (ma 7)), (8, .ref (ma 8)), (9, .ref (ma 9)), (10, wi a10), (11, .ref y4), (13, wi x13_121), (14, wi v14_32), (15, wi v15_32), (16, wi r15), (18, wi r19), (19, wi t0_106)] [wi t0_266] (E_266, C_266, q_266) (fW_isWiki_266 a0 a10 y4 L32 v14_32 v15_32 r15 r19 t0_106 x13_121 t0_266 E_266 C_266 q_266)
                    unfold fW_isWiki_266
                    refine r_istore (lo2 := [(12, wi t0_266), (0, .ref a0), (1, .ref (ma 0)), (2, .ref (ma 1)), (3, .ref (ma 2)), (4, .ref (ma 3)), (5, .ref (ma 4)), (6, .ref (ma 6)), (7, .ref (ma 7)), (8, .ref (ma 8)), (9, .ref (ma 9)), (10, wi a10), (11, .ref y4), (13, wi x13_121), (14, wi v14_32), (15, wi v15_32), (16, wi r15), (18, wi r19), (19, wi t0_106)]) dL_isWiki_266 (by decide) rfl ?_
                    refine r_iload (x := t0_266) dL_isWiki_268 rfl ?_
                    refine r_join (P := fun (J : Int → Rw → Cd → (Nat → Nat) → Option (Int × S3)) => ∀ (v12_433 : Int) (E_433 : Rw) (C_433 : Cd) (q_433 : (Nat → Nat)), RunO l Γ k_L_isWiki 15 encI (em3 ma) 433 [(0, .ref a0), (1, .ref (ma 0)), (2, .ref (ma 1)), (3, .ref (ma 2)), (4, .ref (ma 3)), (5, .ref (ma 4)), (6, .ref (ma 6)), (7, .ref (ma 7)), (8, .ref (ma 8)), (9, .ref (ma 9)), (10, wi a10), (11, .ref y4), (12, wi v12_433), (13, wi x13_121), (14, wi v14_32), (15, wi v15_32), (16, wi r15)] [] (E_433, C_433, q_433) (J v12_433 E_433 C_433 q_433)) ?_ (fun J433 hJ433 => ?_)
                    · intro v12_433 E_433 C_433 q_433
                      show RunO l Γ k_L_isWiki 15 encI (em3 ma) 433 [(0, .ref a0), (1, .ref (ma 0)), (2, .ref (ma 1)), (3, .ref (ma 2)), (4, .ref (ma 3)), (5, .ref (ma 4)), (6, .ref (ma 6)), (7, .ref (ma 7)), (8, .ref (ma 8)), (9, .ref (ma 9)), (10, wi a10), (11, .ref y4), (12, wi v12_433), (13, wi x13_121), (14, wi v14_32), (15, wi v15_32), (16, wi r15)] [] (E_433, C_433, q_433) (fW_isWiki_433 a0 L32 v14_32 v15_32 r15 x13_121 v12_433 E_433 C_433 q_433)
                      unfold fW_isWiki_433
                      refine ro_iconst (v := 0) dL_isWiki_433 rfl ?_
                      refine r_istore (lo2 := [(20, wi 0), (0, .ref a0), (1, .ref (ma 0)), (2, .ref (ma 1)), (3, .ref (ma 2)), (4, .ref (ma 3)), (5, .ref (ma 4)), (6, .ref (ma 6)), (7, .ref (ma 7)), (8, .ref (ma 8)), (9, .ref (ma 9)), (10, wi a10), (11, .ref y4), (12, wi v12_433), (13, wi x13_121), (14, wi v14_32), (15, wi v15_32), (16, wi r15)]) dL_isWiki_434 (by decide) rfl ?_
                      refine r_loop (P := fun (J : Int → Int → Rw → Cd → (Nat → Nat) → Option (Int × S3)) => ∀ (v14_436 : Int) (v20_436 : Int) (E_436 : Rw) (C_436 : Cd) (q_436 : (Nat → Nat)), RunO l Γ k_L_isWiki 15 encI (em3 ma) 436 [(0, .ref a0), (1, .ref (ma 0)), (2, .ref (ma 1)), (3, .ref (ma 2)), (4, .ref (ma 3)), (5, .ref (ma 4)), (6, .ref (ma 6)), (7, .ref (ma 7)), (8, .ref (ma 8)), (9, .ref (ma 9)), (10, wi a10), (11, .ref y4), (12, wi v12_433), (13, wi x13_121), (14, wi v14_436), (15, wi v15_32), (16, wi r15), (20, wi v20_436)] [] (E_436, C_436, q_436) (J v14_436 v20_436 E_436 C_436 q_436)) ?_ (fun L436 hL436 => ?_) (fun J436 hJ436 => ?_)
                      · intros; exact ro_none
                      · intro v14_436 v20_436 E_436 C_436 q_436
                        show RunO l Γ k_L_isWiki 15 encI (em3 ma) 436 [(0, .ref a0), (1, .ref (ma 0)), (2, .ref (ma 1)), (3, .ref (ma 2)), (4, .ref (ma 3)), (5, .ref (ma 4)), (6, .ref (ma 6)), (7, .ref (ma 7)), (8, .ref (ma 8)), (9, .ref (ma 9)), (10, wi a10), (11, .ref y4), (12, wi v12_433), (13, wi x13_121), (14, wi v14_436), (15, wi v15_32), (16, wi r15), (20, wi v20_436)] [] (E_436, C_436, q_436) (fW_isWiki_436 a0 L32 v15_32 r15 x13_121 v12_433 L436 v14_436 v20_436 E_436 C_436 q_436)
                        unfold fW_isWiki_436
                        refine r_iload (x := v20_436) dL_isWiki_436 rfl ?_
                        refine r_bipush (v := 8) dL_isWiki_438 rfl ?_
                        refine r_icmp_ge (tgt := 492) dL_isWiki_440 (by decide) ?_ ?_
                        · refine ro_iconst (v := 0) dL_isWiki_492 rfl ?_
                          refine r_istore (lo2 := [(20, wi 0), (0, .ref a0), (1, .ref (ma 0)), (2, .ref (ma 1)), (3, .ref (ma 2)), (4, .ref (ma 3)), (5, .ref (ma 4)), (6, .ref (ma 6)), (7, .ref (ma 7)), (8, .ref (ma 8)), (9, .ref (ma 9)), (10, wi a10), (11, .ref y4), (12, wi v12_433), (13, wi x13_121), (14, wi v14_436), (15, wi v15_32), (16, wi r15)]) dL_isWiki_493 (by decide) rfl ?_
                          refine r_loop (P := fun (J : Int → Int → Rw → Cd → (Nat → Nat) → Option (Int × S3)) => ∀ (v12_495 : Int) (v20_495 : Int) (E_495 : Rw) (C_495 : Cd) (q_495 : (Nat → Nat)), RunO l Γ k_L_isWiki 15 encI (em3 ma) 495 [(0, .ref a0), (1, .ref (ma 0)), (2, .ref (ma 1)), (3, .ref (ma 2)), (4, .ref (ma 3)), (5, .ref (ma 4)), (6, .ref (ma 6)), (7, .ref (ma 7)), (8, .ref (ma 8)), (9, .ref (ma 9)), (10, wi a10), (11, .ref y4), (12, wi v12_495), (13, wi x13_121), (14, wi v14_436), (15, wi v15_32), (16, wi r15), (20, wi v20_495)] [] (E_495, C_495, q_495) (J v12_495 v20_495 E_495 C_495 q_495)) ?_ (fun L495 hL495 => ?_) (fun J495 hJ495 => ?_)
                          · intros; exact ro_none
                          · intro v12_495 v20_495 E_495 C_495 q_495
                            show RunO l Γ k_L_isWiki 15 encI (em3 ma) 495 [(0, .ref a0), (1, .ref (ma 0)), (2, .ref (ma 1)), (3, .ref (ma 2)), (4, .ref (ma 3)), (5, .ref (ma 4)), (6, .ref (ma 6)), (7, .ref (ma 7)), (8, .ref (ma 8)), (9, .ref (ma 9)), (10, wi a10), (11, .ref y4), (12, wi v12_495), (13, wi x13_121), (14, wi v14_436), (15, wi v15_32), (16, wi r15), (20, wi v20_495)] [] (E_495, C_495, q_495) (fW_isWiki_495 a0 L32 v15_32 r15 x13_121 v14_436 L495 v12_495 v20_495 E_495 C_495 q_495)
                            unfold fW_isWiki_495
                            refine r_iload (x := v20_495) dL_isWiki_495 rfl ?_
                            refine ro_iconst (v := 2) dL_isWiki_497 rfl ?_
                            refine r_join (P := fun (J : Rw → Cd → (Nat → Nat) → Option (Int × S3)) => ∀ (E_644 : Rw) (C_644 : Cd) (q_644 : (Nat → Nat)), RunO l Γ k_L_isWiki 15 encI (em3 ma) 644 [(0, .ref a0), (1, .ref (ma 0)), (2, .ref (ma 1)), (3, .ref (ma 2)), (4, .ref (ma 3)), (5, .ref (ma 4)), (6, .ref (ma 6)), (7, .ref (ma 7)), (8, .ref (ma 8)), (9, .ref (ma 9)), (10, wi a10), (11, .ref y4), (12, wi v12_495), (13, wi x13_121), (14, wi v14_436), (15, wi v15_32)] [] (E_644, C_644, q_644) (J E_644 C_644 q_644)) ?_ (fun J644 hJ644 => ?_)
                            · intro E_644 C_644 q_644
                              show RunO l Γ k_L_isWiki 15 encI (em3 ma) 644 [(0, .ref a0), (1, .ref (ma 0)), (2, .ref (ma 1)), (3, .ref (ma 2)), (4, .ref (ma 3)), (5, .ref (ma 4)), (6, .ref (ma 6)), (7, .ref (ma 7)), (8, .ref (ma 8)), (9, .ref (ma 9)), (10, wi a10), (11, .ref y4), (12, wi v12_495), (13, wi x13_121), (14, wi v14_436), (15, wi v15_32)] [] (E_644, C_644, q_644) (fW_isWiki_644 L32 v15_32 x13_121 v14_436 v12_495 E_644 C_644 q_644)
                              unfold fW_isWiki_644
                              refine r_iinc (x := v15_32) (lo2 := [(15, wi (v15_32 + 1)), (0, .ref a0), (1, .ref (ma 0)), (2, .ref (ma 1)), (3, .ref (ma 2)), (4, .ref (ma 3)), (5, .ref (ma 4)), (6, .ref (ma 6)), (7, .ref (ma 7)), (8, .ref (ma 8)), (9, .ref (ma 9)), (10, wi a10), (11, .ref y4), (12, wi v12_495), (13, wi x13_121), (14, wi v14_436)]) dL_isWiki_644 rfl (by decide) rfl ?_
                              refine r_goto (tgt := 32) dL_isWiki_647 (by decide) ?_
                              refine r_lo [1, 2, 3, 4, 5, 6, 7, 8, 9, 10, 11, 12, 13, 14, 15, 0] (lo2 := [(0, .ref a0), (1, .ref (ma 0)), (2, .ref (ma 1)), (3, .ref (ma 2)), (4, .ref (ma 3)), (5, .ref (ma 4)), (6, .ref (ma 6)), (7, .ref (ma 7)), (8, .ref (ma 8)), (9, .ref (ma 9)), (10, wi a10), (11, .ref y4), (12, wi v12_495), (13, wi x13_121), (14, wi v14_436), (15, wi (v15_32 + 1))]) rfl ?_
                              exact hL32 v12_495 x13_121 v14_436 (v15_32 + 1) E_644 C_644 q_644
                            refine r_icmp_ge (tgt := 644) dL_isWiki_498 (by decide) ?_ ?_
                            · refine r_lo [0, 1, 2, 3, 4, 5, 6, 7, 8, 9, 10, 11, 12, 13, 14, 15] (lo2 := [(0, .ref a0), (1, .ref (ma 0)), (2, .ref (ma 1)), (3, .ref (ma 2)), (4, .ref (ma 3)), (5, .ref (ma 4)), (6, .ref (ma 6)), (7, .ref (ma 7)), (8, .ref (ma 8)), (9, .ref (ma 9)), (10, wi a10), (11, .ref y4), (12, wi v12_495), (13, wi x13_121), (14, wi v14_436), (15, wi v15_32)]) rfl ?_
                              exact hJ644 E_495 C_495 q_495
                            · refine r_iload (x := v12_495) dL_isWiki_501 rfl ?_
                              refine r_if_eq (tgt := 644) dL_isWiki_503 (by decide) ?_ ?_
                              · refine r_lo [0, 1, 2, 3, 4, 5, 6, 7, 8, 9, 10, 11, 12, 13, 14, 15] (lo2 := [(0, .ref a0), (1, .ref (ma 0)), (2, .ref (ma 1)), (3, .ref (ma 2)), (4, .ref (ma 3)), (5, .ref (ma 4)), (6, .ref (ma 6)), (7, .ref (ma 7)), (8, .ref (ma 8)), (9, .ref (ma 9)), (10, wi a10), (11, .ref y4), (12, wi v12_495), (13, wi x13_121), (14, wi v14_436), (15, wi v15_32)]) rfl ?_
                                exact hJ644 E_495 C_495 q_495
                              · refine r_aload (x := ma 9) dL_isWiki_506 rfl ?_
                                refine r_iload (x := v15_32) dL_isWiki_508 rfl ?_
                                refine r_bipush (v := 8) dL_isWiki_510 rfl ?_
                                refine r_iload (x := v20_495) dL_isWiki_512 rfl ?_
                                refine r_imul dL_isWiki_514 ?_
                                refine r_iadd dL_isWiki_515 ?_
                                refine r_wiald3 h (by decide) (by decide) (hm 9 (by decide)) dL_isWiki_516 ?_
                                refine r_nm (fun x21_517 => ?_)
                                refine r_istore (lo2 := [(21, wi x21_517), (0, .ref a0), (1, .ref (ma 0)), (2, .ref (ma 1)), (3, .ref (ma 2)), (4, .ref (ma 3)), (5, .ref (ma 4)), (6, .ref (ma 6)), (7, .ref (ma 7)), (8, .ref (ma 8)), (9, .ref (ma 9)), (10, wi a10), (11, .ref y4), (12, wi v12_495), (13, wi x13_121), (14, wi v14_436), (15, wi v15_32), (16, wi r15), (20, wi v20_495)]) dL_isWiki_517 (by decide) rfl ?_
                                refine r_aload (x := ma 9) dL_isWiki_519 rfl ?_
                                refine r_iload (x := v15_32) dL_isWiki_521 rfl ?_
                                refine r_wiald3 h (by decide) (by decide) (hm 9 (by decide)) dL_isWiki_523 ?_
                                refine r_nm (fun x22_524 => ?_)
                                refine r_istore (lo2 := [(22, wi x22_524), (21, wi x21_517), (0, .ref a0), (1, .ref (ma 0)), (2, .ref (ma 1)), (3, .ref (ma 2)), (4, .ref (ma 3)), (5, .ref (ma 4)), (6, .ref (ma 6)), (7, .ref (ma 7)), (8, .ref (ma 8)), (9, .ref (ma 9)), (10, wi a10), (11, .ref y4), (12, wi v12_495), (13, wi x13_121), (14, wi v14_436), (15, wi v15_32), (16, wi r15), (20, wi v20_495)]) dL_isWiki_524 (by decide) rfl ?_
                                refine r_iload (x := x21_517) dL_isWiki_526 rfl ?_
                                refine r_join (P := fun (J : Int → Rw → Cd → (Nat → Nat) → Option (Int × S3)) => ∀ (t0_570 : Int) (E_570 : Rw) (C_570 : Cd) (q_570 : (Nat → Nat)), RunO l Γ k_L_isWiki 15 encI (em3 ma) 570 [(0, .ref a0), (1, .ref (ma 0)), (2, .ref (ma 1)), (3, .ref (ma 2)), (4, .ref (ma 3)), (5, .ref (ma 4)), (6, .ref (ma 6)), (7, .ref (ma 7)), (8, .ref (ma 8)), (9, .ref (ma 9)), (10, wi a10), (11, .ref y4), (13, wi x13_121), (14, wi v14_436), (15, wi v15_32), (16, wi r15), (20, wi v20_495), (21, wi x21_517)] [wi t0_570] (E_570, C_570, q_570) (J t0_570 E_570 C_570 q_570)) ?_ (fun J570 hJ570 => ?_)
                                · intro t0_570 E_570 C_570 q_570
                                  show RunO l Γ k_L_isWiki 15 encI (em3 ma) 570 [(0, .ref a0), (1, .ref (ma 0)), (2, .ref (ma 1)), (3, .ref (ma 2)), (4, .ref (ma 3)), (5, .ref (ma 4)), (6, .ref (ma 6)), (7, .ref (ma 7)), (8, .ref (ma 8)), (9, .ref (ma 9)), (10, wi a10), (11, .ref y4), (13, wi x13_121), (14, wi v14_436), (15, wi v15_32), (16, wi r15), (20, wi v20_495), (21, wi x21_517)] [wi t0_570] (E_570, C_570, q_570) (fW_isWiki_570 a0 v15_32 r15 L495 v20_495 x21_517 t0_570 E_570 C_570 q_570)
                                  unfold fW_isWiki_570
                                  refine r_istore (lo2 := [(23, wi t0_570), (0, .ref a0), (1, .ref (ma 0)), (2, .ref (ma 1)), (3, .ref (ma 2)), (4, .ref (ma 3)), (5, .ref (ma 4)), (6, .ref (ma 6)), (7, .ref (ma 7)), (8, .ref (ma 8)), (9, .ref (ma 9)), (10, wi a10), (11, .ref y4), (13, wi x13_121), (14, wi v14_436), (15, wi v15_32), (16, wi r15), (20, wi v20_495), (21, wi x21_517)]) dL_isWiki_570 (by decide) rfl ?_
                                  refine r_aload_n (x := a0) dL_isWiki_572 rfl rfl ?_
                                  refine r_iload (x := v15_32) dL_isWiki_573 rfl ?_
                                  refine r_iload (x := v20_495) dL_isWiki_575 rfl ?_
                                  refine ro_iconst (v := 1) dL_isWiki_577 rfl ?_
                                  refine r_iadd dL_isWiki_578 ?_
                                  refine r_cx1 (J := fun (C_ : Cd) => (E_570, C_, q_570)) (k2 := k_X11_inLanguage) (c := 14) (T := TX11) (N := 10) (n := 2) (rest := []) (fun _ => rfl) rfl um_L_163 kv_X11_inLanguage hc_X11 (by decide) (c_X11_inLanguage hG _ _ _ _) (by decide) rfl (Nat.le_of_ble_eq_true rfl) dL_isWiki_579 rfl (fun r23 C24 => ?_)
                                  show RunO l Γ k_L_isWiki 15 encI (em3 ma) 582 [(23, wi t0_570), (0, .ref a0), (1, .ref (ma 0)), (2, .ref (ma 1)), (3, .ref (ma 2)), (4, .ref (ma 3)), (5, .ref (ma 4)), (6, .ref (ma 6)), (7, .ref (ma 7)), (8, .ref (ma 8)), (9, .ref (ma 9)), (10, wi a10), (11, .ref y4), (13, wi x13_121), (14, wi v14_436), (15, wi v15_32), (16, wi r15), (20, wi v20_495), (21, wi x21_517)] [wi r23] (E_570, C24, q_570) _
                                  refine r_iload (x := t0_570) dL_isWiki_582 rfl ?_
                                  refine r_join (P := fun (J : Int → Rw → Cd → (Nat → Nat) → Option (Int × S3)) => ∀ (t0_636 : Int) (E_636 : Rw) (C_636 : Cd) (q_636 : (Nat → Nat)), RunO l Γ k_L_isWiki 15 encI (em3 ma) 636 [(0, .ref a0), (1, .ref (ma 0)), (2, .ref (ma 1)), (3, .ref (ma 2)), (4, .ref (ma 3)), (5, .ref (ma 4)), (6, .ref (ma 6)), (7, .ref (ma 7)), (8, .ref (ma 8)), (9, .ref (ma 9)), (10, wi a10), (11, .ref y4), (13, wi x13_121), (14, wi v14_436), (15, wi v15_32), (16, wi r15), (20, wi v20_495)] [wi t0_636] (E_636, C_636, q_636) (J t0_636 E_636 C_636 q_636)) ?_ (fun J636 hJ636 => ?_)
                                  · intro t0_636 E_636 C_636 q_636
                                    show RunO l Γ k_L_isWiki 15 encI (em3 ma) 636 [(0, .ref a0), (1, .ref (ma 0)), (2, .ref (ma 1)), (3, .ref (ma 2)), (4, .ref (ma 3)), (5, .ref (ma 4)), (6, .ref (ma 6)), (7, .ref (ma 7)), (8, .ref (ma 8)), (9, .ref (ma 9)), (10, wi a10), (11, .ref y4), (13, wi x13_121), (14, wi v14_436), (15, wi v15_32), (16, wi r15), (20, wi v20_495)] [wi t0_636] (E_636, C_636, q_636) (fW_isWiki_636 L495 v20_495 t0_636 E_636 C_636 q_636)
                                    unfold fW_isWiki_636
                                    refine r_istore (lo2 := [(12, wi t0_636), (0, .ref a0), (1, .ref (ma 0)), (2, .ref (ma 1)), (3, .ref (ma 2)), (4, .ref (ma 3)), (5, .ref (ma 4)), (6, .ref (ma 6)), (7, .ref (ma 7)), (8, .ref (ma 8)), (9, .ref (ma 9)), (10, wi a10), (11, .ref y4), (13, wi x13_121), (14, wi v14_436), (15, wi v15_32), (16, wi r15), (20, wi v20_495)]) dL_isWiki_636 (by decide) rfl ?_
                                    refine r_iinc (x := v20_495) (lo2 := [(20, wi (v20_495 + 1)), (12, wi t0_636), (0, .ref a0), (1, .ref (ma 0)), (2, .ref (ma 1)), (3, .ref (ma 2)), (4, .ref (ma 3)), (5, .ref (ma 4)), (6, .ref (ma 6)), (7, .ref (ma 7)), (8, .ref (ma 8)), (9, .ref (ma 9)), (10, wi a10), (11, .ref y4), (13, wi x13_121), (14, wi v14_436), (15, wi v15_32), (16, wi r15)]) dL_isWiki_638 rfl (by decide) rfl ?_
                                    refine r_goto (tgt := 495) dL_isWiki_641 (by decide) ?_
                                    refine r_lo [2, 3, 4, 5, 6, 7, 8, 9, 10, 11, 12, 13, 1, 14, 15, 16, 17, 0] (lo2 := [(0, .ref a0), (1, .ref (ma 0)), (2, .ref (ma 1)), (3, .ref (ma 2)), (4, .ref (ma 3)), (5, .ref (ma 4)), (6, .ref (ma 6)), (7, .ref (ma 7)), (8, .ref (ma 8)), (9, .ref (ma 9)), (10, wi a10), (11, .ref y4), (12, wi t0_636), (13, wi x13_121), (14, wi v14_436), (15, wi v15_32), (16, wi r15), (20, wi (v20_495 + 1))]) rfl ?_
                                    exact hL495 t0_636 (v20_495 + 1) E_636 C_636 q_636
                                  refine r_join (P := fun (J : Rw → Cd → (Nat → Nat) → Option (Int × S3)) => ∀ (E_635 : Rw) (C_635 : Cd) (q_635 : (Nat → Nat)), RunO l Γ k_L_isWiki 15 encI (em3 ma) 635 [(0, .ref a0), (1, .ref (ma 0)), (2, .ref (ma 1)), (3, .ref (ma 2)), (4, .ref (ma 3)), (5, .ref (ma 4)), (6, .ref (ma 6)), (7, .ref (ma 7)), (8, .ref (ma 8)), (9, .ref (ma 9)), (10, wi a10), (11, .ref y4), (13, wi x13_121), (14, wi v14_436), (15, wi v15_32), (16, wi r15), (20, wi v20_495)] [] (E_635, C_635, q_635) (J E_635 C_635 q_635)) ?_ (fun J635 hJ635 => ?_)
                                  · intro E_635 C_635 q_635
                                    show RunO l Γ k_L_isWiki 15 encI (em3 ma) 635 [(0, .ref a0), (1, .ref (ma 0)), (2, .ref (ma 1)), (3, .ref (ma 2)), (4, .ref (ma 3)), (5, .ref (ma 4)), (6, .ref (ma 6)), (7, .ref (ma 7)), (8, .ref (ma 8)), (9, .ref (ma 9)), (10, wi a10), (11, .ref y4), (13, wi x13_121), (14, wi v14_436), (15, wi v15_32), (16, wi r15), (20, wi v20_495)] [] (E_635, C_635, q_635) (fW_isWiki_635 J636 E_635 C_635 q_635)
                                    unfold fW_isWiki_635
                                    refine ro_iconst (v := 0) dL_isWiki_635 rfl ?_
                                    exact hJ636 0 E_635 C_635 q_635
                                  refine r_icmp_ne (tgt := 635) dL_isWiki_584 (by decide) ?_ ?_
                                  · refine r_lo [1, 2, 3, 4, 5, 6, 7, 8, 9, 10, 11, 12, 13, 14, 15, 16, 17] (lo2 := [(0, .ref a0), (1, .ref (ma 0)), (2, .ref (ma 1)), (3, .ref (ma 2)), (4, .ref (ma 3)), (5, .ref (ma 4)), (6, .ref (ma 6)), (7, .ref (ma 7)), (8, .ref (ma 8)), (9, .ref (ma 9)), (10, wi a10), (11, .ref y4), (13, wi x13_121), (14, wi v14_436), (15, wi v15_32), (16, wi r15), (20, wi v20_495)]) rfl ?_
                                    exact hJ635 E_570 C24 q_570
                                  · refine r_aload_n (x := a0) dL_isWiki_587 rfl rfl ?_
                                    refine r_iload (x := v15_32) dL_isWiki_588 rfl ?_
                                    refine r_iload (x := v20_495) dL_isWiki_590 rfl ?_
                                    refine ro_iconst (v := 1) dL_isWiki_592 rfl ?_
                                    refine r_iadd dL_isWiki_593 ?_
                                    refine r_cx1 (J := fun (C_ : Cd) => (E_570, C_, q_570)) (k2 := k_X11_isOutdated) (c := 14) (T := TX11) (N := 10) (n := 2) (rest := []) (fun _ => rfl) rfl um_L_166 kv_X11_isOutdated hc_X11 (by decide) (c_X11_isOutdated hG _ _ _ _) (by decide) rfl (Nat.le_of_ble_eq_true rfl) dL_isWiki_594 rfl (fun r25 C26 => ?_)
                                    show RunO l Γ k_L_isWiki 15 encI (em3 ma) 597 [(23, wi t0_570), (0, .ref a0), (1, .ref (ma 0)), (2, .ref (ma 1)), (3, .ref (ma 2)), (4, .ref (ma 3)), (5, .ref (ma 4)), (6, .ref (ma 6)), (7, .ref (ma 7)), (8, .ref (ma 8)), (9, .ref (ma 9)), (10, wi a10), (11, .ref y4), (13, wi x13_121), (14, wi v14_436), (15, wi v15_32), (16, wi r15), (20, wi v20_495), (21, wi x21_517)] [wi r25] (E_570, C26, q_570) _
                                    refine r_iload (x := x21_517) dL_isWiki_597 rfl ?_
                                    refine r_join (P := fun (J : Int → Rw → Cd → (Nat → Nat) → Option (Int × S3)) => ∀ (t0_628 : Int) (E_628 : Rw) (C_628 : Cd) (q_628 : (Nat → Nat)), RunO l Γ k_L_isWiki 15 encI (em3 ma) 628 [(0, .ref a0), (1, .ref (ma 0)), (2, .ref (ma 1)), (3, .ref (ma 2)), (4, .ref (ma 3)), (5, .ref (ma 4)), (6, .ref (ma 6)), (7, .ref (ma 7)), (8, .ref (ma 8)), (9, .ref (ma 9)), (10, wi a10), (11, .ref y4), (13, wi x13_121), (14, wi v14_436), (15, wi v15_32), (16, wi r15), (20, wi v20_495)] [wi t0_628, wi r25] (E_628, C_628, q_628) (J t0_628 E_628 C_628 q_628)) ?_ (fun J628 hJ628 => ?_)
                                    · intro t0_628 E_628 C_628 q_628
                                      show RunO l Γ k_L_isWiki 15 encI (em3 ma) 628 [(0, .ref a0), (1, .ref (ma 0)), (2, .ref (ma 1)), (3, .ref (ma 2)), (4, .ref (ma 3)), (5, .ref (ma 4)), (6, .ref (ma 6)), (7, .ref (ma 7)), (8, .ref (ma 8)), (9, .ref (ma 9)), (10, wi a10), (11, .ref y4), (13, wi x13_121), (14, wi v14_436), (15, wi v15_32), (16, wi r15), (20, wi v20_495)] [wi t0_628, wi r25] (E_628, C_628, q_628) (fW_isWiki_628 J636 J635 r25 t0_628 E_628 C_628 q_628)
                                      unfold fW_isWiki_628
                                      refine r_icmp_ne (tgt := 635) dL_isWiki_628 (by decide) ?_ ?_
                                      · exact hJ635 E_628 C_628 q_628
                                      · refine ro_iconst (v := 1) dL_isWiki_631 rfl ?_
                                        refine r_goto (tgt := 636) dL_isWiki_632 (by decide) ?_
                                        exact hJ636 1 E_628 C_628 q_628
                                    refine r_join (P := fun (J : Rw → Cd → (Nat → Nat) → Option (Int × S3)) => ∀ (E_627 : Rw) (C_627 : Cd) (q_627 : (Nat → Nat)), RunO l Γ k_L_isWiki 15 encI (em3 ma) 627 [(0, .ref a0), (1, .ref (ma 0)), (2, .ref (ma 1)), (3, .ref (ma 2)), (4, .ref (ma 3)), (5, .ref (ma 4)), (6, .ref (ma 6)), (7, .ref (ma 7)), (8, .ref (ma 8)), (9, .ref (ma 9)), (10, wi a10), (11, .ref y4), (13, wi x13_121), (14, wi v14_436), (15, wi v15_32), (16, wi r15), (20, wi v20_495)] [wi r25] (E_627, C_627, q_627) (J E_627 C_627 q_627)) ?_ (fun J627 hJ627 => ?_)
                                    · intro E_627 C_627 q_627
                                      show RunO l Γ k_L_isWiki 15 encI (em3 ma) 627 [(0, .ref a0), (1, .ref (ma 0)), (2, .ref (ma 1)), (3, .ref (ma 2)), (4, .ref (ma 3)), (5, .ref (ma 4)), (6, .ref (ma 6)), (7, .ref (ma 7)), (8, .ref (ma 8)), (9, .ref (ma 9)), (10, wi a10), (11, .ref y4), (13, wi x13_121), (14, wi v14_436), (15, wi v15_32), (16, wi r15), (20, wi v20_495)] [wi r25] (E_627, C_627, q_627) (fW_isWiki_627 J628 E_627 C_627 q_627)
                                      unfold fW_isWiki_627
                                      refine ro_iconst (v := 0) dL_isWiki_627 rfl ?_
                                      exact hJ628 0 E_627 C_627 q_627
                                    refine r_if_le (tgt := 627) dL_isWiki_599 (by decide) ?_ ?_
                                    · refine r_lo [1, 2, 3, 4, 5, 6, 7, 8, 9, 10, 11, 12, 13, 14, 15, 16, 17] (lo2 := [(0, .ref a0), (1, .ref (ma 0)), (2, .ref (ma 1)), (3, .ref (ma 2)), (4, .ref (ma 3)), (5, .ref (ma 4)), (6, .ref (ma 6)), (7, .ref (ma 7)), (8, .ref (ma 8)), (9, .ref (ma 9)), (10, wi a10), (11, .ref y4), (13, wi x13_121), (14, wi v14_436), (15, wi v15_32), (16, wi r15), (20, wi v20_495)]) rfl ?_
                                      exact hJ627 E_570 C26 q_570
                                    · refine r_aload (x := ma 9) dL_isWiki_602 rfl ?_
                                      refine r_bipush (v := 16) dL_isWiki_604 rfl ?_
                                      refine r_iload (x := v15_32) dL_isWiki_606 rfl ?_
                                      refine r_iadd dL_isWiki_608 ?_
                                      refine r_bipush (v := 8) dL_isWiki_609 rfl ?_
                                      refine r_iload (x := v20_495) dL_isWiki_611 rfl ?_
                                      refine r_imul dL_isWiki_613 ?_
                                      refine r_iadd dL_isWiki_614 ?_
                                      refine r_wiald3 h (by decide) (by decide) (hm 9 (by decide)) dL_isWiki_615 ?_
                                      refine r_iload (x := r15) dL_isWiki_616 rfl ?_
                                      refine ro_iconst (v := 1) dL_isWiki_618 rfl ?_
                                      refine r_iadd dL_isWiki_619 ?_
                                      refine r_icmp_eq (tgt := 627) dL_isWiki_620 (by decide) ?_ ?_
                                      · refine r_lo [1, 2, 3, 4, 5, 6, 7, 8, 9, 10, 11, 12, 13, 14, 15, 16, 17] (lo2 := [(0, .ref a0), (1, .ref (ma 0)), (2, .ref (ma 1)), (3, .ref (ma 2)), (4, .ref (ma 3)), (5, .ref (ma 4)), (6, .ref (ma 6)), (7, .ref (ma 7)), (8, .ref (ma 8)), (9, .ref (ma 9)), (10, wi a10), (11, .ref y4), (13, wi x13_121), (14, wi v14_436), (15, wi v15_32), (16, wi r15), (20, wi v20_495)]) rfl ?_
                                        exact hJ627 E_570 C26 q_570
                                      · refine ro_iconst (v := 1) dL_isWiki_623 rfl ?_
                                        refine r_goto (tgt := 628) dL_isWiki_624 (by decide) ?_
                                        refine r_lo [1, 2, 3, 4, 5, 6, 7, 8, 9, 10, 11, 12, 13, 14, 15, 16, 17] (lo2 := [(0, .ref a0), (1, .ref (ma 0)), (2, .ref (ma 1)), (3, .ref (ma 2)), (4, .ref (ma 3)), (5, .ref (ma 4)), (6, .ref (ma 6)), (7, .ref (ma 7)), (8, .ref (ma 8)), (9, .ref (ma 9)), (10, wi a10), (11, .ref y4), (13, wi x13_121), (14, wi v14_436), (15, wi v15_32), (16, wi r15), (20, wi v20_495)]) rfl ?_
                                        exact hJ628 1 E_570 C26 q_570
                                refine r_join (P := fun (J : Rw → Cd → (Nat → Nat) → Option (Int × S3)) => ∀ (E_547 : Rw) (C_547 : Cd) (q_547 : (Nat → Nat)), RunO l Γ k_L_isWiki 15 encI (em3 ma) 547 [(0, .ref a0), (1, .ref (ma 0)), (2, .ref (ma 1)), (3, .ref (ma 2)), (4, .ref (ma 3)), (5, .ref (ma 4)), (6, .ref (ma 6)), (7, .ref (ma 7)), (8, .ref (ma 8)), (9, .ref (ma 9)), (10, wi a10), (11, .ref y4), (13, wi x13_121), (14, wi v14_436), (15, wi v15_32), (16, wi r15), (20, wi v20_495), (21, wi x21_517), (22, wi x22_524)] [] (E_547, C_547, q_547) (J E_547 C_547 q_547)) ?_ (fun J547 hJ547 => ?_)
                                · intro E_547 C_547 q_547
                                  show RunO l Γ k_L_isWiki 15 encI (em3 ma) 547 [(0, .ref a0), (1, .ref (ma 0)), (2, .ref (ma 1)), (3, .ref (ma 2)), (4, .ref (ma 3)), (5, .ref (ma 4)), (6, .ref (ma 6)), (7, .ref (ma 7)), (8, .ref (ma 8)), (9, .ref (ma 9)), (10, wi a10), (11, .ref y4), (13, wi x13_121), (14, wi v14_436), (15, wi v15_32), (16, wi r15), (20, wi v20_495), (21, wi x21_517), (22, wi x22_524)] [] (E_547, C_547, q_547) (fW_isWiki_547 v15_32 x22_524 J570 E_547 C_547 q_547)
                                  unfold fW_isWiki_547
                                  refine r_iload (x := x22_524) dL_isWiki_547 rfl ?_
                                  refine r_join (P := fun (J : Rw → Cd → (Nat → Nat) → Option (Int × S3)) => ∀ (E_568 : Rw) (C_568 : Cd) (q_568 : (Nat → Nat)), RunO l Γ k_L_isWiki 15 encI (em3 ma) 568 [(0, .ref a0), (1, .ref (ma 0)), (2, .ref (ma 1)), (3, .ref (ma 2)), (4, .ref (ma 3)), (5, .ref (ma 4)), (6, .ref (ma 6)), (7, .ref (ma 7)), (8, .ref (ma 8)), (9, .ref (ma 9)), (10, wi a10), (11, .ref y4), (13, wi x13_121), (14, wi v14_436), (15, wi v15_32), (16, wi r15), (20, wi v20_495), (21, wi x21_517)] [] (E_568, C_568, q_568) (J E_568 C_568 q_568)) ?_ (fun J568 hJ568 => ?_)
                                  · intro E_568 C_568 q_568
                                    show RunO l Γ k_L_isWiki 15 encI (em3 ma) 568 [(0, .ref a0), (1, .ref (ma 0)), (2, .ref (ma 1)), (3, .ref (ma 2)), (4, .ref (ma 3)), (5, .ref (ma 4)), (6, .ref (ma 6)), (7, .ref (ma 7)), (8, .ref (ma 8)), (9, .ref (ma 9)), (10, wi a10), (11, .ref y4), (13, wi x13_121), (14, wi v14_436), (15, wi v15_32), (16, wi r15), (20, wi v20_495), (21, wi x21_517)] [] (E_568, C_568, q_568) (fW_isWiki_568 v15_32 J570 E_568 C_568 q_568)
                                    unfold fW_isWiki_568
                                    refine r_iload (x := v15_32) dL_isWiki_568 rfl ?_
                                    exact hJ570 v15_32 E_568 C_568 q_568
                                  refine r_if_le (tgt := 568) dL_isWiki_549 (by decide) ?_ ?_
                                  · refine r_lo [0, 1, 2, 3, 4, 5, 6, 7, 8, 9, 10, 11, 12, 13, 14, 15, 16, 17] (lo2 := [(0, .ref a0), (1, .ref (ma 0)), (2, .ref (ma 1)), (3, .ref (ma 2)), (4, .ref (ma 3)), (5, .ref (ma 4)), (6, .ref (ma 6)), (7, .ref (ma 7)), (8, .ref (ma 8)), (9, .ref (ma 9)), (10, wi a10), (11, .ref y4), (13, wi x13_121), (14, wi v14_436), (15, wi v15_32), (16, wi r15), (20, wi v20_495), (21, wi x21_517)]) rfl ?_
                                    exact hJ568 E_547 C_547 q_547
                                  · refine r_aload_n (x := ma 1) dL_isWiki_552 rfl rfl ?_
                                    refine r_iload (x := x22_524) dL_isWiki_553 rfl ?_
                                    refine ro_iconst (v := 1) dL_isWiki_555 rfl ?_
                                    refine r_isub dL_isWiki_556 ?_
                                    refine r_wiald3 h (by decide) (by decide) (hm 1 (by decide)) dL_isWiki_557 ?_
                                    refine r_if_le (tgt := 568) dL_isWiki_558 (by decide) ?_ ?_
                                    · refine r_lo [0, 1, 2, 3, 4, 5, 6, 7, 8, 9, 10, 11, 12, 13, 14, 15, 16, 17] (lo2 := [(0, .ref a0), (1, .ref (ma 0)), (2, .ref (ma 1)), (3, .ref (ma 2)), (4, .ref (ma 3)), (5, .ref (ma 4)), (6, .ref (ma 6)), (7, .ref (ma 7)), (8, .ref (ma 8)), (9, .ref (ma 9)), (10, wi a10), (11, .ref y4), (13, wi x13_121), (14, wi v14_436), (15, wi v15_32), (16, wi r15), (20, wi v20_495), (21, wi x21_517)]) rfl ?_
                                      exact hJ568 E_547 C_547 q_547
                                    · refine r_iload (x := x22_524) dL_isWiki_561 rfl ?_
                                      refine ro_iconst (v := 1) dL_isWiki_563 rfl ?_
                                      refine r_isub dL_isWiki_564 ?_
                                      refine r_goto (tgt := 570) dL_isWiki_565 (by decide) ?_
                                      refine r_lo [0, 1, 2, 3, 4, 5, 6, 7, 8, 9, 10, 11, 12, 13, 14, 15, 16, 17] (lo2 := [(0, .ref a0), (1, .ref (ma 0)), (2, .ref (ma 1)), (3, .ref (ma 2)), (4, .ref (ma 3)), (5, .ref (ma 4)), (6, .ref (ma 6)), (7, .ref (ma 7)), (8, .ref (ma 8)), (9, .ref (ma 9)), (10, wi a10), (11, .ref y4), (13, wi x13_121), (14, wi v14_436), (15, wi v15_32), (16, wi r15), (20, wi v20_495), (21, wi x21_517)]) rfl ?_
                                      exact hJ570 (x22_524 - 1) E_547 C_547 q_547
                                refine r_if_le (tgt := 547) dL_isWiki_528 (by decide) ?_ ?_
                                · refine r_lo [2, 3, 4, 5, 6, 7, 8, 9, 10, 11, 12, 13, 15, 16, 17, 18, 19, 1, 0] (lo2 := [(0, .ref a0), (1, .ref (ma 0)), (2, .ref (ma 1)), (3, .ref (ma 2)), (4, .ref (ma 3)), (5, .ref (ma 4)), (6, .ref (ma 6)), (7, .ref (ma 7)), (8, .ref (ma 8)), (9, .ref (ma 9)), (10, wi a10), (11, .ref y4), (13, wi x13_121), (14, wi v14_436), (15, wi v15_32), (16, wi r15), (20, wi v20_495), (21, wi x21_517), (22, wi x22_524)]) rfl ?_
                                  exact hJ547 E_495 C_495 q_495
                                · refine r_aload_n (x := ma 1) dL_isWiki_531 rfl rfl ?_
                                  refine r_iload (x := x21_517) dL_isWiki_532 rfl ?_
                                  refine ro_iconst (v := 1) dL_isWiki_534 rfl ?_
                                  refine r_isub dL_isWiki_535 ?_
                                  refine r_wiald3 h (by decide) (by decide) (hm 1 (by decide)) dL_isWiki_536 ?_
                                  refine r_if_le (tgt := 547) dL_isWiki_537 (by decide) ?_ ?_
                                  · refine r_lo [2, 3, 4, 5, 6, 7, 8, 9, 10, 11, 12, 13, 15, 16, 17, 18, 19, 1, 0] (lo2 := [(0, .ref a0), (1, .ref (ma 0)), (2, .ref (ma 1)), (3, .ref (ma 2)), (4, .ref (ma 3)), (5, .ref (ma 4)), (6, .ref (ma 6)), (7, .ref (ma 7)), (8, .ref (ma 8)), (9, .ref (ma 9)), (10, wi a10), (11, .ref y4), (13, wi x13_121), (14, wi v14_436), (15, wi v15_32), (16, wi r15), (20, wi v20_495), (21, wi x21_517), (22, wi x22_524)]) rfl ?_
                                    exact hJ547 E_495 C_495 q_495
                                  · refine r_iload (x := x21_517) dL_isWiki_540 rfl ?_
                                    refine ro_iconst (v := 1) dL_isWiki_542 rfl ?_
                                    refine r_isub dL_isWiki_543 ?_
                                    refine r_goto (tgt := 570) dL_isWiki_544 (by decide) ?_
                                    refine r_lo [2, 3, 4, 5, 6, 7, 8, 9, 10, 11, 12, 13, 15, 16, 17, 18, 19, 1] (lo2 := [(0, .ref a0), (1, .ref (ma 0)), (2, .ref (ma 1)), (3, .ref (ma 2)), (4, .ref (ma 3)), (5, .ref (ma 4)), (6, .ref (ma 6)), (7, .ref (ma 7)), (8, .ref (ma 8)), (9, .ref (ma 9)), (10, wi a10), (11, .ref y4), (13, wi x13_121), (14, wi v14_436), (15, wi v15_32), (16, wi r15), (20, wi v20_495), (21, wi x21_517)]) rfl ?_
                                    exact hJ570 (x21_517 - 1) E_495 C_495 q_495
                          refine r_lo [1, 2, 3, 4, 5, 6, 7, 8, 9, 10, 11, 12, 13, 14, 15, 16, 17, 0] (lo2 := [(0, .ref a0), (1, .ref (ma 0)), (2, .ref (ma 1)), (3, .ref (ma 2)), (4, .ref (ma 3)), (5, .ref (ma 4)), (6, .ref (ma 6)), (7, .ref (ma 7)), (8, .ref (ma 8)), (9, .ref (ma 9)), (10, wi a10), (11, .ref y4), (12, wi v12_433), (13, wi x13_121), (14, wi v14_436), (15, wi v15_32), (16, wi r15), (20, wi 0)]) rfl ?_
                          exact hJ495 v12_433 0 E_436 C_436 q_436
                        · refine r_iload (x := v14_436) dL_isWiki_443 rfl ?_
                          refine r_iload (x := r15) dL_isWiki_445 rfl ?_
                          refine r_join (P := fun (J : Int → Rw → Cd → (Nat → Nat) → Option (Int × S3)) => ∀ (t0_483 : Int) (E_483 : Rw) (C_483 : Cd) (q_483 : (Nat → Nat)), RunO l Γ k_L_isWiki 15 encI (em3 ma) 483 [(0, .ref a0), (1, .ref (ma 0)), (2, .ref (ma 1)), (3, .ref (ma 2)), (4, .ref (ma 3)), (5, .ref (ma 4)), (6, .ref (ma 6)), (7, .ref (ma 7)), (8, .ref (ma 8)), (9, .ref (ma 9)), (10, wi a10), (11, .ref y4), (12, wi v12_433), (13, wi x13_121), (15, wi v15_32), (16, wi r15), (20, wi v20_436)] [wi t0_483, wi v14_436] (E_483, C_483, q_483) (J t0_483 E_483 C_483 q_483)) ?_ (fun J483 hJ483 => ?_)
                          · intro t0_483 E_483 C_483 q_483
                            show RunO l Γ k_L_isWiki 15 encI (em3 ma) 483 [(0, .ref a0), (1, .ref (ma 0)), (2, .ref (ma 1)), (3, .ref (ma 2)), (4, .ref (ma 3)), (5, .ref (ma 4)), (6, .ref (ma 6)), (7, .ref (ma 7)), (8, .ref (ma 8)), (9, .ref (ma 9)), (10, wi a10), (11, .ref y4), (12, wi v12_433), (13, wi x13_121), (15, wi v15_32), (16, wi r15), (20, wi v20_436)] [wi t0_483, wi v14_436] (E_483, C_483, q_483) (fW_isWiki_483 L436 v14_436 v20_436 t0_483 E_483 C_483 q_483)
                            unfold fW_isWiki_483
                            refine r_ior dL_isWiki_483 ?_
                            refine r_nm (fun x14_484 => ?_)
                            refine r_istore (lo2 := [(14, wi x14_484), (0, .ref a0), (1, .ref (ma 0)), (2, .ref (ma 1)), (3, .ref (ma 2)), (4, .ref (ma 3)), (5, .ref (ma 4)), (6, .ref (ma 6)), (7, .ref (ma 7)), (8, .ref (ma 8)), (9, .ref (ma 9)), (10, wi a10), (11, .ref y4), (12, wi v12_433), (13, wi x13_121), (15, wi v15_32), (16, wi r15), (20, wi v20_436)]) dL_isWiki_484 (by decide) rfl ?_
                            refine r_iinc (x := v20_436) (lo2 := [(20, wi (v20_436 + 1)), (14, wi x14_484), (0, .ref a0), (1, .ref (ma 0)), (2, .ref (ma 1)), (3, .ref (ma 2)), (4, .ref (ma 3)), (5, .ref (ma 4)), (6, .ref (ma 6)), (7, .ref (ma 7)), (8, .ref (ma 8)), (9, .ref (ma 9)), (10, wi a10), (11, .ref y4), (12, wi v12_433), (13, wi x13_121), (15, wi v15_32), (16, wi r15)]) dL_isWiki_486 rfl (by decide) rfl ?_
                            refine r_goto (tgt := 436) dL_isWiki_489 (by decide) ?_
                            refine r_lo [2, 3, 4, 5, 6, 7, 8, 9, 10, 11, 12, 13, 14, 15, 1, 16, 17, 0] (lo2 := [(0, .ref a0), (1, .ref (ma 0)), (2, .ref (ma 1)), (3, .ref (ma 2)), (4, .ref (ma 3)), (5, .ref (ma 4)), (6, .ref (ma 6)), (7, .ref (ma 7)), (8, .ref (ma 8)), (9, .ref (ma 9)), (10, wi a10), (11, .ref y4), (12, wi v12_433), (13, wi x13_121), (14, wi x14_484), (15, wi v15_32), (16, wi r15), (20, wi (v20_436 + 1))]) rfl ?_
                            exact hL436 x14_484 (v20_436 + 1) E_483 C_483 q_483
                          refine r_join (P := fun (J : Rw → Cd → (Nat → Nat) → Option (Int × S3)) => ∀ (E_482 : Rw) (C_482 : Cd) (q_482 : (Nat → Nat)), RunO l Γ k_L_isWiki 15 encI (em3 ma) 482 [(0, .ref a0), (1, .ref (ma 0)), (2, .ref (ma 1)), (3, .ref (ma 2)), (4, .ref (ma 3)), (5, .ref (ma 4)), (6, .ref (ma 6)), (7, .ref (ma 7)), (8, .ref (ma 8)), (9, .ref (ma 9)), (10, wi a10), (11, .ref y4), (12, wi v12_433), (13, wi x13_121), (15, wi v15_32), (16, wi r15), (20, wi v20_436)] [wi v14_436] (E_482, C_482, q_482) (J E_482 C_482 q_482)) ?_ (fun J482 hJ482 => ?_)
                          · intro E_482 C_482 q_482
                            show RunO l Γ k_L_isWiki 15 encI (em3 ma) 482 [(0, .ref a0), (1, .ref (ma 0)), (2, .ref (ma 1)), (3, .ref (ma 2)), (4, .ref (ma 3)), (5, .ref (ma 4)), (6, .ref (ma 6)), (7, .ref (ma 7)), (8, .ref (ma 8)), (9, .ref (ma 9)), (10, wi a10), (11, .ref y4), (12, wi v12_433), (13, wi x13_121), (15, wi v15_32), (16, wi r15), (20, wi v20_436)] [wi v14_436] (E_482, C_482, q_482) (fW_isWiki_482 J483 E_482 C_482 q_482)
                            unfold fW_isWiki_482
                            refine ro_iconst (v := 0) dL_isWiki_482 rfl ?_
                            exact hJ483 0 E_482 C_482 q_482
                          refine r_if_ge (tgt := 482) dL_isWiki_447 (by decide) ?_ ?_
                          · refine r_lo [0, 1, 2, 3, 4, 5, 6, 7, 8, 9, 10, 11, 12, 13, 15, 16, 17] (lo2 := [(0, .ref a0), (1, .ref (ma 0)), (2, .ref (ma 1)), (3, .ref (ma 2)), (4, .ref (ma 3)), (5, .ref (ma 4)), (6, .ref (ma 6)), (7, .ref (ma 7)), (8, .ref (ma 8)), (9, .ref (ma 9)), (10, wi a10), (11, .ref y4), (12, wi v12_433), (13, wi x13_121), (15, wi v15_32), (16, wi r15), (20, wi v20_436)]) rfl ?_
                            exact hJ482 E_436 C_436 q_436
                          · refine r_aload (x := ma 6) dL_isWiki_450 rfl ?_
                            refine r_bipush (v := 7) dL_isWiki_452 rfl ?_
                            refine r_iload (x := v20_436) dL_isWiki_454 rfl ?_
                            refine r_imul dL_isWiki_456 ?_
                            refine r_wiald3 h (by decide) (by decide) (hm 6 (by decide)) dL_isWiki_457 ?_
                            refine r_if_le (tgt := 482) dL_isWiki_458 (by decide) ?_ ?_
                            · refine r_lo [0, 1, 2, 3, 4, 5, 6, 7, 8, 9, 10, 11, 12, 13, 15, 16, 17] (lo2 := [(0, .ref a0), (1, .ref (ma 0)), (2, .ref (ma 1)), (3, .ref (ma 2)), (4, .ref (ma 3)), (5, .ref (ma 4)), (6, .ref (ma 6)), (7, .ref (ma 7)), (8, .ref (ma 8)), (9, .ref (ma 9)), (10, wi a10), (11, .ref y4), (12, wi v12_433), (13, wi x13_121), (15, wi v15_32), (16, wi r15), (20, wi v20_436)]) rfl ?_
                              exact hJ482 E_436 C_436 q_436
                            · refine r_aload (x := ma 6) dL_isWiki_461 rfl ?_
                              refine r_bipush (v := 7) dL_isWiki_463 rfl ?_
                              refine r_iload (x := v20_436) dL_isWiki_465 rfl ?_
                              refine r_imul dL_isWiki_467 ?_
                              refine ro_iconst (v := 2) dL_isWiki_468 rfl ?_
                              refine r_iadd dL_isWiki_469 ?_
                              refine r_wiald3 h (by decide) (by decide) (hm 6 (by decide)) dL_isWiki_470 ?_
                              refine r_iload (x := v15_32) dL_isWiki_471 rfl ?_
                              refine r_ishr dL_isWiki_473 ?_
                              refine ro_iconst (v := 1) dL_isWiki_474 rfl ?_
                              refine r_iand dL_isWiki_475 ?_
                              refine r_iload (x := v15_32) dL_isWiki_476 rfl ?_
                              refine r_ishl dL_isWiki_478 ?_
                              refine r_goto (tgt := 483) dL_isWiki_479 (by decide) ?_
                              refine r_lo [0, 1, 2, 3, 4, 5, 6, 7, 8, 9, 10, 11, 12, 13, 15, 16, 17] (lo2 := [(0, .ref a0), (1, .ref (ma 0)), (2, .ref (ma 1)), (3, .ref (ma 2)), (4, .ref (ma 3)), (5, .ref (ma 4)), (6, .ref (ma 6)), (7, .ref (ma 7)), (8, .ref (ma 8)), (9, .ref (ma 9)), (10, wi a10), (11, .ref y4), (12, wi v12_433), (13, wi x13_121), (15, wi v15_32), (16, wi r15), (20, wi v20_436)]) rfl ?_
                              exact hJ483 (shlI (andI (shrI (E_436 6 (ix ((7 * v20_436) + 2))) v15_32) 1) v15_32) E_436 C_436 q_436
                      refine r_lo [1, 2, 3, 4, 5, 6, 7, 8, 9, 10, 11, 12, 13, 14, 15, 16, 17, 0] (lo2 := [(0, .ref a0), (1, .ref (ma 0)), (2, .ref (ma 1)), (3, .ref (ma 2)), (4, .ref (ma 3)), (5, .ref (ma 4)), (6, .ref (ma 6)), (7, .ref (ma 7)), (8, .ref (ma 8)), (9, .ref (ma 9)), (10, wi a10), (11, .ref y4), (12, wi v12_433), (13, wi x13_121), (14, wi v14_32), (15, wi v15_32), (16, wi r15), (20, wi 0)]) rfl ?_
                      exact hJ436 v14_32 0 E_433 C_433 q_433
                    refine r_if_eq (tgt := 433) dL_isWiki_270 (by decide) ?_ ?_
                    · refine r_lo [1, 2, 3, 4, 5, 6, 7, 8, 9, 10, 11, 12, 0, 13, 14, 15, 16] (lo2 := [(0, .ref a0), (1, .ref (ma 0)), (2, .ref (ma 1)), (3, .ref (ma 2)), (4, .ref (ma 3)), (5, .ref (ma 4)), (6, .ref (ma 6)), (7, .ref (ma 7)), (8, .ref (ma 8)), (9, .ref (ma 9)), (10, wi a10), (11, .ref y4), (12, wi t0_266), (13, wi x13_121), (14, wi v14_32), (15, wi v15_32), (16, wi r15)]) rfl ?_
                      exact hJ433 t0_266 E_266 C_266 q_266
                    · refine r_iload (x := r15) dL_isWiki_273 rfl ?_
                      refine r_if_lt (tgt := 433) dL_isWiki_275 (by decide) ?_ ?_
                      · refine r_lo [1, 2, 3, 4, 5, 6, 7, 8, 9, 10, 11, 12, 0, 13, 14, 15, 16] (lo2 := [(0, .ref a0), (1, .ref (ma 0)), (2, .ref (ma 1)), (3, .ref (ma 2)), (4, .ref (ma 3)), (5, .ref (ma 4)), (6, .ref (ma 6)), (7, .ref (ma 7)), (8, .ref (ma 8)), (9, .ref (ma 9)), (10, wi a10), (11, .ref y4), (12, wi t0_266), (13, wi x13_121), (14, wi v14_32), (15, wi v15_32), (16, wi r15)]) rfl ?_
                        exact hJ433 t0_266 E_266 C_266 q_266
                      · refine r_aload_n (x := a0) dL_isWiki_278 rfl rfl ?_
                        refine r_iload (x := v15_32) dL_isWiki_279 rfl ?_
                        refine r_cx1 (J := fun (C_ : Cd) => (E_266, C_, q_266)) (k2 := k_X11_isStale) (c := 14) (T := TX11) (N := 10) (n := 1) (rest := []) (fun _ => rfl) rfl um_L_152 kv_X11_isStale hc_X11 (by decide) (c_X11_isStale hG _ _ _) (by decide) rfl (Nat.le_of_ble_eq_true rfl) dL_isWiki_281 rfl (fun r27 C28 => ?_)
                        show RunO l Γ k_L_isWiki 15 encI (em3 ma) 284 [(12, wi t0_266), (0, .ref a0), (1, .ref (ma 0)), (2, .ref (ma 1)), (3, .ref (ma 2)), (4, .ref (ma 3)), (5, .ref (ma 4)), (6, .ref (ma 6)), (7, .ref (ma 7)), (8, .ref (ma 8)), (9, .ref (ma 9)), (10, wi a10), (11, .ref y4), (13, wi x13_121), (14, wi v14_32), (15, wi v15_32), (16, wi r15), (18, wi r19), (19, wi t0_106)] [wi r27] (E_266, C28, q_266) _
                        refine r_iload (x := r19) dL_isWiki_284 rfl ?_
                        refine r_join (P := fun (J : Int → Rw → Cd → (Nat → Nat) → Option (Int × S3)) => ∀ (t0_396 : Int) (E_396 : Rw) (C_396 : Cd) (q_396 : (Nat → Nat)), RunO l Γ k_L_isWiki 15 encI (em3 ma) 396 [(0, .ref a0), (1, .ref (ma 0)), (2, .ref (ma 1)), (3, .ref (ma 2)), (4, .ref (ma 3)), (5, .ref (ma 4)), (6, .ref (ma 6)), (7, .ref (ma 7)), (8, .ref (ma 8)), (9, .ref (ma 9)), (10, wi a10), (11, .ref y4), (13, wi x13_121), (14, wi v14_32), (15, wi v15_32), (16, wi r15)] [wi t0_396] (E_396, C_396, q_396) (J t0_396 E_396 C_396 q_396)) ?_ (fun J396 hJ396 => ?_)
                        · intro t0_396 E_396 C_396 q_396
                          show RunO l Γ k_L_isWiki 15 encI (em3 ma) 396 [(0, .ref a0), (1, .ref (ma 0)), (2, .ref (ma 1)), (3, .ref (ma 2)), (4, .ref (ma 3)), (5, .ref (ma 4)), (6, .ref (ma 6)), (7, .ref (ma 7)), (8, .ref (ma 8)), (9, .ref (ma 9)), (10, wi a10), (11, .ref y4), (13, wi x13_121), (14, wi v14_32), (15, wi v15_32), (16, wi r15)] [wi t0_396] (E_396, C_396, q_396) (fW_isWiki_396 a0 v15_32 r15 J433 t0_396 E_396 C_396 q_396)
                          unfold fW_isWiki_396
                          refine r_istore (lo2 := [(12, wi t0_396), (0, .ref a0), (1, .ref (ma 0)), (2, .ref (ma 1)), (3, .ref (ma 2)), (4, .ref (ma 3)), (5, .ref (ma 4)), (6, .ref (ma 6)), (7, .ref (ma 7)), (8, .ref (ma 8)), (9, .ref (ma 9)), (10, wi a10), (11, .ref y4), (13, wi x13_121), (14, wi v14_32), (15, wi v15_32), (16, wi r15)]) dL_isWiki_396 (by decide) rfl ?_
                          refine r_iload (x := t0_396) dL_isWiki_398 rfl ?_
                          refine r_join (P := fun (J : Int → Rw → Cd → (Nat → Nat) → Option (Int × S3)) => ∀ (t0_431 : Int) (E_431 : Rw) (C_431 : Cd) (q_431 : (Nat → Nat)), RunO l Γ k_L_isWiki 15 encI (em3 ma) 431 [(0, .ref a0), (1, .ref (ma 0)), (2, .ref (ma 1)), (3, .ref (ma 2)), (4, .ref (ma 3)), (5, .ref (ma 4)), (6, .ref (ma 6)), (7, .ref (ma 7)), (8, .ref (ma 8)), (9, .ref (ma 9)), (10, wi a10), (11, .ref y4), (13, wi x13_121), (14, wi v14_32), (15, wi v15_32), (16, wi r15)] [wi t0_431] (E_431, C_431, q_431) (J t0_431 E_431 C_431 q_431)) ?_ (fun J431 hJ431 => ?_)
                          · intro t0_431 E_431 C_431 q_431
                            show RunO l Γ k_L_isWiki 15 encI (em3 ma) 431 [(0, .ref a0), (1, .ref (ma 0)), (2, .ref (ma 1)), (3, .ref (ma 2)), (4, .ref (ma 3)), (5, .ref (ma 4)), (6, .ref (ma 6)), (7, .ref (ma 7)), (8, .ref (ma 8)), (9, .ref (ma 9)), (10, wi a10), (11, .ref y4), (13, wi x13_121), (14, wi v14_32), (15, wi v15_32), (16, wi r15)] [wi t0_431] (E_431, C_431, q_431) (fW_isWiki_431 J433 t0_431 E_431 C_431 q_431)
                            unfold fW_isWiki_431
                            refine r_istore (lo2 := [(12, wi t0_431), (0, .ref a0), (1, .ref (ma 0)), (2, .ref (ma 1)), (3, .ref (ma 2)), (4, .ref (ma 3)), (5, .ref (ma 4)), (6, .ref (ma 6)), (7, .ref (ma 7)), (8, .ref (ma 8)), (9, .ref (ma 9)), (10, wi a10), (11, .ref y4), (13, wi x13_121), (14, wi v14_32), (15, wi v15_32), (16, wi r15)]) dL_isWiki_431 (by decide) rfl ?_
                            refine r_lo [1, 2, 3, 4, 5, 6, 7, 8, 9, 10, 11, 12, 0, 13, 14, 15, 16] (lo2 := [(0, .ref a0), (1, .ref (ma 0)), (2, .ref (ma 1)), (3, .ref (ma 2)), (4, .ref (ma 3)), (5, .ref (ma 4)), (6, .ref (ma 6)), (7, .ref (ma 7)), (8, .ref (ma 8)), (9, .ref (ma 9)), (10, wi a10), (11, .ref y4), (12, wi t0_431), (13, wi x13_121), (14, wi v14_32), (15, wi v15_32), (16, wi r15)]) rfl ?_
                            exact hJ433 t0_431 E_431 C_431 q_431
                          refine r_join (P := fun (J : Rw → Cd → (Nat → Nat) → Option (Int × S3)) => ∀ (E_430 : Rw) (C_430 : Cd) (q_430 : (Nat → Nat)), RunO l Γ k_L_isWiki 15 encI (em3 ma) 430 [(0, .ref a0), (1, .ref (ma 0)), (2, .ref (ma 1)), (3, .ref (ma 2)), (4, .ref (ma 3)), (5, .ref (ma 4)), (6, .ref (ma 6)), (7, .ref (ma 7)), (8, .ref (ma 8)), (9, .ref (ma 9)), (10, wi a10), (11, .ref y4), (13, wi x13_121), (14, wi v14_32), (15, wi v15_32), (16, wi r15)] [] (E_430, C_430, q_430) (J E_430 C_430 q_430)) ?_ (fun J430 hJ430 => ?_)
                          · intro E_430 C_430 q_430
                            show RunO l Γ k_L_isWiki 15 encI (em3 ma) 430 [(0, .ref a0), (1, .ref (ma 0)), (2, .ref (ma 1)), (3, .ref (ma 2)), (4, .ref (ma 3)), (5, .ref (ma 4)), (6, .ref (ma 6)), (7, .ref (ma 7)), (8, .ref (ma 8)), (9, .ref (ma 9)), (10, wi a10), (11, .ref y4), (13, wi x13_121), (14, wi v14_32), (15, wi v15_32), (16, wi r15)] [] (E_430, C_430, q_430) (fW_isWiki_430 J431 E_430 C_430 q_430)
                            unfold fW_isWiki_430
                            refine ro_iconst (v := 0) dL_isWiki_430 rfl ?_
                            exact hJ431 0 E_430 C_430 q_430
                          refine r_if_eq (tgt := 430) dL_isWiki_400 (by decide) ?_ ?_
                          · refine r_lo [1, 2, 3, 4, 5, 6, 7, 8, 9, 10, 11, 12, 13, 14, 15, 16] (lo2 := [(0, .ref a0), (1, .ref (ma 0)), (2, .ref (ma 1)), (3, .ref (ma 2)), (4, .ref (ma 3)), (5, .ref (ma 4)), (6, .ref (ma 6)), (7, .ref (ma 7)), (8, .ref (ma 8)), (9, .ref (ma 9)), (10, wi a10), (11, .ref y4), (13, wi x13_121), (14, wi v14_32), (15, wi v15_32), (16, wi r15)]) rfl ?_
                            exact hJ430 E_396 C_396 q_396
                          · refine r_aload_n (x := a0) dL_isWiki_403 rfl rfl ?_
                            refine r_iload (x := v15_32) dL_isWiki_404 rfl ?_
                            refine ro_iconst (v := 0) dL_isWiki_406 rfl ?_
                            refine r_cx1 (J := fun (C_ : Cd) => (E_396, C_, q_396)) (k2 := k_X11_tokenAt) (c := 14) (T := TX11) (N := 10) (n := 2) (rest := []) (fun _ => rfl) rfl um_L_97 kv_X11_tokenAt hc_X11 (by decide) (c_X11_tokenAt hG _ _ _ _) (by decide) rfl (Nat.le_of_ble_eq_true rfl) dL_isWiki_407 rfl (fun r29 C30 => ?_)
                            show RunO l Γ k_L_isWiki 15 encI (em3 ma) 410 [(12, wi t0_396), (0, .ref a0), (1, .ref (ma 0)), (2, .ref (ma 1)), (3, .ref (ma 2)), (4, .ref (ma 3)), (5, .ref (ma 4)), (6, .ref (ma 6)), (7, .ref (ma 7)), (8, .ref (ma 8)), (9, .ref (ma 9)), (10, wi a10), (11, .ref y4), (13, wi x13_121), (14, wi v14_32), (15, wi v15_32), (16, wi r15)] [wi r29] (E_396, C30, q_396) _
                            refine r_aload (x := ma 3) dL_isWiki_410 rfl ?_
                            refine r_iload (x := r15) dL_isWiki_412 rfl ?_
                            refine r_wlald3 h (by decide) (by decide) (hm 3 (by decide)) dL_isWiki_414 ?_
                            refine ro_iconst (v := 0) dL_isWiki_415 rfl ?_
                            refine r_csi (J := fun (_ : Unit) => (E_396, C30, q_396)) (k2 := k_L_macro) (n := 2) (rest := [wi r29]) (fun _ => rfl) rfl kv_L_macro (c_L_macro (σ0 := _) (E_396 3 (ix r15)) 0) (by decide) um_L_19 rfl (Nat.le_of_ble_eq_true rfl) dL_isWiki_416 rfl (fun r31 _ => ?_)
                            show RunO l Γ k_L_isWiki 15 encI (em3 ma) 419 [(12, wi t0_396), (0, .ref a0), (1, .ref (ma 0)), (2, .ref (ma 1)), (3, .ref (ma 2)), (4, .ref (ma 3)), (5, .ref (ma 4)), (6, .ref (ma 6)), (7, .ref (ma 7)), (8, .ref (ma 8)), (9, .ref (ma 9)), (10, wi a10), (11, .ref y4), (13, wi x13_121), (14, wi v14_32), (15, wi v15_32), (16, wi r15)] [wi r31, wi r29] (E_396, C30, q_396) _
                            refine ro_iconst (v := 0) dL_isWiki_419 rfl ?_
                            refine r_csi (J := fun (_ : Unit) => (E_396, C30, q_396)) (k2 := k_L_code) (n := 2) (rest := [wi r29]) (fun _ => rfl) rfl kv_L_code (c_L_code (σ0 := _) r31 0) (by decide) um_L_113 rfl (Nat.le_of_ble_eq_true rfl) dL_isWiki_420 rfl (fun r32 _ => ?_)
                            show RunO l Γ k_L_isWiki 15 encI (em3 ma) 423 [(12, wi t0_396), (0, .ref a0), (1, .ref (ma 0)), (2, .ref (ma 1)), (3, .ref (ma 2)), (4, .ref (ma 3)), (5, .ref (ma 4)), (6, .ref (ma 6)), (7, .ref (ma 7)), (8, .ref (ma 8)), (9, .ref (ma 9)), (10, wi a10), (11, .ref y4), (13, wi x13_121), (14, wi v14_32), (15, wi v15_32), (16, wi r15)] [wi r32, wi r29] (E_396, C30, q_396) _
                            refine r_icmp_ne (tgt := 430) dL_isWiki_423 (by decide) ?_ ?_
                            · refine r_lo [1, 2, 3, 4, 5, 6, 7, 8, 9, 10, 11, 12, 13, 14, 15, 16] (lo2 := [(0, .ref a0), (1, .ref (ma 0)), (2, .ref (ma 1)), (3, .ref (ma 2)), (4, .ref (ma 3)), (5, .ref (ma 4)), (6, .ref (ma 6)), (7, .ref (ma 7)), (8, .ref (ma 8)), (9, .ref (ma 9)), (10, wi a10), (11, .ref y4), (13, wi x13_121), (14, wi v14_32), (15, wi v15_32), (16, wi r15)]) rfl ?_
                              exact hJ430 E_396 C30 q_396
                            · refine ro_iconst (v := 1) dL_isWiki_426 rfl ?_
                              refine r_goto (tgt := 431) dL_isWiki_427 (by decide) ?_
                              refine r_lo [1, 2, 3, 4, 5, 6, 7, 8, 9, 10, 11, 12, 13, 14, 15, 16] (lo2 := [(0, .ref a0), (1, .ref (ma 0)), (2, .ref (ma 1)), (3, .ref (ma 2)), (4, .ref (ma 3)), (5, .ref (ma 4)), (6, .ref (ma 6)), (7, .ref (ma 7)), (8, .ref (ma 8)), (9, .ref (ma 9)), (10, wi a10), (11, .ref y4), (13, wi x13_121), (14, wi v14_32), (15, wi v15_32), (16, wi r15)]) rfl ?_
                              exact hJ431 1 E_396 C30 q_396
                        refine r_join (P := fun (J : Rw → Cd → (Nat → Nat) → Option (Int × S3)) => ∀ (E_395 : Rw) (C_395 : Cd) (q_395 : (Nat → Nat)), RunO l Γ k_L_isWiki 15 encI (em3 ma) 395 [(0, .ref a0), (1, .ref (ma 0)), (2, .ref (ma 1)), (3, .ref (ma 2)), (4, .ref (ma 3)), (5, .ref (ma 4)), (6, .ref (ma 6)), (7, .ref (ma 7)), (8, .ref (ma 8)), (9, .ref (ma 9)), (10, wi a10), (11, .ref y4), (13, wi x13_121), (14, wi v14_32), (15, wi v15_32), (16, wi r15)] [] (E_395, C_395, q_395) (J E_395 C_395 q_395)) ?_ (fun J395 hJ395 => ?_)
                        · intro E_395 C_395 q_395
                          show RunO l Γ k_L_isWiki 15 encI (em3 ma) 395 [(0, .ref a0), (1, .ref (ma 0)), (2, .ref (ma 1)), (3, .ref (ma 2)), (4, .ref (ma 3)), (5, .ref (ma 4)), (6, .ref (ma 6)), (7, .ref (ma 7)), (8, .ref (ma 8)), (9, .ref (ma 9)), (10, wi a10), (11, .ref y4), (13, wi x13_121), (14, wi v14_32), (15, wi v15_32), (16, wi r15)] [] (E_395, C_395, q_395) (fW_isWiki_395 J396 E_395 C_395 q_395)
                          unfold fW_isWiki_395
                          refine ro_iconst (v := 0) dL_isWiki_395 rfl ?_
                          exact hJ396 0 E_395 C_395 q_395
                        refine r_icmp_ne (tgt := 395) dL_isWiki_286 (by decide) ?_ ?_
                        · refine r_lo [1, 2, 3, 4, 5, 6, 7, 8, 9, 10, 11, 12, 13, 14, 15, 16] (lo2 := [(0, .ref a0), (1, .ref (ma 0)), (2, .ref (ma 1)), (3, .ref (ma 2)), (4, .ref (ma 3)), (5, .ref (ma 4)), (6, .ref (ma 6)), (7, .ref (ma 7)), (8, .ref (ma 8)), (9, .ref (ma 9)), (10, wi a10), (11, .ref y4), (13, wi x13_121), (14, wi v14_32), (15, wi v15_32), (16, wi r15)]) rfl ?_
                          exact hJ395 E_266 C28 q_266
                        · refine r_aload_n (x := a0) dL_isWiki_289 rfl rfl ?_
                          refine r_bipush (v := 9) dL_isWiki_290 rfl ?_
                          refine r_iload (x := v15_32) dL_isWiki_292 rfl ?_
                          refine r_iload (x := t0_106) dL_isWiki_294 rfl ?_
                          refine r_join (P := fun (J : Int → Rw → Cd → (Nat → Nat) → Option (Int × S3)) => ∀ (t0_313 : Int) (E_313 : Rw) (C_313 : Cd) (q_313 : (Nat → Nat)), RunO l Γ k_L_isWiki 15 encI (em3 ma) 313 [(0, .ref a0), (1, .ref (ma 0)), (2, .ref (ma 1)), (3, .ref (ma 2)), (4, .ref (ma 3)), (5, .ref (ma 4)), (6, .ref (ma 6)), (7, .ref (ma 7)), (8, .ref (ma 8)), (9, .ref (ma 9)), (10, wi a10), (11, .ref y4), (13, wi x13_121), (14, wi v14_32), (15, wi v15_32), (16, wi r15), (19, wi t0_106)] [wi t0_313, wi v15_32, wi 9, .ref a0] (E_313, C_313, q_313) (J t0_313 E_313 C_313 q_313)) ?_ (fun J313 hJ313 => ?_)
                          · intro t0_313 E_313 C_313 q_313
                            show RunO l Γ k_L_isWiki 15 encI (em3 ma) 313 [(0, .ref a0), (1, .ref (ma 0)), (2, .ref (ma 1)), (3, .ref (ma 2)), (4, .ref (ma 3)), (5, .ref (ma 4)), (6, .ref (ma 6)), (7, .ref (ma 7)), (8, .ref (ma 8)), (9, .ref (ma 9)), (10, wi a10), (11, .ref y4), (13, wi x13_121), (14, wi v14_32), (15, wi v15_32), (16, wi r15), (19, wi t0_106)] [wi t0_313, wi v15_32, wi 9, .ref a0] (E_313, C_313, q_313) (fW_isWiki_313 a0 a10 y4 v15_32 t0_106 J396 J395 t0_313 E_313 C_313 q_313)
                            unfold fW_isWiki_313
                            refine ro_iconst (v := 0) dL_isWiki_313 rfl ?_
                            refine r_csHi (J := fun (C_ : Cd) => (E_313, C_, q_313)) (k2 := k_L_does) (n := 5) (rest := []) (fun _ => rfl) kv_L_does (c_L_does hG hX a0 9 v15_32 t0_313 0 _) (by decide) um_L_132 rfl (Nat.le_of_ble_eq_true rfl) dL_isWiki_314 rfl (fun r33 C34 => ?_)
                            show RunO l Γ k_L_isWiki 15 encI (em3 ma) 317 [(0, .ref a0), (1, .ref (ma 0)), (2, .ref (ma 1)), (3, .ref (ma 2)), (4, .ref (ma 3)), (5, .ref (ma 4)), (6, .ref (ma 6)), (7, .ref (ma 7)), (8, .ref (ma 8)), (9, .ref (ma 9)), (10, wi a10), (11, .ref y4), (13, wi x13_121), (14, wi v14_32), (15, wi v15_32), (16, wi r15), (19, wi t0_106)] [wi r33] (E_313, C34, q_313) _
                            refine ro_iconst (v := (-1)) dL_isWiki_317 rfl ?_
                            refine r_icmp_ne (tgt := 395) dL_isWiki_318 (by decide) ?_ ?_
                            · refine r_lo [0, 1, 2, 3, 4, 5, 6, 7, 8, 9, 10, 11, 12, 13, 14, 15] (lo2 := [(0, .ref a0), (1, .ref (ma 0)), (2, .ref (ma 1)), (3, .ref (ma 2)), (4, .ref (ma 3)), (5, .ref (ma 4)), (6, .ref (ma 6)), (7, .ref (ma 7)), (8, .ref (ma 8)), (9, .ref (ma 9)), (10, wi a10), (11, .ref y4), (13, wi x13_121), (14, wi v14_32), (15, wi v15_32), (16, wi r15)]) rfl ?_
                              exact hJ395 E_313 C34 q_313
                            · refine r_iload (x := v15_32) dL_isWiki_321 rfl ?_
                              refine ro_iconst (v := 2) dL_isWiki_323 rfl ?_
                              refine r_irem dL_isWiki_324 (by decide) ?_
                              refine r_iload (x := a10) dL_isWiki_325 rfl ?_
                              refine ro_iconst (v := 2) dL_isWiki_327 rfl ?_
                              refine r_irem dL_isWiki_328 (by decide) ?_
                              refine r_join (P := fun (J : Rw → Cd → (Nat → Nat) → Option (Int × S3)) => ∀ (E_358 : Rw) (C_358 : Cd) (q_358 : (Nat → Nat)), RunO l Γ k_L_isWiki 15 encI (em3 ma) 358 [(0, .ref a0), (1, .ref (ma 0)), (2, .ref (ma 1)), (3, .ref (ma 2)), (4, .ref (ma 3)), (5, .ref (ma 4)), (6, .ref (ma 6)), (7, .ref (ma 7)), (8, .ref (ma 8)), (9, .ref (ma 9)), (10, wi a10), (11, .ref y4), (13, wi x13_121), (14, wi v14_32), (15, wi v15_32), (16, wi r15)] [] (E_358, C_358, q_358) (J E_358 C_358 q_358)) ?_ (fun J358 hJ358 => ?_)
                              · intro E_358 C_358 q_358
                                show RunO l Γ k_L_isWiki 15 encI (em3 ma) 358 [(0, .ref a0), (1, .ref (ma 0)), (2, .ref (ma 1)), (3, .ref (ma 2)), (4, .ref (ma 3)), (5, .ref (ma 4)), (6, .ref (ma 6)), (7, .ref (ma 7)), (8, .ref (ma 8)), (9, .ref (ma 9)), (10, wi a10), (11, .ref y4), (13, wi x13_121), (14, wi v14_32), (15, wi v15_32), (16, wi r15)] [] (E_358, C_358, q_358) (fW_isWiki_358 a0 a10 y4 v15_32 J396 J395 E_358 C_358 q_358)
                                unfold fW_isWiki_358
                                refine r_iload (x := v15_32) dL_isWiki_358 rfl ?_
                                refine r_iload (x := a10) dL_isWiki_360 rfl ?_
                                refine r_bipush (v := 8) dL_isWiki_362 rfl ?_
                                refine r_irem dL_isWiki_364 (by decide) ?_
                                refine r_join (P := fun (J : Rw → Cd → (Nat → Nat) → Option (Int × S3)) => ∀ (E_391 : Rw) (C_391 : Cd) (q_391 : (Nat → Nat)), RunO l Γ k_L_isWiki 15 encI (em3 ma) 391 [(0, .ref a0), (1, .ref (ma 0)), (2, .ref (ma 1)), (3, .ref (ma 2)), (4, .ref (ma 3)), (5, .ref (ma 4)), (6, .ref (ma 6)), (7, .ref (ma 7)), (8, .ref (ma 8)), (9, .ref (ma 9)), (10, wi a10), (11, .ref y4), (13, wi x13_121), (14, wi v14_32), (15, wi v15_32), (16, wi r15)] [] (E_391, C_391, q_391) (J E_391 C_391 q_391)) ?_ (fun J391 hJ391 => ?_)
                                · intro E_391 C_391 q_391
                                  show RunO l Γ k_L_isWiki 15 encI (em3 ma) 391 [(0, .ref a0), (1, .ref (ma 0)), (2, .ref (ma 1)), (3, .ref (ma 2)), (4, .ref (ma 3)), (5, .ref (ma 4)), (6, .ref (ma 6)), (7, .ref (ma 7)), (8, .ref (ma 8)), (9, .ref (ma 9)), (10, wi a10), (11, .ref y4), (13, wi x13_121), (14, wi v14_32), (15, wi v15_32), (16, wi r15)] [] (E_391, C_391, q_391) (fW_isWiki_391 J396 E_391 C_391 q_391)
                                  unfold fW_isWiki_391
                                  refine ro_iconst (v := 1) dL_isWiki_391 rfl ?_
                                  refine r_goto (tgt := 396) dL_isWiki_392 (by decide) ?_
                                  exact hJ396 1 E_391 C_391 q_391
                                refine r_icmp_ne (tgt := 391) dL_isWiki_365 (by decide) ?_ ?_
                                · exact hJ391 E_358 C_358 q_358
                                · refine r_aload_n (x := a0) dL_isWiki_368 rfl rfl ?_
                                  refine r_aload_n (x := ma 0) dL_isWiki_369 rfl rfl ?_
                                  refine r_aload_n (x := ma 1) dL_isWiki_370 rfl rfl ?_
                                  refine r_aload_n (x := ma 2) dL_isWiki_371 rfl rfl ?_
                                  refine r_aload (x := ma 3) dL_isWiki_372 rfl ?_
                                  refine r_aload (x := ma 6) dL_isWiki_374 rfl ?_
                                  refine r_aload (x := y4) dL_isWiki_376 rfl ?_
                                  refine r_iload (x := v15_32) dL_isWiki_378 rfl ?_
                                  refine r_iload (x := a10) dL_isWiki_380 rfl ?_
                                  refine r_bipush (v := 8) dL_isWiki_382 rfl ?_
                                  refine r_idiv dL_isWiki_384 (by decide) ?_
                                  refine r_cs3i (k2 := k_L_isAnew) (n := 9) (rest := []) rfl kv_L_isAnew (c_L_isAnew h hm hG hX a0 y4 v15_32 (divI a10 8) _ _ _) (by decide) um_L_159 rfl (Nat.le_of_ble_eq_true rfl) dL_isWiki_385 rfl (fun r35 E36 C37 q38 => ?_)
                                  refine r_if_eq (tgt := 395) dL_isWiki_388 (by decide) ?_ ?_
                                  · exact hJ395 E36 C37 q38
                                  · exact hJ391 E36 C37 q38
                              refine r_icmp_ne (tgt := 358) dL_isWiki_329 (by decide) ?_ ?_
                              · refine r_lo [0, 1, 2, 3, 4, 5, 6, 7, 8, 9, 10, 11, 12, 13, 14, 15] (lo2 := [(0, .ref a0), (1, .ref (ma 0)), (2, .ref (ma 1)), (3, .ref (ma 2)), (4, .ref (ma 3)), (5, .ref (ma 4)), (6, .ref (ma 6)), (7, .ref (ma 7)), (8, .ref (ma 8)), (9, .ref (ma 9)), (10, wi a10), (11, .ref y4), (13, wi x13_121), (14, wi v14_32), (15, wi v15_32), (16, wi r15)]) rfl ?_
                                exact hJ358 E_313 C34 q_313
                              · refine r_aload_n (x := a0) dL_isWiki_332 rfl rfl ?_
                                refine r_bipush (v := 9) dL_isWiki_333 rfl ?_
                                refine r_iload (x := v15_32) dL_isWiki_335 rfl ?_
                                refine r_csj (J := fun (C_ : Cd) => (E_313, C_, q_313)) (k2 := k_L_digest) (n := 3) (rest := []) (fun _ => rfl) rfl kv_L_digest (c_L_digest hG hX a0 9 v15_32 _) (by decide) um_L_155 rfl (Nat.le_of_ble_eq_true rfl) dL_isWiki_337 rfl (fun r39 C40 => ?_)
                                show RunO l Γ k_L_isWiki 15 encI (em3 ma) 340 [(0, .ref a0), (1, .ref (ma 0)), (2, .ref (ma 1)), (3, .ref (ma 2)), (4, .ref (ma 3)), (5, .ref (ma 4)), (6, .ref (ma 6)), (7, .ref (ma 7)), (8, .ref (ma 8)), (9, .ref (ma 9)), (10, wi a10), (11, .ref y4), (13, wi x13_121), (14, wi v14_32), (15, wi v15_32), (16, wi r15), (19, wi t0_106)] [vl r39] (E_313, C40, q_313) _
                                refine r_iload (x := t0_106) dL_isWiki_340 rfl ?_
                                refine r_join (P := fun (J : Int → Rw → Cd → (Nat → Nat) → Option (Int × S3)) => ∀ (t0_354 : Int) (E_354 : Rw) (C_354 : Cd) (q_354 : (Nat → Nat)), RunO l Γ k_L_isWiki 15 encI (em3 ma) 354 [(0, .ref a0), (1, .ref (ma 0)), (2, .ref (ma 1)), (3, .ref (ma 2)), (4, .ref (ma 3)), (5, .ref (ma 4)), (6, .ref (ma 6)), (7, .ref (ma 7)), (8, .ref (ma 8)), (9, .ref (ma 9)), (10, wi a10), (11, .ref y4), (13, wi x13_121), (14, wi v14_32), (15, wi v15_32), (16, wi r15)] [vl t0_354, vl r39] (E_354, C_354, q_354) (J t0_354 E_354 C_354 q_354)) ?_ (fun J354 hJ354 => ?_)
                                · intro t0_354 E_354 C_354 q_354
                                  show RunO l Γ k_L_isWiki 15 encI (em3 ma) 354 [(0, .ref a0), (1, .ref (ma 0)), (2, .ref (ma 1)), (3, .ref (ma 2)), (4, .ref (ma 3)), (5, .ref (ma 4)), (6, .ref (ma 6)), (7, .ref (ma 7)), (8, .ref (ma 8)), (9, .ref (ma 9)), (10, wi a10), (11, .ref y4), (13, wi x13_121), (14, wi v14_32), (15, wi v15_32), (16, wi r15)] [vl t0_354, vl r39] (E_354, C_354, q_354) (fW_isWiki_354 J395 J358 r39 t0_354 E_354 C_354 q_354)
                                  unfold fW_isWiki_354
                                  refine r_lcmp dL_isWiki_354 ?_
                                  refine r_if_ne (tgt := 395) dL_isWiki_355 (by decide) ?_ ?_
                                  · exact hJ395 E_354 C_354 q_354
                                  · exact hJ358 E_354 C_354 q_354
                                refine r_if_eq (tgt := 353) dL_isWiki_342 (by decide) ?_ ?_
                                · refine r_lconst (x := 1) dL_isWiki_353 rfl ?_
                                  refine r_lo [0, 1, 2, 3, 4, 5, 6, 7, 8, 9, 10, 11, 12, 13, 14, 15] (lo2 := [(0, .ref a0), (1, .ref (ma 0)), (2, .ref (ma 1)), (3, .ref (ma 2)), (4, .ref (ma 3)), (5, .ref (ma 4)), (6, .ref (ma 6)), (7, .ref (ma 7)), (8, .ref (ma 8)), (9, .ref (ma 9)), (10, wi a10), (11, .ref y4), (13, wi x13_121), (14, wi v14_32), (15, wi v15_32), (16, wi r15)]) rfl ?_
                                  exact hJ354 1 E_313 C40 q_313
                                · refine r_aload (x := ma 7) dL_isWiki_345 rfl ?_
                                  refine r_iload (x := v15_32) dL_isWiki_347 rfl ?_
                                  refine r_wlald3 h (by decide) (by decide) (hm 7 (by decide)) dL_isWiki_349 ?_
                                  refine r_goto (tgt := 354) dL_isWiki_350 (by decide) ?_
                                  refine r_lo [0, 1, 2, 3, 4, 5, 6, 7, 8, 9, 10, 11, 12, 13, 14, 15] (lo2 := [(0, .ref a0), (1, .ref (ma 0)), (2, .ref (ma 1)), (3, .ref (ma 2)), (4, .ref (ma 3)), (5, .ref (ma 4)), (6, .ref (ma 6)), (7, .ref (ma 7)), (8, .ref (ma 8)), (9, .ref (ma 9)), (10, wi a10), (11, .ref y4), (13, wi x13_121), (14, wi v14_32), (15, wi v15_32), (16, wi r15)]) rfl ?_
                                  exact hJ354 (E_313 7 (ix v15_32)) E_313 C40 q_313
                          refine r_if_eq (tgt := 312) dL_isWiki_296 (by decide) ?_ ?_
                          · refine ro_iconst (v := 0) dL_isWiki_312 rfl ?_
                            refine r_lo [1, 2, 3, 4, 5, 6, 7, 8, 9, 10, 11, 12, 13, 14, 15, 16, 18] (lo2 := [(0, .ref a0), (1, .ref (ma 0)), (2, .ref (ma 1)), (3, .ref (ma 2)), (4, .ref (ma 3)), (5, .ref (ma 4)), (6, .ref (ma 6)), (7, .ref (ma 7)), (8, .ref (ma 8)), (9, .ref (ma 9)), (10, wi a10), (11, .ref y4), (13, wi x13_121), (14, wi v14_32), (15, wi v15_32), (16, wi r15), (19, wi t0_106)]) rfl ?_
                            exact hJ313 0 E_266 C28 q_266
                          · refine r_aload (x := ma 6) dL_isWiki_299 rfl ?_
                            refine r_bipush (v := 7) dL_isWiki_301 rfl ?_
                            refine r_iload (x := v15_32) dL_isWiki_303 rfl ?_
                            refine r_imul dL_isWiki_305 ?_
                            refine ro_iconst (v := 1) dL_isWiki_306 rfl ?_
                            refine r_iadd dL_isWiki_307 ?_
                            refine r_wiald3 h (by decide) (by decide) (hm 6 (by decide)) dL_isWiki_308 ?_
                            refine r_goto (tgt := 313) dL_isWiki_309 (by decide) ?_
                            refine r_lo [1, 2, 3, 4, 5, 6, 7, 8, 9, 10, 11, 12, 13, 14, 15, 16, 18] (lo2 := [(0, .ref a0), (1, .ref (ma 0)), (2, .ref (ma 1)), (3, .ref (ma 2)), (4, .ref (ma 3)), (5, .ref (ma 4)), (6, .ref (ma 6)), (7, .ref (ma 7)), (8, .ref (ma 8)), (9, .ref (ma 9)), (10, wi a10), (11, .ref y4), (13, wi x13_121), (14, wi v14_32), (15, wi v15_32), (16, wi r15), (19, wi t0_106)]) rfl ?_
                            exact hJ313 (E_266 6 (ix ((7 * v15_32) + 1))) E_266 C28 q_266
                  refine r_join (P := fun (J : Rw → Cd → (Nat → Nat) → Option (Int × S3)) => ∀ (E_265 : Rw) (C_265 : Cd) (q_265 : (Nat → Nat)), RunO l Γ k_L_isWiki 15 encI (em3 ma) 265 [(0, .ref a0), (1, .ref (ma 0)), (2, .ref (ma 1)), (3, .ref (ma 2)), (4, .ref (ma 3)), (5, .ref (ma 4)), (6, .ref (ma 6)), (7, .ref (ma 7)), (8, .ref (ma 8)), (9, .ref (ma 9)), (10, wi a10), (11, .ref y4), (13, wi x13_121), (14, wi v14_32), (15, wi v15_32), (16, wi r15), (18, wi r19), (19, wi t0_106)] [] (E_265, C_265, q_265) (J E_265 C_265 q_265)) ?_ (fun J265 hJ265 => ?_)
                  · intro E_265 C_265 q_265
                    show RunO l Γ k_L_isWiki 15 encI (em3 ma) 265 [(0, .ref a0), (1, .ref (ma 0)), (2, .ref (ma 1)), (3, .ref (ma 2)), (4, .ref (ma 3)), (5, .ref (ma 4)), (6, .ref (ma 6)), (7, .ref (ma 7)), (8, .ref (ma 8)), (9, .ref (ma 9)), (10, wi a10), (11, .ref y4), (13, wi x13_121), (14, wi v14_32), (15, wi v15_32), (16, wi r15), (18, wi r19), (19, wi t0_106)] [] (E_265, C_265, q_265) (fW_isWiki_265 J266 E_265 C_265 q_265)
                    unfold fW_isWiki_265
                    refine ro_iconst (v := 0) dL_isWiki_265 rfl ?_
                    exact hJ266 0 E_265 C_265 q_265
                  refine r_icmp_ne (tgt := 265) dL_isWiki_131 (by decide) ?_ ?_
                  · refine r_lo [1, 2, 3, 4, 5, 6, 7, 8, 9, 10, 11, 12, 0, 13, 14, 15, 17, 18] (lo2 := [(0, .ref a0), (1, .ref (ma 0)), (2, .ref (ma 1)), (3, .ref (ma 2)), (4, .ref (ma 3)), (5, .ref (ma 4)), (6, .ref (ma 6)), (7, .ref (ma 7)), (8, .ref (ma 8)), (9, .ref (ma 9)), (10, wi a10), (11, .ref y4), (13, wi x13_121), (14, wi v14_32), (15, wi v15_32), (16, wi r15), (18, wi r19), (19, wi t0_106)]) rfl ?_
                    exact hJ265 E_120 C22 q_120
                  · refine r_iload (x := v17_57) dL_isWiki_134 rfl ?_
                    refine r_join (P := fun (J : Rw → Cd → (Nat → Nat) → Option (Int × S3)) => ∀ (E_166 : Rw) (C_166 : Cd) (q_166 : (Nat → Nat)), RunO l Γ k_L_isWiki 15 encI (em3 ma) 166 [(0, .ref a0), (1, .ref (ma 0)), (2, .ref (ma 1)), (3, .ref (ma 2)), (4, .ref (ma 3)), (5, .ref (ma 4)), (6, .ref (ma 6)), (7, .ref (ma 7)), (8, .ref (ma 8)), (9, .ref (ma 9)), (10, wi a10), (11, .ref y4), (13, wi x13_121), (14, wi v14_32), (15, wi v15_32), (16, wi r15), (17, wi v17_57), (18, wi r19), (19, wi t0_106)] [] (E_166, C_166, q_166) (J E_166 C_166 q_166)) ?_ (fun J166 hJ166 => ?_)
                    · intro E_166 C_166 q_166
                      show RunO l Γ k_L_isWiki 15 encI (em3 ma) 166 [(0, .ref a0), (1, .ref (ma 0)), (2, .ref (ma 1)), (3, .ref (ma 2)), (4, .ref (ma 3)), (5, .ref (ma 4)), (6, .ref (ma 6)), (7, .ref (ma 7)), (8, .ref (ma 8)), (9, .ref (ma 9)), (10, wi a10), (11, .ref y4), (13, wi x13_121), (14, wi v14_32), (15, wi v15_32), (16, wi r15), (17, wi v17_57), (18, wi r19), (19, wi t0_106)] [] (E_166, C_166, q_166) (fW_isWiki_166 a0 y4 v15_32 v17_57 t0_106 J266 J265 E_166 C_166 q_166)
                      unfold fW_isWiki_166
                      refine r_aload_n (x := a0) dL_isWiki_166 rfl rfl ?_
                      refine r_bipush (v := 12) dL_isWiki_167 rfl ?_
                      refine r_iload (x := v15_32) dL_isWiki_169 rfl ?_
                      refine r_iload (x := v17_57) dL_isWiki_171 rfl ?_
                      refine ro_iconst (v := 0) dL_isWiki_173 rfl ?_
                      refine r_csHi (J := fun (C_ : Cd) => (E_166, C_, q_166)) (k2 := k_L_does) (n := 5) (rest := []) (fun _ => rfl) kv_L_does (c_L_does hG hX a0 12 v15_32 v17_57 0 _) (by decide) um_L_132 rfl (Nat.le_of_ble_eq_true rfl) dL_isWiki_174 rfl (fun r41 C42 => ?_)
                      show RunO l Γ k_L_isWiki 15 encI (em3 ma) 177 [(0, .ref a0), (1, .ref (ma 0)), (2, .ref (ma 1)), (3, .ref (ma 2)), (4, .ref (ma 3)), (5, .ref (ma 4)), (6, .ref (ma 6)), (7, .ref (ma 7)), (8, .ref (ma 8)), (9, .ref (ma 9)), (10, wi a10), (11, .ref y4), (13, wi x13_121), (14, wi v14_32), (15, wi v15_32), (16, wi r15), (17, wi v17_57), (18, wi r19), (19, wi t0_106)] [wi r41] (E_166, C42, q_166) _
                      refine r_bipush (v := (-11)) dL_isWiki_177 rfl ?_
                      refine r_icmp_ne (tgt := 265) dL_isWiki_179 (by decide) ?_ ?_
                      · refine r_lo [0, 1, 2, 3, 4, 5, 6, 7, 8, 9, 10, 11, 12, 13, 14, 15, 17, 18] (lo2 := [(0, .ref a0), (1, .ref (ma 0)), (2, .ref (ma 1)), (3, .ref (ma 2)), (4, .ref (ma 3)), (5, .ref (ma 4)), (6, .ref (ma 6)), (7, .ref (ma 7)), (8, .ref (ma 8)), (9, .ref (ma 9)), (10, wi a10), (11, .ref y4), (13, wi x13_121), (14, wi v14_32), (15, wi v15_32), (16, wi r15), (18, wi r19), (19, wi t0_106)]) rfl ?_
                        exact hJ265 E_166 C42 q_166
                      · refine r_aload_n (x := a0) dL_isWiki_182 rfl rfl ?_
                        refine r_iload (x := v15_32) dL_isWiki_183 rfl ?_
                        refine r_cx1 (J := fun (C_ : Cd) => (E_166, C_, q_166)) (k2 := k_X11_leads) (c := 14) (T := TX11) (N := 10) (n := 1) (rest := []) (fun _ => rfl) rfl um_L_146 kv_X11_leads hc_X11 (by decide) (c_X11_leads hG _ _ _) (by decide) rfl (Nat.le_of_ble_eq_true rfl) dL_isWiki_185 rfl (fun r43 C44 => ?_)
                        show RunO l Γ k_L_isWiki 15 encI (em3 ma) 188 [(0, .ref a0), (1, .ref (ma 0)), (2, .ref (ma 1)), (3, .ref (ma 2)), (4, .ref (ma 3)), (5, .ref (ma 4)), (6, .ref (ma 6)), (7, .ref (ma 7)), (8, .ref (ma 8)), (9, .ref (ma 9)), (10, wi a10), (11, .ref y4), (13, wi x13_121), (14, wi v14_32), (15, wi v15_32), (16, wi r15), (17, wi v17_57), (18, wi r19), (19, wi t0_106)] [wi r43] (E_166, C44, q_166) _
                        refine r_aload_n (x := ma 0) dL_isWiki_188 rfl rfl ?_
                        refine r_aload_n (x := ma 1) dL_isWiki_189 rfl rfl ?_
                        refine r_aload_n (x := ma 2) dL_isWiki_190 rfl rfl ?_
                        refine r_aload (x := ma 3) dL_isWiki_191 rfl ?_
                        refine r_aload (x := y4) dL_isWiki_193 rfl ?_
                        refine r_iload (x := v15_32) dL_isWiki_195 rfl ?_
                        refine ro_if (fun hy46 => ?_) (fun _ => ro_none)
                        refine r_csi (J := fun (E_ : Rw) => (E_, C44, q_166)) (k2 := k_L_way) (n := 6) (rest := [wi r43]) (fun _ => rfl) rfl kv_L_way (c_L_way (ad := adq ma q_166) (K0 := C44) h (adq_hm hm) 11 v15_32 (Or.inr rfl) hy46.2 _) (by decide) um_L_43 rfl (Nat.le_of_ble_eq_true rfl) dL_isWiki_197 (by obtain ⟨e_, _⟩ := hy46; rw [← e_]; rfl) (fun r45 E47 => ?_)
                        show RunO l Γ k_L_isWiki 15 encI (em3 ma) 200 [(0, .ref a0), (1, .ref (ma 0)), (2, .ref (ma 1)), (3, .ref (ma 2)), (4, .ref (ma 3)), (5, .ref (ma 4)), (6, .ref (ma 6)), (7, .ref (ma 7)), (8, .ref (ma 8)), (9, .ref (ma 9)), (10, wi a10), (11, .ref y4), (13, wi x13_121), (14, wi v14_32), (15, wi v15_32), (16, wi r15), (17, wi v17_57), (18, wi r19), (19, wi t0_106)] [wi r45, wi r43] (E47, C44, q_166) _
                        refine r_icmp_ne (tgt := 265) dL_isWiki_200 (by decide) ?_ ?_
                        · refine r_lo [0, 1, 2, 3, 4, 5, 6, 7, 8, 9, 10, 11, 12, 13, 14, 15, 17, 18] (lo2 := [(0, .ref a0), (1, .ref (ma 0)), (2, .ref (ma 1)), (3, .ref (ma 2)), (4, .ref (ma 3)), (5, .ref (ma 4)), (6, .ref (ma 6)), (7, .ref (ma 7)), (8, .ref (ma 8)), (9, .ref (ma 9)), (10, wi a10), (11, .ref y4), (13, wi x13_121), (14, wi v14_32), (15, wi v15_32), (16, wi r15), (18, wi r19), (19, wi t0_106)]) rfl ?_
                          exact hJ265 E47 C44 q_166
                        · refine r_aload_n (x := a0) dL_isWiki_203 rfl rfl ?_
                          refine r_iload (x := v15_32) dL_isWiki_204 rfl ?_
                          refine ro_iconst (v := 0) dL_isWiki_206 rfl ?_
                          refine r_cx1 (J := fun (C_ : Cd) => (E47, C_, q_166)) (k2 := k_X11_linked) (c := 14) (T := TX11) (N := 10) (n := 2) (rest := []) (fun _ => rfl) rfl um_L_149 kv_X11_linked hc_X11 (by decide) (c_X11_linked hG _ _ _ _) (by decide) rfl (Nat.le_of_ble_eq_true rfl) dL_isWiki_207 rfl (fun r48 C49 => ?_)
                          show RunO l Γ k_L_isWiki 15 encI (em3 ma) 210 [(0, .ref a0), (1, .ref (ma 0)), (2, .ref (ma 1)), (3, .ref (ma 2)), (4, .ref (ma 3)), (5, .ref (ma 4)), (6, .ref (ma 6)), (7, .ref (ma 7)), (8, .ref (ma 8)), (9, .ref (ma 9)), (10, wi a10), (11, .ref y4), (13, wi x13_121), (14, wi v14_32), (15, wi v15_32), (16, wi r15), (17, wi v17_57), (18, wi r19), (19, wi t0_106)] [wi r48] (E47, C49, q_166) _
                          refine r_iload (x := t0_106) dL_isWiki_210 rfl ?_
                          refine r_join (P := fun (J : Int → Rw → Cd → (Nat → Nat) → Option (Int × S3)) => ∀ (t0_229 : Int) (E_229 : Rw) (C_229 : Cd) (q_229 : (Nat → Nat)), RunO l Γ k_L_isWiki 15 encI (em3 ma) 229 [(0, .ref a0), (1, .ref (ma 0)), (2, .ref (ma 1)), (3, .ref (ma 2)), (4, .ref (ma 3)), (5, .ref (ma 4)), (6, .ref (ma 6)), (7, .ref (ma 7)), (8, .ref (ma 8)), (9, .ref (ma 9)), (10, wi a10), (11, .ref y4), (13, wi x13_121), (14, wi v14_32), (15, wi v15_32), (16, wi r15), (18, wi r19), (19, wi t0_106)] [wi t0_229, wi r48] (E_229, C_229, q_229) (J t0_229 E_229 C_229 q_229)) ?_ (fun J229 hJ229 => ?_)
                          · intro t0_229 E_229 C_229 q_229
                            show RunO l Γ k_L_isWiki 15 encI (em3 ma) 229 [(0, .ref a0), (1, .ref (ma 0)), (2, .ref (ma 1)), (3, .ref (ma 2)), (4, .ref (ma 3)), (5, .ref (ma 4)), (6, .ref (ma 6)), (7, .ref (ma 7)), (8, .ref (ma 8)), (9, .ref (ma 9)), (10, wi a10), (11, .ref y4), (13, wi x13_121), (14, wi v14_32), (15, wi v15_32), (16, wi r15), (18, wi r19), (19, wi t0_106)] [wi t0_229, wi r48] (E_229, C_229, q_229) (fW_isWiki_229 a0 v15_32 t0_106 J266 J265 r48 t0_229 E_229 C_229 q_229)
                            unfold fW_isWiki_229
                            refine r_icmp_ne (tgt := 265) dL_isWiki_229 (by decide) ?_ ?_
                            · exact hJ265 E_229 C_229 q_229
                            · refine r_aload_n (x := a0) dL_isWiki_232 rfl rfl ?_
                              refine r_iload (x := v15_32) dL_isWiki_233 rfl ?_
                              refine ro_iconst (v := 2) dL_isWiki_235 rfl ?_
                              refine r_cx1 (J := fun (C_ : Cd) => (E_229, C_, q_229)) (k2 := k_X11_linked) (c := 14) (T := TX11) (N := 10) (n := 2) (rest := []) (fun _ => rfl) rfl um_L_149 kv_X11_linked hc_X11 (by decide) (c_X11_linked hG _ _ _ _) (by decide) rfl (Nat.le_of_ble_eq_true rfl) dL_isWiki_236 rfl (fun r50 C51 => ?_)
                              show RunO l Γ k_L_isWiki 15 encI (em3 ma) 239 [(0, .ref a0), (1, .ref (ma 0)), (2, .ref (ma 1)), (3, .ref (ma 2)), (4, .ref (ma 3)), (5, .ref (ma 4)), (6, .ref (ma 6)), (7, .ref (ma 7)), (8, .ref (ma 8)), (9, .ref (ma 9)), (10, wi a10), (11, .ref y4), (13, wi x13_121), (14, wi v14_32), (15, wi v15_32), (16, wi r15), (18, wi r19), (19, wi t0_106)] [wi r50] (E_229, C51, q_229) _
                              refine r_iload (x := t0_106) dL_isWiki_239 rfl ?_
                              refine r_join (P := fun (J : Int → Rw → Cd → (Nat → Nat) → Option (Int × S3)) => ∀ (t0_258 : Int) (E_258 : Rw) (C_258 : Cd) (q_258 : (Nat → Nat)), RunO l Γ k_L_isWiki 15 encI (em3 ma) 258 [(0, .ref a0), (1, .ref (ma 0)), (2, .ref (ma 1)), (3, .ref (ma 2)), (4, .ref (ma 3)), (5, .ref (ma 4)), (6, .ref (ma 6)), (7, .ref (ma 7)), (8, .ref (ma 8)), (9, .ref (ma 9)), (10, wi a10), (11, .ref y4), (13, wi x13_121), (14, wi v14_32), (15, wi v15_32), (16, wi r15), (18, wi r19), (19, wi t0_106)] [wi t0_258, wi r50] (E_258, C_258, q_258) (J t0_258 E_258 C_258 q_258)) ?_ (fun J258 hJ258 => ?_)
                              · intro t0_258 E_258 C_258 q_258
                                show RunO l Γ k_L_isWiki 15 encI (em3 ma) 258 [(0, .ref a0), (1, .ref (ma 0)), (2, .ref (ma 1)), (3, .ref (ma 2)), (4, .ref (ma 3)), (5, .ref (ma 4)), (6, .ref (ma 6)), (7, .ref (ma 7)), (8, .ref (ma 8)), (9, .ref (ma 9)), (10, wi a10), (11, .ref y4), (13, wi x13_121), (14, wi v14_32), (15, wi v15_32), (16, wi r15), (18, wi r19), (19, wi t0_106)] [wi t0_258, wi r50] (E_258, C_258, q_258) (fW_isWiki_258 J266 J265 r50 t0_258 E_258 C_258 q_258)
                                unfold fW_isWiki_258
                                refine r_icmp_ne (tgt := 265) dL_isWiki_258 (by decide) ?_ ?_
                                · exact hJ265 E_258 C_258 q_258
                                · refine ro_iconst (v := 1) dL_isWiki_261 rfl ?_
                                  refine r_goto (tgt := 266) dL_isWiki_262 (by decide) ?_
                                  exact hJ266 1 E_258 C_258 q_258
                              refine r_if_eq (tgt := 257) dL_isWiki_241 (by decide) ?_ ?_
                              · refine ro_iconst (v := 0) dL_isWiki_257 rfl ?_
                                exact hJ258 0 E_229 C51 q_229
                              · refine r_aload (x := ma 6) dL_isWiki_244 rfl ?_
                                refine r_bipush (v := 7) dL_isWiki_246 rfl ?_
                                refine r_iload (x := v15_32) dL_isWiki_248 rfl ?_
                                refine r_imul dL_isWiki_250 ?_
                                refine ro_iconst (v := 3) dL_isWiki_251 rfl ?_
                                refine r_iadd dL_isWiki_252 ?_
                                refine r_wiald3 h (by decide) (by decide) (hm 6 (by decide)) dL_isWiki_253 ?_
                                refine r_goto (tgt := 258) dL_isWiki_254 (by decide) ?_
                                exact hJ258 (E_229 6 (ix ((7 * v15_32) + 3))) E_229 C51 q_229
                          refine r_if_eq (tgt := 228) dL_isWiki_212 (by decide) ?_ ?_
                          · refine ro_iconst (v := 0) dL_isWiki_228 rfl ?_
                            refine r_lo [0, 1, 2, 3, 4, 5, 6, 7, 8, 9, 10, 11, 12, 13, 14, 15, 17, 18] (lo2 := [(0, .ref a0), (1, .ref (ma 0)), (2, .ref (ma 1)), (3, .ref (ma 2)), (4, .ref (ma 3)), (5, .ref (ma 4)), (6, .ref (ma 6)), (7, .ref (ma 7)), (8, .ref (ma 8)), (9, .ref (ma 9)), (10, wi a10), (11, .ref y4), (13, wi x13_121), (14, wi v14_32), (15, wi v15_32), (16, wi r15), (18, wi r19), (19, wi t0_106)]) rfl ?_
                            exact hJ229 0 E47 C49 q_166
                          · refine r_aload (x := ma 6) dL_isWiki_215 rfl ?_
                            refine r_bipush (v := 7) dL_isWiki_217 rfl ?_
                            refine r_iload (x := v15_32) dL_isWiki_219 rfl ?_
                            refine r_imul dL_isWiki_221 ?_
                            refine ro_iconst (v := 2) dL_isWiki_222 rfl ?_
                            refine r_iadd dL_isWiki_223 ?_
                            refine r_wiald3 h (by decide) (by decide) (hm 6 (by decide)) dL_isWiki_224 ?_
                            refine r_goto (tgt := 229) dL_isWiki_225 (by decide) ?_
                            refine r_lo [0, 1, 2, 3, 4, 5, 6, 7, 8, 9, 10, 11, 12, 13, 14, 15, 17, 18] (lo2 := [(0, .ref a0), (1, .ref (ma 0)), (2, .ref (ma 1)), (3, .ref (ma 2)), (4, .ref (ma 3)), (5, .ref (ma 4)), (6, .ref (ma 6)), (7, .ref (ma 7)), (8, .ref (ma 8)), (9, .ref (ma 9)), (10, wi a10), (11, .ref y4), (13, wi x13_121), (14, wi v14_32), (15, wi v15_32), (16, wi r15), (18, wi r19), (19, wi t0_106)]) rfl ?_
                            exact hJ229 (E47 6 (ix ((7 * v15_32) + 2))) E47 C49 q_166
                    refine r_if_eq (tgt := 166) dL_isWiki_136 (by decide) ?_ ?_
                    · refine r_lo [1, 2, 3, 4, 5, 6, 7, 8, 9, 10, 11, 12, 0, 13, 14, 15, 16, 17, 18] (lo2 := [(0, .ref a0), (1, .ref (ma 0)), (2, .ref (ma 1)), (3, .ref (ma 2)), (4, .ref (ma 3)), (5, .ref (ma 4)), (6, .ref (ma 6)), (7, .ref (ma 7)), (8, .ref (ma 8)), (9, .ref (ma 9)), (10, wi a10), (11, .ref y4), (13, wi x13_121), (14, wi v14_32), (15, wi v15_32), (16, wi r15), (17, wi v17_57), (18, wi r19), (19, wi t0_106)]) rfl ?_
                      exact hJ166 E_120 C22 q_120
                    · refine r_aload_n (x := a0) dL_isWiki_139 rfl rfl ?_
                      refine r_iload (x := v15_32) dL_isWiki_140 rfl ?_
                      refine r_iload (x := a10) dL_isWiki_142 rfl ?_
                      refine r_iload (x := v17_57) dL_isWiki_144 rfl ?_
                      refine r_iremT dL_isWiki_146 ?_
                      refine r_cx1 (J := fun (C_ : Cd) => (E_120, C_, q_120)) (k2 := k_X11_versionAt) (c := 14) (T := TX11) (N := 10) (n := 2) (rest := []) (fun _ => rfl) rfl um_L_100 kv_X11_versionAt hc_X11 (by decide) (c_X11_versionAt hG _ _ _ _) (by decide) rfl (Nat.le_of_ble_eq_true rfl) dL_isWiki_147 rfl (fun r52 C53 => ?_)
                      show RunO l Γ k_L_isWiki 15 encI (em3 ma) 150 [(13, wi x13_121), (0, .ref a0), (1, .ref (ma 0)), (2, .ref (ma 1)), (3, .ref (ma 2)), (4, .ref (ma 3)), (5, .ref (ma 4)), (6, .ref (ma 6)), (7, .ref (ma 7)), (8, .ref (ma 8)), (9, .ref (ma 9)), (10, wi a10), (11, .ref y4), (14, wi v14_32), (15, wi v15_32), (16, wi r15), (17, wi v17_57), (18, wi r19), (19, wi t0_106)] [wi r52] (E_120, C53, q_120) _
                      refine r_aload_n (x := ma 0) dL_isWiki_150 rfl rfl ?_
                      refine r_aload_n (x := ma 1) dL_isWiki_151 rfl rfl ?_
                      refine r_aload_n (x := ma 2) dL_isWiki_152 rfl rfl ?_
                      refine r_iload (x := v15_32) dL_isWiki_153 rfl ?_
                      refine r_iload (x := a10) dL_isWiki_155 rfl ?_
                      refine r_iload (x := v17_57) dL_isWiki_157 rfl ?_
                      refine r_iremT dL_isWiki_159 ?_
                      refine r_csi (J := fun (E_ : Rw) => (E_, C53, q_120)) (k2 := k_L_versionOf) (n := 5) (rest := [wi r52]) (fun _ => rfl) rfl kv_L_versionOf (c_L_versionOf (ad := adq ma q_120) (K0 := C53) h (adq_hm hm) v15_32 (remI a10 v17_57) _) (by decide) um_L_139 rfl (Nat.le_of_ble_eq_true rfl) dL_isWiki_160 rfl (fun r54 E55 => ?_)
                      show RunO l Γ k_L_isWiki 15 encI (em3 ma) 163 [(13, wi x13_121), (0, .ref a0), (1, .ref (ma 0)), (2, .ref (ma 1)), (3, .ref (ma 2)), (4, .ref (ma 3)), (5, .ref (ma 4)), (6, .ref (ma 6)), (7, .ref (ma 7)), (8, .ref (ma 8)), (9, .ref (ma 9)), (10, wi a10), (11, .ref y4), (14, wi v14_32), (15, wi v15_32), (16, wi r15), (17, wi v17_57), (18, wi r19), (19, wi t0_106)] [wi r54, wi r52] (E55, C53, q_120) _
                      refine r_icmp_ne (tgt := 265) dL_isWiki_163 (by decide) ?_ ?_
                      · refine r_lo [1, 2, 3, 4, 5, 6, 7, 8, 9, 10, 11, 12, 0, 13, 14, 15, 17, 18] (lo2 := [(0, .ref a0), (1, .ref (ma 0)), (2, .ref (ma 1)), (3, .ref (ma 2)), (4, .ref (ma 3)), (5, .ref (ma 4)), (6, .ref (ma 6)), (7, .ref (ma 7)), (8, .ref (ma 8)), (9, .ref (ma 9)), (10, wi a10), (11, .ref y4), (13, wi x13_121), (14, wi v14_32), (15, wi v15_32), (16, wi r15), (18, wi r19), (19, wi t0_106)]) rfl ?_
                        exact hJ265 E55 C53 q_120
                      · refine r_lo [1, 2, 3, 4, 5, 6, 7, 8, 9, 10, 11, 12, 0, 13, 14, 15, 16, 17, 18] (lo2 := [(0, .ref a0), (1, .ref (ma 0)), (2, .ref (ma 1)), (3, .ref (ma 2)), (4, .ref (ma 3)), (5, .ref (ma 4)), (6, .ref (ma 6)), (7, .ref (ma 7)), (8, .ref (ma 8)), (9, .ref (ma 9)), (10, wi a10), (11, .ref y4), (13, wi x13_121), (14, wi v14_32), (15, wi v15_32), (16, wi r15), (17, wi v17_57), (18, wi r19), (19, wi t0_106)]) rfl ?_
                        exact hJ166 E55 C53 q_120
                refine r_if_eq (tgt := 119) dL_isWiki_112 (by decide) ?_ ?_
                · refine ro_iconst (v := 0) dL_isWiki_119 rfl ?_
                  refine r_lo [1, 2, 3, 4, 5, 6, 7, 8, 9, 10, 11, 12, 14, 15, 16, 17, 18, 0] (lo2 := [(0, .ref a0), (1, .ref (ma 0)), (2, .ref (ma 1)), (3, .ref (ma 2)), (4, .ref (ma 3)), (5, .ref (ma 4)), (6, .ref (ma 6)), (7, .ref (ma 7)), (8, .ref (ma 8)), (9, .ref (ma 9)), (10, wi a10), (11, .ref y4), (14, wi v14_32), (15, wi v15_32), (16, wi r15), (17, wi v17_57), (18, wi r19), (19, wi t0_106)]) rfl ?_
                  exact hJ120 0 E_106 C_106 q_106
                · refine ro_iconst (v := 1) dL_isWiki_115 rfl ?_
                  refine r_goto (tgt := 120) dL_isWiki_116 (by decide) ?_
                  refine r_lo [1, 2, 3, 4, 5, 6, 7, 8, 9, 10, 11, 12, 14, 15, 16, 17, 18, 0] (lo2 := [(0, .ref a0), (1, .ref (ma 0)), (2, .ref (ma 1)), (3, .ref (ma 2)), (4, .ref (ma 3)), (5, .ref (ma 4)), (6, .ref (ma 6)), (7, .ref (ma 7)), (8, .ref (ma 8)), (9, .ref (ma 9)), (10, wi a10), (11, .ref y4), (14, wi v14_32), (15, wi v15_32), (16, wi r15), (17, wi v17_57), (18, wi r19), (19, wi t0_106)]) rfl ?_
                  exact hJ120 1 E_106 C_106 q_106
              refine r_if_le (tgt := 105) dL_isWiki_98 (by decide) ?_ ?_
              · refine ro_iconst (v := 0) dL_isWiki_105 rfl ?_
                refine r_lo [1, 2, 3, 4, 5, 6, 7, 8, 9, 10, 11, 12, 13, 14, 15, 16, 17, 0] (lo2 := [(0, .ref a0), (1, .ref (ma 0)), (2, .ref (ma 1)), (3, .ref (ma 2)), (4, .ref (ma 3)), (5, .ref (ma 4)), (6, .ref (ma 6)), (7, .ref (ma 7)), (8, .ref (ma 8)), (9, .ref (ma 9)), (10, wi a10), (11, .ref y4), (13, wi v13_32), (14, wi v14_32), (15, wi v15_32), (16, wi r15), (17, wi v17_57), (18, wi r19)]) rfl ?_
                exact hJ106 0 E20 C_57 q_57
              · refine ro_iconst (v := 1) dL_isWiki_101 rfl ?_
                refine r_goto (tgt := 106) dL_isWiki_102 (by decide) ?_
                refine r_lo [1, 2, 3, 4, 5, 6, 7, 8, 9, 10, 11, 12, 13, 14, 15, 16, 17, 0] (lo2 := [(0, .ref a0), (1, .ref (ma 0)), (2, .ref (ma 1)), (3, .ref (ma 2)), (4, .ref (ma 3)), (5, .ref (ma 4)), (6, .ref (ma 6)), (7, .ref (ma 7)), (8, .ref (ma 8)), (9, .ref (ma 9)), (10, wi a10), (11, .ref y4), (13, wi v13_32), (14, wi v14_32), (15, wi v15_32), (16, wi r15), (17, wi v17_57), (18, wi r19)]) rfl ?_
                exact hJ106 1 E20 C_57 q_57
            · refine r_iinc (x := v17_57) (lo2 := [(17, wi (v17_57 + 1)), (0, .ref a0), (1, .ref (ma 0)), (2, .ref (ma 1)), (3, .ref (ma 2)), (4, .ref (ma 3)), (5, .ref (ma 4)), (6, .ref (ma 6)), (7, .ref (ma 7)), (8, .ref (ma 8)), (9, .ref (ma 9)), (10, wi a10), (11, .ref y4), (13, wi v13_32), (14, wi v14_32), (15, wi v15_32), (16, wi r15)]) dL_isWiki_70 rfl (by decide) rfl ?_
              refine r_goto (tgt := 57) dL_isWiki_73 (by decide) ?_
              refine r_lo [1, 2, 3, 4, 5, 6, 7, 8, 9, 10, 11, 12, 13, 14, 15, 16, 0] (lo2 := [(0, .ref a0), (1, .ref (ma 0)), (2, .ref (ma 1)), (3, .ref (ma 2)), (4, .ref (ma 3)), (5, .ref (ma 4)), (6, .ref (ma 6)), (7, .ref (ma 7)), (8, .ref (ma 8)), (9, .ref (ma 9)), (10, wi a10), (11, .ref y4), (13, wi v13_32), (14, wi v14_32), (15, wi v15_32), (16, wi r15), (17, wi (v17_57 + 1))]) rfl ?_
              exact hL57 (v17_57 + 1) E18 C_57 q_57
          refine r_lo [2, 3, 4, 5, 6, 7, 8, 9, 10, 11, 12, 13, 15, 16, 17, 1, 0] (lo2 := [(0, .ref a0), (1, .ref (ma 0)), (2, .ref (ma 1)), (3, .ref (ma 2)), (4, .ref (ma 3)), (5, .ref (ma 4)), (6, .ref (ma 6)), (7, .ref (ma 7)), (8, .ref (ma 8)), (9, .ref (ma 9)), (10, wi a10), (11, .ref y4), (13, wi v13_32), (14, wi v14_32), (15, wi v15_32), (16, wi r15), (17, wi 0)]) rfl ?_
          exact hJ57 0 E16 C_32 q_32
    refine r_lo [4, 5, 6, 7, 8, 9, 10, 11, 12, 13, 14, 15, 3, 2, 1, 0] (lo2 := [(0, .ref a0), (1, .ref (ma 0)), (2, .ref (ma 1)), (3, .ref (ma 2)), (4, .ref (ma 3)), (5, .ref (ma 4)), (6, .ref (ma 6)), (7, .ref (ma 7)), (8, .ref (ma 8)), (9, .ref (ma 9)), (10, wi a10), (11, .ref y4), (12, wi t0_21), (13, wi 0), (14, wi 0), (15, wi 0)]) rfl ?_
    exact hJ32 t0_21 0 0 0 E_21 C_21 q_21
  refine r_icmp_ne (tgt := 20) dL_isWiki_13 (by decide) ?_ ?_
  · refine ro_iconst (v := 0) dL_isWiki_20 rfl ?_
    refine r_lo [1, 2, 3, 4, 5, 6, 7, 8, 9, 10, 11, 0] (lo2 := [(0, .ref a0), (1, .ref (ma 0)), (2, .ref (ma 1)), (3, .ref (ma 2)), (4, .ref (ma 3)), (5, .ref (ma 4)), (6, .ref (ma 6)), (7, .ref (ma 7)), (8, .ref (ma 8)), (9, .ref (ma 9)), (10, wi a10), (11, .ref y4)]) rfl ?_
    exact hJ21 0 E1 C6 q3
  · refine ro_iconst (v := 1) dL_isWiki_16 rfl ?_
    refine r_goto (tgt := 21) dL_isWiki_17 (by decide) ?_
    refine r_lo [1, 2, 3, 4, 5, 6, 7, 8, 9, 10, 11, 0] (lo2 := [(0, .ref a0), (1, .ref (ma 0)), (2, .ref (ma 1)), (3, .ref (ma 2)), (4, .ref (ma 3)), (5, .ref (ma 4)), (6, .ref (ma 6)), (7, .ref (ma 7)), (8, .ref (ma 8)), (9, .ref (ma 9)), (10, wi a10), (11, .ref y4)]) rfl ?_
    exact hJ21 1 E1 C6 q3
