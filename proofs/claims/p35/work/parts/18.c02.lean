def k_X1_takenBy : Kd := (yX1_takenBy, cX1_takenBy, 2, some .int, [])
theorem kv_X1_takenBy : KV k_X1_takenBy 1 := ⟨uw_mem 690 (by decide +kernel) rfl, uw_mem 95 (by decide +kernel) rfl, uw_mem 689 (by decide +kernel) rfl, uw_mem 40 (by decide +kernel) rfl, ⟨by decide +kernel, by decide +kernel⟩, by decide +kernel, by decide +kernel⟩
set_option maxHeartbeats 8000000 in
set_option maxRecDepth 100000 in
theorem c_X1_takenBy {l : Launch} {Γ : Cx} {M0 : Md} (hG : GK Γ l) (a0 : Nat) (a1 : Int) (C : Cd) : Ct l Γ k_X1_takenBy 1 encI (emC M0) [.ref a0, wi a1] C (fX1_takenBy a0 a1 C) := by
  refine ct_of (by decide +kernel) rfl (Nat.le_of_ble_eq_true rfl) ?_
  refine r_lo [0, 1] (lo2 := [(0, .ref a0), (1, wi a1)]) rfl ?_
  unfold fX1_takenBy
  refine r_iload_n (x := a1) dX1_takenBy_0 rfl rfl ?_
  refine r_join (P := fun (J : Cd → Option (Int × Cd)) => ∀  (C_44 : Cd), RunO l Γ k_X1_takenBy 1 encI (emC M0) 44 [] [] C_44 (J C_44)) ?_ (fun J44 hJ44 => ?_)
  · intro C_44
    refine ro_iconst (v := 2) dX1_takenBy_44 rfl ?_
    exact r_iret rfl dX1_takenBy_45
  refine r_join (P := fun (J : Cd → Option (Int × Cd)) => ∀  (C_48 : Cd), RunO l Γ k_X1_takenBy 1 encI (emC M0) 48 [] [] C_48 (J C_48)) ?_ (fun J48 hJ48 => ?_)
  · intro C_48
    refine ro_iconst (v := 0) dX1_takenBy_48 rfl ?_
    exact r_iret rfl dX1_takenBy_49
  refine r_join (P := fun (J : Cd → Option (Int × Cd)) => ∀  (C_46 : Cd), RunO l Γ k_X1_takenBy 1 encI (emC M0) 46 [] [] C_46 (J C_46)) ?_ (fun J46 hJ46 => ?_)
  · intro C_46
    refine ro_iconst (v := 1) dX1_takenBy_46 rfl ?_
    exact r_iret rfl dX1_takenBy_47
  refine r_tswC (v := 2) (off := 43) (tgt := 44) dX1_takenBy_1 (by decide) (by decide) rfl (by decide) ?_ (fun n2 => ?_)
  · refine r_lo [] (lo2 := []) rfl ?_
    exact hJ44  C
  refine r_tswC (v := 3) (off := 43) (tgt := 44) dX1_takenBy_1 (by decide) (by decide) rfl (by decide) ?_ (fun n3 => ?_)
  · refine r_lo [] (lo2 := []) rfl ?_
    exact hJ44  C
  refine r_tswC (v := 4) (off := 43) (tgt := 44) dX1_takenBy_1 (by decide) (by decide) rfl (by decide) ?_ (fun n4 => ?_)
  · refine r_lo [] (lo2 := []) rfl ?_
    exact hJ44  C
  refine r_tswC (v := 5) (off := 43) (tgt := 44) dX1_takenBy_1 (by decide) (by decide) rfl (by decide) ?_ (fun n5 => ?_)
  · refine r_lo [] (lo2 := []) rfl ?_
    exact hJ44  C
  refine r_tswC (v := 6) (off := 47) (tgt := 48) dX1_takenBy_1 (by decide) (by decide) rfl (by decide) ?_ (fun n6 => ?_)
  · refine r_lo [] (lo2 := []) rfl ?_
    exact hJ48  C
  refine r_tswC (v := 7) (off := 45) (tgt := 46) dX1_takenBy_1 (by decide) (by decide) rfl (by decide) ?_ (fun n7 => ?_)
  · refine r_lo [] (lo2 := []) rfl ?_
    exact hJ46  C
  refine r_tswC (v := 8) (off := 45) (tgt := 46) dX1_takenBy_1 (by decide) (by decide) rfl (by decide) ?_ (fun n8 => ?_)
  · refine r_lo [] (lo2 := []) rfl ?_
    exact hJ46  C
  refine r_tswD (tgt := 48) dX1_takenBy_1 (by omega) (by decide) ?_
  refine r_lo [] (lo2 := []) rfl ?_
  exact hJ48  C
def k_X1_stackAt : Kd := (yX1_stackAt, cX1_stackAt, 2, some .int, [])
theorem kv_X1_stackAt : KV k_X1_stackAt 1 := ⟨uw_mem 694 (by decide +kernel) rfl, uw_mem 95 (by decide +kernel) rfl, uw_mem 693 (by decide +kernel) rfl, uw_mem 41 (by decide +kernel) rfl, ⟨by decide +kernel, by decide +kernel⟩, by decide +kernel, by decide +kernel⟩
set_option maxHeartbeats 8000000 in
set_option maxRecDepth 100000 in
theorem c_X1_stackAt {l : Launch} {Γ : Cx} {M0 : Md} (hG : GK Γ l) (a0 : Nat) (a1 : Int) (C : Cd) : Ct l Γ k_X1_stackAt 1 encI (emC M0) [.ref a0, wi a1] C (fX1_stackAt a0 a1 C) := by
  refine ct_of (by decide +kernel) rfl (Nat.le_of_ble_eq_true rfl) ?_
  refine r_lo [0, 1] (lo2 := [(0, .ref a0), (1, wi a1)]) rfl ?_
  unfold fX1_stackAt
  refine r_iload_n (x := a1) dX1_stackAt_0 rfl rfl ?_
  refine r_join (P := fun (J : Int → Cd → Option (Int × Cd)) => ∀ (t0_23 : Int) (C_23 : Cd), RunO l Γ k_X1_stackAt 1 encI (emC M0) 23 [] [wi t0_23] C_23 (J t0_23 C_23)) ?_ (fun J23 hJ23 => ?_)
  · intro t0_23 C_23
    exact r_iret rfl dX1_stackAt_23
  refine r_join (P := fun (J : Cd → Option (Int × Cd)) => ∀  (C_22 : Cd), RunO l Γ k_X1_stackAt 1 encI (emC M0) 22 [] [] C_22 (J C_22)) ?_ (fun J22 hJ22 => ?_)
  · intro C_22
    refine ro_iconst (v := (-1)) dX1_stackAt_22 rfl ?_
    exact hJ23 (-1) C_22
  refine r_if_lt (tgt := 22) dX1_stackAt_1 (by decide) ?_ ?_
  · refine r_lo [] (lo2 := []) rfl ?_
    exact hJ22  C
  · refine r_iload_n (x := a1) dX1_stackAt_4 rfl rfl ?_
    refine r_aload_n (x := a0) dX1_stackAt_5 rfl rfl ?_
    refine r_cgetR (c := 4) (kk := 5) hc_X1 rfl (by decide) inU_X1 (by decide) uf_X1_42 rfl (by decide) dX1_stackAt_6 (fun z1 => ?_)
    refine r_dref (fun p2 hp2 => ?_)
    subst hp2
    refine r_calen (t := 100) rfl (by decide) dX1_stackAt_9 ?_
    refine r_icmp_ge (tgt := 22) dX1_stackAt_10 (by decide) ?_ ?_
    · refine r_lo [] (lo2 := []) rfl ?_
      exact hJ22  C
    · refine r_aload_n (x := a0) dX1_stackAt_13 rfl rfl ?_
      refine r_cgetR (c := 4) (kk := 5) hc_X1 rfl (by decide) inU_X1 (by decide) uf_X1_42 rfl (by decide) dX1_stackAt_14 (fun z3 => ?_)
      refine r_iload_n (x := a1) dX1_stackAt_17 rfl rfl ?_
      refine r_dref (fun p4 hp4 => ?_)
      subst hp4
      refine r_ciald dX1_stackAt_18 ?_
      refine r_goto (tgt := 23) dX1_stackAt_19 (by decide) ?_
      refine r_lo [] (lo2 := []) rfl ?_
      exact hJ23 (cE C p4 (ix a1)) C
def k_X1_outOf : Kd := (yX1_outOf, cX1_outOf, 13, some .int, [])
theorem kv_X1_outOf : KV k_X1_outOf 2 := ⟨uw_mem 678 (by decide +kernel) rfl, uw_mem 95 (by decide +kernel) rfl, uw_mem 677 (by decide +kernel) rfl, uw_mem 37 (by decide +kernel) rfl, ⟨by decide +kernel, by decide +kernel⟩, by decide +kernel, by decide +kernel⟩
set_option maxHeartbeats 8000000 in
set_option maxRecDepth 100000 in
theorem c_X1_outOf {l : Launch} {Γ : Cx} {M0 : Md} (hG : GK Γ l) (a0 : Nat) (a1 : Option Nat) (a2 : Option Nat) (C : Cd) : Ct l Γ k_X1_outOf 2 encI (emC M0) [.ref a0, va_rf a1, va_rf a2] C (fX1_outOf a0 a1 a2 C) := by
  refine ct_of (by decide +kernel) rfl (by cases a1 <;> cases a2 <;> exact Nat.le_of_ble_eq_true rfl) ?_
  refine r_lo [0, 1, 2] (lo2 := [(0, .ref a0), (1, va_rf a1), (2, va_rf a2)]) (by cases a1 <;> cases a2 <;> rfl) ?_
  unfold fX1_outOf
  refine ro_iconst (v := 0) dX1_outOf_0 rfl ?_
  refine r_istore_n (lo2 := [(3, wi 0), (0, .ref a0), (1, va_rf a1), (2, va_rf a2)]) dX1_outOf_1 rfl (by decide) (by cases a2 <;> rfl) ?_
  refine ro_iconst (v := 0) dX1_outOf_2 rfl ?_
  refine r_istore (lo2 := [(4, wi 0), (3, wi 0), (0, .ref a0), (1, va_rf a1), (2, va_rf a2)]) dX1_outOf_3 (by decide) rfl ?_
  refine ro_iconst (v := 0) dX1_outOf_5 rfl ?_
  refine r_istore (lo2 := [(5, wi 0), (4, wi 0), (3, wi 0), (0, .ref a0), (1, va_rf a1), (2, va_rf a2)]) dX1_outOf_6 (by decide) rfl ?_
  refine r_loop (P := fun (J : Int → Int → Int → Cd → Option (Int × Cd)) => ∀ (v3_8 : Int) (v4_8 : Int) (v5_8 : Int) (C_8 : Cd), RunO l Γ k_X1_outOf 2 encI (emC M0) 8 [(0, .ref a0), (1, va_rf a1), (2, va_rf a2), (3, wi v3_8), (4, wi v4_8), (5, wi v5_8)] [] C_8 (J v3_8 v4_8 v5_8 C_8)) ?_ (fun L8 hL8 => ?_) (fun J8 hJ8 => ?_)
  · intros; exact ro_none
  · intro v3_8 v4_8 v5_8 C_8
    refine r_iload (x := v5_8) dX1_outOf_8 rfl ?_
    refine r_bipush (v := 50) dX1_outOf_10 rfl ?_
    refine r_icmp_ge (tgt := 222) dX1_outOf_12 (by decide) ?_ ?_
    · refine r_sipush (v := 9004) dX1_outOf_222 rfl ?_
      exact r_iret rfl dX1_outOf_225
    · refine r_aloadq_n (x := a1) dX1_outOf_15 rfl rfl ?_
      refine r_iload (x := v4_8) dX1_outOf_16 rfl ?_
      refine r_dref (fun p1 hp1 => ?_)
      subst hp1
      refine r_ccVNi (c := 10) (k2 := k_X7_instructionAt) (n := 1) (rest := []) hG um_X1_286 rfl kv_X7_instructionAt hc_X7 (by decide) (c_X7_instructionAt hG _ _ _) (by decide) rfl (Nat.le_of_ble_eq_true rfl) dX1_outOf_18 rfl (fun r3 C2 => ?_)
      refine r_istore (lo2 := [(6, wi r3), (0, .ref a0), (1, .ref p1), (2, va_rf a2), (3, wi v3_8), (4, wi v4_8), (5, wi v5_8)]) dX1_outOf_21 (by decide) rfl ?_
      refine r_aload_n (x := p1) dX1_outOf_23 rfl rfl ?_
      refine r_iload (x := v4_8) dX1_outOf_24 rfl ?_
      refine r_ccVNi (c := 10) (k2 := k_X7_valueAt) (n := 1) (rest := []) hG um_X1_289 rfl kv_X7_valueAt hc_X7 (by decide) (c_X7_valueAt hG _ _ _) (by decide) rfl (Nat.le_of_ble_eq_true rfl) dX1_outOf_26 rfl (fun r5 C4 => ?_)
      refine r_istore (lo2 := [(7, wi r5), (6, wi r3), (0, .ref a0), (1, .ref p1), (2, va_rf a2), (3, wi v3_8), (4, wi v4_8), (5, wi v5_8)]) dX1_outOf_29 (by decide) rfl ?_
      refine r_iinc (x := v4_8) (lo2 := [(4, wi (v4_8 + 1)), (7, wi r5), (6, wi r3), (0, .ref a0), (1, .ref p1), (2, va_rf a2), (3, wi v3_8), (5, wi v5_8)]) dX1_outOf_31 rfl (by decide) rfl ?_
      refine r_aload_n (x := a0) dX1_outOf_34 rfl rfl ?_
      refine r_iload (x := r3) dX1_outOf_35 rfl ?_
      refine r_ccVi (c := 4) (k2 := k_X1_takenBy) (n := 1) (rest := []) um_X1_290 rfl kv_X1_takenBy hc_X1 (by decide) (c_X1_takenBy hG _ _ _) (by decide) rfl (Nat.le_of_ble_eq_true rfl) dX1_outOf_37 rfl (fun r7 C6 => ?_)
      refine r_istore (lo2 := [(8, wi r7), (4, wi (v4_8 + 1)), (7, wi r5), (6, wi r3), (0, .ref a0), (1, .ref p1), (2, va_rf a2), (3, wi v3_8), (5, wi v5_8)]) dX1_outOf_40 (by decide) rfl ?_
      refine r_iload_n (x := v3_8) dX1_outOf_42 rfl rfl ?_
      refine r_iload (x := r7) dX1_outOf_43 rfl ?_
      refine r_isub dX1_outOf_45 ?_
      refine r_nm (fun x9_46 => ?_)
      refine r_istore (lo2 := [(9, wi x9_46), (8, wi r7), (4, wi (v4_8 + 1)), (7, wi r5), (6, wi r3), (0, .ref a0), (1, .ref p1), (2, va_rf a2), (3, wi v3_8), (5, wi v5_8)]) dX1_outOf_46 (by decide) rfl ?_
      refine r_aload_n (x := a0) dX1_outOf_48 rfl rfl ?_
      refine r_iload_n (x := v3_8) dX1_outOf_49 rfl rfl ?_
      refine ro_iconst (v := 1) dX1_outOf_50 rfl ?_
      refine r_isub dX1_outOf_51 ?_
      refine r_ccVi (c := 4) (k2 := k_X1_stackAt) (n := 1) (rest := []) um_X1_293 rfl kv_X1_stackAt hc_X1 (by decide) (c_X1_stackAt hG _ _ _) (by decide) rfl (Nat.le_of_ble_eq_true rfl) dX1_outOf_52 rfl (fun r9 C8 => ?_)
      refine r_istore (lo2 := [(10, wi r9), (9, wi x9_46), (8, wi r7), (4, wi (v4_8 + 1)), (7, wi r5), (6, wi r3), (0, .ref a0), (1, .ref p1), (2, va_rf a2), (3, wi v3_8), (5, wi v5_8)]) dX1_outOf_55 (by decide) rfl ?_
      refine r_iload (x := r3) dX1_outOf_57 rfl ?_
      refine ro_iconst (v := (-1)) dX1_outOf_59 rfl ?_
      refine r_join (P := fun (J : Cd → Option (Int × Cd)) => ∀  (C_68 : Cd), RunO l Γ k_X1_outOf 2 encI (emC M0) 68 [] [] C_68 (J C_68)) ?_ (fun J68 hJ68 => ?_)
      · intro C_68
        refine r_sipush (v := 9004) dX1_outOf_68 rfl ?_
        exact r_iret rfl dX1_outOf_71
      refine r_icmp_eq (tgt := 68) dX1_outOf_60 (by decide) ?_ ?_
      · refine r_lo [] (lo2 := []) rfl ?_
        exact hJ68  C8
      · refine r_iload (x := x9_46) dX1_outOf_63 rfl ?_
        refine r_if_ge (tgt := 72) dX1_outOf_65 (by decide) ?_ ?_
        · refine r_iload (x := r3) dX1_outOf_72 rfl ?_
          refine r_bipush (v := 8) dX1_outOf_74 rfl ?_
          refine r_icmp_ne (tgt := 82) dX1_outOf_76 (by decide) ?_ ?_
          · refine r_iload (x := r3) dX1_outOf_82 rfl ?_
            refine r_bipush (v := 6) dX1_outOf_84 rfl ?_
            refine r_join (P := fun (J : Int → Cd → Option (Int × Cd)) => ∀ (v4_105 : Int) (C_105 : Cd), RunO l Γ k_X1_outOf 2 encI (emC M0) 105 [(0, .ref a0), (1, .ref p1), (2, va_rf a2), (4, wi v4_105), (5, wi v5_8), (6, wi r3), (7, wi r5), (9, wi x9_46), (10, wi r9)] [] C_105 (J v4_105 C_105)) ?_ (fun J105 hJ105 => ?_)
            · intro v4_105 C_105
              refine r_iload (x := x9_46) dX1_outOf_105 rfl ?_
              refine r_istore_n (lo2 := [(3, wi x9_46), (0, .ref a0), (1, .ref p1), (2, va_rf a2), (4, wi v4_105), (5, wi v5_8), (6, wi r3), (7, wi r5), (9, wi x9_46), (10, wi r9)]) dX1_outOf_107 rfl (by decide) (by cases a2 <;> rfl) ?_
              refine r_iload (x := r3) dX1_outOf_108 rfl ?_
              refine r_bipush (v := 6) dX1_outOf_110 rfl ?_
              refine r_join (P := fun (J : Int → Cd → Option (Int × Cd)) => ∀ (v3_216 : Int) (C_216 : Cd), RunO l Γ k_X1_outOf 2 encI (emC M0) 216 [(0, .ref a0), (1, .ref p1), (2, va_rf a2), (3, wi v3_216), (4, wi v4_105), (5, wi v5_8)] [] C_216 (J v3_216 C_216)) ?_ (fun J216 hJ216 => ?_)
              · intro v3_216 C_216
                refine r_iinc (x := v5_8) (lo2 := [(5, wi (v5_8 + 1)), (0, .ref a0), (1, .ref p1), (2, va_rf a2), (3, wi v3_216), (4, wi v4_105)]) dX1_outOf_216 rfl (by decide) rfl ?_
                refine r_goto (tgt := 8) dX1_outOf_219 (by decide) ?_
                refine r_lo [1, 2, 3, 4, 5, 0] (lo2 := [(0, .ref a0), (1, .ref p1), (2, va_rf a2), (3, wi v3_216), (4, wi v4_105), (5, wi (v5_8 + 1))]) rfl ?_
                exact hL8 v3_216 v4_105 (v5_8 + 1) C_216
              refine r_icmp_eq (tgt := 216) dX1_outOf_112 (by decide) ?_ ?_
              · refine r_lo [1, 2, 3, 0, 4, 5] (lo2 := [(0, .ref a0), (1, .ref p1), (2, va_rf a2), (3, wi x9_46), (4, wi v4_105), (5, wi v5_8)]) rfl ?_
                exact hJ216 x9_46 C_105
              · refine r_iload (x := r3) dX1_outOf_115 rfl ?_
                refine r_bipush (v := 7) dX1_outOf_117 rfl ?_
                refine r_icmp_eq (tgt := 216) dX1_outOf_119 (by decide) ?_ ?_
                · refine r_lo [1, 2, 3, 0, 4, 5] (lo2 := [(0, .ref a0), (1, .ref p1), (2, va_rf a2), (3, wi x9_46), (4, wi v4_105), (5, wi v5_8)]) rfl ?_
                  exact hJ216 x9_46 C_105
                · refine r_iload_n (x := x9_46) dX1_outOf_122 rfl rfl ?_
                  refine r_aload_n (x := a0) dX1_outOf_123 rfl rfl ?_
                  refine r_cgetR (c := 4) (kk := 5) hc_X1 rfl (by decide) inU_X1 (by decide) uf_X1_42 rfl (by decide) dX1_outOf_124 (fun z10 => ?_)
                  refine r_dref (fun p11 hp11 => ?_)
                  subst hp11
                  refine r_calen (t := 100) rfl (by decide) dX1_outOf_127 ?_
                  refine r_icmp_lt (tgt := 135) dX1_outOf_128 (by decide) ?_ ?_
                  · refine r_iload (x := r3) dX1_outOf_135 rfl ?_
                    refine r_join (P := fun (J : Int → Cd → Option (Int × Cd)) => ∀ (t0_158 : Int) (C_158 : Cd), RunO l Γ k_X1_outOf 2 encI (emC M0) 158 [(0, .ref a0), (1, .ref p1), (2, va_rf a2), (3, wi x9_46), (4, wi v4_105), (5, wi v5_8), (6, wi r3), (7, wi r5)] [wi t0_158] C_158 (J t0_158 C_158)) ?_ (fun J158 hJ158 => ?_)
                    · intro t0_158 C_158
                      refine r_istore (lo2 := [(11, wi t0_158), (0, .ref a0), (1, .ref p1), (2, va_rf a2), (3, wi x9_46), (4, wi v4_105), (5, wi v5_8), (6, wi r3), (7, wi r5)]) dX1_outOf_158 (by decide) rfl ?_
                      refine r_iload (x := r3) dX1_outOf_160 rfl ?_
                      refine ro_iconst (v := 1) dX1_outOf_162 rfl ?_
                      refine r_join (P := fun (J : Int → Cd → Option (Int × Cd)) => ∀ (v11_205 : Int) (C_205 : Cd), RunO l Γ k_X1_outOf 2 encI (emC M0) 205 [(0, .ref a0), (1, .ref p1), (2, va_rf a2), (3, wi x9_46), (4, wi v4_105), (5, wi v5_8), (11, wi v11_205)] [] C_205 (J v11_205 C_205)) ?_ (fun J205 hJ205 => ?_)
                      · intro v11_205 C_205
                        refine r_aload_n (x := a0) dX1_outOf_205 rfl rfl ?_
                        refine r_cgetR (c := 4) (kk := 5) hc_X1 rfl (by decide) inU_X1 (by decide) uf_X1_42 rfl (by decide) dX1_outOf_206 (fun z12 => ?_)
                        refine r_iload_n (x := x9_46) dX1_outOf_209 rfl rfl ?_
                        refine r_iload (x := v11_205) dX1_outOf_210 rfl ?_
                        refine r_dref (fun p13 hp13 => ?_)
                        subst hp13
                        refine r_ciast dX1_outOf_212 (fun C14 _ _ => ?_)
                        refine r_iinc (x := x9_46) (lo2 := [(3, wi (x9_46 + 1)), (0, .ref a0), (1, .ref p1), (2, va_rf a2), (4, wi v4_105), (5, wi v5_8), (11, wi v11_205)]) dX1_outOf_213 rfl (by decide) (by cases a2 <;> rfl) ?_
                        refine r_lo [1, 2, 3, 0, 4, 5] (lo2 := [(0, .ref a0), (1, .ref p1), (2, va_rf a2), (3, wi (x9_46 + 1)), (4, wi v4_105), (5, wi v5_8)]) rfl ?_
                        exact hJ216 (x9_46 + 1) C14
                      refine r_icmp_ne (tgt := 205) dX1_outOf_163 (by decide) ?_ ?_
                      · refine r_lo [1, 2, 3, 4, 5, 6, 0] (lo2 := [(0, .ref a0), (1, .ref p1), (2, va_rf a2), (3, wi x9_46), (4, wi v4_105), (5, wi v5_8), (11, wi t0_158)]) rfl ?_
                        exact hJ205 t0_158 C_158
                      · refine r_aload_n (x := a0) dX1_outOf_166 rfl rfl ?_
                        refine r_aloadq_n (x := a2) dX1_outOf_167 rfl rfl ?_
                        refine r_iload (x := r5) dX1_outOf_168 rfl ?_
                        refine ro_iconst (v := 2) dX1_outOf_170 rfl ?_
                        refine r_iadd dX1_outOf_171 ?_
                        refine r_ccVr (c := 4) (k2 := k_X1_partOf) (n := 2) (rest := []) um_X1_229 rfl kv_X1_partOf hc_X1 (by decide) (c_X1_partOf hG _ _ _ _) (by decide) rfl (Nat.le_of_ble_eq_true rfl) dX1_outOf_172 rfl (fun r16 C15 => ?_)
                        refine r_astoreq (lo2 := [(12, va_rf r16), (11, wi t0_158), (0, .ref a0), (1, .ref p1), (2, va_rf a2), (3, wi x9_46), (4, wi v4_105), (5, wi v5_8), (6, wi r3), (7, wi r5)]) dX1_outOf_175 (by decide) rfl ?_
                        refine r_aloadq (x := r16) dX1_outOf_177 rfl ?_
                        refine r_opt (fun hn => ?_) (fun p17 hp17 => ?_)
                        · subst hn
                          refine r_ifnonnullN dX1_outOf_179 ?_
                          refine r_bipush (v := (-2)) dX1_outOf_182 rfl ?_
                          exact r_iret rfl dX1_outOf_184
                        · subst hp17
                          refine r_ifnonnullS (a := p17) (tgt := 185) dX1_outOf_179 (by decide) ?_
                          refine r_aload (x := p17) dX1_outOf_185 rfl ?_
                          refine r_ccVNi (c := 8) (k2 := k_X5_number) (n := 0) (rest := []) hG um_X1_243 rfl kv_X5_number hc_X5 (by decide) (c_X5_number hG _ _) (by decide) rfl (Nat.le_of_ble_eq_true rfl) dX1_outOf_187 rfl (fun r19 C18 => ?_)
                          refine ro_iconst (v := (-1)) dX1_outOf_190 rfl ?_
                          refine r_join (P := fun (J : Int → Cd → Option (Int × Cd)) => ∀ (t0_203 : Int) (C_203 : Cd), RunO l Γ k_X1_outOf 2 encI (emC M0) 203 [(0, .ref a0), (1, .ref p1), (2, va_rf a2), (3, wi x9_46), (4, wi v4_105), (5, wi v5_8)] [wi t0_203] C_203 (J t0_203 C_203)) ?_ (fun J203 hJ203 => ?_)
                          · intro t0_203 C_203
                            refine r_istore (lo2 := [(11, wi t0_203), (0, .ref a0), (1, .ref p1), (2, va_rf a2), (3, wi x9_46), (4, wi v4_105), (5, wi v5_8)]) dX1_outOf_203 (by decide) rfl ?_
                            refine r_lo [1, 2, 3, 4, 5, 6, 0] (lo2 := [(0, .ref a0), (1, .ref p1), (2, va_rf a2), (3, wi x9_46), (4, wi v4_105), (5, wi v5_8), (11, wi t0_203)]) rfl ?_
                            exact hJ205 t0_203 C_203
                          refine r_icmp_ne (tgt := 198) dX1_outOf_191 (by decide) ?_ ?_
                          · refine r_aload (x := p17) dX1_outOf_198 rfl ?_
                            refine r_ccVNi (c := 8) (k2 := k_X5_number) (n := 0) (rest := []) hG um_X1_243 rfl kv_X5_number hc_X5 (by decide) (c_X5_number hG _ _) (by decide) rfl (Nat.le_of_ble_eq_true rfl) dX1_outOf_200 rfl (fun r21 C20 => ?_)
                            refine r_lo [2, 3, 4, 5, 6, 7] (lo2 := [(0, .ref a0), (1, .ref p1), (2, va_rf a2), (3, wi x9_46), (4, wi v4_105), (5, wi v5_8)]) rfl ?_
                            exact hJ203 r21 C20
                          · refine ro_iconst (v := 0) dX1_outOf_194 rfl ?_
                            refine r_goto (tgt := 203) dX1_outOf_195 (by decide) ?_
                            refine r_lo [2, 3, 4, 5, 6, 7] (lo2 := [(0, .ref a0), (1, .ref p1), (2, va_rf a2), (3, wi x9_46), (4, wi v4_105), (5, wi v5_8)]) rfl ?_
                            exact hJ203 0 C18
                    refine r_if_ne (tgt := 145) dX1_outOf_137 (by decide) ?_ ?_
                    · refine r_aload_n (x := a0) dX1_outOf_145 rfl rfl ?_
                      refine r_iload (x := r3) dX1_outOf_146 rfl ?_
                      refine r_aload_n (x := a0) dX1_outOf_148 rfl rfl ?_
                      refine r_iload_n (x := x9_46) dX1_outOf_149 rfl rfl ?_
                      refine r_ccVi (c := 4) (k2 := k_X1_stackAt) (n := 1) (rest := [wi r3, .ref a0]) um_X1_293 rfl kv_X1_stackAt hc_X1 (by decide) (c_X1_stackAt hG _ _ _) (by decide) rfl (Nat.le_of_ble_eq_true rfl) dX1_outOf_150 rfl (fun r23 C22 => ?_)
                      refine r_iload (x := r9) dX1_outOf_153 rfl ?_
                      refine r_ccVi (c := 4) (k2 := k_X1_combined) (n := 3) (rest := []) um_X1_296 rfl kv_X1_combined hc_X1 (by decide) (c_X1_combined hG _ _ _ _ _) (by decide) rfl (Nat.le_of_ble_eq_true rfl) dX1_outOf_155 rfl (fun r25 C24 => ?_)
                      refine r_lo [1, 2, 3, 0, 4, 5, 6, 7] (lo2 := [(0, .ref a0), (1, .ref p1), (2, va_rf a2), (3, wi x9_46), (4, wi v4_105), (5, wi v5_8), (6, wi r3), (7, wi r5)]) rfl ?_
                      exact hJ158 r25 C24
                    · refine r_iload (x := r5) dX1_outOf_140 rfl ?_
                      refine r_goto (tgt := 158) dX1_outOf_142 (by decide) ?_
                      refine r_lo [1, 2, 3, 0, 4, 5, 6, 7] (lo2 := [(0, .ref a0), (1, .ref p1), (2, va_rf a2), (3, wi x9_46), (4, wi v4_105), (5, wi v5_8), (6, wi r3), (7, wi r5)]) rfl ?_
                      exact hJ158 r5 C_105
                  · refine r_sipush (v := 9004) dX1_outOf_131 rfl ?_
                    exact r_iret rfl dX1_outOf_134
            refine r_join (P := fun (J : Cd → Option (Int × Cd)) => ∀  (C_101 : Cd), RunO l Γ k_X1_outOf 2 encI (emC M0) 101 [(0, .ref a0), (1, .ref p1), (2, va_rf a2), (5, wi v5_8), (6, wi r3), (7, wi r5), (9, wi x9_46), (10, wi r9)] [] C_101 (J C_101)) ?_ (fun J101 hJ101 => ?_)
            · intro C_101
              refine r_iload (x := r5) dX1_outOf_101 rfl ?_
              refine r_istore (lo2 := [(4, wi r5), (0, .ref a0), (1, .ref p1), (2, va_rf a2), (5, wi v5_8), (6, wi r3), (7, wi r5), (9, wi x9_46), (10, wi r9)]) dX1_outOf_103 (by decide) rfl ?_
              refine r_lo [1, 2, 3, 0, 4, 5, 6, 7, 8] (lo2 := [(0, .ref a0), (1, .ref p1), (2, va_rf a2), (4, wi r5), (5, wi v5_8), (6, wi r3), (7, wi r5), (9, wi x9_46), (10, wi r9)]) rfl ?_
              exact hJ105 r5 C_101
            refine r_icmp_eq (tgt := 101) dX1_outOf_86 (by decide) ?_ ?_
            · refine r_lo [6, 7, 8, 10, 5, 4, 1, 0] (lo2 := [(0, .ref a0), (1, .ref p1), (2, va_rf a2), (5, wi v5_8), (6, wi r3), (7, wi r5), (9, wi x9_46), (10, wi r9)]) rfl ?_
              exact hJ101  C8
            · refine r_iload (x := r3) dX1_outOf_89 rfl ?_
              refine r_bipush (v := 7) dX1_outOf_91 rfl ?_
              refine r_icmp_ne (tgt := 105) dX1_outOf_93 (by decide) ?_ ?_
              · refine r_lo [6, 7, 8, 3, 10, 5, 4, 1, 0] (lo2 := [(0, .ref a0), (1, .ref p1), (2, va_rf a2), (4, wi (v4_8 + 1)), (5, wi v5_8), (6, wi r3), (7, wi r5), (9, wi x9_46), (10, wi r9)]) rfl ?_
                exact hJ105 (v4_8 + 1) C8
              · refine r_iload (x := r9) dX1_outOf_96 rfl ?_
                refine r_if_ne (tgt := 105) dX1_outOf_98 (by decide) ?_ ?_
                · refine r_lo [6, 7, 8, 3, 10, 5, 4, 1, 0] (lo2 := [(0, .ref a0), (1, .ref p1), (2, va_rf a2), (4, wi (v4_8 + 1)), (5, wi v5_8), (6, wi r3), (7, wi r5), (9, wi x9_46), (10, wi r9)]) rfl ?_
                  exact hJ105 (v4_8 + 1) C8
                · refine r_lo [6, 7, 8, 10, 5, 4, 1, 0] (lo2 := [(0, .ref a0), (1, .ref p1), (2, va_rf a2), (5, wi v5_8), (6, wi r3), (7, wi r5), (9, wi x9_46), (10, wi r9)]) rfl ?_
                  exact hJ101  C8
          · refine r_iload (x := r9) dX1_outOf_79 rfl ?_
            exact r_iret rfl dX1_outOf_81
        · refine r_lo [] (lo2 := []) rfl ?_
          exact hJ68  C8
  refine r_lo [3, 4, 5, 2, 1, 0] (lo2 := [(0, .ref a0), (1, va_rf a1), (2, va_rf a2), (3, wi 0), (4, wi 0), (5, wi 0)]) rfl ?_
  exact hJ8 0 0 0 C
def k_X1_giveModule : Kd := (yX1_giveModule, cX1_giveModule, 4, some .boolean, [])
theorem kv_X1_giveModule : KV k_X1_giveModule 2 := ⟨uw_mem 674 (by decide +kernel) rfl, uw_mem 95 (by decide +kernel) rfl, uw_mem 673 (by decide +kernel) rfl, uw_mem 36 (by decide +kernel) rfl, ⟨by decide +kernel, by decide +kernel⟩, by decide +kernel, by decide +kernel⟩
set_option maxHeartbeats 8000000 in
set_option maxRecDepth 100000 in
theorem c_X1_giveModule {l : Launch} {Γ : Cx} {M0 : Md} (hG : GK Γ l) (a0 : Nat) (a1 : Option Nat) (a2 : Int) (C : Cd) : Ct l Γ k_X1_giveModule 3 encI (emC M0) [.ref a0, va_rf a1, wi a2] C (fX1_giveModule a0 a1 a2 C) := by
  refine ct_of (by decide +kernel) rfl (by cases a1 <;> exact Nat.le_of_ble_eq_true rfl) ?_
  refine r_lo [0, 1, 2] (lo2 := [(0, .ref a0), (1, va_rf a1), (2, wi a2)]) (by cases a1 <;> rfl) ?_
  unfold fX1_giveModule
  refine r_sipush (v := 9004) dX1_giveModule_0 rfl ?_
  refine r_istore_n (lo2 := [(3, wi 9004), (0, .ref a0), (1, va_rf a1), (2, wi a2)]) dX1_giveModule_3 rfl (by decide) rfl ?_
  refine r_iload_n (x := a2) dX1_giveModule_4 rfl rfl ?_
  refine r_join (P := fun (J : Int → Cd → Option (Int × Cd)) => ∀ (v3_47 : Int) (C_47 : Cd), RunO l Γ k_X1_giveModule 3 encI (emC M0) 47 [(1, va_rf a1), (3, wi v3_47)] [] C_47 (J v3_47 C_47)) ?_ (fun J47 hJ47 => ?_)
  · intro v3_47 C_47
    refine r_iload_n (x := v3_47) dX1_giveModule_47 rfl rfl ?_
    refine r_bipush (v := (-2)) dX1_giveModule_48 rfl ?_
    refine r_icmp_ne (tgt := 55) dX1_giveModule_50 (by decide) ?_ ?_
    · refine r_aloadq_n (x := a1) dX1_giveModule_55 rfl rfl ?_
      refine r_dref (fun p1 hp1 => ?_)
      subst hp1
      refine r_cgetRN (c := 9) (kk := 1) hc_X6 rfl (by decide) inU_X6 (by decide) hG uf_X1_120 rfl (by decide) dX1_giveModule_56 (fun z2 => ?_)
      refine r_iload_n (x := v3_47) dX1_giveModule_59 rfl rfl ?_
      refine r_dref (fun p3 hp3 => ?_)
      subst hp3
      refine r_ccVNv (c := 8) (k2 := k_X5_add) (n := 1) (rest := []) hG um_X1_132 rfl kv_X5_add hc_X5 (by decide) (c_X5_add hG _ _ _) (by decide) rfl (Nat.le_of_ble_eq_true rfl) dX1_giveModule_60 rfl (fun r5 C4 => ?_)
      refine ro_iconst (v := 1) dX1_giveModule_63 rfl ?_
      exact r_zret0 (by first | exact Or.inl rfl | exact Or.inr rfl) rfl dX1_giveModule_64
    · refine ro_iconst (v := 0) dX1_giveModule_53 rfl ?_
      exact r_zret0 (by first | exact Or.inl rfl | exact Or.inr rfl) rfl dX1_giveModule_54
  refine r_if_lt (tgt := 47) dX1_giveModule_5 (by decide) ?_ ?_
  · refine r_lo [2, 0] (lo2 := [(1, va_rf a1), (3, wi 9004)]) rfl ?_
    exact hJ47 9004 C
  · refine r_iload_n (x := a2) dX1_giveModule_8 rfl rfl ?_
    refine r_aload_n (x := a0) dX1_giveModule_9 rfl rfl ?_
    refine r_cgetR (c := 4) (kk := 1) hc_X1 rfl (by decide) inU_X1 (by decide) uf_X1_19 rfl (by decide) dX1_giveModule_10 (fun z6 => ?_)
    refine r_dref (fun p7 hp7 => ?_)
    subst hp7
    refine r_calen (t := 103) rfl (by decide) dX1_giveModule_13 ?_
    refine r_icmp_ge (tgt := 47) dX1_giveModule_14 (by decide) ?_ ?_
    · refine r_lo [2, 0] (lo2 := [(1, va_rf a1), (3, wi 9004)]) rfl ?_
      exact hJ47 9004 C
    · refine r_aload_n (x := a0) dX1_giveModule_17 rfl rfl ?_
      refine r_cgetR (c := 4) (kk := 7) hc_X1 rfl (by decide) inU_X1 (by decide) uf_X1_52 rfl (by decide) dX1_giveModule_18 (fun z8 => ?_)
      refine r_dref (fun p9 hp9 => ?_)
      subst hp9
      refine r_dup dX1_giveModule_21 rfl ?_
      refine r_cgetIN (c := 7) (kk := 7) hc_X4 rfl (by decide) inU_X4 (by decide) hG uf_X1_279 rfl (by decide) dX1_giveModule_22 ?_
      refine ro_iconst (v := 1) dX1_giveModule_25 rfl ?_
      refine r_iload_n (x := a2) dX1_giveModule_26 rfl rfl ?_
      refine r_ishl dX1_giveModule_27 ?_
      refine r_ior dX1_giveModule_28 ?_
      refine r_cputIN (c := 7) (kk := 7) hc_X4 rfl (by decide) inU_X4 (by decide) hG uf_X1_279 rfl tyX4 tyX4_ok nmX4 (fty := .int) (by decide) rfl rfl rfl rfl dX1_giveModule_29 (fun C10 _ _ => ?_)
      refine r_aload_n (x := a0) dX1_giveModule_32 rfl rfl ?_
      refine r_aload_n (x := a0) dX1_giveModule_33 rfl rfl ?_
      refine r_cgetR (c := 4) (kk := 1) hc_X1 rfl (by decide) inU_X1 (by decide) uf_X1_19 rfl (by decide) dX1_giveModule_34 (fun z11 => ?_)
      refine r_iload_n (x := a2) dX1_giveModule_37 rfl rfl ?_
      refine r_dref (fun p12 hp12 => ?_)
      subst hp12
      refine r_caald (t := 103) rfl (by decide) (by decide) dX1_giveModule_38 (fun z13 => ?_)
      refine r_aloadq_n (x := a1) dX1_giveModule_39 rfl rfl ?_
      refine r_dref (fun p14 hp14 => ?_)
      subst hp14
      refine r_cgetRN (c := 9) (kk := 0) hc_X6 rfl (by decide) inU_X6 (by decide) hG uf_X1_116 rfl (by decide) dX1_giveModule_40 (fun z15 => ?_)
      refine r_ccVi (c := 4) (k2 := k_X1_outOf) (n := 2) (rest := []) um_X1_282 rfl kv_X1_outOf hc_X1 (by decide) (c_X1_outOf hG _ _ _ _) (by decide) rfl (Nat.le_of_ble_eq_true rfl) dX1_giveModule_43 rfl (fun r17 C16 => ?_)
      refine r_istore_n (lo2 := [(3, wi r17), (0, .ref a0), (1, .ref p14), (2, wi a2)]) dX1_giveModule_46 rfl (by decide) rfl ?_
      refine r_lo [2, 0] (lo2 := [(1, .ref p14), (3, wi r17)]) rfl ?_
      exact hJ47 r17 C16
def k_X1_giveFunction : Kd := (yX1_giveFunction, cX1_giveFunction, 5, some .boolean, [])
theorem kv_X1_giveFunction : KV k_X1_giveFunction 2 := ⟨uw_mem 612 (by decide +kernel) rfl, uw_mem 95 (by decide +kernel) rfl, uw_mem 611 (by decide +kernel) rfl, uw_mem 24 (by decide +kernel) rfl, ⟨by decide +kernel, by decide +kernel⟩, by decide +kernel, by decide +kernel⟩
set_option maxHeartbeats 8000000 in
set_option maxRecDepth 100000 in
theorem c_X1_giveFunction {l : Launch} {Γ : Cx} {M0 : Md} (hG : GK Γ l) (a0 : Nat) (a1 : Option Nat) (a2 : Int) (C : Cd) : Ct l Γ k_X1_giveFunction 4 encI (emC M0) [.ref a0, va_rf a1, wi a2] C (fX1_giveFunction a0 a1 a2 C) := by
  refine ct_of (by decide +kernel) rfl (by cases a1 <;> exact Nat.le_of_ble_eq_true rfl) ?_
  refine r_lo [0, 1, 2] (lo2 := [(0, .ref a0), (1, va_rf a1), (2, wi a2)]) (by cases a1 <;> rfl) ?_
  unfold fX1_giveFunction
  refine r_iload_n (x := a2) dX1_giveFunction_0 rfl rfl ?_
  refine ro_iconst (v := 2) dX1_giveFunction_1 rfl ?_
  refine r_icmp_ne (tgt := 11) dX1_giveFunction_2 (by decide) ?_ ?_
  · refine r_aload_n (x := a0) dX1_giveFunction_11 rfl rfl ?_
    refine r_aloadq_n (x := a1) dX1_giveFunction_12 rfl rfl ?_
    refine r_dref (fun p1 hp1 => ?_)
    subst hp1
    refine r_cgetRN (c := 9) (kk := 0) hc_X6 rfl (by decide) inU_X6 (by decide) hG uf_X1_116 rfl (by decide) dX1_giveFunction_13 (fun z2 => ?_)
    refine ro_iconst (v := 1) dX1_giveFunction_16 rfl ?_
    refine r_ccVr (c := 4) (k2 := k_X1_partOf) (n := 2) (rest := []) um_X1_229 rfl kv_X1_partOf hc_X1 (by decide) (c_X1_partOf hG _ _ _ _) (by decide) rfl (Nat.le_of_ble_eq_true rfl) dX1_giveFunction_17 rfl (fun r4 C3 => ?_)
    refine r_astoreq_n (lo2 := [(3, va_rf r4), (0, .ref a0), (1, .ref p1), (2, wi a2)]) dX1_giveFunction_20 rfl (by decide) rfl ?_
    refine r_aloadq_n (x := r4) dX1_giveFunction_21 rfl rfl ?_
    refine r_opt (fun hn => ?_) (fun p5 hp5 => ?_)
    · subst hn
      refine r_ifnonnullN dX1_giveFunction_22 ?_
      refine ro_iconst (v := 0) dX1_giveFunction_25 rfl ?_
      exact r_zret0 (by first | exact Or.inl rfl | exact Or.inr rfl) rfl dX1_giveFunction_26
    · subst hp5
      refine r_ifnonnullS (a := p5) (tgt := 27) dX1_giveFunction_22 (by decide) ?_
      refine r_iload_n (x := a2) dX1_giveFunction_27 rfl rfl ?_
      refine r_join (P := fun (J : Cd → Option (Int × Cd)) => ∀  (C_190 : Cd), RunO l Γ k_X1_giveFunction 4 encI (emC M0) 190 [] [] C_190 (J C_190)) ?_ (fun J190 hJ190 => ?_)
      · intro C_190
        refine ro_iconst (v := 1) dX1_giveFunction_190 rfl ?_
        exact r_zret0 (by first | exact Or.inl rfl | exact Or.inr rfl) rfl dX1_giveFunction_191
      refine r_tswC (v := 0) (off := 44) (tgt := 72) dX1_giveFunction_28 (by decide) (by decide) rfl (by decide) ?_ (fun n0 => ?_)
      · refine r_aload_n (x := a0) dX1_giveFunction_72 rfl rfl ?_
        refine r_aload_n (x := p1) dX1_giveFunction_73 rfl rfl ?_
        refine r_aload_n (x := p5) dX1_giveFunction_74 rfl rfl ?_
        refine r_ccVNi (c := 8) (k2 := k_X5_hasOtherThanZero) (n := 0) (rest := [.ref p1, .ref a0]) hG um_X1_233 rfl kv_X5_hasOtherThanZero hc_X5 (by decide) (c_X5_hasOtherThanZero hG _ _) (by decide) rfl (Nat.le_of_ble_eq_true rfl) dX1_giveFunction_75 rfl (fun r7 C6 => ?_)
        refine r_join (P := fun (J : Int → Cd → Option (Int × Cd)) => ∀ (t0_86 : Int) (C_86 : Cd), RunO l Γ k_X1_giveFunction 4 encI (emC M0) 86 [] [wi t0_86, .ref p1, .ref a0] C_86 (J t0_86 C_86)) ?_ (fun J86 hJ86 => ?_)
        · intro t0_86 C_86
          refine r_ccVi (c := 4) (k2 := k_X1_givePart) (n := 2) (rest := []) um_X1_236 rfl kv_X1_givePart hc_X1 (by decide) (c_X1_givePart hG _ _ _ _) (by decide) rfl (Nat.le_of_ble_eq_true rfl) dX1_giveFunction_86 rfl (fun r9 C8 => ?_)
          exact r_zret rfl dX1_giveFunction_89
        refine r_if_eq (tgt := 85) dX1_giveFunction_78 (by decide) ?_ ?_
        · refine ro_iconst (v := 3) dX1_giveFunction_85 rfl ?_
          refine r_lo [] (lo2 := []) rfl ?_
          exact hJ86 3 C6
        · refine ro_iconst (v := 2) dX1_giveFunction_81 rfl ?_
          refine r_goto (tgt := 86) dX1_giveFunction_82 (by decide) ?_
          refine r_lo [] (lo2 := []) rfl ?_
          exact hJ86 2 C6
      refine r_tswC (v := 1) (off := 62) (tgt := 90) dX1_giveFunction_28 (by decide) (by decide) rfl (by decide) ?_ (fun n1 => ?_)
      · refine r_aload_n (x := a0) dX1_giveFunction_90 rfl rfl ?_
        refine r_aload_n (x := p1) dX1_giveFunction_91 rfl rfl ?_
        refine r_cgetRN (c := 9) (kk := 0) hc_X6 rfl (by decide) inU_X6 (by decide) hG uf_X1_116 rfl (by decide) dX1_giveFunction_92 (fun z10 => ?_)
        refine ro_iconst (v := 2) dX1_giveFunction_95 rfl ?_
        refine r_ccVr (c := 4) (k2 := k_X1_partOf) (n := 2) (rest := []) um_X1_229 rfl kv_X1_partOf hc_X1 (by decide) (c_X1_partOf hG _ _ _ _) (by decide) rfl (Nat.le_of_ble_eq_true rfl) dX1_giveFunction_96 rfl (fun r12 C11 => ?_)
        refine r_astoreq (lo2 := [(4, va_rf r12), (3, .ref p5), (0, .ref a0), (1, .ref p1), (2, wi a2)]) dX1_giveFunction_99 (by decide) rfl ?_
        refine r_aloadq (x := r12) dX1_giveFunction_101 rfl ?_
        refine r_join (P := fun (J : Int → Cd → Option (Int × Cd)) => ∀ (t0_133 : Int) (C_133 : Cd), RunO l Γ k_X1_giveFunction 4 encI (emC M0) 133 [] [wi t0_133] C_133 (J t0_133 C_133)) ?_ (fun J133 hJ133 => ?_)
        · intro t0_133 C_133
          exact r_zret rfl dX1_giveFunction_133
        refine r_join (P := fun (J : Cd → Option (Int × Cd)) => ∀  (C_132 : Cd), RunO l Γ k_X1_giveFunction 4 encI (emC M0) 132 [] [] C_132 (J C_132)) ?_ (fun J132 hJ132 => ?_)
        · intro C_132
          refine ro_iconst (v := 0) dX1_giveFunction_132 rfl ?_
          exact hJ133 0 C_132
        refine r_opt (fun hn => ?_) (fun p13 hp13 => ?_)
        · subst hn
          refine r_ifnullN (tgt := 132) dX1_giveFunction_103 (by decide) ?_
          refine r_lo [] (lo2 := []) rfl ?_
          exact hJ132  C11
        · subst hp13
          refine r_ifnullS (a := p13) dX1_giveFunction_103 ?_
          refine r_aload_n (x := a0) dX1_giveFunction_106 rfl rfl ?_
          refine r_aload_n (x := p1) dX1_giveFunction_107 rfl rfl ?_
          refine r_aload_n (x := p5) dX1_giveFunction_108 rfl rfl ?_
          refine r_aload (x := p13) dX1_giveFunction_109 rfl ?_
          refine r_ccVNi (c := 8) (k2 := k_X5_sameAs) (n := 1) (rest := [.ref p1, .ref a0]) hG um_X1_239 rfl kv_X5_sameAs hc_X5 (by decide) (c_X5_sameAs hG _ _ _) (by decide) rfl (Nat.le_of_ble_eq_true rfl) dX1_giveFunction_111 rfl (fun r15 C14 => ?_)
          refine r_join (P := fun (J : Int → Cd → Option (Int × Cd)) => ∀ (t0_122 : Int) (C_122 : Cd), RunO l Γ k_X1_giveFunction 4 encI (emC M0) 122 [] [wi t0_122, .ref p1, .ref a0] C_122 (J t0_122 C_122)) ?_ (fun J122 hJ122 => ?_)
          · intro t0_122 C_122
            refine r_ccVi (c := 4) (k2 := k_X1_givePart) (n := 2) (rest := []) um_X1_236 rfl kv_X1_givePart hc_X1 (by decide) (c_X1_givePart hG _ _ _ _) (by decide) rfl (Nat.le_of_ble_eq_true rfl) dX1_giveFunction_122 rfl (fun r17 C16 => ?_)
            refine r_if_eq (tgt := 132) dX1_giveFunction_125 (by decide) ?_ ?_
            · exact hJ132  C16
            · refine ro_iconst (v := 1) dX1_giveFunction_128 rfl ?_
              refine r_goto (tgt := 133) dX1_giveFunction_129 (by decide) ?_
              exact hJ133 1 C16
          refine r_if_eq (tgt := 121) dX1_giveFunction_114 (by decide) ?_ ?_
          · refine ro_iconst (v := 4) dX1_giveFunction_121 rfl ?_
            refine r_lo [] (lo2 := []) rfl ?_
            exact hJ122 4 C14
          · refine ro_iconst (v := 3) dX1_giveFunction_117 rfl ?_
            refine r_goto (tgt := 122) dX1_giveFunction_118 (by decide) ?_
            refine r_lo [] (lo2 := []) rfl ?_
            exact hJ122 3 C14
      refine r_tswC (v := 2) (off := 162) (tgt := 190) dX1_giveFunction_28 (by decide) (by decide) rfl (by decide) ?_ (fun n2 => ?_)
      · refine r_lo [] (lo2 := []) rfl ?_
        exact hJ190  C3
      refine r_tswC (v := 3) (off := 106) (tgt := 134) dX1_giveFunction_28 (by decide) (by decide) rfl (by decide) ?_ (fun n3 => ?_)
      · refine r_aload_n (x := a0) dX1_giveFunction_134 rfl rfl ?_
        refine r_aload_n (x := p1) dX1_giveFunction_135 rfl rfl ?_
        refine r_aload_n (x := p5) dX1_giveFunction_136 rfl rfl ?_
        refine r_ccVNi (c := 8) (k2 := k_X5_number) (n := 0) (rest := [.ref p1, .ref a0]) hG um_X1_243 rfl kv_X5_number hc_X5 (by decide) (c_X5_number hG _ _) (by decide) rfl (Nat.le_of_ble_eq_true rfl) dX1_giveFunction_137 rfl (fun r19 C18 => ?_)
        refine r_ccVv (c := 4) (k2 := k_X1_giveExists) (n := 2) (rest := []) um_X1_247 rfl kv_X1_giveExists hc_X1 (by decide) (c_X1_giveExists hG _ _ _ _) (by decide) rfl (Nat.le_of_ble_eq_true rfl) dX1_giveFunction_140 rfl (fun r21 C20 => ?_)
        refine ro_iconst (v := 1) dX1_giveFunction_143 rfl ?_
        exact r_zret0 (by first | exact Or.inl rfl | exact Or.inr rfl) rfl dX1_giveFunction_144
      refine r_tswC (v := 4) (off := 117) (tgt := 145) dX1_giveFunction_28 (by decide) (by decide) rfl (by decide) ?_ (fun n4 => ?_)
      · refine r_aload_n (x := p1) dX1_giveFunction_145 rfl rfl ?_
        refine r_cgetRN (c := 9) (kk := 1) hc_X6 rfl (by decide) inU_X6 (by decide) hG uf_X1_120 rfl (by decide) dX1_giveFunction_146 (fun z22 => ?_)
        refine r_aload_n (x := a0) dX1_giveFunction_149 rfl rfl ?_
        refine r_aload_n (x := p5) dX1_giveFunction_150 rfl rfl ?_
        refine r_ccVNi (c := 8) (k2 := k_X5_number) (n := 0) (rest := [.ref a0, va_rf z22]) hG um_X1_243 rfl kv_X5_number hc_X5 (by decide) (c_X5_number hG _ _) (by decide) rfl (by cases z22 <;> exact Nat.le_of_ble_eq_true rfl) dX1_giveFunction_151 rfl (fun r24 C23 => ?_)
        refine r_ccVi (c := 4) (k2 := k_X1_countedMembers) (n := 1) (rest := [va_rf z22]) um_X1_251 rfl kv_X1_countedMembers hc_X1 (by decide) (c_X1_countedMembers hG _ _ _) (by decide) rfl (by cases z22 <;> exact Nat.le_of_ble_eq_true rfl) dX1_giveFunction_154 rfl (fun r26 C25 => ?_)
        refine r_ccSi (k2 := k_bitCount) (n := 1) (rest := [va_rf z22]) um_X1_254 rfl kv_bitCount (c_bitCount hG _ _) (by decide) rfl (by cases z22 <;> exact Nat.le_of_ble_eq_true rfl) dX1_giveFunction_157 rfl (fun r28 C27 => ?_)
        refine r_dref (fun p29 hp29 => ?_)
        subst hp29
        refine r_ccVNv (c := 8) (k2 := k_X5_add) (n := 1) (rest := []) hG um_X1_132 rfl kv_X5_add hc_X5 (by decide) (c_X5_add hG _ _ _) (by decide) rfl (Nat.le_of_ble_eq_true rfl) dX1_giveFunction_160 rfl (fun r31 C30 => ?_)
        refine ro_iconst (v := 1) dX1_giveFunction_163 rfl ?_
        exact r_zret0 (by first | exact Or.inl rfl | exact Or.inr rfl) rfl dX1_giveFunction_164
      refine r_tswC (v := 5) (off := 137) (tgt := 165) dX1_giveFunction_28 (by decide) (by decide) rfl (by decide) ?_ (fun n5 => ?_)
      · refine r_aload_n (x := a0) dX1_giveFunction_165 rfl rfl ?_
        refine r_aload_n (x := p1) dX1_giveFunction_166 rfl rfl ?_
        refine r_aload_n (x := a0) dX1_giveFunction_167 rfl rfl ?_
        refine r_aload_n (x := p5) dX1_giveFunction_168 rfl rfl ?_
        refine r_ccVNi (c := 8) (k2 := k_X5_number) (n := 0) (rest := [.ref a0, .ref p1, .ref a0]) hG um_X1_243 rfl kv_X5_number hc_X5 (by decide) (c_X5_number hG _ _) (by decide) rfl (Nat.le_of_ble_eq_true rfl) dX1_giveFunction_169 rfl (fun r33 C32 => ?_)
        refine r_ccVi (c := 4) (k2 := k_X1_countedMembers) (n := 1) (rest := [.ref p1, .ref a0]) um_X1_251 rfl kv_X1_countedMembers hc_X1 (by decide) (c_X1_countedMembers hG _ _ _) (by decide) rfl (Nat.le_of_ble_eq_true rfl) dX1_giveFunction_172 rfl (fun r35 C34 => ?_)
        refine r_ccVv (c := 4) (k2 := k_X1_giveList) (n := 2) (rest := []) um_X1_259 rfl kv_X1_giveList hc_X1 (by decide) (c_X1_giveList hG _ _ _ _) (by decide) rfl (Nat.le_of_ble_eq_true rfl) dX1_giveFunction_175 rfl (fun r37 C36 => ?_)
        refine ro_iconst (v := 1) dX1_giveFunction_178 rfl ?_
        exact r_zret0 (by first | exact Or.inl rfl | exact Or.inr rfl) rfl dX1_giveFunction_179
      refine r_tswC (v := 6) (off := 152) (tgt := 180) dX1_giveFunction_28 (by decide) (by decide) rfl (by decide) ?_ (fun n6 => ?_)
      · refine r_aload_n (x := a0) dX1_giveFunction_180 rfl rfl ?_
        refine r_aload_n (x := p1) dX1_giveFunction_181 rfl rfl ?_
        refine r_aload_n (x := p5) dX1_giveFunction_182 rfl rfl ?_
        refine r_ccVNi (c := 8) (k2 := k_X5_number) (n := 0) (rest := [.ref p1, .ref a0]) hG um_X1_243 rfl kv_X5_number hc_X5 (by decide) (c_X5_number hG _ _) (by decide) rfl (Nat.le_of_ble_eq_true rfl) dX1_giveFunction_183 rfl (fun r39 C38 => ?_)
        refine r_ccVi (c := 4) (k2 := k_X1_giveModule) (n := 2) (rest := []) um_X1_262 rfl kv_X1_giveModule hc_X1 (by decide) (c_X1_giveModule hG _ _ _ _) (by decide) rfl (Nat.le_of_ble_eq_true rfl) dX1_giveFunction_186 rfl (fun r41 C40 => ?_)
        exact r_zret rfl dX1_giveFunction_189
      refine r_tswD (tgt := 190) dX1_giveFunction_28 (by omega) (by decide) ?_
      refine r_lo [] (lo2 := []) rfl ?_
      exact hJ190  C3
  · refine r_aload_n (x := a0) dX1_giveFunction_5 rfl rfl ?_
    refine r_aloadq_n (x := a1) dX1_giveFunction_6 rfl rfl ?_
    refine r_ccVi (c := 4) (k2 := k_X1_giveSum) (n := 1) (rest := []) um_X1_225 rfl kv_X1_giveSum hc_X1 (by decide) (c_X1_giveSum hG _ _ _) (by decide) rfl (Nat.le_of_ble_eq_true rfl) dX1_giveFunction_7 rfl (fun r43 C42 => ?_)
    exact r_zret rfl dX1_giveFunction_10
def k_X8_isRedirect : Kd := (yX8_isRedirect, cX8_isRedirect, 1, some .boolean, [])
theorem kv_X8_isRedirect : KV k_X8_isRedirect 0 := ⟨uw_mem 710 (by decide +kernel) rfl, uw_mem 102 (by decide +kernel) rfl, uw_mem 709 (by decide +kernel) rfl, uw_mem 45 (by decide +kernel) rfl, ⟨by decide +kernel, by decide +kernel⟩, by decide +kernel, by decide +kernel⟩
set_option maxHeartbeats 8000000 in
set_option maxRecDepth 100000 in
theorem c_X8_isRedirect {l : Launch} {Γ : Cx} {M0 : Md} (hG : GK Γ l) (a0 : Nat) (C : Cd) : Ct l Γ k_X8_isRedirect 2 encI (emC M0) [.ref a0] C (fX8_isRedirect a0 C) := by
  refine ct_of (by decide +kernel) rfl (Nat.le_of_ble_eq_true rfl) ?_
  refine r_lo [0] (lo2 := [(0, .ref a0)]) rfl ?_
  unfold fX8_isRedirect
  refine r_aload_n (x := a0) dX8_isRedirect_0 rfl rfl ?_
  refine ro_iconst (v := 0) dX8_isRedirect_1 rfl ?_
  refine r_ccVi (c := 11) (k2 := k_X8_kindAt) (n := 1) (rest := []) um_X8_22 rfl kv_X8_kindAt hc_X8 (by decide) (c_X8_kindAt hG _ _ _) (by decide) rfl (Nat.le_of_ble_eq_true rfl) dX8_isRedirect_2 rfl (fun r2 C1 => ?_)
  refine r_bipush (v := 12) dX8_isRedirect_5 rfl ?_
  refine r_join (P := fun (J : Int → Cd → Option (Int × Cd)) => ∀ (t0_15 : Int) (C_15 : Cd), RunO l Γ k_X8_isRedirect 2 encI (emC M0) 15 [] [wi t0_15] C_15 (J t0_15 C_15)) ?_ (fun J15 hJ15 => ?_)
  · intro t0_15 C_15
    exact r_zret rfl dX8_isRedirect_15
  refine r_icmp_ne (tgt := 14) dX8_isRedirect_7 (by decide) ?_ ?_
  · refine ro_iconst (v := 0) dX8_isRedirect_14 rfl ?_
    refine r_lo [] (lo2 := []) rfl ?_
    exact hJ15 0 C1
  · refine ro_iconst (v := 1) dX8_isRedirect_10 rfl ?_
    refine r_goto (tgt := 15) dX8_isRedirect_11 (by decide) ?_
    refine r_lo [] (lo2 := []) rfl ?_
    exact hJ15 1 C1
def k_X1_goalOf : Kd := (yX1_goalOf, cX1_goalOf, 6, some .int, [])
theorem kv_X1_goalOf : KV k_X1_goalOf 2 := ⟨uw_mem 706 (by decide +kernel) rfl, uw_mem 95 (by decide +kernel) rfl, uw_mem 705 (by decide +kernel) rfl, uw_mem 44 (by decide +kernel) rfl, ⟨by decide +kernel, by decide +kernel⟩, by decide +kernel, by decide +kernel⟩
set_option maxHeartbeats 8000000 in
set_option maxRecDepth 100000 in
theorem c_X1_goalOf {l : Launch} {Γ : Cx} {M0 : Md} (hG : GK Γ l) (a0 : Nat) (a1 : Int) (a2 : Int) (C : Cd) : Ct l Γ k_X1_goalOf 3 encI (emC M0) [.ref a0, wi a1, wi a2] C (fX1_goalOf a0 a1 a2 C) := by
  refine ct_of (by decide +kernel) rfl (Nat.le_of_ble_eq_true rfl) ?_
  refine r_lo [0, 1, 2] (lo2 := [(0, .ref a0), (1, wi a1), (2, wi a2)]) rfl ?_
  unfold fX1_goalOf
  refine r_iload_n (x := a1) dX1_goalOf_0 rfl rfl ?_
  refine r_istore_n (lo2 := [(3, wi a1), (0, .ref a0), (1, wi a1), (2, wi a2)]) dX1_goalOf_1 rfl (by decide) rfl ?_
  refine r_aload_n (x := a0) dX1_goalOf_2 rfl rfl ?_
  refine ro_iconst (v := 0) dX1_goalOf_3 rfl ?_
  refine r_cputI (c := 4) (kk := 12) hc_X1 rfl (by decide) inU_X1 (by decide) uf_X1_69 rfl tyX1 tyX1_ok nmX1 (fty := .int) (by decide) rfl rfl rfl rfl dX1_goalOf_4 (fun C1 _ _ => ?_)
  refine ro_iconst (v := 0) dX1_goalOf_7 rfl ?_
  refine r_istore (lo2 := [(4, wi 0), (3, wi a1), (0, .ref a0), (1, wi a1), (2, wi a2)]) dX1_goalOf_8 (by decide) rfl ?_
  refine r_loop (P := fun (J : Int → Int → Cd → Option (Int × Cd)) => ∀ (v3_10 : Int) (v4_10 : Int) (C_10 : Cd), RunO l Γ k_X1_goalOf 3 encI (emC M0) 10 [(0, .ref a0), (2, wi a2), (3, wi v3_10), (4, wi v4_10)] [] C_10 (J v3_10 v4_10 C_10)) ?_ (fun L10 hL10 => ?_) (fun J10 hJ10 => ?_)
  · intros; exact ro_none
  · intro v3_10 v4_10 C_10
    refine r_iload (x := v4_10) dX1_goalOf_10 rfl ?_
    refine ro_iconst (v := 4) dX1_goalOf_12 rfl ?_
    refine r_icmp_gt (tgt := 66) dX1_goalOf_13 (by decide) ?_ ?_
    · refine ro_iconst (v := (-1)) dX1_goalOf_66 rfl ?_
      exact r_iret rfl dX1_goalOf_67
    · refine r_aload_n (x := a0) dX1_goalOf_16 rfl rfl ?_
      refine r_dup dX1_goalOf_17 rfl ?_
      refine r_cgetI (c := 4) (kk := 12) hc_X1 rfl (by decide) inU_X1 (by decide) uf_X1_69 rfl (by decide) dX1_goalOf_18 ?_
      refine ro_iconst (v := 1) dX1_goalOf_21 rfl ?_
      refine r_iload_n (x := v3_10) dX1_goalOf_22 rfl rfl ?_
      refine r_ishl dX1_goalOf_23 ?_
      refine r_ior dX1_goalOf_24 ?_
      refine r_cputI (c := 4) (kk := 12) hc_X1 rfl (by decide) inU_X1 (by decide) uf_X1_69 rfl tyX1 tyX1_ok nmX1 (fty := .int) (by decide) rfl rfl rfl rfl dX1_goalOf_25 (fun C2 _ _ => ?_)
      refine r_aload_n (x := a0) dX1_goalOf_28 rfl rfl ?_
      refine r_iload_n (x := v3_10) dX1_goalOf_29 rfl rfl ?_
      refine r_iload_n (x := a2) dX1_goalOf_30 rfl rfl ?_
      refine r_ccVr (c := 4) (k2 := k_X1_textAt) (n := 2) (rest := []) um_X1_178 rfl kv_X1_textAt hc_X1 (by decide) (c_X1_textAt hG _ _ _ _) (by decide) rfl (Nat.le_of_ble_eq_true rfl) dX1_goalOf_31 rfl (fun r4 C3 => ?_)
      refine r_astoreq (lo2 := [(5, va_rf r4), (0, .ref a0), (2, wi a2), (3, wi v3_10), (4, wi v4_10)]) dX1_goalOf_34 (by decide) rfl ?_
      refine r_aloadq (x := r4) dX1_goalOf_36 rfl ?_
      refine r_opt (fun hn => ?_) (fun p5 hp5 => ?_)
      · subst hn
        refine r_ifnonnullN dX1_goalOf_38 ?_
        refine ro_iconst (v := (-1)) dX1_goalOf_41 rfl ?_
        exact r_iret rfl dX1_goalOf_42
      · subst hp5
        refine r_ifnonnullS (a := p5) (tgt := 43) dX1_goalOf_38 (by decide) ?_
        refine r_aload (x := p5) dX1_goalOf_43 rfl ?_
        refine r_ccVNi (c := 11) (k2 := k_X8_isRedirect) (n := 0) (rest := []) hG um_X1_195 rfl kv_X8_isRedirect hc_X8 (by decide) (c_X8_isRedirect hG _ _) (by decide) rfl (Nat.le_of_ble_eq_true rfl) dX1_goalOf_45 rfl (fun r7 C6 => ?_)
        refine r_if_ne (tgt := 53) dX1_goalOf_48 (by decide) ?_ ?_
        · refine r_aload (x := p5) dX1_goalOf_53 rfl ?_
          refine ro_iconst (v := 0) dX1_goalOf_55 rfl ?_
          refine r_ccVNi (c := 11) (k2 := k_X8_valueAt) (n := 1) (rest := []) hG um_X1_125 rfl kv_X8_valueAt hc_X8 (by decide) (c_X8_valueAt hG _ _ _) (by decide) rfl (Nat.le_of_ble_eq_true rfl) dX1_goalOf_56 rfl (fun r9 C8 => ?_)
          refine r_istore_n (lo2 := [(3, wi r9), (5, .ref p5), (0, .ref a0), (2, wi a2), (4, wi v4_10)]) dX1_goalOf_59 rfl (by decide) rfl ?_
          refine r_iinc (x := v4_10) (lo2 := [(4, wi (v4_10 + 1)), (3, wi r9), (5, .ref p5), (0, .ref a0), (2, wi a2)]) dX1_goalOf_60 rfl (by decide) rfl ?_
          refine r_goto (tgt := 10) dX1_goalOf_63 (by decide) ?_
          refine r_lo [3, 4, 1, 0] (lo2 := [(0, .ref a0), (2, wi a2), (3, wi r9), (4, wi (v4_10 + 1))]) rfl ?_
          exact hL10 r9 (v4_10 + 1) C8
        · refine r_iload_n (x := v3_10) dX1_goalOf_51 rfl rfl ?_
          exact r_iret rfl dX1_goalOf_52
  refine r_lo [2, 4, 1, 0] (lo2 := [(0, .ref a0), (2, wi a2), (3, wi a1), (4, wi 0)]) rfl ?_
  exact hJ10 a1 0 C1
def k_X2_comesFrom : Kd := (yX2_comesFrom, cX2_comesFrom, 3, some .boolean, [])
theorem kv_X2_comesFrom : KV k_X2_comesFrom 1 := ⟨uw_mem 714 (by decide +kernel) rfl, uw_mem 100 (by decide +kernel) rfl, uw_mem 713 (by decide +kernel) rfl, uw_mem 46 (by decide +kernel) rfl, ⟨by decide +kernel, by decide +kernel⟩, by decide +kernel, by decide +kernel⟩
set_option maxHeartbeats 8000000 in
set_option maxRecDepth 100000 in
theorem c_X2_comesFrom {l : Launch} {Γ : Cx} {M0 : Md} (hG : GK Γ l) (a0 : Nat) (a1 : Int) (C : Cd) : Ct l Γ k_X2_comesFrom 1 encI (emC M0) [.ref a0, wi a1] C (fX2_comesFrom a0 a1 C) := by
  refine ct_of (by decide +kernel) rfl (Nat.le_of_ble_eq_true rfl) ?_
  refine r_lo [0, 1] (lo2 := [(0, .ref a0), (1, wi a1)]) rfl ?_
  unfold fX2_comesFrom
  refine r_aload_n (x := a0) dX2_comesFrom_0 rfl rfl ?_
  refine r_astore_n (lo2 := [(2, .ref a0), (0, .ref a0), (1, wi a1)]) dX2_comesFrom_1 rfl (by decide) rfl ?_
  refine r_loop (P := fun (J : Option Nat → Cd → Option (Int × Cd)) => ∀ (v2_2 : Option Nat) (C_2 : Cd), RunO l Γ k_X2_comesFrom 1 encI (emC M0) 2 [(1, wi a1), (2, va_rf v2_2)] [] C_2 (J v2_2 C_2)) ?_ (fun L2 hL2 => ?_) (fun J2 hJ2 => ?_)
  · intros; exact ro_none
  · intro v2_2 C_2
    refine r_aloadq_n (x := v2_2) dX2_comesFrom_2 rfl rfl ?_
    refine r_opt (fun hn => ?_) (fun p1 hp1 => ?_)
    · subst hn
      refine r_ifnullN (tgt := 24) dX2_comesFrom_3 (by decide) ?_
      refine ro_iconst (v := 0) dX2_comesFrom_24 rfl ?_
      exact r_zret0 (by first | exact Or.inl rfl | exact Or.inr rfl) rfl dX2_comesFrom_25
    · subst hp1
      refine r_ifnullS (a := p1) dX2_comesFrom_3 ?_
      refine r_aload_n (x := p1) dX2_comesFrom_6 rfl rfl ?_
      refine r_cgetI (c := 5) (kk := 5) hc_X2 rfl (by decide) inU_X2 (by decide) uf_X2_33 rfl (by decide) dX2_comesFrom_7 ?_
      refine r_iload_n (x := a1) dX2_comesFrom_10 rfl rfl ?_
      refine r_icmp_ne (tgt := 16) dX2_comesFrom_11 (by decide) ?_ ?_
      · refine r_aload_n (x := p1) dX2_comesFrom_16 rfl rfl ?_
        refine r_cgetR (c := 5) (kk := 3) hc_X2 rfl (by decide) inU_X2 (by decide) uf_X2_25 rfl (by decide) dX2_comesFrom_17 (fun z2 => ?_)
        refine r_astoreq_n (lo2 := [(2, va_rf z2), (1, wi a1)]) dX2_comesFrom_20 rfl (by decide) rfl ?_
        refine r_goto (tgt := 2) dX2_comesFrom_21 (by decide) ?_
        refine r_lo [1, 0] (lo2 := [(1, wi a1), (2, va_rf z2)]) rfl ?_
        exact hL2 z2 C_2
      · refine ro_iconst (v := 1) dX2_comesFrom_14 rfl ?_
        exact r_zret0 (by first | exact Or.inl rfl | exact Or.inr rfl) rfl dX2_comesFrom_15
  refine r_lo [2, 0] (lo2 := [(1, wi a1), (2, .ref a0)]) rfl ?_
  exact hJ2 (some a0) C
def k_X2_takeArguments : Kd := (yX2_takeArguments, cX2_takeArguments, 7, none, [])
theorem kv_X2_takeArguments : KV k_X2_takeArguments 2 := ⟨uw_mem 718 (by decide +kernel) rfl, uw_mem 100 (by decide +kernel) rfl, uw_mem 717 (by decide +kernel) rfl, uw_mem 47 (by decide +kernel) rfl, ⟨by decide +kernel, by decide +kernel⟩, by decide +kernel, by decide +kernel⟩
set_option maxHeartbeats 8000000 in
set_option maxRecDepth 100000 in
theorem c_X2_takeArguments {l : Launch} {Γ : Cx} {M0 : Md} (hG : GK Γ l) (a0 : Nat) (a1 : Option Nat) (a2 : Int) (C : Cd) : Ct l Γ k_X2_takeArguments 3 encV (emC M0) [.ref a0, va_rf a1, wi a2] C (fX2_takeArguments a0 a1 a2 C) := by
  refine ct_of (by decide +kernel) rfl (by cases a1 <;> exact Nat.le_of_ble_eq_true rfl) ?_
  refine r_lo [0, 1, 2] (lo2 := [(0, .ref a0), (1, va_rf a1), (2, wi a2)]) (by cases a1 <;> rfl) ?_
  unfold fX2_takeArguments
  refine ro_iconst (v := 0) dX2_takeArguments_0 rfl ?_
  refine r_istore_n (lo2 := [(3, wi 0), (0, .ref a0), (1, va_rf a1), (2, wi a2)]) dX2_takeArguments_1 rfl (by decide) rfl ?_
  refine r_iload_n (x := a2) dX2_takeArguments_2 rfl rfl ?_
  refine ro_iconst (v := 1) dX2_takeArguments_3 rfl ?_
  refine r_iadd dX2_takeArguments_4 ?_
  refine r_nm (fun x4_5 => ?_)
  refine r_istore (lo2 := [(4, wi x4_5), (3, wi 0), (0, .ref a0), (1, va_rf a1), (2, wi a2)]) dX2_takeArguments_5 (by decide) rfl ?_
  refine ro_iconst (v := 0) dX2_takeArguments_7 rfl ?_
  refine r_istore (lo2 := [(5, wi 0), (4, wi x4_5), (3, wi 0), (0, .ref a0), (1, va_rf a1), (2, wi a2)]) dX2_takeArguments_8 (by decide) rfl ?_
  refine r_loop (P := fun (J : Int → Int → Int → Cd → Option (Unit × Cd)) => ∀ (v3_10 : Int) (v4_10 : Int) (v5_10 : Int) (C_10 : Cd), RunO l Γ k_X2_takeArguments 3 encV (emC M0) 10 [(0, .ref a0), (1, va_rf a1), (3, wi v3_10), (4, wi v4_10), (5, wi v5_10)] [] C_10 (J v3_10 v4_10 v5_10 C_10)) ?_ (fun L10 hL10 => ?_) (fun J10 hJ10 => ?_)
  · intros; exact ro_none
  · intro v3_10 v4_10 v5_10 C_10
    refine r_iload (x := v5_10) dX2_takeArguments_10 rfl ?_
    refine r_bipush (v := 30) dX2_takeArguments_12 rfl ?_
    refine r_join (P := fun (J : Cd → Option (Unit × Cd)) => ∀  (C_88 : Cd), RunO l Γ k_X2_takeArguments 3 encV (emC M0) 88 [] [] C_88 (J C_88)) ?_ (fun J88 hJ88 => ?_)
    · intro C_88
      exact r_vret rfl dX2_takeArguments_88
    refine r_icmp_ge (tgt := 88) dX2_takeArguments_14 (by decide) ?_ ?_
    · refine r_lo [] (lo2 := []) rfl ?_
      exact hJ88  C_10
    · refine r_aloadq_n (x := a1) dX2_takeArguments_17 rfl rfl ?_
      refine r_iload (x := v4_10) dX2_takeArguments_18 rfl ?_
      refine r_dref (fun p1 hp1 => ?_)
      subst hp1
      refine r_ccVNi (c := 11) (k2 := k_X8_startsPart) (n := 1) (rest := []) hG um_X2_40 rfl kv_X8_startsPart hc_X8 (by decide) (c_X8_startsPart hG _ _ _) (by decide) rfl (Nat.le_of_ble_eq_true rfl) dX2_takeArguments_20 rfl (fun r3 C2 => ?_)
      refine r_if_eq (tgt := 88) dX2_takeArguments_23 (by decide) ?_ ?_
      · refine r_lo [] (lo2 := []) rfl ?_
        exact hJ88  C2
      · refine r_aload_n (x := p1) dX2_takeArguments_26 rfl rfl ?_
        refine r_iload (x := v4_10) dX2_takeArguments_27 rfl ?_
        refine r_ccVNi (c := 11) (k2 := k_X8_valueAt) (n := 1) (rest := []) hG um_X2_46 rfl kv_X8_valueAt hc_X8 (by decide) (c_X8_valueAt hG _ _ _) (by decide) rfl (Nat.le_of_ble_eq_true rfl) dX2_takeArguments_29 rfl (fun r5 C4 => ?_)
        refine r_istore (lo2 := [(6, wi r5), (0, .ref a0), (1, .ref p1), (3, wi v3_10), (4, wi v4_10), (5, wi v5_10)]) dX2_takeArguments_32 (by decide) rfl ?_
        refine r_aload_n (x := p1) dX2_takeArguments_34 rfl rfl ?_
        refine r_iload (x := v4_10) dX2_takeArguments_35 rfl ?_
        refine r_ccVNi (c := 11) (k2 := k_X8_kindAt) (n := 1) (rest := []) hG um_X2_50 rfl kv_X8_kindAt hc_X8 (by decide) (c_X8_kindAt hG _ _ _) (by decide) rfl (Nat.le_of_ble_eq_true rfl) dX2_takeArguments_37 rfl (fun r7 C6 => ?_)
        refine ro_iconst (v := 5) dX2_takeArguments_40 rfl ?_
        refine r_join (P := fun (J : Int → Int → Cd → Option (Unit × Cd)) => ∀ (v3_50 : Int) (v6_50 : Int) (C_50 : Cd), RunO l Γ k_X2_takeArguments 3 encV (emC M0) 50 [(0, .ref a0), (1, .ref p1), (3, wi v3_50), (4, wi v4_10), (5, wi v5_10), (6, wi v6_50)] [] C_50 (J v3_50 v6_50 C_50)) ?_ (fun J50 hJ50 => ?_)
        · intro v3_50 v6_50 C_50
          refine r_iload (x := v6_50) dX2_takeArguments_50 rfl ?_
          refine r_join (P := fun (J : Cd → Option (Unit × Cd)) => ∀  (C_74 : Cd), RunO l Γ k_X2_takeArguments 3 encV (emC M0) 74 [(0, .ref a0), (1, .ref p1), (3, wi v3_50), (4, wi v4_10), (5, wi v5_10)] [] C_74 (J C_74)) ?_ (fun J74 hJ74 => ?_)
          · intro C_74
            refine r_aload_n (x := p1) dX2_takeArguments_74 rfl rfl ?_
            refine r_iload (x := v4_10) dX2_takeArguments_75 rfl ?_
            refine r_ccVNi (c := 11) (k2 := k_X8_endAt) (n := 1) (rest := []) hG um_X2_53 rfl kv_X8_endAt hc_X8 (by decide) (c_X8_endAt hG _ _ _) (by decide) rfl (Nat.le_of_ble_eq_true rfl) dX2_takeArguments_77 rfl (fun r9 C8 => ?_)
            refine r_istore (lo2 := [(4, wi r9), (0, .ref a0), (1, .ref p1), (3, wi v3_50), (5, wi v5_10)]) dX2_takeArguments_80 (by decide) rfl ?_
            refine r_iinc (x := v5_10) (lo2 := [(5, wi (v5_10 + 1)), (4, wi r9), (0, .ref a0), (1, .ref p1), (3, wi v3_50)]) dX2_takeArguments_82 rfl (by decide) rfl ?_
            refine r_goto (tgt := 10) dX2_takeArguments_85 (by decide) ?_
            refine r_lo [2, 3, 4, 1, 0] (lo2 := [(0, .ref a0), (1, .ref p1), (3, wi v3_50), (4, wi r9), (5, wi (v5_10 + 1))]) rfl ?_
            exact hL10 v3_50 r9 (v5_10 + 1) C8
          refine r_if_lt (tgt := 74) dX2_takeArguments_52 (by decide) ?_ ?_
          · refine r_lo [0, 1, 2, 3, 4] (lo2 := [(0, .ref a0), (1, .ref p1), (3, wi v3_50), (4, wi v4_10), (5, wi v5_10)]) rfl ?_
            exact hJ74  C_50
          · refine r_iload (x := v6_50) dX2_takeArguments_55 rfl ?_
            refine r_aload_n (x := a0) dX2_takeArguments_57 rfl rfl ?_
            refine r_cgetR (c := 5) (kk := 0) hc_X2 rfl (by decide) inU_X2 (by decide) uf_X2_9 rfl (by decide) dX2_takeArguments_58 (fun z10 => ?_)
            refine r_dref (fun p11 hp11 => ?_)
            subst hp11
            refine r_calen (t := 100) rfl (by decide) dX2_takeArguments_61 ?_
            refine r_icmp_ge (tgt := 74) dX2_takeArguments_62 (by decide) ?_ ?_
            · refine r_lo [0, 1, 2, 3, 4] (lo2 := [(0, .ref a0), (1, .ref p1), (3, wi v3_50), (4, wi v4_10), (5, wi v5_10)]) rfl ?_
              exact hJ74  C_50
            · refine r_aload_n (x := a0) dX2_takeArguments_65 rfl rfl ?_
              refine r_cgetR (c := 5) (kk := 0) hc_X2 rfl (by decide) inU_X2 (by decide) uf_X2_9 rfl (by decide) dX2_takeArguments_66 (fun z12 => ?_)
              refine r_iload (x := v6_50) dX2_takeArguments_69 rfl ?_
              refine r_iload (x := v4_10) dX2_takeArguments_71 rfl ?_
              refine r_dref (fun p13 hp13 => ?_)
              subst hp13
              refine r_ciast dX2_takeArguments_73 (fun C14 _ _ => ?_)
              refine r_lo [0, 1, 2, 3, 4] (lo2 := [(0, .ref a0), (1, .ref p1), (3, wi v3_50), (4, wi v4_10), (5, wi v5_10)]) rfl ?_
              exact hJ74  C14
        refine r_icmp_ne (tgt := 50) dX2_takeArguments_41 (by decide) ?_ ?_
        · refine r_lo [1, 2, 3, 4, 5, 0] (lo2 := [(0, .ref a0), (1, .ref p1), (3, wi v3_10), (4, wi v4_10), (5, wi v5_10), (6, wi r5)]) rfl ?_
          exact hJ50 v3_10 r5 C6
        · refine r_iinc (x := v3_10) (lo2 := [(3, wi (v3_10 + 1)), (6, wi r5), (0, .ref a0), (1, .ref p1), (4, wi v4_10), (5, wi v5_10)]) dX2_takeArguments_44 rfl (by decide) rfl ?_
          refine r_iload_n (x := v3_10 + 1) dX2_takeArguments_47 rfl rfl ?_
          refine r_nm (fun x6_48 => ?_)
          refine r_istore (lo2 := [(6, wi x6_48), (3, wi (v3_10 + 1)), (0, .ref a0), (1, .ref p1), (4, wi v4_10), (5, wi v5_10)]) dX2_takeArguments_48 (by decide) rfl ?_
          refine r_lo [2, 3, 1, 4, 5, 0] (lo2 := [(0, .ref a0), (1, .ref p1), (3, wi (v3_10 + 1)), (4, wi v4_10), (5, wi v5_10), (6, wi x6_48)]) rfl ?_
          exact hJ50 (v3_10 + 1) x6_48 C6
  refine r_lo [3, 4, 2, 1, 0] (lo2 := [(0, .ref a0), (1, va_rf a1), (3, wi 0), (4, wi x4_5), (5, wi 0)]) rfl ?_
  exact hJ10 0 x4_5 0 C
def k_X1_giveCall : Kd := (yX1_giveCall, cX1_giveCall, 7, none, [])
theorem kv_X1_giveCall : KV k_X1_giveCall 3 := ⟨uw_mem 702 (by decide +kernel) rfl, uw_mem 95 (by decide +kernel) rfl, uw_mem 701 (by decide +kernel) rfl, uw_mem 43 (by decide +kernel) rfl, ⟨by decide +kernel, by decide +kernel⟩, by decide +kernel, by decide +kernel⟩
set_option maxHeartbeats 8000000 in
set_option maxRecDepth 100000 in
theorem c_X1_giveCall {l : Launch} {Γ : Cx} {M0 : Md} (hG : GK Γ l) (a0 : Nat) (a1 : Option Nat) (a2 : Int) (a3 : Int) (C : Cd) : Ct l Γ k_X1_giveCall 4 encV (emC M0) [.ref a0, va_rf a1, wi a2, wi a3] C (fX1_giveCall a0 a1 a2 a3 C) := by
  refine ct_of (by decide +kernel) rfl (by cases a1 <;> exact Nat.le_of_ble_eq_true rfl) ?_
  refine r_lo [0, 1, 2, 3] (lo2 := [(0, .ref a0), (1, va_rf a1), (2, wi a2), (3, wi a3)]) (by cases a1 <;> rfl) ?_
  unfold fX1_giveCall
  refine r_aload_n (x := a0) dX1_giveCall_0 rfl rfl ?_
  refine r_cgetI (c := 4) (kk := 10) hc_X1 rfl (by decide) inU_X1 (by decide) uf_X1_63 rfl (by decide) dX1_giveCall_1 ?_
  refine r_bipush (v := 40) dX1_giveCall_4 rfl ?_
  refine r_icmp_lt (tgt := 20) dX1_giveCall_6 (by decide) ?_ ?_
  · refine r_aload_n (x := a0) dX1_giveCall_20 rfl rfl ?_
    refine r_dup dX1_giveCall_21 rfl ?_
    refine r_cgetI (c := 4) (kk := 10) hc_X1 rfl (by decide) inU_X1 (by decide) uf_X1_63 rfl (by decide) dX1_giveCall_22 ?_
    refine ro_iconst (v := 1) dX1_giveCall_25 rfl ?_
    refine r_iadd dX1_giveCall_26 ?_
    refine r_cputI (c := 4) (kk := 10) hc_X1 rfl (by decide) inU_X1 (by decide) uf_X1_63 rfl tyX1 tyX1_ok nmX1 (fty := .int) (by decide) rfl rfl rfl rfl dX1_giveCall_27 (fun C1 _ _ => ?_)
    refine r_aloadq_n (x := a1) dX1_giveCall_30 rfl rfl ?_
    refine r_dref (fun p2 hp2 => ?_)
    subst hp2
    refine r_cgetRN (c := 9) (kk := 0) hc_X6 rfl (by decide) inU_X6 (by decide) hG uf_X1_116 rfl (by decide) dX1_giveCall_31 (fun z3 => ?_)
    refine r_astoreq (lo2 := [(4, va_rf z3), (0, .ref a0), (1, .ref p2), (2, wi a2), (3, wi a3)]) dX1_giveCall_34 (by decide) rfl ?_
    refine r_aload_n (x := a0) dX1_giveCall_36 rfl rfl ?_
    refine r_iload_n (x := a3) dX1_giveCall_37 rfl rfl ?_
    refine r_aload_n (x := a0) dX1_giveCall_38 rfl rfl ?_
    refine r_cgetI (c := 4) (kk := 11) hc_X1 rfl (by decide) inU_X1 (by decide) uf_X1_66 rfl (by decide) dX1_giveCall_39 ?_
    refine r_ccVi (c := 4) (k2 := k_X1_goalOf) (n := 2) (rest := []) um_X1_167 rfl kv_X1_goalOf hc_X1 (by decide) (c_X1_goalOf hG _ _ _ _) (by decide) rfl (Nat.le_of_ble_eq_true rfl) dX1_giveCall_42 rfl (fun r5 C4 => ?_)
    refine r_istore (lo2 := [(5, wi r5), (4, va_rf z3), (0, .ref a0), (1, .ref p2), (2, wi a2), (3, wi a3)]) dX1_giveCall_45 (by decide) (by cases z3 <;> rfl) ?_
    refine r_aload_n (x := a0) dX1_giveCall_47 rfl rfl ?_
    refine r_cgetR (c := 4) (kk := 7) hc_X1 rfl (by decide) inU_X1 (by decide) uf_X1_52 rfl (by decide) dX1_giveCall_48 (fun z6 => ?_)
    refine r_dref (fun p7 hp7 => ?_)
    subst hp7
    refine r_dup dX1_giveCall_51 rfl ?_
    refine r_cgetIN (c := 7) (kk := 5) hc_X4 rfl (by decide) inU_X4 (by decide) hG uf_X1_171 rfl (by decide) dX1_giveCall_52 ?_
    refine r_aload_n (x := a0) dX1_giveCall_55 rfl rfl ?_
    refine r_cgetI (c := 4) (kk := 12) hc_X1 rfl (by decide) inU_X1 (by decide) uf_X1_69 rfl (by decide) dX1_giveCall_56 ?_
    refine r_ior dX1_giveCall_59 ?_
    refine r_cputIN (c := 7) (kk := 5) hc_X4 rfl (by decide) inU_X4 (by decide) hG uf_X1_171 rfl tyX4 tyX4_ok nmX4 (fty := .int) (by decide) rfl rfl rfl rfl dX1_giveCall_60 (fun C8 _ _ => ?_)
    refine r_iload (x := r5) dX1_giveCall_63 rfl ?_
    refine ro_iconst (v := (-1)) dX1_giveCall_65 rfl ?_
    refine r_join (P := fun (J : Cd → Option (Unit × Cd)) => ∀  (C_185 : Cd), RunO l Γ k_X1_giveCall 4 encV (emC M0) 185 [] [] C_185 (J C_185)) ?_ (fun J185 hJ185 => ?_)
    · intro C_185
      exact r_vret rfl dX1_giveCall_185
    refine r_icmp_ne (tgt := 99) dX1_giveCall_66 (by decide) ?_ ?_
    · refine r_aloadq (x := z3) dX1_giveCall_99 rfl ?_
      refine r_iload (x := r5) dX1_giveCall_101 rfl ?_
      refine r_dref (fun p9 hp9 => ?_)
      subst hp9
      refine r_ccVNi (c := 5) (k2 := k_X2_comesFrom) (n := 1) (rest := []) hG um_X1_174 rfl kv_X2_comesFrom hc_X2 (by decide) (c_X2_comesFrom hG _ _ _) (by decide) rfl (Nat.le_of_ble_eq_true rfl) dX1_giveCall_103 rfl (fun r11 C10 => ?_)
      refine r_if_eq (tgt := 122) dX1_giveCall_106 (by decide) ?_ ?_
      · refine r_aload (x := p9) dX1_giveCall_122 rfl ?_
        refine r_cgetIN (c := 5) (kk := 6) hc_X2 rfl (by decide) inU_X2 (by decide) hG uf_X1_142 rfl (by decide) dX1_giveCall_124 ?_
        refine r_bipush (v := 6) dX1_giveCall_127 rfl ?_
        refine r_icmp_lt (tgt := 145) dX1_giveCall_129 (by decide) ?_ ?_
        · refine r_aload_n (x := a0) dX1_giveCall_145 rfl rfl ?_
          refine r_iload (x := r5) dX1_giveCall_146 rfl ?_
          refine r_aload_n (x := a0) dX1_giveCall_148 rfl rfl ?_
          refine r_iload (x := r5) dX1_giveCall_149 rfl ?_
          refine r_aload_n (x := a0) dX1_giveCall_151 rfl rfl ?_
          refine r_cgetI (c := 4) (kk := 11) hc_X1 rfl (by decide) inU_X1 (by decide) uf_X1_66 rfl (by decide) dX1_giveCall_152 ?_
          refine r_ccVr (c := 4) (k2 := k_X1_textAt) (n := 2) (rest := [wi r5, .ref a0]) um_X1_178 rfl kv_X1_textAt hc_X1 (by decide) (c_X1_textAt hG _ _ _ _) (by decide) rfl (Nat.le_of_ble_eq_true rfl) dX1_giveCall_155 rfl (fun r13 C12 => ?_)
          refine r_aload (x := p9) dX1_giveCall_158 rfl ?_
          refine r_aload_n (x := p2) dX1_giveCall_160 rfl rfl ?_
          refine r_cgetRN (c := 9) (kk := 1) hc_X6 rfl (by decide) inU_X6 (by decide) hG uf_X1_120 rfl (by decide) dX1_giveCall_161 (fun z14 => ?_)
          refine r_ccVr (c := 4) (k2 := k_X1_openFrame) (n := 4) (rest := []) um_X1_88 rfl kv_X1_openFrame hc_X1 (by decide) (c_X1_openFrame hG _ _ _ _ _ _) (by decide) rfl (Nat.le_of_ble_eq_true rfl) dX1_giveCall_164 rfl (fun r16 C15 => ?_)
          refine r_astoreq (lo2 := [(6, va_rf r16), (5, wi r5), (4, .ref p9), (0, .ref a0), (1, .ref p2), (2, wi a2), (3, wi a3)]) dX1_giveCall_167 (by decide) rfl ?_
          refine r_aloadq (x := r16) dX1_giveCall_169 rfl ?_
          refine r_opt (fun hn => ?_) (fun p17 hp17 => ?_)
          · subst hn
            refine r_ifnullN (tgt := 185) dX1_giveCall_171 (by decide) ?_
            refine r_lo [] (lo2 := []) rfl ?_
            exact hJ185  C15
          · subst hp17
            refine r_ifnullS (a := p17) dX1_giveCall_171 ?_
            refine r_aload (x := p17) dX1_giveCall_174 rfl ?_
            refine r_aload (x := p9) dX1_giveCall_176 rfl ?_
            refine r_cgetRN (c := 5) (kk := 4) hc_X2 rfl (by decide) inU_X2 (by decide) hG uf_X1_121 rfl (by decide) dX1_giveCall_178 (fun z18 => ?_)
            refine r_iload_n (x := a2) dX1_giveCall_181 rfl rfl ?_
            refine r_ccVNv (c := 5) (k2 := k_X2_takeArguments) (n := 2) (rest := []) hG um_X1_182 rfl kv_X2_takeArguments hc_X2 (by decide) (c_X2_takeArguments hG _ _ _ _) (by decide) rfl (Nat.le_of_ble_eq_true rfl) dX1_giveCall_182 rfl (fun r20 C19 => ?_)
            refine r_lo [] (lo2 := []) rfl ?_
            exact hJ185  C19
        · refine r_aload_n (x := p2) dX1_giveCall_132 rfl rfl ?_
          refine r_cgetRN (c := 9) (kk := 1) hc_X6 rfl (by decide) inU_X6 (by decide) hG uf_X1_120 rfl (by decide) dX1_giveCall_133 (fun z21 => ?_)
          refine r_sipush (v := 9002) dX1_giveCall_136 rfl ?_
          refine r_dref (fun p22 hp22 => ?_)
          subst hp22
          refine r_ccVNv (c := 8) (k2 := k_X5_add) (n := 1) (rest := []) hG um_X1_132 rfl kv_X5_add hc_X5 (by decide) (c_X5_add hG _ _ _) (by decide) rfl (Nat.le_of_ble_eq_true rfl) dX1_giveCall_139 rfl (fun r24 C23 => ?_)
          refine r_goto (tgt := 185) dX1_giveCall_142 (by decide) ?_
          refine r_lo [] (lo2 := []) rfl ?_
          exact hJ185  C23
      · refine r_aload_n (x := p2) dX1_giveCall_109 rfl rfl ?_
        refine r_cgetRN (c := 9) (kk := 1) hc_X6 rfl (by decide) inU_X6 (by decide) hG uf_X1_120 rfl (by decide) dX1_giveCall_110 (fun z25 => ?_)
        refine r_sipush (v := 9001) dX1_giveCall_113 rfl ?_
        refine r_dref (fun p26 hp26 => ?_)
        subst hp26
        refine r_ccVNv (c := 8) (k2 := k_X5_add) (n := 1) (rest := []) hG um_X1_132 rfl kv_X5_add hc_X5 (by decide) (c_X5_add hG _ _ _) (by decide) rfl (Nat.le_of_ble_eq_true rfl) dX1_giveCall_116 rfl (fun r28 C27 => ?_)
        refine r_goto (tgt := 185) dX1_giveCall_119 (by decide) ?_
        refine r_lo [] (lo2 := []) rfl ?_
        exact hJ185  C27
    · refine r_aload_n (x := a0) dX1_giveCall_69 rfl rfl ?_
      refine r_cgetR (c := 4) (kk := 7) hc_X1 rfl (by decide) inU_X1 (by decide) uf_X1_52 rfl (by decide) dX1_giveCall_70 (fun z29 => ?_)
      refine r_dref (fun p30 hp30 => ?_)
      subst hp30
      refine r_dup dX1_giveCall_73 rfl ?_
      refine r_cgetIN (c := 7) (kk := 3) hc_X4 rfl (by decide) inU_X4 (by decide) hG uf_X1_136 rfl (by decide) dX1_giveCall_74 ?_
      refine ro_iconst (v := 1) dX1_giveCall_77 rfl ?_
      refine r_iload_n (x := a3) dX1_giveCall_78 rfl rfl ?_
      refine r_ishl dX1_giveCall_79 ?_
      refine r_ior dX1_giveCall_80 ?_
      refine r_cputIN (c := 7) (kk := 3) hc_X4 rfl (by decide) inU_X4 (by decide) hG uf_X1_136 rfl tyX4 tyX4_ok nmX4 (fty := .int) (by decide) rfl rfl rfl rfl dX1_giveCall_81 (fun C31 _ _ => ?_)
      refine r_aload_n (x := p2) dX1_giveCall_84 rfl rfl ?_
      refine r_cgetRN (c := 9) (kk := 1) hc_X6 rfl (by decide) inU_X6 (by decide) hG uf_X1_120 rfl (by decide) dX1_giveCall_85 (fun z32 => ?_)
      refine r_sipush (v := 2000) dX1_giveCall_88 rfl ?_
      refine r_iload_n (x := a3) dX1_giveCall_91 rfl rfl ?_
      refine r_iadd dX1_giveCall_92 ?_
      refine r_dref (fun p33 hp33 => ?_)
      subst hp33
      refine r_ccVNv (c := 8) (k2 := k_X5_add) (n := 1) (rest := []) hG um_X1_132 rfl kv_X5_add hc_X5 (by decide) (c_X5_add hG _ _ _) (by decide) rfl (Nat.le_of_ble_eq_true rfl) dX1_giveCall_93 rfl (fun r35 C34 => ?_)
      refine r_goto (tgt := 185) dX1_giveCall_96 (by decide) ?_
      refine r_lo [] (lo2 := []) rfl ?_
      exact hJ185  C34
  · refine r_aloadq_n (x := a1) dX1_giveCall_9 rfl rfl ?_
    refine r_dref (fun p36 hp36 => ?_)
    subst hp36
    refine r_cgetRN (c := 9) (kk := 1) hc_X6 rfl (by decide) inU_X6 (by decide) hG uf_X1_120 rfl (by decide) dX1_giveCall_10 (fun z37 => ?_)
    refine r_sipush (v := 9003) dX1_giveCall_13 rfl ?_
    refine r_dref (fun p38 hp38 => ?_)
    subst hp38
    refine r_ccVNv (c := 8) (k2 := k_X5_add) (n := 1) (rest := []) hG um_X1_132 rfl kv_X5_add hc_X5 (by decide) (c_X5_add hG _ _ _) (by decide) rfl (Nat.le_of_ble_eq_true rfl) dX1_giveCall_16 rfl (fun r40 C39 => ?_)
    exact r_vret rfl dX1_giveCall_19
