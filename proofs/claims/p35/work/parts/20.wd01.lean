def k_L_many : Kd := (yL_many, cL_many, 3, some .int, [])
theorem kv_L_many : KS k_L_many 1 := ⟨uw_mem 764 (by decide +kernel) rfl, uw_mem 93 (by decide +kernel) rfl, uw_mem 763 (by decide +kernel) rfl, ⟨by decide +kernel, by decide +kernel⟩, by decide +kernel, by decide +kernel⟩
set_option maxHeartbeats 8000000 in
set_option maxRecDepth 100000 in
theorem c_L_many {l : Launch} {Γ : Cx} {σ0 : St} (a0 : Int)  : Ct l Γ k_L_many 1 encI (emU σ0) [wi a0] () (fW_many a0) := by
  refine ct_of (by decide +kernel) rfl (Nat.le_of_ble_eq_true rfl) ?_
  refine r_lo [0] (lo2 := [(0, wi a0)]) rfl ?_
  unfold fW_many
  refine ro_iconst (v := 0) dL_many_0 rfl ?_
  refine r_istore_n (lo2 := [(1, wi 0), (0, wi a0)]) dL_many_1 rfl (by decide) rfl ?_
  refine r_iload_n (x := a0) dL_many_2 rfl rfl ?_
  refine r_istore_n (lo2 := [(2, wi a0), (1, wi 0), (0, wi a0)]) dL_many_3 rfl (by decide) rfl ?_
  refine r_loop (P := fun (J : Int → Int → Option (Int × Unit)) => ∀ (v1_4 : Int) (v2_4 : Int), RunO l Γ k_L_many 1 encI (emU σ0) 4 [(1, wi v1_4), (2, wi v2_4)] [] () (J v1_4 v2_4)) ?_ (fun L4 hL4 => ?_) (fun J4 hJ4 => ?_)
  · intros; exact ro_none
  · intro v1_4 v2_4
    refine r_iload_n (x := v2_4) dL_many_4 rfl rfl ?_
    refine r_if_le (tgt := 21) dL_many_5 (by decide) ?_ ?_
    · refine r_iload_n (x := v1_4) dL_many_21 rfl rfl ?_
      exact r_iret rfl dL_many_22
    · refine r_iload_n (x := v1_4) dL_many_8 rfl rfl ?_
      refine r_iload_n (x := v2_4) dL_many_9 rfl rfl ?_
      refine ro_iconst (v := 1) dL_many_10 rfl ?_
      refine r_iand dL_many_11 ?_
      refine r_iadd dL_many_12 ?_
      refine r_nm (fun x1_13 => ?_)
      refine r_istore_n (lo2 := [(1, wi x1_13), (2, wi v2_4)]) dL_many_13 rfl (by decide) rfl ?_
      refine r_iload_n (x := v2_4) dL_many_14 rfl rfl ?_
      refine ro_iconst (v := 1) dL_many_15 rfl ?_
      refine r_ishr dL_many_16 ?_
      refine r_nm (fun x2_17 => ?_)
      refine r_istore_n (lo2 := [(2, wi x2_17), (1, wi x1_13)]) dL_many_17 rfl (by decide) rfl ?_
      refine r_goto (tgt := 4) dL_many_18 (by decide) ?_
      refine r_lo [1, 0] (lo2 := [(1, wi x1_13), (2, wi x2_17)]) rfl ?_
      exact hL4 x1_13 x2_17
  refine r_lo [1, 0] (lo2 := [(1, wi 0), (2, wi a0)]) rfl ?_
  exact hJ4 0 a0
def k_L_present : Kd := (yL_present, cL_present, 7, some .int, [])
theorem kv_L_present : KS k_L_present 4 := ⟨uw_mem 737 (by decide +kernel) rfl, uw_mem 93 (by decide +kernel) rfl, uw_mem 736 (by decide +kernel) rfl, ⟨by decide +kernel, by decide +kernel⟩, by decide +kernel, by decide +kernel⟩
set_option maxHeartbeats 8000000 in
set_option maxRecDepth 100000 in
theorem c_L_present {l : Launch} {Γ : Cx} {ad : Nat → Nat} {K0 : Cd} (h : wOn Γ) (hm : ∀ k, k ≤ 10 → ad k ≠ 0) (a3 : Int) (E : Rw) : Ct l Γ k_L_present 1 encI (emW ad K0) [.ref (ad 0), .ref (ad 1), .ref (ad 2), wi a3] E (fW_present a3 E) := by
  refine ct_of (by decide +kernel) rfl (Nat.le_of_ble_eq_true rfl) ?_
  refine r_lo [0, 1, 2, 3] (lo2 := [(0, .ref (ad 0)), (1, .ref (ad 1)), (2, .ref (ad 2)), (3, wi a3)]) rfl ?_
  unfold fW_present
  refine ro_iconst (v := (-1)) dL_present_0 rfl ?_
  refine r_istore (lo2 := [(4, wi (-1)), (0, .ref (ad 0)), (1, .ref (ad 1)), (2, .ref (ad 2)), (3, wi a3)]) dL_present_1 (by decide) rfl ?_
  refine ro_iconst (v := 0) dL_present_3 rfl ?_
  refine r_istore (lo2 := [(5, wi 0), (4, wi (-1)), (0, .ref (ad 0)), (1, .ref (ad 1)), (2, .ref (ad 2)), (3, wi a3)]) dL_present_4 (by decide) rfl ?_
  refine r_loop (P := fun (J : Int → Int → Rw → Option (Int × Rw)) => ∀ (v4_6 : Int) (v5_6 : Int) (E_6 : Rw), RunO l Γ k_L_present 1 encI (emW ad K0) 6 [(0, .ref (ad 0)), (1, .ref (ad 1)), (2, .ref (ad 2)), (3, wi a3), (4, wi v4_6), (5, wi v5_6)] [] E_6 (J v4_6 v5_6 E_6)) ?_ (fun L6 hL6 => ?_) (fun J6 hJ6 => ?_)
  · intros; exact ro_none
  · intro v4_6 v5_6 E_6
    refine r_iload (x := v5_6) dL_present_6 rfl ?_
    refine r_aload_n (x := ad 0) dL_present_8 rfl rfl ?_
    refine ro_iconst (v := 0) dL_present_9 rfl ?_
    refine r_wiald h (by decide) (hm 0 (by decide)) dL_present_10 ?_
    refine r_join (P := fun (J : Rw → Option (Int × Rw)) => ∀ (E_94 : Rw), RunO l Γ k_L_present 1 encI (emW ad K0) 94 [(4, wi v4_6)] [] E_94 (J E_94)) ?_ (fun J94 hJ94 => ?_)
    · intro E_94
      refine r_iload (x := v4_6) dL_present_94 rfl ?_
      exact r_iret rfl dL_present_96
    refine r_icmp_ge (tgt := 94) dL_present_11 (by decide) ?_ ?_
    · refine r_lo [4] (lo2 := [(4, wi v4_6)]) rfl ?_
      exact hJ94 E_6
    · refine r_iload_n (x := a3) dL_present_14 rfl rfl ?_
      refine r_bipush (v := 8) dL_present_15 rfl ?_
      refine r_icmp_ge (tgt := 94) dL_present_17 (by decide) ?_ ?_
      · refine r_lo [4] (lo2 := [(4, wi v4_6)]) rfl ?_
        exact hJ94 E_6
      · refine r_aload_n (x := ad 1) dL_present_20 rfl rfl ?_
        refine r_iload_n (x := a3) dL_present_21 rfl rfl ?_
        refine r_bipush (v := 8) dL_present_22 rfl ?_
        refine r_irem dL_present_24 (by decide) ?_
        refine r_wiald h (by decide) (hm 1 (by decide)) dL_present_25 ?_
        refine r_if_le (tgt := 94) dL_present_26 (by decide) ?_ ?_
        · refine r_lo [4] (lo2 := [(4, wi v4_6)]) rfl ?_
          exact hJ94 E_6
        · refine r_aload_n (x := ad 2) dL_present_29 rfl rfl ?_
          refine ro_iconst (v := 2) dL_present_30 rfl ?_
          refine r_iload (x := v5_6) dL_present_31 rfl ?_
          refine r_imul dL_present_33 ?_
          refine r_wiald h (by decide) (hm 2 (by decide)) dL_present_34 ?_
          refine r_aload_n (x := ad 1) dL_present_35 rfl rfl ?_
          refine r_iload_n (x := a3) dL_present_36 rfl rfl ?_
          refine r_wiald h (by decide) (hm 1 (by decide)) dL_present_37 ?_
          refine ro_iconst (v := 1) dL_present_38 rfl ?_
          refine r_isub dL_present_39 ?_
          refine r_join (P := fun (J : Int → Rw → Option (Int × Rw)) => ∀ (t0_48 : Int) (E_48 : Rw), RunO l Γ k_L_present 1 encI (emW ad K0) 48 [(0, .ref (ad 0)), (1, .ref (ad 1)), (2, .ref (ad 2)), (3, wi a3), (4, wi v4_6), (5, wi v5_6)] [wi t0_48] E_48 (J t0_48 E_48)) ?_ (fun J48 hJ48 => ?_)
          · intro t0_48 E_48
            refine r_istore (lo2 := [(6, wi t0_48), (0, .ref (ad 0)), (1, .ref (ad 1)), (2, .ref (ad 2)), (3, wi a3), (4, wi v4_6), (5, wi v5_6)]) dL_present_48 (by decide) rfl ?_
            refine r_iload (x := t0_48) dL_present_50 rfl ?_
            refine r_join (P := fun (J : Int → Rw → Option (Int × Rw)) => ∀ (t0_86 : Int) (E_86 : Rw), RunO l Γ k_L_present 1 encI (emW ad K0) 86 [(0, .ref (ad 0)), (1, .ref (ad 1)), (2, .ref (ad 2)), (3, wi a3), (5, wi v5_6)] [wi t0_86] E_86 (J t0_86 E_86)) ?_ (fun J86 hJ86 => ?_)
            · intro t0_86 E_86
              refine r_istore (lo2 := [(4, wi t0_86), (0, .ref (ad 0)), (1, .ref (ad 1)), (2, .ref (ad 2)), (3, wi a3), (5, wi v5_6)]) dL_present_86 (by decide) rfl ?_
              refine r_iinc (x := v5_6) (lo2 := [(5, wi (v5_6 + 1)), (4, wi t0_86), (0, .ref (ad 0)), (1, .ref (ad 1)), (2, .ref (ad 2)), (3, wi a3)]) dL_present_88 rfl (by decide) rfl ?_
              refine r_goto (tgt := 6) dL_present_91 (by decide) ?_
              refine r_lo [2, 3, 4, 5, 1, 0] (lo2 := [(0, .ref (ad 0)), (1, .ref (ad 1)), (2, .ref (ad 2)), (3, wi a3), (4, wi t0_86), (5, wi (v5_6 + 1))]) rfl ?_
              exact hL6 t0_86 (v5_6 + 1) E_86
            refine r_join (P := fun (J : Rw → Option (Int × Rw)) => ∀ (E_84 : Rw), RunO l Γ k_L_present 1 encI (emW ad K0) 84 [(0, .ref (ad 0)), (1, .ref (ad 1)), (2, .ref (ad 2)), (3, wi a3), (4, wi v4_6), (5, wi v5_6)] [] E_84 (J E_84)) ?_ (fun J84 hJ84 => ?_)
            · intro E_84
              refine r_iload (x := v4_6) dL_present_84 rfl ?_
              refine r_lo [0, 1, 2, 3, 5] (lo2 := [(0, .ref (ad 0)), (1, .ref (ad 1)), (2, .ref (ad 2)), (3, wi a3), (5, wi v5_6)]) rfl ?_
              exact hJ86 v4_6 E_84
            refine r_if_eq (tgt := 84) dL_present_52 (by decide) ?_ ?_
            · refine r_lo [1, 2, 3, 4, 5, 6] (lo2 := [(0, .ref (ad 0)), (1, .ref (ad 1)), (2, .ref (ad 2)), (3, wi a3), (4, wi v4_6), (5, wi v5_6)]) rfl ?_
              exact hJ84 E_48
            · refine r_iload (x := v4_6) dL_present_55 rfl ?_
              refine r_join (P := fun (J : Rw → Option (Int × Rw)) => ∀ (E_79 : Rw), RunO l Γ k_L_present 1 encI (emW ad K0) 79 [(0, .ref (ad 0)), (1, .ref (ad 1)), (2, .ref (ad 2)), (3, wi a3), (5, wi v5_6)] [] E_79 (J E_79)) ?_ (fun J79 hJ79 => ?_)
              · intro E_79
                refine r_iload (x := v5_6) dL_present_79 rfl ?_
                refine r_goto (tgt := 86) dL_present_81 (by decide) ?_
                exact hJ86 v5_6 E_79
              refine r_if_lt (tgt := 79) dL_present_57 (by decide) ?_ ?_
              · refine r_lo [1, 2, 3, 4, 6] (lo2 := [(0, .ref (ad 0)), (1, .ref (ad 1)), (2, .ref (ad 2)), (3, wi a3), (5, wi v5_6)]) rfl ?_
                exact hJ79 E_48
              · refine r_aload_n (x := ad 2) dL_present_60 rfl rfl ?_
                refine ro_iconst (v := 2) dL_present_61 rfl ?_
                refine r_iload (x := v5_6) dL_present_62 rfl ?_
                refine r_imul dL_present_64 ?_
                refine ro_iconst (v := 1) dL_present_65 rfl ?_
                refine r_iadd dL_present_66 ?_
                refine r_wiald h (by decide) (hm 2 (by decide)) dL_present_67 ?_
                refine r_aload_n (x := ad 2) dL_present_68 rfl rfl ?_
                refine ro_iconst (v := 2) dL_present_69 rfl ?_
                refine r_iload (x := v4_6) dL_present_70 rfl ?_
                refine r_imul dL_present_72 ?_
                refine ro_iconst (v := 1) dL_present_73 rfl ?_
                refine r_iadd dL_present_74 ?_
                refine r_wiald h (by decide) (hm 2 (by decide)) dL_present_75 ?_
                refine r_icmp_lt (tgt := 84) dL_present_76 (by decide) ?_ ?_
                · refine r_lo [1, 2, 3, 4, 5, 6] (lo2 := [(0, .ref (ad 0)), (1, .ref (ad 1)), (2, .ref (ad 2)), (3, wi a3), (4, wi v4_6), (5, wi v5_6)]) rfl ?_
                  exact hJ84 E_48
                · refine r_lo [1, 2, 3, 4, 6] (lo2 := [(0, .ref (ad 0)), (1, .ref (ad 1)), (2, .ref (ad 2)), (3, wi a3), (5, wi v5_6)]) rfl ?_
                  exact hJ79 E_48
          refine r_icmp_ne (tgt := 47) dL_present_40 (by decide) ?_ ?_
          · refine ro_iconst (v := 0) dL_present_47 rfl ?_
            exact hJ48 0 E_6
          · refine ro_iconst (v := 1) dL_present_43 rfl ?_
            refine r_goto (tgt := 48) dL_present_44 (by decide) ?_
            exact hJ48 1 E_6
  refine r_lo [2, 3, 4, 5, 1, 0] (lo2 := [(0, .ref (ad 0)), (1, .ref (ad 1)), (2, .ref (ad 2)), (3, wi a3), (4, wi (-1)), (5, wi 0)]) rfl ?_
  exact hJ6 (-1) 0 E
def k_L_gives : Kd := (yL_gives, cL_gives, 14, some .long, [])
theorem kv_L_gives : KS k_L_gives 9 := ⟨uw_mem 753 (by decide +kernel) rfl, uw_mem 93 (by decide +kernel) rfl, uw_mem 752 (by decide +kernel) rfl, ⟨by decide +kernel, by decide +kernel⟩, by decide +kernel, by decide +kernel⟩
set_option maxHeartbeats 8000000 in
set_option maxRecDepth 100000 in
theorem c_L_gives {l : Launch} {Γ : Cx} {ad : Nat → Nat} {K0 : Cd} (h : wOn Γ) (hm : ∀ k, k ≤ 10 → ad k ≠ 0) (kz : Nat) (a5 : Int) (a7 : Int) (a8 : Int) (a9 : Int) (hz : kz = 10 ∨ kz = 11) (hz0 : ad kz ≠ 0) (E : Rw) : Ct l Γ k_L_gives 2 encJ (emW ad K0) [.ref (ad 0), .ref (ad 1), .ref (ad 2), .ref (ad 6), .ref (ad kz), vl a5, wi a7, wi a8, wi a9] E (fW_gives kz a5 a7 a8 a9 E) := by
  refine ct_of (by decide +kernel) rfl (Nat.le_of_ble_eq_true rfl) ?_
  refine r_lo [0, 1, 2, 3, 4, 5, 6, 7, 8] (lo2 := [(0, .ref (ad 0)), (1, .ref (ad 1)), (2, .ref (ad 2)), (3, .ref (ad 6)), (4, .ref (ad kz)), (5, vl a5), (7, wi a7), (8, wi a8), (9, wi a9)]) rfl ?_
  unfold fW_gives
  refine r_lload (x := a5) dL_gives_0 rfl ?_
  refine r_lstore (lo2 := [(10, vl a5), (0, .ref (ad 0)), (1, .ref (ad 1)), (2, .ref (ad 2)), (3, .ref (ad 6)), (4, .ref (ad kz)), (5, vl a5), (7, wi a7), (8, wi a8), (9, wi a9)]) dL_gives_2 (by decide) rfl ?_
  refine r_iload (x := a7) dL_gives_4 rfl ?_
  refine r_join (P := fun (J : Int → Rw → Option (Int × Rw)) => ∀ (v10_259 : Int) (E_259 : Rw), RunO l Γ k_L_gives 2 encJ (emW ad K0) 259 [(10, vl v10_259)] [] E_259 (J v10_259 E_259)) ?_ (fun J259 hJ259 => ?_)
  · intro v10_259 E_259
    show RunO l Γ k_L_gives 2 encJ (emW ad K0) 259 [(10, vl v10_259)] [] E_259 (fW_gives_259 v10_259 E_259)
    unfold fW_gives_259
    refine r_lload (x := v10_259) dL_gives_259 rfl ?_
    exact r_lret rfl dL_gives_261
  refine r_join (P := fun (J : Rw → Option (Int × Rw)) => ∀ (E_33 : Rw), RunO l Γ k_L_gives 2 encJ (emW ad K0) 33 [(4, .ref (ad kz)), (8, wi a8), (10, vl a5)] [] E_33 (J E_33)) ?_ (fun J33 hJ33 => ?_)
  · intro E_33
    show RunO l Γ k_L_gives 2 encJ (emW ad K0) 33 [(4, .ref (ad kz)), (8, wi a8), (10, vl a5)] [] E_33 (fW_gives_33 kz a5 a8 J259 E_33)
    unfold fW_gives_33
    refine r_aload (x := ad kz) dL_gives_33 rfl ?_
    refine r_lload (x := a5) dL_gives_35 rfl ?_
    refine r_iload (x := a8) dL_gives_37 rfl ?_
    refine r_csj (J := fun (E_ : Rw) => E_) (k2 := k_L_comes) (n := 3) (rest := []) (fun _ => rfl) rfl kv_L_comes (c_L_comes h hm kz a5 a8 hz hz0 _) (by decide) um_L_27 rfl (Nat.le_of_ble_eq_true rfl) dL_gives_39 rfl (fun r1 E2 => ?_)
    show RunO l Γ k_L_gives 2 encJ (emW ad K0) 42 [(4, .ref (ad kz)), (8, wi a8), (10, vl a5)] [vl r1] E2 _
    refine r_lstore (lo2 := [(10, vl r1), (4, .ref (ad kz)), (8, wi a8)]) dL_gives_42 (by decide) rfl ?_
    refine r_goto (tgt := 259) dL_gives_44 (by decide) ?_
    refine r_lo [0] (lo2 := [(10, vl r1)]) rfl ?_
    exact hJ259 r1 E2
  refine r_if_eq (tgt := 33) dL_gives_6 (by decide) ?_ ?_
  · refine r_lo [5, 8, 0] (lo2 := [(4, .ref (ad kz)), (8, wi a8), (10, vl a5)]) rfl ?_
    exact hJ33 E
  · refine r_iload (x := a7) dL_gives_9 rfl ?_
    refine r_bipush (v := 8) dL_gives_11 rfl ?_
    refine r_join (P := fun (J : Rw → Option (Int × Rw)) => ∀ (E_21 : Rw), RunO l Γ k_L_gives 2 encJ (emW ad K0) 21 [(0, .ref (ad 0)), (1, .ref (ad 1)), (2, .ref (ad 2)), (3, .ref (ad 6)), (4, .ref (ad kz)), (7, wi a7), (8, wi a8), (9, wi a9), (10, vl a5)] [] E_21 (J E_21)) ?_ (fun J21 hJ21 => ?_)
    · intro E_21
      show RunO l Γ k_L_gives 2 encJ (emW ad K0) 21 [(0, .ref (ad 0)), (1, .ref (ad 1)), (2, .ref (ad 2)), (3, .ref (ad 6)), (4, .ref (ad kz)), (7, wi a7), (8, wi a8), (9, wi a9), (10, vl a5)] [] E_21 (fW_gives_21 kz a5 a7 a8 a9 J259 J33 E_21)
      unfold fW_gives_21
      refine r_iload (x := a7) dL_gives_21 rfl ?_
      refine r_bipush (v := 9) dL_gives_23 rfl ?_
      refine r_join (P := fun (J : Rw → Option (Int × Rw)) => ∀ (E_47 : Rw), RunO l Γ k_L_gives 2 encJ (emW ad K0) 47 [(0, .ref (ad 0)), (1, .ref (ad 1)), (2, .ref (ad 2)), (3, .ref (ad 6)), (4, .ref (ad kz)), (7, wi a7), (8, wi a8), (10, vl a5)] [] E_47 (J E_47)) ?_ (fun J47 hJ47 => ?_)
      · intro E_47
        show RunO l Γ k_L_gives 2 encJ (emW ad K0) 47 [(0, .ref (ad 0)), (1, .ref (ad 1)), (2, .ref (ad 2)), (3, .ref (ad 6)), (4, .ref (ad kz)), (7, wi a7), (8, wi a8), (10, vl a5)] [] E_47 (fW_gives_47 kz a5 a7 a8 J259 E_47)
        unfold fW_gives_47
        refine r_iload (x := a7) dL_gives_47 rfl ?_
        refine ro_iconst (v := 1) dL_gives_49 rfl ?_
        refine r_join (P := fun (J : Rw → Option (Int × Rw)) => ∀ (E_60 : Rw), RunO l Γ k_L_gives 2 encJ (emW ad K0) 60 [(4, .ref (ad kz)), (8, wi a8), (10, vl a5)] [] E_60 (J E_60)) ?_ (fun J60 hJ60 => ?_)
        · intro E_60
          show RunO l Γ k_L_gives 2 encJ (emW ad K0) 60 [(4, .ref (ad kz)), (8, wi a8), (10, vl a5)] [] E_60 (fW_gives_60 kz a5 a8 J259 E_60)
          unfold fW_gives_60
          refine r_aload (x := ad kz) dL_gives_60 rfl ?_
          refine ro_iconst (v := 0) dL_gives_62 rfl ?_
          refine r_dup2 dL_gives_63 rfl rfl ?_
          refine r_wiald h (wz_mem hz) hz0 dL_gives_64 ?_
          refine ro_iconst (v := 1) dL_gives_65 rfl ?_
          refine r_iload (x := a8) dL_gives_66 rfl ?_
          refine r_ishl dL_gives_68 ?_
          refine r_ior dL_gives_69 ?_
          refine r_wiast h (wz_mem hz) hz0 dL_gives_70 (fun E3 => ?_)
          refine r_aload (x := ad kz) dL_gives_71 rfl ?_
          refine r_lload (x := a5) dL_gives_73 rfl ?_
          refine r_sipush (v := 1000) dL_gives_75 rfl ?_
          refine r_iload (x := a8) dL_gives_78 rfl ?_
          refine r_iadd dL_gives_80 ?_
          refine r_csj (J := fun (E_ : Rw) => E_) (k2 := k_L_comes) (n := 3) (rest := []) (fun _ => rfl) rfl kv_L_comes (c_L_comes h hm kz a5 (1000 + a8) hz hz0 _) (by decide) um_L_27 rfl (Nat.le_of_ble_eq_true rfl) dL_gives_81 rfl (fun r4 E5 => ?_)
          show RunO l Γ k_L_gives 2 encJ (emW ad K0) 84 [(4, .ref (ad kz)), (8, wi a8), (10, vl a5)] [vl r4] E5 _
          refine r_lstore (lo2 := [(10, vl r4), (4, .ref (ad kz)), (8, wi a8)]) dL_gives_84 (by decide) rfl ?_
          refine r_goto (tgt := 259) dL_gives_86 (by decide) ?_
          refine r_lo [0] (lo2 := [(10, vl r4)]) rfl ?_
          exact hJ259 r4 E5
        refine r_icmp_eq (tgt := 60) dL_gives_50 (by decide) ?_ ?_
        · refine r_lo [4, 6, 7] (lo2 := [(4, .ref (ad kz)), (8, wi a8), (10, vl a5)]) rfl ?_
          exact hJ60 E_47
        · refine r_iload (x := a7) dL_gives_53 rfl ?_
          refine r_bipush (v := 10) dL_gives_55 rfl ?_
          refine r_icmp_ne (tgt := 89) dL_gives_57 (by decide) ?_ ?_
          · refine r_iload (x := a7) dL_gives_89 rfl ?_
            refine ro_iconst (v := 3) dL_gives_91 rfl ?_
            refine r_icmp_ne (tgt := 109) dL_gives_92 (by decide) ?_ ?_
            · refine r_iload (x := a7) dL_gives_109 rfl ?_
              refine ro_iconst (v := 5) dL_gives_111 rfl ?_
              refine r_join (P := fun (J : Rw → Option (Int × Rw)) => ∀ (E_122 : Rw), RunO l Γ k_L_gives 2 encJ (emW ad K0) 122 [(3, .ref (ad 6)), (4, .ref (ad kz)), (7, wi a7), (8, wi a8), (10, vl a5)] [] E_122 (J E_122)) ?_ (fun J122 hJ122 => ?_)
              · intro E_122
                show RunO l Γ k_L_gives 2 encJ (emW ad K0) 122 [(3, .ref (ad 6)), (4, .ref (ad kz)), (7, wi a7), (8, wi a8), (10, vl a5)] [] E_122 (fW_gives_122 kz a5 a7 a8 J259 E_122)
                unfold fW_gives_122
                refine r_aload (x := ad kz) dL_gives_122 rfl ?_
                refine ro_iconst (v := 3) dL_gives_124 rfl ?_
                refine r_dup2 dL_gives_125 rfl rfl ?_
                refine r_wiald h (wz_mem hz) hz0 dL_gives_126 ?_
                refine ro_iconst (v := 1) dL_gives_127 rfl ?_
                refine r_iload (x := a8) dL_gives_128 rfl ?_
                refine r_ishl dL_gives_130 ?_
                refine r_ior dL_gives_131 ?_
                refine r_wiast h (wz_mem hz) hz0 dL_gives_132 (fun E6 => ?_)
                refine r_aload_n (x := ad 6) dL_gives_133 rfl rfl ?_
                refine r_iload (x := a8) dL_gives_134 rfl ?_
                refine r_csi (J := fun (E_ : Rw) => E_) (k2 := k_L_members) (n := 2) (rest := []) (fun _ => rfl) rfl kv_L_members (c_L_members h hm a8 _) (by decide) um_L_31 rfl (Nat.le_of_ble_eq_true rfl) dL_gives_136 rfl (fun r7 E8 => ?_)
                show RunO l Γ k_L_gives 2 encJ (emW ad K0) 139 [(3, .ref (ad 6)), (4, .ref (ad kz)), (7, wi a7), (8, wi a8), (10, vl a5)] [wi r7] E8 _
                refine r_istore (lo2 := [(12, wi r7), (3, .ref (ad 6)), (4, .ref (ad kz)), (7, wi a7), (8, wi a8), (10, vl a5)]) dL_gives_139 (by decide) rfl ?_
                refine r_iload (x := a7) dL_gives_141 rfl ?_
                refine ro_iconst (v := 5) dL_gives_143 rfl ?_
                refine r_icmp_ne (tgt := 160) dL_gives_144 (by decide) ?_ ?_
                · refine ro_iconst (v := 0) dL_gives_160 rfl ?_
                  refine r_istore (lo2 := [(13, wi 0), (12, wi r7), (3, .ref (ad 6)), (4, .ref (ad kz)), (7, wi a7), (8, wi a8), (10, vl a5)]) dL_gives_161 (by decide) rfl ?_
                  refine r_loop (P := fun (J : Int → Int → Rw → Option (Int × Rw)) => ∀ (v10_163 : Int) (v13_163 : Int) (E_163 : Rw), RunO l Γ k_L_gives 2 encJ (emW ad K0) 163 [(4, .ref (ad kz)), (10, vl v10_163), (12, wi r7), (13, wi v13_163)] [] E_163 (J v10_163 v13_163 E_163)) ?_ (fun L163 hL163 => ?_) (fun J163 hJ163 => ?_)
                  · intros; exact ro_none
                  · intro v10_163 v13_163 E_163
                    show RunO l Γ k_L_gives 2 encJ (emW ad K0) 163 [(4, .ref (ad kz)), (10, vl v10_163), (12, wi r7), (13, wi v13_163)] [] E_163 (fW_gives_163 kz J259 r7 L163 v10_163 v13_163 E_163)
                    unfold fW_gives_163
                    refine r_iload (x := v13_163) dL_gives_163 rfl ?_
                    refine r_bipush (v := 8) dL_gives_165 rfl ?_
                    refine r_icmp_ge (tgt := 213) dL_gives_167 (by decide) ?_ ?_
                    · refine r_goto (tgt := 259) dL_gives_213 (by decide) ?_
                      refine r_lo [1] (lo2 := [(10, vl v10_163)]) rfl ?_
                      exact hJ259 v10_163 E_163
                    · refine r_iload (x := r7) dL_gives_170 rfl ?_
                      refine r_iload (x := v13_163) dL_gives_172 rfl ?_
                      refine r_ishr dL_gives_174 ?_
                      refine ro_iconst (v := 1) dL_gives_175 rfl ?_
                      refine r_iand dL_gives_176 ?_
                      refine ro_iconst (v := 1) dL_gives_177 rfl ?_
                      refine r_join (P := fun (J : Int → Rw → Option (Int × Rw)) => ∀ (v10_207 : Int) (E_207 : Rw), RunO l Γ k_L_gives 2 encJ (emW ad K0) 207 [(4, .ref (ad kz)), (10, vl v10_207), (12, wi r7), (13, wi v13_163)] [] E_207 (J v10_207 E_207)) ?_ (fun J207 hJ207 => ?_)
                      · intro v10_207 E_207
                        show RunO l Γ k_L_gives 2 encJ (emW ad K0) 207 [(4, .ref (ad kz)), (10, vl v10_207), (12, wi r7), (13, wi v13_163)] [] E_207 (fW_gives_207 L163 v13_163 v10_207 E_207)
                        unfold fW_gives_207
                        refine r_iinc (x := v13_163) (lo2 := [(13, wi (v13_163 + 1)), (4, .ref (ad kz)), (10, vl v10_207), (12, wi r7)]) dL_gives_207 rfl (by decide) rfl ?_
                        refine r_goto (tgt := 163) dL_gives_210 (by decide) ?_
                        refine r_lo [1, 2, 3, 0] (lo2 := [(4, .ref (ad kz)), (10, vl v10_207), (12, wi r7), (13, wi (v13_163 + 1))]) rfl ?_
                        exact hL163 v10_207 (v13_163 + 1) E_207
                      refine r_icmp_ne (tgt := 207) dL_gives_178 (by decide) ?_ ?_
                      · exact hJ207 v10_163 E_163
                      · refine r_aload (x := ad kz) dL_gives_181 rfl ?_
                        refine ro_iconst (v := 0) dL_gives_183 rfl ?_
                        refine r_dup2 dL_gives_184 rfl rfl ?_
                        refine r_wiald h (wz_mem hz) hz0 dL_gives_185 ?_
                        refine ro_iconst (v := 1) dL_gives_186 rfl ?_
                        refine r_iload (x := v13_163) dL_gives_187 rfl ?_
                        refine r_ishl dL_gives_189 ?_
                        refine r_ior dL_gives_190 ?_
                        refine r_wiast h (wz_mem hz) hz0 dL_gives_191 (fun E9 => ?_)
                        refine r_aload (x := ad kz) dL_gives_192 rfl ?_
                        refine r_lload (x := v10_163) dL_gives_194 rfl ?_
                        refine r_sipush (v := 1000) dL_gives_196 rfl ?_
                        refine r_iload (x := v13_163) dL_gives_199 rfl ?_
                        refine r_iadd dL_gives_201 ?_
                        refine r_csj (J := fun (E_ : Rw) => E_) (k2 := k_L_comes) (n := 3) (rest := []) (fun _ => rfl) rfl kv_L_comes (c_L_comes h hm kz v10_163 (1000 + v13_163) hz hz0 _) (by decide) um_L_27 rfl (Nat.le_of_ble_eq_true rfl) dL_gives_202 rfl (fun r10 E11 => ?_)
                        show RunO l Γ k_L_gives 2 encJ (emW ad K0) 205 [(4, .ref (ad kz)), (10, vl v10_163), (12, wi r7), (13, wi v13_163)] [vl r10] E11 _
                        refine r_lstore (lo2 := [(10, vl r10), (4, .ref (ad kz)), (12, wi r7), (13, wi v13_163)]) dL_gives_205 (by decide) rfl ?_
                        refine r_lo [1, 0, 2, 3] (lo2 := [(4, .ref (ad kz)), (10, vl r10), (12, wi r7), (13, wi v13_163)]) rfl ?_
                        exact hJ207 r10 E11
                  refine r_lo [3, 6, 1, 0] (lo2 := [(4, .ref (ad kz)), (10, vl a5), (12, wi r7), (13, wi 0)]) rfl ?_
                  exact hJ163 a5 0 E8
                · refine r_aload (x := ad kz) dL_gives_147 rfl ?_
                  refine r_lload (x := a5) dL_gives_149 rfl ?_
                  refine r_iload (x := r7) dL_gives_151 rfl ?_
                  refine r_csi (J := fun (_ : Unit) => E8) (k2 := k_L_many) (n := 1) (rest := [vl a5, .ref (ad kz)]) (fun _ => rfl) rfl kv_L_many (c_L_many (σ0 := _) r7) (by decide) um_L_35 rfl (Nat.le_of_ble_eq_true rfl) dL_gives_153 rfl (fun r12 _ => ?_)
                  show RunO l Γ k_L_gives 2 encJ (emW ad K0) 156 [(12, wi r7), (3, .ref (ad 6)), (4, .ref (ad kz)), (7, wi a7), (8, wi a8), (10, vl a5)] [wi r12, vl a5, .ref (ad kz)] E8 _
                  refine r_csj (J := fun (E_ : Rw) => E_) (k2 := k_L_comes) (n := 3) (rest := []) (fun _ => rfl) rfl kv_L_comes (c_L_comes h hm kz a5 r12 hz hz0 _) (by decide) um_L_27 rfl (Nat.le_of_ble_eq_true rfl) dL_gives_156 rfl (fun r13 E14 => ?_)
                  show RunO l Γ k_L_gives 2 encJ (emW ad K0) 159 [(12, wi r7), (3, .ref (ad 6)), (4, .ref (ad kz)), (7, wi a7), (8, wi a8), (10, vl a5)] [vl r13] E14 _
                  exact r_lret rfl dL_gives_159
              refine r_icmp_eq (tgt := 122) dL_gives_112 (by decide) ?_ ?_
              · refine r_lo [3, 4, 5, 6, 7] (lo2 := [(3, .ref (ad 6)), (4, .ref (ad kz)), (7, wi a7), (8, wi a8), (10, vl a5)]) rfl ?_
                exact hJ122 E_47
              · refine r_iload (x := a7) dL_gives_115 rfl ?_
                refine r_bipush (v := 6) dL_gives_117 rfl ?_
                refine r_icmp_ne (tgt := 216) dL_gives_119 (by decide) ?_ ?_
                · refine r_iload (x := a7) dL_gives_216 rfl ?_
                  refine r_bipush (v := 7) dL_gives_218 rfl ?_
                  refine r_icmp_ne (tgt := 259) dL_gives_220 (by decide) ?_ ?_
                  · refine r_lo [7] (lo2 := [(10, vl a5)]) rfl ?_
                    exact hJ259 a5 E_47
                  · refine r_aload (x := ad kz) dL_gives_223 rfl ?_
                    refine ro_iconst (v := 1) dL_gives_225 rfl ?_
                    refine r_dup2 dL_gives_226 rfl rfl ?_
                    refine r_wiald h (wz_mem hz) hz0 dL_gives_227 ?_
                    refine ro_iconst (v := 1) dL_gives_228 rfl ?_
                    refine r_iload (x := a8) dL_gives_229 rfl ?_
                    refine r_ishl dL_gives_231 ?_
                    refine r_ior dL_gives_232 ?_
                    refine r_wiast h (wz_mem hz) hz0 dL_gives_233 (fun E15 => ?_)
                    refine r_aload (x := ad kz) dL_gives_234 rfl ?_
                    refine r_lload (x := a5) dL_gives_236 rfl ?_
                    refine r_aload_n (x := ad 0) dL_gives_238 rfl rfl ?_
                    refine r_aload_n (x := ad 1) dL_gives_239 rfl rfl ?_
                    refine r_aload_n (x := ad 2) dL_gives_240 rfl rfl ?_
                    refine r_iload (x := a8) dL_gives_241 rfl ?_
                    refine r_csi (J := fun (E_ : Rw) => E_) (k2 := k_L_present) (n := 4) (rest := [vl a5, .ref (ad kz)]) (fun _ => rfl) rfl kv_L_present (c_L_present h hm a8 _) (by decide) um_L_15 rfl (Nat.le_of_ble_eq_true rfl) dL_gives_243 rfl (fun r16 E17 => ?_)
                    show RunO l Γ k_L_gives 2 encJ (emW ad K0) 246 [(0, .ref (ad 0)), (1, .ref (ad 1)), (2, .ref (ad 2)), (3, .ref (ad 6)), (4, .ref (ad kz)), (7, wi a7), (8, wi a8), (10, vl a5)] [wi r16, vl a5, .ref (ad kz)] E17 _
                    refine r_join (P := fun (J : Int → Rw → Option (Int × Rw)) => ∀ (t0_254 : Int) (E_254 : Rw), RunO l Γ k_L_gives 2 encJ (emW ad K0) 254 [] [wi t0_254, vl a5, .ref (ad kz)] E_254 (J t0_254 E_254)) ?_ (fun J254 hJ254 => ?_)
                    · intro t0_254 E_254
                      show RunO l Γ k_L_gives 2 encJ (emW ad K0) 254 [] [wi t0_254, vl a5, .ref (ad kz)] E_254 (fW_gives_254 kz a5 J259 t0_254 E_254)
                      unfold fW_gives_254
                      refine r_csj (J := fun (E_ : Rw) => E_) (k2 := k_L_comes) (n := 3) (rest := []) (fun _ => rfl) rfl kv_L_comes (c_L_comes h hm kz a5 t0_254 hz hz0 _) (by decide) um_L_27 rfl (Nat.le_of_ble_eq_true rfl) dL_gives_254 rfl (fun r18 E19 => ?_)
                      show RunO l Γ k_L_gives 2 encJ (emW ad K0) 257 [] [vl r18] E19 _
                      refine r_lstore (lo2 := [(10, vl r18)]) dL_gives_257 (by decide) rfl ?_
                      exact hJ259 r18 E19
                    refine r_if_ge (tgt := 253) dL_gives_246 (by decide) ?_ ?_
                    · refine ro_iconst (v := 1) dL_gives_253 rfl ?_
                      refine r_lo [] (lo2 := []) rfl ?_
                      exact hJ254 1 E17
                    · refine ro_iconst (v := 0) dL_gives_249 rfl ?_
                      refine r_goto (tgt := 254) dL_gives_250 (by decide) ?_
                      refine r_lo [] (lo2 := []) rfl ?_
                      exact hJ254 0 E17
                · refine r_lo [3, 4, 5, 6, 7] (lo2 := [(3, .ref (ad 6)), (4, .ref (ad kz)), (7, wi a7), (8, wi a8), (10, vl a5)]) rfl ?_
                  exact hJ122 E_47
            · refine r_aload (x := ad kz) dL_gives_95 rfl ?_
              refine ro_iconst (v := 2) dL_gives_97 rfl ?_
              refine r_dup2 dL_gives_98 rfl rfl ?_
              refine r_wiald h (wz_mem hz) hz0 dL_gives_99 ?_
              refine ro_iconst (v := 1) dL_gives_100 rfl ?_
              refine r_iload (x := a8) dL_gives_101 rfl ?_
              refine r_ishl dL_gives_103 ?_
              refine r_ior dL_gives_104 ?_
              refine r_wiast h (wz_mem hz) hz0 dL_gives_105 (fun E20 => ?_)
              refine r_goto (tgt := 259) dL_gives_106 (by decide) ?_
              refine r_lo [7] (lo2 := [(10, vl a5)]) rfl ?_
              exact hJ259 a5 E20
          · refine r_lo [4, 6, 7] (lo2 := [(4, .ref (ad kz)), (8, wi a8), (10, vl a5)]) rfl ?_
            exact hJ60 E_47
      refine r_icmp_ne (tgt := 47) dL_gives_25 (by decide) ?_ ?_
      · refine r_lo [0, 1, 2, 3, 4, 5, 6, 8] (lo2 := [(0, .ref (ad 0)), (1, .ref (ad 1)), (2, .ref (ad 2)), (3, .ref (ad 6)), (4, .ref (ad kz)), (7, wi a7), (8, wi a8), (10, vl a5)]) rfl ?_
        exact hJ47 E_21
      · refine r_iload (x := a9) dL_gives_28 rfl ?_
        refine r_if_ne (tgt := 47) dL_gives_30 (by decide) ?_ ?_
        · refine r_lo [0, 1, 2, 3, 4, 5, 6, 8] (lo2 := [(0, .ref (ad 0)), (1, .ref (ad 1)), (2, .ref (ad 2)), (3, .ref (ad 6)), (4, .ref (ad kz)), (7, wi a7), (8, wi a8), (10, vl a5)]) rfl ?_
          exact hJ47 E_21
        · refine r_lo [4, 6, 8] (lo2 := [(4, .ref (ad kz)), (8, wi a8), (10, vl a5)]) rfl ?_
          exact hJ33 E_21
    refine r_icmp_ne (tgt := 21) dL_gives_13 (by decide) ?_ ?_
    · refine r_lo [1, 2, 3, 4, 5, 7, 8, 9, 0] (lo2 := [(0, .ref (ad 0)), (1, .ref (ad 1)), (2, .ref (ad 2)), (3, .ref (ad 6)), (4, .ref (ad kz)), (7, wi a7), (8, wi a8), (9, wi a9), (10, vl a5)]) rfl ?_
      exact hJ21 E
    · refine r_iload (x := a9) dL_gives_16 rfl ?_
      refine r_if_gt (tgt := 33) dL_gives_18 (by decide) ?_ ?_
      · refine r_lo [5, 8, 0] (lo2 := [(4, .ref (ad kz)), (8, wi a8), (10, vl a5)]) rfl ?_
        exact hJ33 E
      · refine r_lo [1, 2, 3, 4, 5, 7, 8, 9, 0] (lo2 := [(0, .ref (ad 0)), (1, .ref (ad 1)), (2, .ref (ad 2)), (3, .ref (ad 6)), (4, .ref (ad kz)), (7, wi a7), (8, wi a8), (9, wi a9), (10, vl a5)]) rfl ?_
        exact hJ21 E
def k_L_way : Kd := (yL_way, cL_way, 9, some .int, [])
theorem kv_L_way : KS k_L_way 6 := ⟨uw_mem 767 (by decide +kernel) rfl, uw_mem 93 (by decide +kernel) rfl, uw_mem 766 (by decide +kernel) rfl, ⟨by decide +kernel, by decide +kernel⟩, by decide +kernel, by decide +kernel⟩
set_option maxHeartbeats 8000000 in
set_option maxRecDepth 100000 in
theorem c_L_way {l : Launch} {Γ : Cx} {ad : Nat → Nat} {K0 : Cd} (h : wOn Γ) (hm : ∀ k, k ≤ 10 → ad k ≠ 0) (kz : Nat) (a5 : Int) (hz : kz = 10 ∨ kz = 11) (hz0 : ad kz ≠ 0) (E : Rw) : Ct l Γ k_L_way 3 encI (emW ad K0) [.ref (ad 0), .ref (ad 1), .ref (ad 2), .ref (ad 3), .ref (ad kz), wi a5] E (fW_way kz a5 E) := by
  refine ct_of (by decide +kernel) rfl (Nat.le_of_ble_eq_true rfl) ?_
  refine r_lo [0, 1, 2, 3, 4, 5] (lo2 := [(0, .ref (ad 0)), (1, .ref (ad 1)), (2, .ref (ad 2)), (3, .ref (ad 3)), (4, .ref (ad kz)), (5, wi a5)]) rfl ?_
  unfold fW_way
  refine r_iload (x := a5) dL_way_0 rfl ?_
  refine r_istore (lo2 := [(6, wi a5), (0, .ref (ad 0)), (1, .ref (ad 1)), (2, .ref (ad 2)), (3, .ref (ad 3)), (4, .ref (ad kz)), (5, wi a5)]) dL_way_2 (by decide) rfl ?_
  refine ro_iconst (v := 0) dL_way_4 rfl ?_
  refine r_istore (lo2 := [(7, wi 0), (6, wi a5), (0, .ref (ad 0)), (1, .ref (ad 1)), (2, .ref (ad 2)), (3, .ref (ad 3)), (4, .ref (ad kz)), (5, wi a5)]) dL_way_5 (by decide) rfl ?_
  refine r_loop (P := fun (J : Int → Int → Rw → Option (Int × Rw)) => ∀ (v6_7 : Int) (v7_7 : Int) (E_7 : Rw), RunO l Γ k_L_way 3 encI (emW ad K0) 7 [(0, .ref (ad 0)), (1, .ref (ad 1)), (2, .ref (ad 2)), (3, .ref (ad 3)), (4, .ref (ad kz)), (6, wi v6_7), (7, wi v7_7)] [] E_7 (J v6_7 v7_7 E_7)) ?_ (fun L7 hL7 => ?_) (fun J7 hJ7 => ?_)
  · intros; exact ro_none
  · intro v6_7 v7_7 E_7
    refine r_iload (x := v7_7) dL_way_7 rfl ?_
    refine ro_iconst (v := 5) dL_way_9 rfl ?_
    refine r_icmp_ge (tgt := 86) dL_way_10 (by decide) ?_ ?_
    · refine ro_iconst (v := (-1)) dL_way_86 rfl ?_
      exact r_iret rfl dL_way_87
    · refine r_aload (x := ad kz) dL_way_13 rfl ?_
      refine ro_iconst (v := 1) dL_way_15 rfl ?_
      refine r_dup2 dL_way_16 rfl rfl ?_
      refine r_wiald h (wz_mem hz) hz0 dL_way_17 ?_
      refine ro_iconst (v := 1) dL_way_18 rfl ?_
      refine r_iload (x := v6_7) dL_way_19 rfl ?_
      refine r_ishl dL_way_21 ?_
      refine r_ior dL_way_22 ?_
      refine r_wiast h (wz_mem hz) hz0 dL_way_23 (fun E1 => ?_)
      refine r_aload_n (x := ad 0) dL_way_24 rfl rfl ?_
      refine r_aload_n (x := ad 1) dL_way_25 rfl rfl ?_
      refine r_aload_n (x := ad 2) dL_way_26 rfl rfl ?_
      refine r_iload (x := v6_7) dL_way_27 rfl ?_
      refine r_csi (J := fun (E_ : Rw) => E_) (k2 := k_L_present) (n := 4) (rest := []) (fun _ => rfl) rfl kv_L_present (c_L_present h hm v6_7 _) (by decide) um_L_15 rfl (Nat.le_of_ble_eq_true rfl) dL_way_29 rfl (fun r2 E3 => ?_)
      show RunO l Γ k_L_way 3 encI (emW ad K0) 32 [(0, .ref (ad 0)), (1, .ref (ad 1)), (2, .ref (ad 2)), (3, .ref (ad 3)), (4, .ref (ad kz)), (6, wi v6_7), (7, wi v7_7)] [wi r2] E3 _
      refine r_istore (lo2 := [(8, wi r2), (0, .ref (ad 0)), (1, .ref (ad 1)), (2, .ref (ad 2)), (3, .ref (ad 3)), (4, .ref (ad kz)), (6, wi v6_7), (7, wi v7_7)]) dL_way_32 (by decide) rfl ?_
      refine r_iload (x := r2) dL_way_34 rfl ?_
      refine r_join (P := fun (J : Rw → Option (Int × Rw)) => ∀ (E_55 : Rw), RunO l Γ k_L_way 3 encI (emW ad K0) 55 [(6, wi v6_7), (8, wi r2)] [] E_55 (J E_55)) ?_ (fun J55 hJ55 => ?_)
      · intro E_55
        refine r_iload (x := r2) dL_way_55 rfl ?_
        refine r_join (P := fun (J : Int → Rw → Option (Int × Rw)) => ∀ (t0_66 : Int) (E_66 : Rw), RunO l Γ k_L_way 3 encI (emW ad K0) 66 [] [wi t0_66] E_66 (J t0_66 E_66)) ?_ (fun J66 hJ66 => ?_)
        · intro t0_66 E_66
          exact r_iret rfl dL_way_66
        refine r_if_ge (tgt := 64) dL_way_57 (by decide) ?_ ?_
        · refine r_iload (x := v6_7) dL_way_64 rfl ?_
          refine r_lo [] (lo2 := []) rfl ?_
          exact hJ66 v6_7 E_55
        · refine ro_iconst (v := (-1)) dL_way_60 rfl ?_
          refine r_goto (tgt := 66) dL_way_61 (by decide) ?_
          refine r_lo [] (lo2 := []) rfl ?_
          exact hJ66 (-1) E_55
      refine r_if_lt (tgt := 55) dL_way_36 (by decide) ?_ ?_
      · refine r_lo [6, 0] (lo2 := [(6, wi v6_7), (8, wi r2)]) rfl ?_
        exact hJ55 E3
      · refine r_aload_n (x := ad 3) dL_way_39 rfl rfl ?_
        refine r_iload (x := r2) dL_way_40 rfl ?_
        refine r_wlald h (by decide) (hm 3 (by decide)) dL_way_42 ?_
        refine ro_iconst (v := 0) dL_way_43 rfl ?_
        refine r_csi (J := fun (_ : Unit) => E3) (k2 := k_L_macro) (n := 2) (rest := []) (fun _ => rfl) rfl kv_L_macro (c_L_macro (σ0 := _) (E3 3 (ix r2)) 0) (by decide) um_L_19 rfl (Nat.le_of_ble_eq_true rfl) dL_way_44 rfl (fun r4 _ => ?_)
        show RunO l Γ k_L_way 3 encI (emW ad K0) 47 [(8, wi r2), (0, .ref (ad 0)), (1, .ref (ad 1)), (2, .ref (ad 2)), (3, .ref (ad 3)), (4, .ref (ad kz)), (6, wi v6_7), (7, wi v7_7)] [wi r4] E3 _
        refine r_bipush (v := 16) dL_way_47 rfl ?_
        refine r_irem dL_way_49 (by decide) ?_
        refine r_bipush (v := 10) dL_way_50 rfl ?_
        refine r_icmp_eq (tgt := 67) dL_way_52 (by decide) ?_ ?_
        · refine r_aload_n (x := ad 3) dL_way_67 rfl rfl ?_
          refine r_iload (x := r2) dL_way_68 rfl ?_
          refine r_wlald h (by decide) (hm 3 (by decide)) dL_way_70 ?_
          refine ro_iconst (v := 0) dL_way_71 rfl ?_
          refine r_csi (J := fun (_ : Unit) => E3) (k2 := k_L_macro) (n := 2) (rest := []) (fun _ => rfl) rfl kv_L_macro (c_L_macro (σ0 := _) (E3 3 (ix r2)) 0) (by decide) um_L_19 rfl (Nat.le_of_ble_eq_true rfl) dL_way_72 rfl (fun r5 _ => ?_)
          show RunO l Γ k_L_way 3 encI (emW ad K0) 75 [(8, wi r2), (0, .ref (ad 0)), (1, .ref (ad 1)), (2, .ref (ad 2)), (3, .ref (ad 3)), (4, .ref (ad kz)), (6, wi v6_7), (7, wi v7_7)] [wi r5] E3 _
          refine r_bipush (v := 16) dL_way_75 rfl ?_
          refine r_idiv dL_way_77 (by decide) ?_
          refine r_nm (fun x6_78 => ?_)
          refine r_istore (lo2 := [(6, wi x6_78), (8, wi r2), (0, .ref (ad 0)), (1, .ref (ad 1)), (2, .ref (ad 2)), (3, .ref (ad 3)), (4, .ref (ad kz)), (7, wi v7_7)]) dL_way_78 (by decide) rfl ?_
          refine r_iinc (x := v7_7) (lo2 := [(7, wi (v7_7 + 1)), (6, wi x6_78), (8, wi r2), (0, .ref (ad 0)), (1, .ref (ad 1)), (2, .ref (ad 2)), (3, .ref (ad 3)), (4, .ref (ad kz))]) dL_way_80 rfl (by decide) rfl ?_
          refine r_goto (tgt := 7) dL_way_83 (by decide) ?_
          refine r_lo [3, 4, 5, 6, 7, 1, 0] (lo2 := [(0, .ref (ad 0)), (1, .ref (ad 1)), (2, .ref (ad 2)), (3, .ref (ad 3)), (4, .ref (ad kz)), (6, wi x6_78), (7, wi (v7_7 + 1))]) rfl ?_
          exact hL7 x6_78 (v7_7 + 1) E3
        · refine r_lo [6, 0] (lo2 := [(6, wi v6_7), (8, wi r2)]) rfl ?_
          exact hJ55 E3
  refine r_lo [2, 3, 4, 5, 6, 1, 0] (lo2 := [(0, .ref (ad 0)), (1, .ref (ad 1)), (2, .ref (ad 2)), (3, .ref (ad 3)), (4, .ref (ad kz)), (6, wi a5), (7, wi 0)]) rfl ?_
  exact hJ7 a5 0 E
def k_L_renders : Kd := (yL_renders, cL_renders, 17, some .long, [])
theorem kv_L_renders : KS k_L_renders 7 := ⟨uw_mem 746 (by decide +kernel) rfl, uw_mem 93 (by decide +kernel) rfl, uw_mem 745 (by decide +kernel) rfl, ⟨by decide +kernel, by decide +kernel⟩, by decide +kernel, by decide +kernel⟩
set_option maxHeartbeats 8000000 in
set_option maxRecDepth 100000 in
theorem b_L_renders {l : Launch} {Γ : Cx} {ad : Nat → Nat} {K0 : Cd} (h : wOn Γ) (hm : ∀ k, k ≤ 10 → ad k ≠ 0) (hb : ∀ k, 12 ≤ k → k ≤ 14 → ad k ≠ 0) (kz : Nat) (a6 : Int) (hz : kz = 10 ∨ kz = 11) (hz0 : ad kz ≠ 0) (E : Rw) : RunO l Γ k_L_renders 4 encJ (emW ad K0) 18 [(0, .ref (ad 0)), (1, .ref (ad 1)), (2, .ref (ad 2)), (3, .ref (ad 3)), (4, .ref (ad 6)), (5, .ref (ad kz)), (6, wi a6), (7, .ref (ad 12)), (8, .ref (ad 13)), (9, .ref (ad 14))] [] E (fW_renders kz a6 E) := by
  unfold fW_renders
  refine ro_iconst (v := 0) dL_renders_18 rfl ?_
  refine r_istore (lo2 := [(10, wi 0), (0, .ref (ad 0)), (1, .ref (ad 1)), (2, .ref (ad 2)), (3, .ref (ad 3)), (4, .ref (ad 6)), (5, .ref (ad kz)), (6, wi a6), (7, .ref (ad 12)), (8, .ref (ad 13)), (9, .ref (ad 14))]) dL_renders_19 (by decide) rfl ?_
  refine r_loop (P := fun (J : Int → Rw → Option (Int × Rw)) => ∀ (v10_21 : Int) (E_21 : Rw), RunO l Γ k_L_renders 4 encJ (emW ad K0) 21 [(0, .ref (ad 0)), (1, .ref (ad 1)), (2, .ref (ad 2)), (3, .ref (ad 3)), (4, .ref (ad 6)), (5, .ref (ad kz)), (6, wi a6), (7, .ref (ad 12)), (8, .ref (ad 13)), (9, .ref (ad 14)), (10, wi v10_21)] [] E_21 (J v10_21 E_21)) ?_ (fun L21 hL21 => ?_) (fun J21 hJ21 => ?_)
  · intros; exact ro_none
  · intro v10_21 E_21
    show RunO l Γ k_L_renders 4 encJ (emW ad K0) 21 [(0, .ref (ad 0)), (1, .ref (ad 1)), (2, .ref (ad 2)), (3, .ref (ad 3)), (4, .ref (ad 6)), (5, .ref (ad kz)), (6, wi a6), (7, .ref (ad 12)), (8, .ref (ad 13)), (9, .ref (ad 14)), (10, wi v10_21)] [] E_21 (fW_renders_21 kz a6 L21 v10_21 E_21)
    unfold fW_renders_21
    refine r_iload (x := v10_21) dL_renders_21 rfl ?_
    refine r_bipush (v := 6) dL_renders_23 rfl ?_
    refine r_icmp_ge (tgt := 40) dL_renders_25 (by decide) ?_ ?_
    · refine r_aload (x := ad kz) dL_renders_40 rfl ?_
      refine r_bipush (v := 7) dL_renders_42 rfl ?_
      refine ro_iconst (v := (-1)) dL_renders_44 rfl ?_
      refine r_wiast h (wz_mem hz) hz0 dL_renders_45 (fun E1 => ?_)
      refine r_lconst (x := 1) dL_renders_46 rfl ?_
      refine r_lstore (lo2 := [(10, vl 1), (0, .ref (ad 0)), (1, .ref (ad 1)), (2, .ref (ad 2)), (3, .ref (ad 3)), (4, .ref (ad 6)), (5, .ref (ad kz)), (6, wi a6), (7, .ref (ad 12)), (8, .ref (ad 13)), (9, .ref (ad 14))]) dL_renders_47 (by decide) rfl ?_
      refine ro_iconst (v := 0) dL_renders_49 rfl ?_
      refine r_istore (lo2 := [(12, wi 0), (10, vl 1), (0, .ref (ad 0)), (1, .ref (ad 1)), (2, .ref (ad 2)), (3, .ref (ad 3)), (4, .ref (ad 6)), (5, .ref (ad kz)), (6, wi a6), (7, .ref (ad 12)), (8, .ref (ad 13)), (9, .ref (ad 14))]) dL_renders_50 (by decide) rfl ?_
      refine r_aload (x := ad 12) dL_renders_52 rfl ?_
      refine ro_iconst (v := 0) dL_renders_54 rfl ?_
      refine r_aload_n (x := ad 0) dL_renders_55 rfl rfl ?_
      refine r_aload_n (x := ad 1) dL_renders_56 rfl rfl ?_
      refine r_aload_n (x := ad 2) dL_renders_57 rfl rfl ?_
      refine r_iload (x := a6) dL_renders_58 rfl ?_
      refine r_csi (J := fun (E_ : Rw) => E_) (k2 := k_L_present) (n := 4) (rest := [wi 0, .ref (ad 12)]) (fun _ => rfl) rfl kv_L_present (c_L_present h hm a6 _) (by decide) um_L_15 rfl (Nat.le_of_ble_eq_true rfl) dL_renders_60 rfl (fun r2 E3 => ?_)
      show RunO l Γ k_L_renders 4 encJ (emW ad K0) 63 [(12, wi 0), (10, vl 1), (0, .ref (ad 0)), (1, .ref (ad 1)), (2, .ref (ad 2)), (3, .ref (ad 3)), (4, .ref (ad 6)), (5, .ref (ad kz)), (6, wi a6), (7, .ref (ad 12)), (8, .ref (ad 13)), (9, .ref (ad 14))] [wi r2, wi 0, .ref (ad 12)] E3 _
      refine r_wiast h (by decide) (hb 12 (by decide) (by decide)) dL_renders_63 (fun E4 => ?_)
      refine r_aload (x := ad 14) dL_renders_64 rfl ?_
      refine ro_iconst (v := 0) dL_renders_66 rfl ?_
      refine r_iload (x := a6) dL_renders_67 rfl ?_
      refine r_wiast h (by decide) (hb 14 (by decide) (by decide)) dL_renders_69 (fun E5 => ?_)
      refine r_loop (P := fun (J : Int → Int → Rw → Option (Int × Rw)) => ∀ (v10_70 : Int) (v12_70 : Int) (E_70 : Rw), RunO l Γ k_L_renders 4 encJ (emW ad K0) 70 [(0, .ref (ad 0)), (1, .ref (ad 1)), (2, .ref (ad 2)), (3, .ref (ad 3)), (4, .ref (ad 6)), (5, .ref (ad kz)), (7, .ref (ad 12)), (8, .ref (ad 13)), (9, .ref (ad 14)), (10, vl v10_70), (12, wi v12_70)] [] E_70 (J v10_70 v12_70 E_70)) ?_ (fun L70 hL70 => ?_) (fun J70 hJ70 => ?_)
      · intros; exact ro_none
      · intro v10_70 v12_70 E_70
        show RunO l Γ k_L_renders 4 encJ (emW ad K0) 70 [(0, .ref (ad 0)), (1, .ref (ad 1)), (2, .ref (ad 2)), (3, .ref (ad 3)), (4, .ref (ad 6)), (5, .ref (ad kz)), (7, .ref (ad 12)), (8, .ref (ad 13)), (9, .ref (ad 14)), (10, vl v10_70), (12, wi v12_70)] [] E_70 (fW_renders_70 kz L70 v10_70 v12_70 E_70)
        unfold fW_renders_70
        refine r_iload (x := v12_70) dL_renders_70 rfl ?_
        refine r_if_lt (tgt := 362) dL_renders_72 (by decide) ?_ ?_
        · refine r_aload (x := ad kz) dL_renders_362 rfl ?_
          refine ro_iconst (v := 4) dL_renders_364 rfl ?_
          refine r_aload (x := ad kz) dL_renders_365 rfl ?_
          refine ro_iconst (v := 4) dL_renders_367 rfl ?_
          refine r_wiald h (wz_mem hz) hz0 dL_renders_368 ?_
          refine r_sipush (v := 150) dL_renders_369 rfl ?_
          refine r_join (P := fun (J : Int → Rw → Option (Int × Rw)) => ∀ (t0_385 : Int) (E_385 : Rw), RunO l Γ k_L_renders 4 encJ (emW ad K0) 385 [(10, vl v10_70)] [wi t0_385, wi 4, .ref (ad kz)] E_385 (J t0_385 E_385)) ?_ (fun J385 hJ385 => ?_)
          · intro t0_385 E_385
            show RunO l Γ k_L_renders 4 encJ (emW ad K0) 385 [(10, vl v10_70)] [wi t0_385, wi 4, .ref (ad kz)] E_385 (fW_renders_385 kz v10_70 t0_385 E_385)
            unfold fW_renders_385
            refine r_wiast h (wz_mem hz) hz0 dL_renders_385 (fun E6 => ?_)
            refine r_lload (x := v10_70) dL_renders_386 rfl ?_
            exact r_lret rfl dL_renders_388
          refine r_icmp_le (tgt := 381) dL_renders_372 (by decide) ?_ ?_
          · refine r_aload (x := ad kz) dL_renders_381 rfl ?_
            refine ro_iconst (v := 4) dL_renders_383 rfl ?_
            refine r_wiald h (wz_mem hz) hz0 dL_renders_384 ?_
            refine r_lo [9] (lo2 := [(10, vl v10_70)]) rfl ?_
            exact hJ385 (E_70 kz (ix 4)) E_70
          · refine r_sipush (v := 150) dL_renders_375 rfl ?_
            refine r_goto (tgt := 385) dL_renders_378 (by decide) ?_
            refine r_lo [9] (lo2 := [(10, vl v10_70)]) rfl ?_
            exact hJ385 150 E_70
        · refine r_aload (x := ad 13) dL_renders_75 rfl ?_
          refine r_iload (x := v12_70) dL_renders_77 rfl ?_
          refine r_wiald h (by decide) (hb 13 (by decide) (by decide)) dL_renders_79 ?_
          refine r_aload_n (x := ad 3) dL_renders_80 rfl rfl ?_
          refine r_aload (x := ad 12) dL_renders_81 rfl ?_
          refine r_iload (x := v12_70) dL_renders_83 rfl ?_
          refine r_wiald h (by decide) (hb 12 (by decide) (by decide)) dL_renders_85 ?_
          refine r_wlald h (by decide) (hm 3 (by decide)) dL_renders_86 ?_
          refine r_csi (J := fun (_ : Unit) => E_70) (k2 := k_L_macros) (n := 1) (rest := [wi (E_70 13 (ix v12_70))]) (fun _ => rfl) rfl kv_L_macros (c_L_macros (σ0 := _) (E_70 3 (ix (E_70 12 (ix v12_70))))) (by decide) um_L_7 rfl (Nat.le_of_ble_eq_true rfl) dL_renders_87 rfl (fun r7 _ => ?_)
          show RunO l Γ k_L_renders 4 encJ (emW ad K0) 90 [(0, .ref (ad 0)), (1, .ref (ad 1)), (2, .ref (ad 2)), (3, .ref (ad 3)), (4, .ref (ad 6)), (5, .ref (ad kz)), (7, .ref (ad 12)), (8, .ref (ad 13)), (9, .ref (ad 14)), (10, vl v10_70), (12, wi v12_70)] [wi r7, wi (E_70 13 (ix v12_70))] E_70 _
          refine r_icmp_ne (tgt := 99) dL_renders_90 (by decide) ?_ ?_
          · refine r_aload_n (x := ad 3) dL_renders_99 rfl rfl ?_
            refine r_aload (x := ad 12) dL_renders_100 rfl ?_
            refine r_iload (x := v12_70) dL_renders_102 rfl ?_
            refine r_wiald h (by decide) (hb 12 (by decide) (by decide)) dL_renders_104 ?_
            refine r_wlald h (by decide) (hm 3 (by decide)) dL_renders_105 ?_
            refine r_aload (x := ad 13) dL_renders_106 rfl ?_
            refine r_iload (x := v12_70) dL_renders_108 rfl ?_
            refine r_wiald h (by decide) (hb 13 (by decide) (by decide)) dL_renders_110 ?_
            refine r_csi (J := fun (_ : Unit) => E_70) (k2 := k_L_macro) (n := 2) (rest := []) (fun _ => rfl) rfl kv_L_macro (c_L_macro (σ0 := _) (E_70 3 (ix (E_70 12 (ix v12_70)))) (E_70 13 (ix v12_70))) (by decide) um_L_19 rfl (Nat.le_of_ble_eq_true rfl) dL_renders_111 rfl (fun r8 _ => ?_)
            show RunO l Γ k_L_renders 4 encJ (emW ad K0) 114 [(0, .ref (ad 0)), (1, .ref (ad 1)), (2, .ref (ad 2)), (3, .ref (ad 3)), (4, .ref (ad 6)), (5, .ref (ad kz)), (7, .ref (ad 12)), (8, .ref (ad 13)), (9, .ref (ad 14)), (10, vl v10_70), (12, wi v12_70)] [wi r8] E_70 _
            refine r_istore (lo2 := [(13, wi r8), (0, .ref (ad 0)), (1, .ref (ad 1)), (2, .ref (ad 2)), (3, .ref (ad 3)), (4, .ref (ad 6)), (5, .ref (ad kz)), (7, .ref (ad 12)), (8, .ref (ad 13)), (9, .ref (ad 14)), (10, vl v10_70), (12, wi v12_70)]) dL_renders_114 (by decide) rfl ?_
            refine r_aload (x := ad 13) dL_renders_116 rfl ?_
            refine r_iload (x := v12_70) dL_renders_118 rfl ?_
            refine r_dup2 dL_renders_120 rfl rfl ?_
            refine r_wiald h (by decide) (hb 13 (by decide) (by decide)) dL_renders_121 ?_
            refine ro_iconst (v := 1) dL_renders_122 rfl ?_
            refine r_iadd dL_renders_123 ?_
            refine r_wiast h (by decide) (hb 13 (by decide) (by decide)) dL_renders_124 (fun E9 => ?_)
            refine r_iload (x := r8) dL_renders_125 rfl ?_
            refine r_bipush (v := 16) dL_renders_127 rfl ?_
            refine r_irem dL_renders_129 (by decide) ?_
            refine ro_iconst (v := 2) dL_renders_130 rfl ?_
            refine r_join (P := fun (J : Int → Int → Rw → Option (Int × Rw)) => ∀ (v10_359 : Int) (v12_359 : Int) (E_359 : Rw), RunO l Γ k_L_renders 4 encJ (emW ad K0) 359 [(0, .ref (ad 0)), (1, .ref (ad 1)), (2, .ref (ad 2)), (3, .ref (ad 3)), (4, .ref (ad 6)), (5, .ref (ad kz)), (7, .ref (ad 12)), (8, .ref (ad 13)), (9, .ref (ad 14)), (10, vl v10_359), (12, wi v12_359)] [] E_359 (J v10_359 v12_359 E_359)) ?_ (fun J359 hJ359 => ?_)
            · intro v10_359 v12_359 E_359
              show RunO l Γ k_L_renders 4 encJ (emW ad K0) 359 [(0, .ref (ad 0)), (1, .ref (ad 1)), (2, .ref (ad 2)), (3, .ref (ad 3)), (4, .ref (ad 6)), (5, .ref (ad kz)), (7, .ref (ad 12)), (8, .ref (ad 13)), (9, .ref (ad 14)), (10, vl v10_359), (12, wi v12_359)] [] E_359 (fW_renders_359 L70 v10_359 v12_359 E_359)
              unfold fW_renders_359
              refine r_goto (tgt := 70) dL_renders_359 (by decide) ?_
              exact hL70 v10_359 v12_359 E_359
            refine r_icmp_eq (tgt := 163) dL_renders_131 (by decide) ?_ ?_
            · refine r_aload (x := ad kz) dL_renders_163 rfl ?_
              refine ro_iconst (v := 5) dL_renders_165 rfl ?_
              refine r_wiald h (wz_mem hz) hz0 dL_renders_166 ?_
              refine r_bipush (v := 40) dL_renders_167 rfl ?_
              refine r_icmp_ne (tgt := 187) dL_renders_169 (by decide) ?_ ?_
              · refine r_aload (x := ad kz) dL_renders_187 rfl ?_
                refine ro_iconst (v := 5) dL_renders_189 rfl ?_
                refine r_dup2 dL_renders_190 rfl rfl ?_
                refine r_wiald h (wz_mem hz) hz0 dL_renders_191 ?_
                refine ro_iconst (v := 1) dL_renders_192 rfl ?_
                refine r_iadd dL_renders_193 ?_
                refine r_wiast h (wz_mem hz) hz0 dL_renders_194 (fun E10 => ?_)
                refine r_aload_n (x := ad 0) dL_renders_195 rfl rfl ?_
                refine r_aload_n (x := ad 1) dL_renders_196 rfl rfl ?_
                refine r_aload_n (x := ad 2) dL_renders_197 rfl rfl ?_
                refine r_aload_n (x := ad 3) dL_renders_198 rfl rfl ?_
                refine r_aload (x := ad kz) dL_renders_199 rfl ?_
                refine r_iload (x := r8) dL_renders_201 rfl ?_
                refine r_bipush (v := 16) dL_renders_203 rfl ?_
                refine r_idiv dL_renders_205 (by decide) ?_
                refine r_csi (J := fun (E_ : Rw) => E_) (k2 := k_L_way) (n := 6) (rest := []) (fun _ => rfl) rfl kv_L_way (c_L_way h hm kz (divI r8 16) hz hz0 _) (by decide) um_L_43 rfl (Nat.le_of_ble_eq_true rfl) dL_renders_206 rfl (fun r11 E12 => ?_)
                show RunO l Γ k_L_renders 4 encJ (emW ad K0) 209 [(13, wi r8), (0, .ref (ad 0)), (1, .ref (ad 1)), (2, .ref (ad 2)), (3, .ref (ad 3)), (4, .ref (ad 6)), (5, .ref (ad kz)), (7, .ref (ad 12)), (8, .ref (ad 13)), (9, .ref (ad 14)), (10, vl v10_70), (12, wi v12_70)] [wi r11] E12 _
                refine r_istore (lo2 := [(14, wi r11), (13, wi r8), (0, .ref (ad 0)), (1, .ref (ad 1)), (2, .ref (ad 2)), (3, .ref (ad 3)), (4, .ref (ad 6)), (5, .ref (ad kz)), (7, .ref (ad 12)), (8, .ref (ad 13)), (9, .ref (ad 14)), (10, vl v10_70), (12, wi v12_70)]) dL_renders_209 (by decide) rfl ?_
                refine ro_iconst (v := 0) dL_renders_211 rfl ?_
                refine r_istore (lo2 := [(15, wi 0), (14, wi r11), (13, wi r8), (0, .ref (ad 0)), (1, .ref (ad 1)), (2, .ref (ad 2)), (3, .ref (ad 3)), (4, .ref (ad 6)), (5, .ref (ad kz)), (7, .ref (ad 12)), (8, .ref (ad 13)), (9, .ref (ad 14)), (10, vl v10_70), (12, wi v12_70)]) dL_renders_212 (by decide) rfl ?_
                refine ro_iconst (v := 0) dL_renders_214 rfl ?_
                refine r_istore (lo2 := [(16, wi 0), (15, wi 0), (14, wi r11), (13, wi r8), (0, .ref (ad 0)), (1, .ref (ad 1)), (2, .ref (ad 2)), (3, .ref (ad 3)), (4, .ref (ad 6)), (5, .ref (ad kz)), (7, .ref (ad 12)), (8, .ref (ad 13)), (9, .ref (ad 14)), (10, vl v10_70), (12, wi v12_70)]) dL_renders_215 (by decide) rfl ?_
                refine r_loop (P := fun (J : Int → Int → Rw → Option (Int × Rw)) => ∀ (v15_217 : Int) (v16_217 : Int) (E_217 : Rw), RunO l Γ k_L_renders 4 encJ (emW ad K0) 217 [(0, .ref (ad 0)), (1, .ref (ad 1)), (2, .ref (ad 2)), (3, .ref (ad 3)), (4, .ref (ad 6)), (5, .ref (ad kz)), (7, .ref (ad 12)), (8, .ref (ad 13)), (9, .ref (ad 14)), (10, vl v10_70), (12, wi v12_70), (13, wi r8), (14, wi r11), (15, wi v15_217), (16, wi v16_217)] [] E_217 (J v15_217 v16_217 E_217)) ?_ (fun L217 hL217 => ?_) (fun J217 hJ217 => ?_)
                · intros; exact ro_none
                · intro v15_217 v16_217 E_217
                  show RunO l Γ k_L_renders 4 encJ (emW ad K0) 217 [(0, .ref (ad 0)), (1, .ref (ad 1)), (2, .ref (ad 2)), (3, .ref (ad 3)), (4, .ref (ad 6)), (5, .ref (ad kz)), (7, .ref (ad 12)), (8, .ref (ad 13)), (9, .ref (ad 14)), (10, vl v10_70), (12, wi v12_70), (13, wi r8), (14, wi r11), (15, wi v15_217), (16, wi v16_217)] [] E_217 (fW_renders_217 kz v10_70 v12_70 r8 J359 r11 L217 v15_217 v16_217 E_217)
                  unfold fW_renders_217
                  refine r_iload (x := v16_217) dL_renders_217 rfl ?_
                  refine r_iload (x := v12_70) dL_renders_219 rfl ?_
                  refine r_icmp_gt (tgt := 252) dL_renders_221 (by decide) ?_ ?_
                  · refine r_iload (x := r11) dL_renders_252 rfl ?_
                    refine r_if_ge (tgt := 292) dL_renders_254 (by decide) ?_ ?_
                    · refine r_iload (x := v15_217) dL_renders_292 rfl ?_
                      refine r_join (P := fun (J : Rw → Option (Int × Rw)) => ∀ (E_304 : Rw), RunO l Γ k_L_renders 4 encJ (emW ad K0) 304 [(0, .ref (ad 0)), (1, .ref (ad 1)), (2, .ref (ad 2)), (3, .ref (ad 3)), (4, .ref (ad 6)), (5, .ref (ad kz)), (7, .ref (ad 12)), (8, .ref (ad 13)), (9, .ref (ad 14)), (10, vl v10_70), (12, wi v12_70), (15, wi v15_217)] [] E_304 (J E_304)) ?_ (fun J304 hJ304 => ?_)
                      · intro E_304
                        show RunO l Γ k_L_renders 4 encJ (emW ad K0) 304 [(0, .ref (ad 0)), (1, .ref (ad 1)), (2, .ref (ad 2)), (3, .ref (ad 3)), (4, .ref (ad 6)), (5, .ref (ad kz)), (7, .ref (ad 12)), (8, .ref (ad 13)), (9, .ref (ad 14)), (10, vl v10_70), (12, wi v12_70), (15, wi v15_217)] [] E_304 (fW_renders_304 kz v10_70 v12_70 J359 v15_217 E_304)
                        unfold fW_renders_304
                        refine r_aload (x := ad kz) dL_renders_304 rfl ?_
                        refine r_lload (x := v10_70) dL_renders_306 rfl ?_
                        refine r_iload (x := v15_217) dL_renders_308 rfl ?_
                        refine r_join (P := fun (J : Int → Rw → Option (Int × Rw)) => ∀ (t0_322 : Int) (E_322 : Rw), RunO l Γ k_L_renders 4 encJ (emW ad K0) 322 [(0, .ref (ad 0)), (1, .ref (ad 1)), (2, .ref (ad 2)), (3, .ref (ad 3)), (4, .ref (ad 6)), (5, .ref (ad kz)), (7, .ref (ad 12)), (8, .ref (ad 13)), (9, .ref (ad 14)), (12, wi v12_70)] [wi t0_322, vl v10_70, .ref (ad kz)] E_322 (J t0_322 E_322)) ?_ (fun J322 hJ322 => ?_)
                        · intro t0_322 E_322
                          show RunO l Γ k_L_renders 4 encJ (emW ad K0) 322 [(0, .ref (ad 0)), (1, .ref (ad 1)), (2, .ref (ad 2)), (3, .ref (ad 3)), (4, .ref (ad 6)), (5, .ref (ad kz)), (7, .ref (ad 12)), (8, .ref (ad 13)), (9, .ref (ad 14)), (12, wi v12_70)] [wi t0_322, vl v10_70, .ref (ad kz)] E_322 (fW_renders_322 kz v10_70 v12_70 J359 t0_322 E_322)
                          unfold fW_renders_322
                          refine r_csj (J := fun (E_ : Rw) => E_) (k2 := k_L_comes) (n := 3) (rest := []) (fun _ => rfl) rfl kv_L_comes (c_L_comes h hm kz v10_70 t0_322 hz hz0 _) (by decide) um_L_27 rfl (Nat.le_of_ble_eq_true rfl) dL_renders_322 rfl (fun r13 E14 => ?_)
                          show RunO l Γ k_L_renders 4 encJ (emW ad K0) 325 [(0, .ref (ad 0)), (1, .ref (ad 1)), (2, .ref (ad 2)), (3, .ref (ad 3)), (4, .ref (ad 6)), (5, .ref (ad kz)), (7, .ref (ad 12)), (8, .ref (ad 13)), (9, .ref (ad 14)), (12, wi v12_70)] [vl r13] E14 _
                          refine r_lstore (lo2 := [(10, vl r13), (0, .ref (ad 0)), (1, .ref (ad 1)), (2, .ref (ad 2)), (3, .ref (ad 3)), (4, .ref (ad 6)), (5, .ref (ad kz)), (7, .ref (ad 12)), (8, .ref (ad 13)), (9, .ref (ad 14)), (12, wi v12_70)]) dL_renders_325 (by decide) rfl ?_
                          refine r_goto (tgt := 359) dL_renders_327 (by decide) ?_
                          refine r_lo [1, 2, 3, 4, 5, 6, 7, 8, 9, 0, 10] (lo2 := [(0, .ref (ad 0)), (1, .ref (ad 1)), (2, .ref (ad 2)), (3, .ref (ad 3)), (4, .ref (ad 6)), (5, .ref (ad kz)), (7, .ref (ad 12)), (8, .ref (ad 13)), (9, .ref (ad 14)), (10, vl r13), (12, wi v12_70)]) rfl ?_
                          exact hJ359 r13 v12_70 E14
                        refine r_if_eq (tgt := 319) dL_renders_310 (by decide) ?_ ?_
                        · refine r_sipush (v := 9002) dL_renders_319 rfl ?_
                          refine r_lo [0, 1, 2, 3, 4, 5, 6, 7, 8, 10] (lo2 := [(0, .ref (ad 0)), (1, .ref (ad 1)), (2, .ref (ad 2)), (3, .ref (ad 3)), (4, .ref (ad 6)), (5, .ref (ad kz)), (7, .ref (ad 12)), (8, .ref (ad 13)), (9, .ref (ad 14)), (12, wi v12_70)]) rfl ?_
                          exact hJ322 9002 E_304
                        · refine r_sipush (v := 9001) dL_renders_313 rfl ?_
                          refine r_goto (tgt := 322) dL_renders_316 (by decide) ?_
                          refine r_lo [0, 1, 2, 3, 4, 5, 6, 7, 8, 10] (lo2 := [(0, .ref (ad 0)), (1, .ref (ad 1)), (2, .ref (ad 2)), (3, .ref (ad 3)), (4, .ref (ad 6)), (5, .ref (ad kz)), (7, .ref (ad 12)), (8, .ref (ad 13)), (9, .ref (ad 14)), (12, wi v12_70)]) rfl ?_
                          exact hJ322 9001 E_304
                      refine r_if_ne (tgt := 304) dL_renders_294 (by decide) ?_ ?_
                      · refine r_lo [0, 1, 2, 3, 4, 5, 6, 7, 8, 9, 10, 13] (lo2 := [(0, .ref (ad 0)), (1, .ref (ad 1)), (2, .ref (ad 2)), (3, .ref (ad 3)), (4, .ref (ad 6)), (5, .ref (ad kz)), (7, .ref (ad 12)), (8, .ref (ad 13)), (9, .ref (ad 14)), (10, vl v10_70), (12, wi v12_70), (15, wi v15_217)]) rfl ?_
                        exact hJ304 E_217
                      · refine r_iload (x := v12_70) dL_renders_297 rfl ?_
                        refine r_bipush (v := 6) dL_renders_299 rfl ?_
                        refine r_icmp_ne (tgt := 330) dL_renders_301 (by decide) ?_ ?_
                        · refine r_iinc (x := v12_70) (lo2 := [(12, wi (v12_70 + 1)), (0, .ref (ad 0)), (1, .ref (ad 1)), (2, .ref (ad 2)), (3, .ref (ad 3)), (4, .ref (ad 6)), (5, .ref (ad kz)), (7, .ref (ad 12)), (8, .ref (ad 13)), (9, .ref (ad 14)), (10, vl v10_70), (13, wi r8), (14, wi r11), (15, wi v15_217), (16, wi v16_217)]) dL_renders_330 rfl (by decide) rfl ?_
                          refine r_aload (x := ad 12) dL_renders_333 rfl ?_
                          refine r_iload (x := v12_70 + 1) dL_renders_335 rfl ?_
                          refine r_aload_n (x := ad 0) dL_renders_337 rfl rfl ?_
                          refine r_aload_n (x := ad 1) dL_renders_338 rfl rfl ?_
                          refine r_aload_n (x := ad 2) dL_renders_339 rfl rfl ?_
                          refine r_iload (x := r11) dL_renders_340 rfl ?_
                          refine r_csi (J := fun (E_ : Rw) => E_) (k2 := k_L_present) (n := 4) (rest := [wi (v12_70 + 1), .ref (ad 12)]) (fun _ => rfl) rfl kv_L_present (c_L_present h hm r11 _) (by decide) um_L_15 rfl (Nat.le_of_ble_eq_true rfl) dL_renders_342 rfl (fun r15 E16 => ?_)
                          show RunO l Γ k_L_renders 4 encJ (emW ad K0) 345 [(12, wi (v12_70 + 1)), (0, .ref (ad 0)), (1, .ref (ad 1)), (2, .ref (ad 2)), (3, .ref (ad 3)), (4, .ref (ad 6)), (5, .ref (ad kz)), (7, .ref (ad 12)), (8, .ref (ad 13)), (9, .ref (ad 14)), (10, vl v10_70), (13, wi r8), (14, wi r11), (15, wi v15_217), (16, wi v16_217)] [wi r15, wi (v12_70 + 1), .ref (ad 12)] E16 _
                          refine r_wiast h (by decide) (hb 12 (by decide) (by decide)) dL_renders_345 (fun E17 => ?_)
                          refine r_aload (x := ad 13) dL_renders_346 rfl ?_
                          refine r_iload (x := v12_70 + 1) dL_renders_348 rfl ?_
                          refine ro_iconst (v := 0) dL_renders_350 rfl ?_
                          refine r_wiast h (by decide) (hb 13 (by decide) (by decide)) dL_renders_351 (fun E18 => ?_)
                          refine r_aload (x := ad 14) dL_renders_352 rfl ?_
                          refine r_iload (x := v12_70 + 1) dL_renders_354 rfl ?_
                          refine r_iload (x := r11) dL_renders_356 rfl ?_
                          refine r_wiast h (by decide) (hb 14 (by decide) (by decide)) dL_renders_358 (fun E19 => ?_)
                          refine r_lo [1, 2, 3, 4, 5, 6, 7, 8, 9, 10, 0] (lo2 := [(0, .ref (ad 0)), (1, .ref (ad 1)), (2, .ref (ad 2)), (3, .ref (ad 3)), (4, .ref (ad 6)), (5, .ref (ad kz)), (7, .ref (ad 12)), (8, .ref (ad 13)), (9, .ref (ad 14)), (10, vl v10_70), (12, wi (v12_70 + 1))]) rfl ?_
                          exact hJ359 v10_70 (v12_70 + 1) E19
                        · refine r_lo [0, 1, 2, 3, 4, 5, 6, 7, 8, 9, 10, 13] (lo2 := [(0, .ref (ad 0)), (1, .ref (ad 1)), (2, .ref (ad 2)), (3, .ref (ad 3)), (4, .ref (ad 6)), (5, .ref (ad kz)), (7, .ref (ad 12)), (8, .ref (ad 13)), (9, .ref (ad 14)), (10, vl v10_70), (12, wi v12_70), (15, wi v15_217)]) rfl ?_
                          exact hJ304 E_217
                    · refine r_aload (x := ad kz) dL_renders_257 rfl ?_
                      refine ro_iconst (v := 0) dL_renders_259 rfl ?_
                      refine r_dup2 dL_renders_260 rfl rfl ?_
                      refine r_wiald h (wz_mem hz) hz0 dL_renders_261 ?_
                      refine ro_iconst (v := 1) dL_renders_262 rfl ?_
                      refine r_iload (x := r8) dL_renders_263 rfl ?_
                      refine r_bipush (v := 16) dL_renders_265 rfl ?_
                      refine r_idiv dL_renders_267 (by decide) ?_
                      refine r_ishl dL_renders_268 ?_
                      refine r_ior dL_renders_269 ?_
                      refine r_wiast h (wz_mem hz) hz0 dL_renders_270 (fun E20 => ?_)
                      refine r_aload (x := ad kz) dL_renders_271 rfl ?_
                      refine r_lload (x := v10_70) dL_renders_273 rfl ?_
                      refine r_sipush (v := 2000) dL_renders_275 rfl ?_
                      refine r_iload (x := r8) dL_renders_278 rfl ?_
                      refine r_bipush (v := 16) dL_renders_280 rfl ?_
                      refine r_idiv dL_renders_282 (by decide) ?_
                      refine r_iadd dL_renders_283 ?_
                      refine r_csj (J := fun (E_ : Rw) => E_) (k2 := k_L_comes) (n := 3) (rest := []) (fun _ => rfl) rfl kv_L_comes (c_L_comes h hm kz v10_70 (2000 + (divI r8 16)) hz hz0 _) (by decide) um_L_27 rfl (Nat.le_of_ble_eq_true rfl) dL_renders_284 rfl (fun r21 E22 => ?_)
                      show RunO l Γ k_L_renders 4 encJ (emW ad K0) 287 [(0, .ref (ad 0)), (1, .ref (ad 1)), (2, .ref (ad 2)), (3, .ref (ad 3)), (4, .ref (ad 6)), (5, .ref (ad kz)), (7, .ref (ad 12)), (8, .ref (ad 13)), (9, .ref (ad 14)), (10, vl v10_70), (12, wi v12_70), (13, wi r8), (14, wi r11), (15, wi v15_217), (16, wi v16_217)] [vl r21] E22 _
                      refine r_lstore (lo2 := [(10, vl r21), (0, .ref (ad 0)), (1, .ref (ad 1)), (2, .ref (ad 2)), (3, .ref (ad 3)), (4, .ref (ad 6)), (5, .ref (ad kz)), (7, .ref (ad 12)), (8, .ref (ad 13)), (9, .ref (ad 14)), (12, wi v12_70), (13, wi r8), (14, wi r11), (15, wi v15_217), (16, wi v16_217)]) dL_renders_287 (by decide) rfl ?_
                      refine r_goto (tgt := 359) dL_renders_289 (by decide) ?_
                      refine r_lo [1, 2, 3, 4, 5, 6, 7, 8, 9, 0, 10] (lo2 := [(0, .ref (ad 0)), (1, .ref (ad 1)), (2, .ref (ad 2)), (3, .ref (ad 3)), (4, .ref (ad 6)), (5, .ref (ad kz)), (7, .ref (ad 12)), (8, .ref (ad 13)), (9, .ref (ad 14)), (10, vl r21), (12, wi v12_70)]) rfl ?_
                      exact hJ359 r21 v12_70 E22
                  · refine r_iload (x := v15_217) dL_renders_224 rfl ?_
                    refine r_join (P := fun (J : Int → Rw → Option (Int × Rw)) => ∀ (t0_244 : Int) (E_244 : Rw), RunO l Γ k_L_renders 4 encJ (emW ad K0) 244 [(0, .ref (ad 0)), (1, .ref (ad 1)), (2, .ref (ad 2)), (3, .ref (ad 3)), (4, .ref (ad 6)), (5, .ref (ad kz)), (7, .ref (ad 12)), (8, .ref (ad 13)), (9, .ref (ad 14)), (10, vl v10_70), (12, wi v12_70), (13, wi r8), (14, wi r11), (16, wi v16_217)] [wi t0_244] E_244 (J t0_244 E_244)) ?_ (fun J244 hJ244 => ?_)
                    · intro t0_244 E_244
                      show RunO l Γ k_L_renders 4 encJ (emW ad K0) 244 [(0, .ref (ad 0)), (1, .ref (ad 1)), (2, .ref (ad 2)), (3, .ref (ad 3)), (4, .ref (ad 6)), (5, .ref (ad kz)), (7, .ref (ad 12)), (8, .ref (ad 13)), (9, .ref (ad 14)), (10, vl v10_70), (12, wi v12_70), (13, wi r8), (14, wi r11), (16, wi v16_217)] [wi t0_244] E_244 (fW_renders_244 L217 v16_217 t0_244 E_244)
                      unfold fW_renders_244
                      refine r_istore (lo2 := [(15, wi t0_244), (0, .ref (ad 0)), (1, .ref (ad 1)), (2, .ref (ad 2)), (3, .ref (ad 3)), (4, .ref (ad 6)), (5, .ref (ad kz)), (7, .ref (ad 12)), (8, .ref (ad 13)), (9, .ref (ad 14)), (10, vl v10_70), (12, wi v12_70), (13, wi r8), (14, wi r11), (16, wi v16_217)]) dL_renders_244 (by decide) rfl ?_
                      refine r_iinc (x := v16_217) (lo2 := [(16, wi (v16_217 + 1)), (15, wi t0_244), (0, .ref (ad 0)), (1, .ref (ad 1)), (2, .ref (ad 2)), (3, .ref (ad 3)), (4, .ref (ad 6)), (5, .ref (ad kz)), (7, .ref (ad 12)), (8, .ref (ad 13)), (9, .ref (ad 14)), (10, vl v10_70), (12, wi v12_70), (13, wi r8), (14, wi r11)]) dL_renders_246 rfl (by decide) rfl ?_
                      refine r_goto (tgt := 217) dL_renders_249 (by decide) ?_
                      refine r_lo [2, 3, 4, 5, 6, 7, 8, 9, 10, 11, 12, 13, 14, 1, 0] (lo2 := [(0, .ref (ad 0)), (1, .ref (ad 1)), (2, .ref (ad 2)), (3, .ref (ad 3)), (4, .ref (ad 6)), (5, .ref (ad kz)), (7, .ref (ad 12)), (8, .ref (ad 13)), (9, .ref (ad 14)), (10, vl v10_70), (12, wi v12_70), (13, wi r8), (14, wi r11), (15, wi t0_244), (16, wi (v16_217 + 1))]) rfl ?_
                      exact hL217 t0_244 (v16_217 + 1) E_244
                    refine r_join (P := fun (J : Rw → Option (Int × Rw)) => ∀ (E_239 : Rw), RunO l Γ k_L_renders 4 encJ (emW ad K0) 239 [(0, .ref (ad 0)), (1, .ref (ad 1)), (2, .ref (ad 2)), (3, .ref (ad 3)), (4, .ref (ad 6)), (5, .ref (ad kz)), (7, .ref (ad 12)), (8, .ref (ad 13)), (9, .ref (ad 14)), (10, vl v10_70), (12, wi v12_70), (13, wi r8), (14, wi r11), (16, wi v16_217)] [] E_239 (J E_239)) ?_ (fun J239 hJ239 => ?_)
                    · intro E_239
                      show RunO l Γ k_L_renders 4 encJ (emW ad K0) 239 [(0, .ref (ad 0)), (1, .ref (ad 1)), (2, .ref (ad 2)), (3, .ref (ad 3)), (4, .ref (ad 6)), (5, .ref (ad kz)), (7, .ref (ad 12)), (8, .ref (ad 13)), (9, .ref (ad 14)), (10, vl v10_70), (12, wi v12_70), (13, wi r8), (14, wi r11), (16, wi v16_217)] [] E_239 (fW_renders_239 J244 E_239)
                      unfold fW_renders_239
                      refine ro_iconst (v := 1) dL_renders_239 rfl ?_
                      refine r_goto (tgt := 244) dL_renders_240 (by decide) ?_
                      exact hJ244 1 E_239
                    refine r_if_ne (tgt := 239) dL_renders_226 (by decide) ?_ ?_
                    · refine r_lo [0, 1, 2, 3, 4, 5, 6, 7, 8, 9, 10, 11, 12, 14] (lo2 := [(0, .ref (ad 0)), (1, .ref (ad 1)), (2, .ref (ad 2)), (3, .ref (ad 3)), (4, .ref (ad 6)), (5, .ref (ad kz)), (7, .ref (ad 12)), (8, .ref (ad 13)), (9, .ref (ad 14)), (10, vl v10_70), (12, wi v12_70), (13, wi r8), (14, wi r11), (16, wi v16_217)]) rfl ?_
                      exact hJ239 E_217
                    · refine r_aload (x := ad 14) dL_renders_229 rfl ?_
                      refine r_iload (x := v16_217) dL_renders_231 rfl ?_
                      refine r_wiald h (by decide) (hb 14 (by decide) (by decide)) dL_renders_233 ?_
                      refine r_iload (x := r11) dL_renders_234 rfl ?_
                      refine r_icmp_ne (tgt := 243) dL_renders_236 (by decide) ?_ ?_
                      · refine ro_iconst (v := 0) dL_renders_243 rfl ?_
                        refine r_lo [0, 1, 2, 3, 4, 5, 6, 7, 8, 9, 10, 11, 12, 14] (lo2 := [(0, .ref (ad 0)), (1, .ref (ad 1)), (2, .ref (ad 2)), (3, .ref (ad 3)), (4, .ref (ad 6)), (5, .ref (ad kz)), (7, .ref (ad 12)), (8, .ref (ad 13)), (9, .ref (ad 14)), (10, vl v10_70), (12, wi v12_70), (13, wi r8), (14, wi r11), (16, wi v16_217)]) rfl ?_
                        exact hJ244 0 E_217
                      · refine r_lo [0, 1, 2, 3, 4, 5, 6, 7, 8, 9, 10, 11, 12, 14] (lo2 := [(0, .ref (ad 0)), (1, .ref (ad 1)), (2, .ref (ad 2)), (3, .ref (ad 3)), (4, .ref (ad 6)), (5, .ref (ad kz)), (7, .ref (ad 12)), (8, .ref (ad 13)), (9, .ref (ad 14)), (10, vl v10_70), (12, wi v12_70), (13, wi r8), (14, wi r11), (16, wi v16_217)]) rfl ?_
                        exact hJ239 E_217
                refine r_lo [4, 5, 6, 7, 8, 9, 10, 11, 12, 13, 14, 3, 2, 1, 0] (lo2 := [(0, .ref (ad 0)), (1, .ref (ad 1)), (2, .ref (ad 2)), (3, .ref (ad 3)), (4, .ref (ad 6)), (5, .ref (ad kz)), (7, .ref (ad 12)), (8, .ref (ad 13)), (9, .ref (ad 14)), (10, vl v10_70), (12, wi v12_70), (13, wi r8), (14, wi r11), (15, wi 0), (16, wi 0)]) rfl ?_
                exact hJ217 0 0 E12
              · refine r_aload (x := ad kz) dL_renders_172 rfl ?_
                refine r_lload (x := v10_70) dL_renders_174 rfl ?_
                refine r_sipush (v := 9003) dL_renders_176 rfl ?_
                refine r_csj (J := fun (E_ : Rw) => E_) (k2 := k_L_comes) (n := 3) (rest := []) (fun _ => rfl) rfl kv_L_comes (c_L_comes h hm kz v10_70 9003 hz hz0 _) (by decide) um_L_27 rfl (Nat.le_of_ble_eq_true rfl) dL_renders_179 rfl (fun r23 E24 => ?_)
                show RunO l Γ k_L_renders 4 encJ (emW ad K0) 182 [(13, wi r8), (0, .ref (ad 0)), (1, .ref (ad 1)), (2, .ref (ad 2)), (3, .ref (ad 3)), (4, .ref (ad 6)), (5, .ref (ad kz)), (7, .ref (ad 12)), (8, .ref (ad 13)), (9, .ref (ad 14)), (10, vl v10_70), (12, wi v12_70)] [vl r23] E24 _
                refine r_lstore (lo2 := [(10, vl r23), (13, wi r8), (0, .ref (ad 0)), (1, .ref (ad 1)), (2, .ref (ad 2)), (3, .ref (ad 3)), (4, .ref (ad 6)), (5, .ref (ad kz)), (7, .ref (ad 12)), (8, .ref (ad 13)), (9, .ref (ad 14)), (12, wi v12_70)]) dL_renders_182 (by decide) rfl ?_
                refine r_goto (tgt := 359) dL_renders_184 (by decide) ?_
                refine r_lo [2, 3, 4, 5, 6, 7, 8, 9, 10, 0, 11] (lo2 := [(0, .ref (ad 0)), (1, .ref (ad 1)), (2, .ref (ad 2)), (3, .ref (ad 3)), (4, .ref (ad 6)), (5, .ref (ad kz)), (7, .ref (ad 12)), (8, .ref (ad 13)), (9, .ref (ad 14)), (10, vl r23), (12, wi v12_70)]) rfl ?_
                exact hJ359 r23 v12_70 E24
            · refine r_aload_n (x := ad 0) dL_renders_134 rfl rfl ?_
              refine r_aload_n (x := ad 1) dL_renders_135 rfl rfl ?_
              refine r_aload_n (x := ad 2) dL_renders_136 rfl rfl ?_
              refine r_aload (x := ad 6) dL_renders_137 rfl ?_
              refine r_aload (x := ad kz) dL_renders_139 rfl ?_
              refine r_lload (x := v10_70) dL_renders_141 rfl ?_
              refine r_iload (x := r8) dL_renders_143 rfl ?_
              refine r_bipush (v := 16) dL_renders_145 rfl ?_
              refine r_irem dL_renders_147 (by decide) ?_
              refine r_iload (x := r8) dL_renders_148 rfl ?_
              refine r_bipush (v := 16) dL_renders_150 rfl ?_
              refine r_idiv dL_renders_152 (by decide) ?_
              refine r_iload (x := v12_70) dL_renders_153 rfl ?_
              refine r_csj (J := fun (E_ : Rw) => E_) (k2 := k_L_gives) (n := 9) (rest := []) (fun _ => rfl) rfl kv_L_gives (c_L_gives h hm kz v10_70 (remI r8 16) (divI r8 16) v12_70 hz hz0 _) (by decide) um_L_39 rfl (Nat.le_of_ble_eq_true rfl) dL_renders_155 rfl (fun r25 E26 => ?_)
              show RunO l Γ k_L_renders 4 encJ (emW ad K0) 158 [(13, wi r8), (0, .ref (ad 0)), (1, .ref (ad 1)), (2, .ref (ad 2)), (3, .ref (ad 3)), (4, .ref (ad 6)), (5, .ref (ad kz)), (7, .ref (ad 12)), (8, .ref (ad 13)), (9, .ref (ad 14)), (10, vl v10_70), (12, wi v12_70)] [vl r25] E26 _
              refine r_lstore (lo2 := [(10, vl r25), (13, wi r8), (0, .ref (ad 0)), (1, .ref (ad 1)), (2, .ref (ad 2)), (3, .ref (ad 3)), (4, .ref (ad 6)), (5, .ref (ad kz)), (7, .ref (ad 12)), (8, .ref (ad 13)), (9, .ref (ad 14)), (12, wi v12_70)]) dL_renders_158 (by decide) rfl ?_
              refine r_goto (tgt := 359) dL_renders_160 (by decide) ?_
              refine r_lo [2, 3, 4, 5, 6, 7, 8, 9, 10, 0, 11] (lo2 := [(0, .ref (ad 0)), (1, .ref (ad 1)), (2, .ref (ad 2)), (3, .ref (ad 3)), (4, .ref (ad 6)), (5, .ref (ad kz)), (7, .ref (ad 12)), (8, .ref (ad 13)), (9, .ref (ad 14)), (10, vl r25), (12, wi v12_70)]) rfl ?_
              exact hJ359 r25 v12_70 E26
          · refine r_iinc (x := v12_70) (lo2 := [(12, wi (v12_70 + (-1))), (0, .ref (ad 0)), (1, .ref (ad 1)), (2, .ref (ad 2)), (3, .ref (ad 3)), (4, .ref (ad 6)), (5, .ref (ad kz)), (7, .ref (ad 12)), (8, .ref (ad 13)), (9, .ref (ad 14)), (10, vl v10_70)]) dL_renders_93 rfl (by decide) rfl ?_
            refine r_goto (tgt := 70) dL_renders_96 (by decide) ?_
            refine r_lo [1, 2, 3, 4, 5, 6, 7, 8, 9, 10, 0] (lo2 := [(0, .ref (ad 0)), (1, .ref (ad 1)), (2, .ref (ad 2)), (3, .ref (ad 3)), (4, .ref (ad 6)), (5, .ref (ad kz)), (7, .ref (ad 12)), (8, .ref (ad 13)), (9, .ref (ad 14)), (10, vl v10_70), (12, wi (v12_70 + (-1)))]) rfl ?_
            exact hL70 v10_70 (v12_70 + (-1)) E_70
      refine r_lo [2, 3, 4, 5, 6, 7, 9, 10, 11, 1, 0] (lo2 := [(0, .ref (ad 0)), (1, .ref (ad 1)), (2, .ref (ad 2)), (3, .ref (ad 3)), (4, .ref (ad 6)), (5, .ref (ad kz)), (7, .ref (ad 12)), (8, .ref (ad 13)), (9, .ref (ad 14)), (10, vl 1), (12, wi 0)]) rfl ?_
      exact hJ70 1 0 E5
    · refine r_aload (x := ad kz) dL_renders_28 rfl ?_
      refine r_iload (x := v10_21) dL_renders_30 rfl ?_
      refine ro_iconst (v := 0) dL_renders_32 rfl ?_
      refine r_wiast h (wz_mem hz) hz0 dL_renders_33 (fun E27 => ?_)
      refine r_iinc (x := v10_21) (lo2 := [(10, wi (v10_21 + 1)), (0, .ref (ad 0)), (1, .ref (ad 1)), (2, .ref (ad 2)), (3, .ref (ad 3)), (4, .ref (ad 6)), (5, .ref (ad kz)), (6, wi a6), (7, .ref (ad 12)), (8, .ref (ad 13)), (9, .ref (ad 14))]) dL_renders_34 rfl (by decide) rfl ?_
      refine r_goto (tgt := 21) dL_renders_37 (by decide) ?_
      refine r_lo [1, 2, 3, 4, 5, 6, 7, 8, 9, 10, 0] (lo2 := [(0, .ref (ad 0)), (1, .ref (ad 1)), (2, .ref (ad 2)), (3, .ref (ad 3)), (4, .ref (ad 6)), (5, .ref (ad kz)), (6, wi a6), (7, .ref (ad 12)), (8, .ref (ad 13)), (9, .ref (ad 14)), (10, wi (v10_21 + 1))]) rfl ?_
      exact hL21 (v10_21 + 1) E27
  refine r_lo [1, 2, 3, 4, 5, 6, 7, 8, 9, 10, 0] (lo2 := [(0, .ref (ad 0)), (1, .ref (ad 1)), (2, .ref (ad 2)), (3, .ref (ad 3)), (4, .ref (ad 6)), (5, .ref (ad kz)), (6, wi a6), (7, .ref (ad 12)), (8, .ref (ad 13)), (9, .ref (ad 14)), (10, wi 0)]) rfl ?_
  exact hJ21 0 E
theorem ro_J {ρ S S2 : Type} {l : Launch} {Γ : Cx} {k : Kd} {d : Nat} {enc : ρ → Out} {em : S → St} {pc : Nat} {lo : List (Nat × Value)} {st : List Value} {J : S2 → S} {s2 : S2} {X2 : Option (ρ × S2)} (K : RunO l Γ k d enc (fun s => em (J s)) pc lo st s2 X2) : RunO l Γ k d enc em pc lo st (J s2) (X2.map (fun q => (q.1, J q.2))) := by
  intro r σ' hX
  obtain ⟨⟨r0, s0⟩, hX0, e⟩ := Option.map_eq_some_iff.mp hX
  cases e
  exact K r0 s0 hX0
theorem c_L_renders {l : Launch} {Γ : Cx} {ma : Nat → Nat} (h : wOn Γ) (hm : ∀ k, k ≤ 10 → ma k ≠ 0) (kz : Nat) (a6 : Int) (hz : kz = 10 ∨ kz = 11) {q : Nat → Nat} (hz0 : adq ma q kz ≠ 0) (E : Rw) (C : Cd) : Ct l Γ k_L_renders 4 encJ (em3 ma) [.ref (ma 0), .ref (ma 1), .ref (ma 2), .ref (ma 3), .ref (ma 6), .ref (adq ma q kz), wi a6] (E, C, q) (fW_renders3 kz a6 E C q) := by
  refine ct_of (by decide +kernel) rfl (Nat.le_of_ble_eq_true rfl) ?_
  refine r_lo [0, 1, 2, 3, 4, 5, 6] (lo2 := [(0, .ref (ma 0)), (1, .ref (ma 1)), (2, .ref (ma 2)), (3, .ref (ma 3)), (4, .ref (ma 6)), (5, .ref (adq ma q kz)), (6, wi a6)]) rfl ?_
  unfold fW_renders3
  by_cases hc : csz C = 0
  · rw [if_pos hc]; exact ro_none
  rw [if_neg hc]
  refine r_bipush (v := 8) dL_renders_0 rfl ?_
  refine r_new3 (kk := 12) (n := 8) h (by decide) (by decide) rfl (by decide) rfl ua_I dL_renders_2 ?_
  refine r_astore (x := csz C) (lo2 := [(7, .ref (csz C)), (0, .ref (ma 0)), (1, .ref (ma 1)), (2, .ref (ma 2)), (3, .ref (ma 3)), (4, .ref (ma 6)), (5, .ref (adq ma q kz)), (6, wi a6)]) dL_renders_4 (by decide) rfl ?_
  refine r_bipush (v := 8) dL_renders_6 rfl ?_
  refine r_new3 (kk := 13) (n := 8) h (by decide) (by decide) rfl (by decide) rfl ua_I dL_renders_8 ?_
  refine r_astore (x := csz C + 1) (lo2 := [(8, .ref (csz C + 1)), (7, .ref (csz C)), (0, .ref (ma 0)), (1, .ref (ma 1)), (2, .ref (ma 2)), (3, .ref (ma 3)), (4, .ref (ma 6)), (5, .ref (adq ma q kz)), (6, wi a6)]) dL_renders_10 (by decide) rfl ?_
  refine r_bipush (v := 8) dL_renders_12 rfl ?_
  refine r_new3 (kk := 14) (n := 8) h (by decide) (by decide) rfl (by decide) rfl ua_I dL_renders_14 ?_
  refine r_astore (x := csz C + 2) (lo2 := [(9, .ref (csz C + 2)), (8, .ref (csz C + 1)), (7, .ref (csz C)), (0, .ref (ma 0)), (1, .ref (ma 1)), (2, .ref (ma 2)), (3, .ref (ma 3)), (4, .ref (ma 6)), (5, .ref (adq ma q kz)), (6, wi a6)]) dL_renders_16 (by decide) rfl ?_
  refine r_lo [3, 4, 5, 6, 7, 8, 9, 2, 1, 0] (lo2 := [(0, .ref (ma 0)), (1, .ref (ma 1)), (2, .ref (ma 2)), (3, .ref (ma 3)), (4, .ref (ma 6)), (5, .ref (adq ma q kz)), (6, wi a6), (7, .ref (csz C)), (8, .ref (csz C + 1)), (9, .ref (csz C + 2))]) rfl ?_
  have hb : ∀ k, 12 ≤ k → k ≤ 14 → adq ma (setq (setq (setq q 12 (csz C)) 13 (csz C + 1)) 14 (csz C + 2)) k ≠ 0 := fun k k1 k2 => by
    rcases (show k = 12 ∨ k = 13 ∨ k = 14 by omega) with e | e | e <;> subst e
    · exact hc
    · exact Nat.succ_ne_zero _
    · exact Nat.succ_ne_zero _
  have key := fun (hz1 : adq ma (setq (setq (setq q 12 (csz C)) 13 (csz C + 1)) 14 (csz C + 2)) kz ≠ 0) => b_L_renders (l := l) (Γ := Γ) (K0 := cBumpA (cBumpA (cBumpA C 8) 8) 8) h (adq_hm (q := setq (setq (setq q 12 (csz C)) 13 (csz C + 1)) 14 (csz C + 2)) hm) hb kz a6 hz hz1 (zRow (zRow (zRow E 12) 13) 14)
  rcases hz with e | e
  · subst e
    exact ro_J (em := em3 ma) (J := fun (E_ : Rw) => (E_, cBumpA (cBumpA (cBumpA C 8) 8) 8, setq (setq (setq q 12 (csz C)) 13 (csz C + 1)) 14 (csz C + 2))) (key hz0)
  · subst e
    exact ro_J (em := em3 ma) (J := fun (E_ : Rw) => (E_, cBumpA (cBumpA (cBumpA C 8) 8) 8, setq (setq (setq q 12 (csz C)) 13 (csz C + 1)) 14 (csz C + 2))) (key hz0)
def k_L_isAnew : Kd := (yL_isAnew, cL_isAnew, 13, some .boolean, [])
theorem kv_L_isAnew : KS k_L_isAnew 9 := ⟨uw_mem 1512 (by decide +kernel) rfl, uw_mem 93 (by decide +kernel) rfl, uw_mem 1511 (by decide +kernel) rfl, ⟨by decide +kernel, by decide +kernel⟩, by decide +kernel, by decide +kernel⟩
set_option maxHeartbeats 8000000 in
set_option maxRecDepth 100000 in
theorem c_L_isAnew {l : Launch} {Γ : Cx} {ma : Nat → Nat} (h : wOn Γ) (hm : ∀ k, k ≤ 10 → ma k ≠ 0) (hG : GK Γ l) (hX : XN Γ) (a0 : Nat) (a6 : Nat) (a7 : Int) (a8 : Int) (E : Rw) (C : Cd) (q : (Nat → Nat)) : Ct l Γ k_L_isAnew 14 encI (em3 ma) [.ref a0, .ref (ma 0), .ref (ma 1), .ref (ma 2), .ref (ma 3), .ref (ma 6), .ref a6, wi a7, wi a8] (E, C, q) (fW_isAnew a0 a6 a7 a8 E C q) := by
  refine ct_of (by decide +kernel) rfl (Nat.le_of_ble_eq_true rfl) ?_
  refine r_lo [0, 1, 2, 3, 4, 5, 6, 7, 8] (lo2 := [(0, .ref a0), (1, .ref (ma 0)), (2, .ref (ma 1)), (3, .ref (ma 2)), (4, .ref (ma 3)), (5, .ref (ma 6)), (6, .ref a6), (7, wi a7), (8, wi a8)]) rfl ?_
  unfold fW_isAnew
  refine r_aload_n (x := ma 0) dL_isAnew_0 rfl rfl ?_
  refine r_aload_n (x := ma 1) dL_isAnew_1 rfl rfl ?_
  refine r_aload_n (x := ma 2) dL_isAnew_2 rfl rfl ?_
  refine r_aload (x := ma 3) dL_isAnew_3 rfl ?_
  refine r_aload (x := ma 6) dL_isAnew_5 rfl ?_
  refine r_aload (x := a6) dL_isAnew_7 rfl ?_
  refine r_iload (x := a7) dL_isAnew_9 rfl ?_
  refine ro_if (fun hy2 => ?_) (fun _ => ro_none)
  refine r_cs3j (k2 := k_L_renders) (n := 7) (rest := []) rfl kv_L_renders (c_L_renders h hm 11 a7 (Or.inr rfl) hy2.2 _ _) (by decide) um_L_47 rfl (Nat.le_of_ble_eq_true rfl) dL_isAnew_11 (by obtain ⟨e_, _⟩ := hy2; rw [← e_]; rfl) (fun r1 E3 C4 q5 => ?_)
  refine r_lstore (lo2 := [(9, vl r1), (0, .ref a0), (1, .ref (ma 0)), (2, .ref (ma 1)), (3, .ref (ma 2)), (4, .ref (ma 3)), (5, .ref (ma 6)), (6, .ref a6), (7, wi a7), (8, wi a8)]) dL_isAnew_14 (by decide) rfl ?_
  refine r_aload (x := a6) dL_isAnew_16 rfl ?_
  refine ro_iconst (v := 4) dL_isAnew_18 rfl ?_
  refine r_yiald h dL_isAnew_19 ?_
  refine r_nm (fun x11_20 => ?_)
  refine r_istore (lo2 := [(11, wi x11_20), (9, vl r1), (0, .ref a0), (1, .ref (ma 0)), (2, .ref (ma 1)), (3, .ref (ma 2)), (4, .ref (ma 3)), (5, .ref (ma 6)), (6, .ref a6), (7, wi a7), (8, wi a8)]) dL_isAnew_20 (by decide) rfl ?_
  refine r_aload (x := a6) dL_isAnew_22 rfl ?_
  refine r_bipush (v := 6) dL_isAnew_24 rfl ?_
  refine r_iload (x := x11_20) dL_isAnew_26 rfl ?_
  refine r_join (P := fun (J : Int → Rw → Cd → (Nat → Nat) → Option (Int × S3)) => ∀ (t0_40 : Int) (E_40 : Rw) (C_40 : Cd) (q_40 : (Nat → Nat)), RunO l Γ k_L_isAnew 14 encI (em3 ma) 40 [(0, .ref a0), (1, .ref (ma 0)), (2, .ref (ma 1)), (3, .ref (ma 2)), (4, .ref (ma 3)), (5, .ref (ma 6)), (6, .ref a6), (7, wi a7), (9, vl r1), (11, wi x11_20)] [wi t0_40, wi 6, .ref a6] (E_40, C_40, q_40) (J t0_40 E_40 C_40 q_40)) ?_ (fun J40 hJ40 => ?_)
  · intro t0_40 E_40 C_40 q_40
    show RunO l Γ k_L_isAnew 14 encI (em3 ma) 40 [(0, .ref a0), (1, .ref (ma 0)), (2, .ref (ma 1)), (3, .ref (ma 2)), (4, .ref (ma 3)), (5, .ref (ma 6)), (6, .ref a6), (7, wi a7), (9, vl r1), (11, wi x11_20)] [wi t0_40, wi 6, .ref a6] (E_40, C_40, q_40) (fW_isAnew_40 a0 a6 a7 r1 x11_20 t0_40 E_40 C_40 q_40)
    unfold fW_isAnew_40
    refine r_yiast h dL_isAnew_40 (fun E6 => ?_)
    refine r_aload_n (x := a0) dL_isAnew_41 rfl rfl ?_
    refine r_bipush (v := 10) dL_isAnew_42 rfl ?_
    refine r_iload (x := a7) dL_isAnew_44 rfl ?_
    refine r_iload (x := x11_20) dL_isAnew_46 rfl ?_
    refine ro_iconst (v := 0) dL_isAnew_48 rfl ?_
    refine r_csHi (J := fun (C_ : Cd) => (E6, C_, q_40)) (k2 := k_L_does) (n := 5) (rest := []) (fun _ => rfl) kv_L_does (c_L_does hG hX a0 10 a7 x11_20 0 _) (by decide) um_L_132 rfl (Nat.le_of_ble_eq_true rfl) dL_isAnew_49 rfl (fun r7 C8 => ?_)
    show RunO l Γ k_L_isAnew 14 encI (em3 ma) 52 [(0, .ref a0), (1, .ref (ma 0)), (2, .ref (ma 1)), (3, .ref (ma 2)), (4, .ref (ma 3)), (5, .ref (ma 6)), (6, .ref a6), (7, wi a7), (9, vl r1), (11, wi x11_20)] [wi r7] (E6, C8, q_40) _
    refine ro_iconst (v := (-1)) dL_isAnew_52 rfl ?_
    refine r_join (P := fun (J : Int → Rw → Cd → (Nat → Nat) → Option (Int × S3)) => ∀ (t0_81 : Int) (E_81 : Rw) (C_81 : Cd) (q_81 : (Nat → Nat)), RunO l Γ k_L_isAnew 14 encI (em3 ma) 81 [(0, .ref a0), (6, .ref a6), (7, wi a7)] [wi t0_81] (E_81, C_81, q_81) (J t0_81 E_81 C_81 q_81)) ?_ (fun J81 hJ81 => ?_)
    · intro t0_81 E_81 C_81 q_81
      show RunO l Γ k_L_isAnew 14 encI (em3 ma) 81 [(0, .ref a0), (6, .ref a6), (7, wi a7)] [wi t0_81] (E_81, C_81, q_81) (fW_isAnew_81 a0 a6 a7 t0_81 E_81 C_81 q_81)
      unfold fW_isAnew_81
      refine r_istore (lo2 := [(12, wi t0_81), (0, .ref a0), (6, .ref a6), (7, wi a7)]) dL_isAnew_81 (by decide) rfl ?_
      refine r_iload (x := t0_81) dL_isAnew_83 rfl ?_
      refine r_join (P := fun (J : Int → Rw → Cd → (Nat → Nat) → Option (Int × S3)) => ∀ (t0_115 : Int) (E_115 : Rw) (C_115 : Cd) (q_115 : (Nat → Nat)), RunO l Γ k_L_isAnew 14 encI (em3 ma) 115 [] [wi t0_115] (E_115, C_115, q_115) (J t0_115 E_115 C_115 q_115)) ?_ (fun J115 hJ115 => ?_)
      · intro t0_115 E_115 C_115 q_115
        show RunO l Γ k_L_isAnew 14 encI (em3 ma) 115 [] [wi t0_115] (E_115, C_115, q_115) (fW_isAnew_115 t0_115 E_115 C_115 q_115)
        unfold fW_isAnew_115
        exact r_zret rfl dL_isAnew_115
      refine r_join (P := fun (J : Rw → Cd → (Nat → Nat) → Option (Int × S3)) => ∀ (E_114 : Rw) (C_114 : Cd) (q_114 : (Nat → Nat)), RunO l Γ k_L_isAnew 14 encI (em3 ma) 114 [] [] (E_114, C_114, q_114) (J E_114 C_114 q_114)) ?_ (fun J114 hJ114 => ?_)
      · intro E_114 C_114 q_114
        show RunO l Γ k_L_isAnew 14 encI (em3 ma) 114 [] [] (E_114, C_114, q_114) (fW_isAnew_114 J115 E_114 C_114 q_114)
        unfold fW_isAnew_114
        refine ro_iconst (v := 0) dL_isAnew_114 rfl ?_
        exact hJ115 0 E_114 C_114 q_114
      refine r_if_eq (tgt := 114) dL_isAnew_85 (by decide) ?_ ?_
      · refine r_lo [] (lo2 := []) rfl ?_
        exact hJ114 E_81 C_81 q_81
      · refine r_aload_n (x := a0) dL_isAnew_88 rfl rfl ?_
        refine r_bipush (v := 10) dL_isAnew_89 rfl ?_
        refine r_iload (x := a7) dL_isAnew_91 rfl ?_
        refine r_aload (x := a6) dL_isAnew_93 rfl ?_
        refine r_bipush (v := 6) dL_isAnew_95 rfl ?_
        refine r_yiald h dL_isAnew_97 ?_
        refine ro_iconst (v := 0) dL_isAnew_98 rfl ?_
        refine r_csHi (J := fun (C_ : Cd) => (E_81, C_, q_81)) (k2 := k_L_does) (n := 5) (rest := []) (fun _ => rfl) kv_L_does (c_L_does hG hX a0 10 a7 (E_81 11 (ix 6)) 0 _) (by decide) um_L_132 rfl (Nat.le_of_ble_eq_true rfl) dL_isAnew_99 rfl (fun r9 C10 => ?_)
        show RunO l Γ k_L_isAnew 14 encI (em3 ma) 102 [(12, wi t0_81), (0, .ref a0), (6, .ref a6), (7, wi a7)] [wi r9] (E_81, C10, q_81) _
        refine r_aload (x := a6) dL_isAnew_102 rfl ?_
        refine r_bipush (v := 7) dL_isAnew_104 rfl ?_
        refine r_yiald h dL_isAnew_106 ?_
        refine r_icmp_ne (tgt := 114) dL_isAnew_107 (by decide) ?_ ?_
        · refine r_lo [] (lo2 := []) rfl ?_
          exact hJ114 E_81 C10 q_81
        · refine ro_iconst (v := 1) dL_isAnew_110 rfl ?_
          refine r_goto (tgt := 115) dL_isAnew_111 (by decide) ?_
          refine r_lo [] (lo2 := []) rfl ?_
          exact hJ115 1 E_81 C10 q_81
    refine r_join (P := fun (J : Rw → Cd → (Nat → Nat) → Option (Int × S3)) => ∀ (E_80 : Rw) (C_80 : Cd) (q_80 : (Nat → Nat)), RunO l Γ k_L_isAnew 14 encI (em3 ma) 80 [(0, .ref a0), (6, .ref a6), (7, wi a7)] [] (E_80, C_80, q_80) (J E_80 C_80 q_80)) ?_ (fun J80 hJ80 => ?_)
    · intro E_80 C_80 q_80
      show RunO l Γ k_L_isAnew 14 encI (em3 ma) 80 [(0, .ref a0), (6, .ref a6), (7, wi a7)] [] (E_80, C_80, q_80) (fW_isAnew_80 J81 E_80 C_80 q_80)
      unfold fW_isAnew_80
      refine ro_iconst (v := 0) dL_isAnew_80 rfl ?_
      exact hJ81 0 E_80 C_80 q_80
    refine r_icmp_ne (tgt := 80) dL_isAnew_53 (by decide) ?_ ?_
    · refine r_lo [0, 6, 7] (lo2 := [(0, .ref a0), (6, .ref a6), (7, wi a7)]) rfl ?_
      exact hJ80 E6 C8 q_40
    · refine r_lload (x := r1) dL_isAnew_56 rfl ?_
      refine r_aload_n (x := ma 0) dL_isAnew_58 rfl rfl ?_
      refine r_aload_n (x := ma 1) dL_isAnew_59 rfl rfl ?_
      refine r_aload_n (x := ma 2) dL_isAnew_60 rfl rfl ?_
      refine r_aload (x := ma 3) dL_isAnew_61 rfl ?_
      refine r_aload (x := ma 6) dL_isAnew_63 rfl ?_
      refine r_aload (x := a6) dL_isAnew_65 rfl ?_
      refine r_iload (x := a7) dL_isAnew_67 rfl ?_
      refine ro_if (fun hy12 => ?_) (fun _ => ro_none)
      refine r_cs3j (k2 := k_L_renders) (n := 7) (rest := [vl r1]) rfl kv_L_renders (c_L_renders h hm 11 a7 (Or.inr rfl) hy12.2 _ _) (by decide) um_L_47 rfl (Nat.le_of_ble_eq_true rfl) dL_isAnew_69 (by obtain ⟨e_, _⟩ := hy12; rw [← e_]; rfl) (fun r11 E13 C14 q15 => ?_)
      refine r_lcmp dL_isAnew_72 ?_
      refine r_if_ne (tgt := 80) dL_isAnew_73 (by decide) ?_ ?_
      · refine r_lo [0, 6, 7] (lo2 := [(0, .ref a0), (6, .ref a6), (7, wi a7)]) rfl ?_
        exact hJ80 E13 C14 q15
      · refine ro_iconst (v := 1) dL_isAnew_76 rfl ?_
        refine r_goto (tgt := 81) dL_isAnew_77 (by decide) ?_
        refine r_lo [0, 6, 7] (lo2 := [(0, .ref a0), (6, .ref a6), (7, wi a7)]) rfl ?_
        exact hJ81 1 E13 C14 q15
  refine r_if_ne (tgt := 35) dL_isAnew_28 (by decide) ?_ ?_
  · refine r_iload (x := a8) dL_isAnew_35 rfl ?_
    refine r_iload (x := x11_20) dL_isAnew_37 rfl ?_
    refine r_iremT dL_isAnew_39 ?_
    refine r_lo [2, 3, 4, 5, 6, 7, 8, 9, 1, 0] (lo2 := [(0, .ref a0), (1, .ref (ma 0)), (2, .ref (ma 1)), (3, .ref (ma 2)), (4, .ref (ma 3)), (5, .ref (ma 6)), (6, .ref a6), (7, wi a7), (9, vl r1), (11, wi x11_20)]) rfl ?_
    exact hJ40 (remI a8 x11_20) E3 C4 q5
  · refine ro_iconst (v := 0) dL_isAnew_31 rfl ?_
    refine r_goto (tgt := 40) dL_isAnew_32 (by decide) ?_
    refine r_lo [2, 3, 4, 5, 6, 7, 8, 9, 1, 0] (lo2 := [(0, .ref a0), (1, .ref (ma 0)), (2, .ref (ma 1)), (3, .ref (ma 2)), (4, .ref (ma 3)), (5, .ref (ma 6)), (6, .ref a6), (7, wi a7), (9, vl r1), (11, wi x11_20)]) rfl ?_
    exact hJ40 0 E3 C4 q5
def k_L_sets : Kd := (yL_sets, cL_sets, 7, none, [])
theorem kv_L_sets : KS k_L_sets 5 := ⟨uw_mem 740 (by decide +kernel) rfl, uw_mem 93 (by decide +kernel) rfl, uw_mem 739 (by decide +kernel) rfl, ⟨by decide +kernel, by decide +kernel⟩, by decide +kernel, by decide +kernel⟩
set_option maxHeartbeats 8000000 in
set_option maxRecDepth 100000 in
theorem c_L_sets {l : Launch} {Γ : Cx} {ad : Nat → Nat} {K0 : Cd} (h : wOn Γ) (hm : ∀ k, k ≤ 10 → ad k ≠ 0) (a3 : Int) (a4 : Int) (E : Rw) : Ct l Γ k_L_sets 1 encV (emW ad K0) [.ref (ad 0), .ref (ad 6), .ref (ad 8), wi a3, wi a4] E (fW_sets a3 a4 E) := by
  refine ct_of (by decide +kernel) rfl (Nat.le_of_ble_eq_true rfl) ?_
  refine r_lo [0, 1, 2, 3, 4] (lo2 := [(0, .ref (ad 0)), (1, .ref (ad 6)), (2, .ref (ad 8)), (3, wi a3), (4, wi a4)]) rfl ?_
  unfold fW_sets
  refine r_aload_n (x := ad 6) dL_sets_0 rfl rfl ?_
  refine r_bipush (v := 7) dL_sets_1 rfl ?_
  refine r_iload_n (x := a3) dL_sets_3 rfl rfl ?_
  refine r_imul dL_sets_4 ?_
  refine r_wiald h (by decide) (hm 6 (by decide)) dL_sets_5 ?_
  refine r_join (P := fun (J : Int → Rw → Option (Unit × Rw)) => ∀ (t0_21 : Int) (E_21 : Rw), RunO l Γ k_L_sets 1 encV (emW ad K0) 21 [(0, .ref (ad 0)), (1, .ref (ad 6)), (2, .ref (ad 8)), (3, wi a3), (4, wi a4)] [wi t0_21] E_21 (J t0_21 E_21)) ?_ (fun J21 hJ21 => ?_)
  · intro t0_21 E_21
    refine r_istore (lo2 := [(5, wi t0_21), (0, .ref (ad 0)), (1, .ref (ad 6)), (2, .ref (ad 8)), (3, wi a3), (4, wi a4)]) dL_sets_21 (by decide) rfl ?_
    refine ro_iconst (v := 0) dL_sets_23 rfl ?_
    refine r_istore (lo2 := [(6, wi 0), (5, wi t0_21), (0, .ref (ad 0)), (1, .ref (ad 6)), (2, .ref (ad 8)), (3, wi a3), (4, wi a4)]) dL_sets_24 (by decide) rfl ?_
    refine r_loop (P := fun (J : Int → Rw → Option (Unit × Rw)) => ∀ (v6_26 : Int) (E_26 : Rw), RunO l Γ k_L_sets 1 encV (emW ad K0) 26 [(0, .ref (ad 0)), (1, .ref (ad 6)), (2, .ref (ad 8)), (3, wi a3), (4, wi a4), (5, wi t0_21), (6, wi v6_26)] [] E_26 (J v6_26 E_26)) ?_ (fun L26 hL26 => ?_) (fun J26 hJ26 => ?_)
    · intros; exact ro_none
    · intro v6_26 E_26
      refine r_iload (x := v6_26) dL_sets_26 rfl ?_
      refine r_bipush (v := 8) dL_sets_28 rfl ?_
      refine r_icmp_ge (tgt := 70) dL_sets_30 (by decide) ?_ ?_
      · refine r_aload_n (x := ad 6) dL_sets_70 rfl rfl ?_
        refine r_bipush (v := 7) dL_sets_71 rfl ?_
        refine r_iload_n (x := a3) dL_sets_73 rfl rfl ?_
        refine r_imul dL_sets_74 ?_
        refine ro_iconst (v := 4) dL_sets_75 rfl ?_
        refine r_iadd dL_sets_76 ?_
        refine r_iload (x := a4) dL_sets_77 rfl ?_
        refine r_wiast h (by decide) (hm 6 (by decide)) dL_sets_79 (fun E1 => ?_)
        exact r_vret rfl dL_sets_80
      · refine r_iload (x := t0_21) dL_sets_33 rfl ?_
        refine r_iload (x := v6_26) dL_sets_35 rfl ?_
        refine r_ishr dL_sets_37 ?_
        refine ro_iconst (v := 1) dL_sets_38 rfl ?_
        refine r_iand dL_sets_39 ?_
        refine r_iload (x := a4) dL_sets_40 rfl ?_
        refine r_iload (x := v6_26) dL_sets_42 rfl ?_
        refine r_ishr dL_sets_44 ?_
        refine ro_iconst (v := 1) dL_sets_45 rfl ?_
        refine r_iand dL_sets_46 ?_
        refine r_join (P := fun (J : Rw → Option (Unit × Rw)) => ∀ (E_64 : Rw), RunO l Γ k_L_sets 1 encV (emW ad K0) 64 [(0, .ref (ad 0)), (1, .ref (ad 6)), (2, .ref (ad 8)), (3, wi a3), (4, wi a4), (5, wi t0_21), (6, wi v6_26)] [] E_64 (J E_64)) ?_ (fun J64 hJ64 => ?_)
        · intro E_64
          refine r_iinc (x := v6_26) (lo2 := [(6, wi (v6_26 + 1)), (0, .ref (ad 0)), (1, .ref (ad 6)), (2, .ref (ad 8)), (3, wi a3), (4, wi a4), (5, wi t0_21)]) dL_sets_64 rfl (by decide) rfl ?_
          refine r_goto (tgt := 26) dL_sets_67 (by decide) ?_
          refine r_lo [1, 2, 3, 4, 5, 6, 0] (lo2 := [(0, .ref (ad 0)), (1, .ref (ad 6)), (2, .ref (ad 8)), (3, wi a3), (4, wi a4), (5, wi t0_21), (6, wi (v6_26 + 1))]) rfl ?_
          exact hL26 (v6_26 + 1) E_64
        refine r_icmp_eq (tgt := 64) dL_sets_47 (by decide) ?_ ?_
        · exact hJ64 E_26
        · refine r_aload_n (x := ad 0) dL_sets_50 rfl rfl ?_
          refine ro_iconst (v := 3) dL_sets_51 rfl ?_
          refine r_dup2 dL_sets_52 rfl rfl ?_
          refine r_wiald h (by decide) (hm 0 (by decide)) dL_sets_53 ?_
          refine ro_iconst (v := 1) dL_sets_54 rfl ?_
          refine r_iadd dL_sets_55 ?_
          refine r_wiast h (by decide) (hm 0 (by decide)) dL_sets_56 (fun E2 => ?_)
          refine r_aload_n (x := ad 8) dL_sets_57 rfl rfl ?_
          refine r_iload (x := v6_26) dL_sets_58 rfl ?_
          refine r_aload_n (x := ad 0) dL_sets_60 rfl rfl ?_
          refine ro_iconst (v := 3) dL_sets_61 rfl ?_
          refine r_wiald h (by decide) (hm 0 (by decide)) dL_sets_62 ?_
          refine r_wiast h (by decide) (hm 8 (by decide)) dL_sets_63 (fun E3 => ?_)
          exact hJ64 E3
    refine r_lo [2, 3, 4, 5, 6, 1, 0] (lo2 := [(0, .ref (ad 0)), (1, .ref (ad 6)), (2, .ref (ad 8)), (3, wi a3), (4, wi a4), (5, wi t0_21), (6, wi 0)]) rfl ?_
    exact hJ26 0 E_21
  refine r_if_le (tgt := 20) dL_sets_6 (by decide) ?_ ?_
  · refine ro_iconst (v := 0) dL_sets_20 rfl ?_
    exact hJ21 0 E
  · refine r_aload_n (x := ad 6) dL_sets_9 rfl rfl ?_
    refine r_bipush (v := 7) dL_sets_10 rfl ?_
    refine r_iload_n (x := a3) dL_sets_12 rfl rfl ?_
    refine r_imul dL_sets_13 ?_
    refine ro_iconst (v := 4) dL_sets_14 rfl ?_
    refine r_iadd dL_sets_15 ?_
    refine r_wiald h (by decide) (hm 6 (by decide)) dL_sets_16 ?_
    refine r_goto (tgt := 21) dL_sets_17 (by decide) ?_
    exact hJ21 (E 6 (ix ((7 * a3) + 4))) E
