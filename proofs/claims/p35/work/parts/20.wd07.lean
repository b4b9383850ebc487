set_option maxHeartbeats 8000000 in
set_option maxRecDepth 100000 in
theorem b_L_undone_26 {l : Launch} {Γ : Cx} {σ0 : St} : RunO l Γ k_L_undone 4 encJ (emU σ0) 26 [] [] () fW_undone_26 := by
  unfold fW_undone_26
  refine r_lconst (x := 0) dL_undone_26 rfl ?_
  exact r_lret rfl dL_undone_27
set_option maxHeartbeats 8000000 in
set_option maxRecDepth 100000 in
theorem b_L_undone_100 {l : Launch} {Γ : Cx} {σ0 : St} (a0 : Int) (a2 : Int) (a4 : Int) (v6_31 : Int) (v8_31 : Int) (L31 : Int → Int → Option (Int × Unit)) (hL31 : ∀ (v6_31 : Int) (v8_31 : Int), RunO l Γ k_L_undone 4 encJ (emU σ0) 31 [(0, vl a0), (2, vl a2), (4, vl a4), (6, vl v6_31), (8, wi v8_31)] [] () (L31 v6_31 v8_31)) : ∀ (t0_100 : Int), RunO l Γ k_L_undone 4 encJ (emU σ0) 100 [(0, vl a0), (2, vl a2), (4, vl a4), (8, wi v8_31)] [vl t0_100, vl v6_31] () (fW_undone_100 L31 v6_31 v8_31 t0_100) := by
  intro t0_100
  unfold fW_undone_100
  refine r_iload (x := v8_31) dL_undone_100 rfl ?_
  refine r_csj (J := fun (_ : Unit) => ()) (k2 := k_L_section) (n := 2) (rest := [vl v6_31]) (fun _ => rfl) rfl kv_L_section (c_L_section (σ0 := _) t0_100 v8_31) (by decide) um_L_122 rfl (Nat.le_of_ble_eq_true rfl) dL_undone_102 rfl (fun r8 _ => ?_)
  show RunO l Γ k_L_undone 4 encJ (emU σ0) 105 [(0, vl a0), (2, vl a2), (4, vl a4), (8, wi v8_31)] [vl r8, vl v6_31] () _
  refine r_csj (J := fun (_ : Unit) => ()) (k2 := k_L_behind) (n := 2) (rest := []) (fun _ => rfl) rfl kv_L_behind (c_L_behind (σ0 := _) v6_31 r8) (by decide) um_L_126 rfl (Nat.le_of_ble_eq_true rfl) dL_undone_105 rfl (fun r9 _ => ?_)
  show RunO l Γ k_L_undone 4 encJ (emU σ0) 108 [(0, vl a0), (2, vl a2), (4, vl a4), (8, wi v8_31)] [vl r9] () _
  refine r_lstore (lo2 := [(6, vl r9), (0, vl a0), (2, vl a2), (4, vl a4), (8, wi v8_31)]) dL_undone_108 (by decide) rfl ?_
  refine r_iinc (x := v8_31) (lo2 := [(8, wi (v8_31 + 1)), (6, vl r9), (0, vl a0), (2, vl a2), (4, vl a4)]) dL_undone_110 rfl (by decide) rfl ?_
  refine r_goto (tgt := 31) dL_undone_113 (by decide) ?_
  refine r_lo [2, 3, 4, 1, 0] (lo2 := [(0, vl a0), (2, vl a2), (4, vl a4), (6, vl r9), (8, wi (v8_31 + 1))]) rfl ?_
  exact hL31 r9 (v8_31 + 1)
set_option maxHeartbeats 8000000 in
set_option maxRecDepth 100000 in
theorem b_L_undone_87 {l : Launch} {Γ : Cx} {σ0 : St} (a0 : Int) (a2 : Int) (a4 : Int) (v6_31 : Int) (v8_31 : Int) (t0_61 : Int) (L31 : Int → Int → Option (Int × Unit)) (hL31 : ∀ (v6_31 : Int) (v8_31 : Int), RunO l Γ k_L_undone 4 encJ (emU σ0) 31 [(0, vl a0), (2, vl a2), (4, vl a4), (6, vl v6_31), (8, wi v8_31)] [] () (L31 v6_31 v8_31)) : RunO l Γ k_L_undone 4 encJ (emU σ0) 87 [(0, vl a0), (2, vl a2), (4, vl a4), (6, vl v6_31), (8, wi v8_31), (9, wi t0_61)] [] () (fW_undone_87 a0 a4 L31 v6_31 v8_31 t0_61) := by
  unfold fW_undone_87
  refine r_lload (x := v6_31) dL_undone_87 rfl ?_
  refine r_iload (x := t0_61) dL_undone_89 rfl ?_
  refine r_join (P := fun (J : Int → Option (Int × Unit)) => ∀ (t0_100 : Int), RunO l Γ k_L_undone 4 encJ (emU σ0) 100 [(0, vl a0), (2, vl a2), (4, vl a4), (8, wi v8_31)] [vl t0_100, vl v6_31] () (J t0_100)) ?_ (fun J100 hJ100 => ?_)
  · exact b_L_undone_100 a0 a2 a4 v6_31 v8_31 L31 hL31
  refine r_if_eq (tgt := 98) dL_undone_91 (by decide) ?_ ?_
  · refine r_lload (x := a4) dL_undone_98 rfl ?_
    refine r_lo [0, 1, 2, 4] (lo2 := [(0, vl a0), (2, vl a2), (4, vl a4), (8, wi v8_31)]) rfl ?_
    exact hJ100 a4
  · refine r_lload_n (x := a0) dL_undone_94 rfl rfl ?_
    refine r_goto (tgt := 100) dL_undone_95 (by decide) ?_
    refine r_lo [0, 1, 2, 4] (lo2 := [(0, vl a0), (2, vl a2), (4, vl a4), (8, wi v8_31)]) rfl ?_
    exact hJ100 a0
set_option maxHeartbeats 8000000 in
set_option maxRecDepth 100000 in
theorem b_L_undone_61 {l : Launch} {Γ : Cx} {σ0 : St} (a0 : Int) (a2 : Int) (a4 : Int) (v6_31 : Int) (v8_31 : Int) (L31 : Int → Int → Option (Int × Unit)) (hL31 : ∀ (v6_31 : Int) (v8_31 : Int), RunO l Γ k_L_undone 4 encJ (emU σ0) 31 [(0, vl a0), (2, vl a2), (4, vl a4), (6, vl v6_31), (8, wi v8_31)] [] () (L31 v6_31 v8_31)) : ∀ (t0_61 : Int), RunO l Γ k_L_undone 4 encJ (emU σ0) 61 [(0, vl a0), (2, vl a2), (4, vl a4), (6, vl v6_31), (8, wi v8_31)] [wi t0_61] () (fW_undone_61 a0 a2 a4 L31 v6_31 v8_31 t0_61) := by
  intro t0_61
  unfold fW_undone_61
  refine r_istore (lo2 := [(9, wi t0_61), (0, vl a0), (2, vl a2), (4, vl a4), (6, vl v6_31), (8, wi v8_31)]) dL_undone_61 (by decide) rfl ?_
  refine r_iload (x := t0_61) dL_undone_63 rfl ?_
  refine r_join (P := fun (J : Option (Int × Unit)) => RunO l Γ k_L_undone 4 encJ (emU σ0) 87 [(0, vl a0), (2, vl a2), (4, vl a4), (6, vl v6_31), (8, wi v8_31), (9, wi t0_61)] [] () J) ?_ (fun J87 hJ87 => ?_)
  · exact b_L_undone_87 a0 a2 a4 v6_31 v8_31 t0_61 L31 hL31
  refine r_if_eq (tgt := 87) dL_undone_65 (by decide) ?_ ?_
  · refine r_lo [1, 2, 3, 4, 5, 0] (lo2 := [(0, vl a0), (2, vl a2), (4, vl a4), (6, vl v6_31), (8, wi v8_31), (9, wi t0_61)]) rfl ?_
    exact hJ87
  · refine r_lload (x := a4) dL_undone_68 rfl ?_
    refine r_iload (x := v8_31) dL_undone_70 rfl ?_
    refine r_csj (J := fun (_ : Unit) => ()) (k2 := k_L_section) (n := 2) (rest := []) (fun _ => rfl) rfl kv_L_section (c_L_section (σ0 := _) a4 v8_31) (by decide) um_L_122 rfl (Nat.le_of_ble_eq_true rfl) dL_undone_72 rfl (fun r10 _ => ?_)
    show RunO l Γ k_L_undone 4 encJ (emU σ0) 75 [(9, wi t0_61), (0, vl a0), (2, vl a2), (4, vl a4), (6, vl v6_31), (8, wi v8_31)] [vl r10] () _
    refine r_lload_n (x := a2) dL_undone_75 rfl rfl ?_
    refine r_iload (x := v8_31) dL_undone_76 rfl ?_
    refine r_csj (J := fun (_ : Unit) => ()) (k2 := k_L_section) (n := 2) (rest := [vl r10]) (fun _ => rfl) rfl kv_L_section (c_L_section (σ0 := _) a2 v8_31) (by decide) um_L_122 rfl (Nat.le_of_ble_eq_true rfl) dL_undone_78 rfl (fun r11 _ => ?_)
    show RunO l Γ k_L_undone 4 encJ (emU σ0) 81 [(9, wi t0_61), (0, vl a0), (2, vl a2), (4, vl a4), (6, vl v6_31), (8, wi v8_31)] [vl r11, vl r10] () _
    refine r_lcmp dL_undone_81 ?_
    refine r_if_eq (tgt := 87) dL_undone_82 (by decide) ?_ ?_
    · refine r_lo [1, 2, 3, 4, 5, 0] (lo2 := [(0, vl a0), (2, vl a2), (4, vl a4), (6, vl v6_31), (8, wi v8_31), (9, wi t0_61)]) rfl ?_
      exact hJ87
    · refine r_lconst (x := 0) dL_undone_85 rfl ?_
      exact r_lret rfl dL_undone_86
set_option maxHeartbeats 8000000 in
set_option maxRecDepth 100000 in
theorem b_L_undone_31 {l : Launch} {Γ : Cx} {σ0 : St} (a0 : Int) (a2 : Int) (a4 : Int) (L31 : Int → Int → Option (Int × Unit)) (hL31 : ∀ (v6_31 : Int) (v8_31 : Int), RunO l Γ k_L_undone 4 encJ (emU σ0) 31 [(0, vl a0), (2, vl a2), (4, vl a4), (6, vl v6_31), (8, wi v8_31)] [] () (L31 v6_31 v8_31)) : ∀ (v6_31 : Int) (v8_31 : Int), RunO l Γ k_L_undone 4 encJ (emU σ0) 31 [(0, vl a0), (2, vl a2), (4, vl a4), (6, vl v6_31), (8, wi v8_31)] [] () (fW_undone_31 a0 a2 a4 L31 v6_31 v8_31) := by
  intro v6_31 v8_31
  unfold fW_undone_31
  refine r_iload (x := v8_31) dL_undone_31 rfl ?_
  refine r_lload_n (x := a2) dL_undone_33 rfl rfl ?_
  refine r_csi (J := fun (_ : Unit) => ()) (k2 := k_L_sections) (n := 1) (rest := [wi v8_31]) (fun _ => rfl) rfl kv_L_sections (c_L_sections (σ0 := _) a2) (by decide) um_L_119 rfl (Nat.le_of_ble_eq_true rfl) dL_undone_34 rfl (fun r5 _ => ?_)
  show RunO l Γ k_L_undone 4 encJ (emU σ0) 37 [(0, vl a0), (2, vl a2), (4, vl a4), (6, vl v6_31), (8, wi v8_31)] [wi r5, wi v8_31] () _
  refine r_icmp_ge (tgt := 116) dL_undone_37 (by decide) ?_ ?_
  · refine r_lload (x := v6_31) dL_undone_116 rfl ?_
    exact r_lret rfl dL_undone_118
  · refine r_lload_n (x := a0) dL_undone_40 rfl rfl ?_
    refine r_iload (x := v8_31) dL_undone_41 rfl ?_
    refine r_csj (J := fun (_ : Unit) => ()) (k2 := k_L_section) (n := 2) (rest := []) (fun _ => rfl) rfl kv_L_section (c_L_section (σ0 := _) a0 v8_31) (by decide) um_L_122 rfl (Nat.le_of_ble_eq_true rfl) dL_undone_43 rfl (fun r6 _ => ?_)
    show RunO l Γ k_L_undone 4 encJ (emU σ0) 46 [(0, vl a0), (2, vl a2), (4, vl a4), (6, vl v6_31), (8, wi v8_31)] [vl r6] () _
    refine r_lload_n (x := a2) dL_undone_46 rfl rfl ?_
    refine r_iload (x := v8_31) dL_undone_47 rfl ?_
    refine r_csj (J := fun (_ : Unit) => ()) (k2 := k_L_section) (n := 2) (rest := [vl r6]) (fun _ => rfl) rfl kv_L_section (c_L_section (σ0 := _) a2 v8_31) (by decide) um_L_122 rfl (Nat.le_of_ble_eq_true rfl) dL_undone_49 rfl (fun r7 _ => ?_)
    show RunO l Γ k_L_undone 4 encJ (emU σ0) 52 [(0, vl a0), (2, vl a2), (4, vl a4), (6, vl v6_31), (8, wi v8_31)] [vl r7, vl r6] () _
    refine r_lcmp dL_undone_52 ?_
    refine r_join (P := fun (J : Int → Option (Int × Unit)) => ∀ (t0_61 : Int), RunO l Γ k_L_undone 4 encJ (emU σ0) 61 [(0, vl a0), (2, vl a2), (4, vl a4), (6, vl v6_31), (8, wi v8_31)] [wi t0_61] () (J t0_61)) ?_ (fun J61 hJ61 => ?_)
    · exact b_L_undone_61 a0 a2 a4 v6_31 v8_31 L31 hL31
    refine r_if_eq (tgt := 60) dL_undone_53 (by decide) ?_ ?_
    · refine ro_iconst (v := 0) dL_undone_60 rfl ?_
      exact hJ61 0
    · refine ro_iconst (v := 1) dL_undone_56 rfl ?_
      refine r_goto (tgt := 61) dL_undone_57 (by decide) ?_
      exact hJ61 1
set_option maxHeartbeats 8000000 in
set_option maxRecDepth 100000 in
theorem c_L_undone {l : Launch} {Γ : Cx} {σ0 : St} (a0 : Int) (a2 : Int) (a4 : Int)  : Ct l Γ k_L_undone 4 encJ (emU σ0) [vl a0, vl a2, vl a4] () (fW_undone a0 a2 a4) := by
  refine ct_of (by decide +kernel) rfl (Nat.le_of_ble_eq_true rfl) ?_
  refine r_lo [0, 1, 2] (lo2 := [(0, vl a0), (2, vl a2), (4, vl a4)]) rfl ?_
  unfold fW_undone
  refine r_lconst (x := 1) dL_undone_0 rfl ?_
  refine r_lstore (lo2 := [(6, vl 1), (0, vl a0), (2, vl a2), (4, vl a4)]) dL_undone_1 (by decide) rfl ?_
  refine r_lload_n (x := a0) dL_undone_3 rfl rfl ?_
  refine r_csi (J := fun (_ : Unit) => ()) (k2 := k_L_sections) (n := 1) (rest := []) (fun _ => rfl) rfl kv_L_sections (c_L_sections (σ0 := _) a0) (by decide) um_L_119 rfl (Nat.le_of_ble_eq_true rfl) dL_undone_4 rfl (fun r1 _ => ?_)
  show RunO l Γ k_L_undone 4 encJ (emU σ0) 7 [(6, vl 1), (0, vl a0), (2, vl a2), (4, vl a4)] [wi r1] () _
  refine r_lload_n (x := a2) dL_undone_7 rfl rfl ?_
  refine r_csi (J := fun (_ : Unit) => ()) (k2 := k_L_sections) (n := 1) (rest := [wi r1]) (fun _ => rfl) rfl kv_L_sections (c_L_sections (σ0 := _) a2) (by decide) um_L_119 rfl (Nat.le_of_ble_eq_true rfl) dL_undone_8 rfl (fun r2 _ => ?_)
  show RunO l Γ k_L_undone 4 encJ (emU σ0) 11 [(6, vl 1), (0, vl a0), (2, vl a2), (4, vl a4)] [wi r2, wi r1] () _
  refine r_join (P := fun (J : Option (Int × Unit)) => RunO l Γ k_L_undone 4 encJ (emU σ0) 26 [] [] () J) ?_ (fun J26 hJ26 => ?_)
  · exact b_L_undone_26 
  refine r_icmp_ne (tgt := 26) dL_undone_11 (by decide) ?_ ?_
  · refine r_lo [] (lo2 := []) rfl ?_
    exact hJ26
  · refine r_lload_n (x := a0) dL_undone_14 rfl rfl ?_
    refine r_csi (J := fun (_ : Unit) => ()) (k2 := k_L_sections) (n := 1) (rest := []) (fun _ => rfl) rfl kv_L_sections (c_L_sections (σ0 := _) a0) (by decide) um_L_119 rfl (Nat.le_of_ble_eq_true rfl) dL_undone_15 rfl (fun r3 _ => ?_)
    show RunO l Γ k_L_undone 4 encJ (emU σ0) 18 [(6, vl 1), (0, vl a0), (2, vl a2), (4, vl a4)] [wi r3] () _
    refine r_lload (x := a4) dL_undone_18 rfl ?_
    refine r_csi (J := fun (_ : Unit) => ()) (k2 := k_L_sections) (n := 1) (rest := [wi r3]) (fun _ => rfl) rfl kv_L_sections (c_L_sections (σ0 := _) a4) (by decide) um_L_119 rfl (Nat.le_of_ble_eq_true rfl) dL_undone_20 rfl (fun r4 _ => ?_)
    show RunO l Γ k_L_undone 4 encJ (emU σ0) 23 [(6, vl 1), (0, vl a0), (2, vl a2), (4, vl a4)] [wi r4, wi r3] () _
    refine r_icmp_eq (tgt := 28) dL_undone_23 (by decide) ?_ ?_
    · refine ro_iconst (v := 0) dL_undone_28 rfl ?_
      refine r_istore (lo2 := [(8, wi 0), (6, vl 1), (0, vl a0), (2, vl a2), (4, vl a4)]) dL_undone_29 (by decide) rfl ?_
      refine r_loop (P := fun (J : Int → Int → Option (Int × Unit)) => ∀ (v6_31 : Int) (v8_31 : Int), RunO l Γ k_L_undone 4 encJ (emU σ0) 31 [(0, vl a0), (2, vl a2), (4, vl a4), (6, vl v6_31), (8, wi v8_31)] [] () (J v6_31 v8_31)) ?_ (fun L31 hL31 => ?_) (fun J31 hJ31 => ?_)
      · intros; exact ro_none
      · exact b_L_undone_31 a0 a2 a4 L31 hL31
      refine r_lo [2, 3, 4, 1, 0] (lo2 := [(0, vl a0), (2, vl a2), (4, vl a4), (6, vl 1), (8, wi 0)]) rfl ?_
      exact hJ31 1 0
    · refine r_lo [] (lo2 := []) rfl ?_
      exact hJ26
def k_L_next : Kd := (yL_next, cL_next, 6, some .int, [])
theorem kv_L_next : KS k_L_next 4 := ⟨uw_mem 773 (by decide +kernel) rfl, uw_mem 93 (by decide +kernel) rfl, uw_mem 772 (by decide +kernel) rfl, ⟨by decide +kernel, by decide +kernel⟩, by decide +kernel, by decide +kernel⟩
set_option maxHeartbeats 8000000 in
set_option maxRecDepth 100000 in
theorem c_L_next {l : Launch} {Γ : Cx} {ad : Nat → Nat} {K0 : Cd} (h : wOn Γ) (hm : ∀ k, k ≤ 10 → ad k ≠ 0) (E : Rw) : Ct l Γ k_L_next 2 encI (emW ad K0) [.ref (ad 1), .ref (ad 4), .ref (ad 6), .ref (ad 8)] E (fW_next E) := by
  refine ct_of (by decide +kernel) rfl (Nat.le_of_ble_eq_true rfl) ?_
  refine r_lo [0, 1, 2, 3] (lo2 := [(0, .ref (ad 1)), (1, .ref (ad 4)), (2, .ref (ad 6)), (3, .ref (ad 8))]) rfl ?_
  unfold fW_next
  refine ro_iconst (v := (-1)) dL_next_0 rfl ?_
  refine r_istore (lo2 := [(4, wi (-1)), (0, .ref (ad 1)), (1, .ref (ad 4)), (2, .ref (ad 6)), (3, .ref (ad 8))]) dL_next_1 (by decide) rfl ?_
  refine ro_iconst (v := 0) dL_next_3 rfl ?_
  refine r_istore (lo2 := [(5, wi 0), (4, wi (-1)), (0, .ref (ad 1)), (1, .ref (ad 4)), (2, .ref (ad 6)), (3, .ref (ad 8))]) dL_next_4 (by decide) rfl ?_
  refine r_loop (P := fun (J : Int → Int → Rw → Option (Int × Rw)) => ∀ (v4_6 : Int) (v5_6 : Int) (E_6 : Rw), RunO l Γ k_L_next 2 encI (emW ad K0) 6 [(0, .ref (ad 1)), (1, .ref (ad 4)), (2, .ref (ad 6)), (3, .ref (ad 8)), (4, wi v4_6), (5, wi v5_6)] [] E_6 (J v4_6 v5_6 E_6)) ?_ (fun L6 hL6 => ?_) (fun J6 hJ6 => ?_)
  · intros; exact ro_none
  · intro v4_6 v5_6 E_6
    refine r_iload (x := v5_6) dL_next_6 rfl ?_
    refine r_bipush (v := 8) dL_next_8 rfl ?_
    refine r_icmp_ge (tgt := 68) dL_next_10 (by decide) ?_ ?_
    · refine r_iload (x := v4_6) dL_next_68 rfl ?_
      exact r_iret rfl dL_next_70
    · refine r_aload_n (x := ad 1) dL_next_13 rfl rfl ?_
      refine r_aload_n (x := ad 4) dL_next_14 rfl rfl ?_
      refine r_aload_n (x := ad 6) dL_next_15 rfl rfl ?_
      refine r_aload_n (x := ad 8) dL_next_16 rfl rfl ?_
      refine r_iload (x := v5_6) dL_next_17 rfl ?_
      refine r_csi (J := fun (E_ : Rw) => E_) (k2 := k_L_isStale) (n := 5) (rest := []) (fun _ => rfl) rfl kv_L_isStale (c_L_isStale h hm v5_6 _) (by decide) um_L_55 rfl (Nat.le_of_ble_eq_true rfl) dL_next_19 rfl (fun r1 E2 => ?_)
      show RunO l Γ k_L_next 2 encI (emW ad K0) 22 [(0, .ref (ad 1)), (1, .ref (ad 4)), (2, .ref (ad 6)), (3, .ref (ad 8)), (4, wi v4_6), (5, wi v5_6)] [wi r1] E2 _
      refine r_join (P := fun (J : Int → Rw → Option (Int × Rw)) => ∀ (t0_60 : Int) (E_60 : Rw), RunO l Γ k_L_next 2 encI (emW ad K0) 60 [(0, .ref (ad 1)), (1, .ref (ad 4)), (2, .ref (ad 6)), (3, .ref (ad 8)), (5, wi v5_6)] [wi t0_60] E_60 (J t0_60 E_60)) ?_ (fun J60 hJ60 => ?_)
      · intro t0_60 E_60
        refine r_istore (lo2 := [(4, wi t0_60), (0, .ref (ad 1)), (1, .ref (ad 4)), (2, .ref (ad 6)), (3, .ref (ad 8)), (5, wi v5_6)]) dL_next_60 (by decide) rfl ?_
        refine r_iinc (x := v5_6) (lo2 := [(5, wi (v5_6 + 1)), (4, wi t0_60), (0, .ref (ad 1)), (1, .ref (ad 4)), (2, .ref (ad 6)), (3, .ref (ad 8))]) dL_next_62 rfl (by decide) rfl ?_
        refine r_goto (tgt := 6) dL_next_65 (by decide) ?_
        refine r_lo [2, 3, 4, 5, 1, 0] (lo2 := [(0, .ref (ad 1)), (1, .ref (ad 4)), (2, .ref (ad 6)), (3, .ref (ad 8)), (4, wi t0_60), (5, wi (v5_6 + 1))]) rfl ?_
        exact hL6 t0_60 (v5_6 + 1) E_60
      refine r_join (P := fun (J : Rw → Option (Int × Rw)) => ∀ (E_58 : Rw), RunO l Γ k_L_next 2 encI (emW ad K0) 58 [(0, .ref (ad 1)), (1, .ref (ad 4)), (2, .ref (ad 6)), (3, .ref (ad 8)), (4, wi v4_6), (5, wi v5_6)] [] E_58 (J E_58)) ?_ (fun J58 hJ58 => ?_)
      · intro E_58
        refine r_iload (x := v4_6) dL_next_58 rfl ?_
        refine r_lo [0, 1, 2, 3, 5] (lo2 := [(0, .ref (ad 1)), (1, .ref (ad 4)), (2, .ref (ad 6)), (3, .ref (ad 8)), (5, wi v5_6)]) rfl ?_
        exact hJ60 v4_6 E_58
      refine r_if_eq (tgt := 58) dL_next_22 (by decide) ?_ ?_
      · exact hJ58 E2
      · refine r_iload (x := v4_6) dL_next_25 rfl ?_
        refine r_join (P := fun (J : Rw → Option (Int × Rw)) => ∀ (E_53 : Rw), RunO l Γ k_L_next 2 encI (emW ad K0) 53 [(0, .ref (ad 1)), (1, .ref (ad 4)), (2, .ref (ad 6)), (3, .ref (ad 8)), (5, wi v5_6)] [] E_53 (J E_53)) ?_ (fun J53 hJ53 => ?_)
        · intro E_53
          refine r_iload (x := v5_6) dL_next_53 rfl ?_
          refine r_goto (tgt := 60) dL_next_55 (by decide) ?_
          exact hJ60 v5_6 E_53
        refine r_if_lt (tgt := 53) dL_next_27 (by decide) ?_ ?_
        · refine r_lo [0, 1, 2, 3, 5] (lo2 := [(0, .ref (ad 1)), (1, .ref (ad 4)), (2, .ref (ad 6)), (3, .ref (ad 8)), (5, wi v5_6)]) rfl ?_
          exact hJ53 E2
        · refine r_aload_n (x := ad 6) dL_next_30 rfl rfl ?_
          refine r_bipush (v := 7) dL_next_31 rfl ?_
          refine r_iload (x := v5_6) dL_next_33 rfl ?_
          refine r_imul dL_next_35 ?_
          refine r_bipush (v := 6) dL_next_36 rfl ?_
          refine r_iadd dL_next_38 ?_
          refine r_wiald h (by decide) (hm 6 (by decide)) dL_next_39 ?_
          refine r_aload_n (x := ad 6) dL_next_40 rfl rfl ?_
          refine r_bipush (v := 7) dL_next_41 rfl ?_
          refine r_iload (x := v4_6) dL_next_43 rfl ?_
          refine r_imul dL_next_45 ?_
          refine r_bipush (v := 6) dL_next_46 rfl ?_
          refine r_iadd dL_next_48 ?_
          refine r_wiald h (by decide) (hm 6 (by decide)) dL_next_49 ?_
          refine r_icmp_le (tgt := 58) dL_next_50 (by decide) ?_ ?_
          · exact hJ58 E2
          · refine r_lo [0, 1, 2, 3, 5] (lo2 := [(0, .ref (ad 1)), (1, .ref (ad 4)), (2, .ref (ad 6)), (3, .ref (ad 8)), (5, wi v5_6)]) rfl ?_
            exact hJ53 E2
  refine r_lo [2, 3, 4, 5, 1, 0] (lo2 := [(0, .ref (ad 1)), (1, .ref (ad 4)), (2, .ref (ad 6)), (3, .ref (ad 8)), (4, wi (-1)), (5, wi 0)]) rfl ?_
  exact hJ6 (-1) 0 E
def k_L_rendered : Kd := (yL_rendered, cL_rendered, 10, none, [])
theorem kv_L_rendered : KS k_L_rendered 9 := ⟨uw_mem 743 (by decide +kernel) rfl, uw_mem 93 (by decide +kernel) rfl, uw_mem 742 (by decide +kernel) rfl, ⟨by decide +kernel, by decide +kernel⟩, by decide +kernel, by decide +kernel⟩
set_option maxHeartbeats 8000000 in
set_option maxRecDepth 100000 in
theorem c_L_rendered {l : Launch} {Γ : Cx} {ma : Nat → Nat} (h : wOn Γ) (hm : ∀ k, k ≤ 10 → ma k ≠ 0) (a8 : Int) (E : Rw) (C : Cd) (q : (Nat → Nat)) : Ct l Γ k_L_rendered 5 encV (em3 ma) [.ref (ma 0), .ref (ma 1), .ref (ma 2), .ref (ma 3), .ref (ma 6), .ref (ma 7), .ref (ma 8), .ref (ma 10), wi a8] (E, C, q) (fW_rendered a8 E C q) := by
  refine ct_of (by decide +kernel) rfl (Nat.le_of_ble_eq_true rfl) ?_
  refine r_lo [0, 1, 2, 3, 4, 5, 6, 7, 8] (lo2 := [(0, .ref (ma 0)), (1, .ref (ma 1)), (2, .ref (ma 2)), (3, .ref (ma 3)), (4, .ref (ma 6)), (5, .ref (ma 7)), (6, .ref (ma 8)), (7, .ref (ma 10)), (8, wi a8)]) rfl ?_
  unfold fW_rendered
  refine r_aload_n (x := ma 0) dL_rendered_0 rfl rfl ?_
  refine ro_iconst (v := 3) dL_rendered_1 rfl ?_
  refine r_wiald3 h (by decide) (by decide) (hm 0 (by decide)) dL_rendered_2 ?_
  refine r_nm (fun x9_3 => ?_)
  refine r_istore (lo2 := [(9, wi x9_3), (0, .ref (ma 0)), (1, .ref (ma 1)), (2, .ref (ma 2)), (3, .ref (ma 3)), (4, .ref (ma 6)), (5, .ref (ma 7)), (6, .ref (ma 8)), (7, .ref (ma 10)), (8, wi a8)]) dL_rendered_3 (by decide) rfl ?_
  refine r_aload (x := ma 7) dL_rendered_5 rfl ?_
  refine r_iload (x := a8) dL_rendered_7 rfl ?_
  refine r_aload_n (x := ma 0) dL_rendered_9 rfl rfl ?_
  refine r_aload_n (x := ma 1) dL_rendered_10 rfl rfl ?_
  refine r_aload_n (x := ma 2) dL_rendered_11 rfl rfl ?_
  refine r_aload_n (x := ma 3) dL_rendered_12 rfl rfl ?_
  refine r_aload (x := ma 6) dL_rendered_13 rfl ?_
  refine r_aload (x := ma 10) dL_rendered_15 rfl ?_
  refine r_iload (x := a8) dL_rendered_17 rfl ?_
  refine r_cs3j (k2 := k_L_renders) (n := 7) (rest := [wi a8, .ref (ma 7)]) rfl kv_L_renders (c_L_renders h hm 10 a8 (Or.inl rfl) (hm 10 (by decide)) _ _) (by decide) um_L_47 rfl (Nat.le_of_ble_eq_true rfl) dL_rendered_19 rfl (fun r1 E2 C3 q4 => ?_)
  refine r_wlast3 h (by decide) (by decide) (hm 7 (by decide)) dL_rendered_22 (fun E5 => ?_)
  refine r_aload_n (x := ma 0) dL_rendered_23 rfl rfl ?_
  refine r_aload (x := ma 6) dL_rendered_24 rfl ?_
  refine r_aload (x := ma 8) dL_rendered_26 rfl ?_
  refine r_iload (x := a8) dL_rendered_28 rfl ?_
  refine r_aload (x := ma 10) dL_rendered_30 rfl ?_
  refine ro_iconst (v := 2) dL_rendered_32 rfl ?_
  refine r_wiald3 h (by decide) (by decide) (hm 10 (by decide)) dL_rendered_33 ?_
  refine r_csv (J := fun (E_ : Rw) => (E_, C3, q4)) (k2 := k_L_sets) (n := 5) (rest := []) (fun _ => rfl) rfl kv_L_sets (c_L_sets (ad := adq ma q4) (K0 := C3) h (adq_hm hm) a8 (E5 10 (ix 2)) _) (by decide) um_L_51 rfl (Nat.le_of_ble_eq_true rfl) dL_rendered_34 rfl (fun r6 E7 => ?_)
  show RunO l Γ k_L_rendered 5 encV (em3 ma) 37 [(9, wi x9_3), (0, .ref (ma 0)), (1, .ref (ma 1)), (2, .ref (ma 2)), (3, .ref (ma 3)), (4, .ref (ma 6)), (5, .ref (ma 7)), (6, .ref (ma 8)), (7, .ref (ma 10)), (8, wi a8)] [] (E7, C3, q4) _
  refine r_aload (x := ma 6) dL_rendered_37 rfl ?_
  refine r_bipush (v := 7) dL_rendered_39 rfl ?_
  refine r_iload (x := a8) dL_rendered_41 rfl ?_
  refine r_imul dL_rendered_43 ?_
  refine r_iload (x := x9_3) dL_rendered_44 rfl ?_
  refine ro_iconst (v := 1) dL_rendered_46 rfl ?_
  refine r_iadd dL_rendered_47 ?_
  refine r_wiast3 h (by decide) (by decide) (hm 6 (by decide)) dL_rendered_48 (fun E8 => ?_)
  refine r_aload (x := ma 6) dL_rendered_49 rfl ?_
  refine r_bipush (v := 7) dL_rendered_51 rfl ?_
  refine r_iload (x := a8) dL_rendered_53 rfl ?_
  refine r_imul dL_rendered_55 ?_
  refine ro_iconst (v := 1) dL_rendered_56 rfl ?_
  refine r_iadd dL_rendered_57 ?_
  refine r_aload (x := ma 10) dL_rendered_58 rfl ?_
  refine ro_iconst (v := 4) dL_rendered_60 rfl ?_
  refine r_wiald3 h (by decide) (by decide) (hm 10 (by decide)) dL_rendered_61 ?_
  refine r_wiast3 h (by decide) (by decide) (hm 6 (by decide)) dL_rendered_62 (fun E9 => ?_)
  refine r_aload (x := ma 6) dL_rendered_63 rfl ?_
  refine r_bipush (v := 7) dL_rendered_65 rfl ?_
  refine r_iload (x := a8) dL_rendered_67 rfl ?_
  refine r_imul dL_rendered_69 ?_
  refine ro_iconst (v := 2) dL_rendered_70 rfl ?_
  refine r_iadd dL_rendered_71 ?_
  refine r_aload (x := ma 10) dL_rendered_72 rfl ?_
  refine ro_iconst (v := 0) dL_rendered_74 rfl ?_
  refine r_wiald3 h (by decide) (by decide) (hm 10 (by decide)) dL_rendered_75 ?_
  refine r_wiast3 h (by decide) (by decide) (hm 6 (by decide)) dL_rendered_76 (fun E10 => ?_)
  refine r_aload (x := ma 6) dL_rendered_77 rfl ?_
  refine r_bipush (v := 7) dL_rendered_79 rfl ?_
  refine r_iload (x := a8) dL_rendered_81 rfl ?_
  refine r_imul dL_rendered_83 ?_
  refine ro_iconst (v := 3) dL_rendered_84 rfl ?_
  refine r_iadd dL_rendered_85 ?_
  refine r_aload (x := ma 10) dL_rendered_86 rfl ?_
  refine ro_iconst (v := 1) dL_rendered_88 rfl ?_
  refine r_wiald3 h (by decide) (by decide) (hm 10 (by decide)) dL_rendered_89 ?_
  refine r_wiast3 h (by decide) (by decide) (hm 6 (by decide)) dL_rendered_90 (fun E11 => ?_)
  refine r_aload (x := ma 6) dL_rendered_91 rfl ?_
  refine r_bipush (v := 7) dL_rendered_93 rfl ?_
  refine r_iload (x := a8) dL_rendered_95 rfl ?_
  refine r_imul dL_rendered_97 ?_
  refine ro_iconst (v := 5) dL_rendered_98 rfl ?_
  refine r_iadd dL_rendered_99 ?_
  refine r_aload (x := ma 10) dL_rendered_100 rfl ?_
  refine ro_iconst (v := 3) dL_rendered_102 rfl ?_
  refine r_wiald3 h (by decide) (by decide) (hm 10 (by decide)) dL_rendered_103 ?_
  refine r_wiast3 h (by decide) (by decide) (hm 6 (by decide)) dL_rendered_104 (fun E12 => ?_)
  exact r_vret rfl dL_rendered_105
set_option maxHeartbeats 8000000 in
set_option maxRecDepth 100000 in
theorem b_L_law_1885 {l : Launch} {Γ : Cx} {ma : Nat → Nat} (h : wOn Γ) (hm : ∀ k, k ≤ 10 → ma k ≠ 0) (hG : GK Γ l) {sT : Nat → Nat} (hS : STs Γ sT) (hX : XN Γ) {T : List ExceptionTableEntry} (htb : T = []) {sb : Nat} (Ls : Nat) (xs : Nat → Int32) (hxs : XScr Γ sb Ls xs) : ∀ (t0_1885 : Int) (E_1885 : Rw) (C_1885 : Cd) (q_1885 : (Nat → Nat)), RunO l Γ (kL T) 16 encI (em3 ma) 1885 [] [wi t0_1885] (E_1885, C_1885, q_1885) (fW_law_1885 t0_1885 E_1885 C_1885 q_1885) := by
  intro t0_1885 E_1885 C_1885 q_1885
  unfold fW_law_1885
  exact r_zret rfl dL_law_1885
set_option maxHeartbeats 8000000 in
set_option maxRecDepth 100000 in
theorem b_L_law_1884 {l : Launch} {Γ : Cx} {ma : Nat → Nat} (h : wOn Γ) (hm : ∀ k, k ≤ 10 → ma k ≠ 0) (hG : GK Γ l) {sT : Nat → Nat} (hS : STs Γ sT) (hX : XN Γ) {T : List ExceptionTableEntry} (htb : T = []) {sb : Nat} (Ls : Nat) (xs : Nat → Int32) (hxs : XScr Γ sb Ls xs) (J1885 : Int → Rw → Cd → (Nat → Nat) → Option (Int × S3)) (hJ1885 : ∀ (t0_1885 : Int) (E_1885 : Rw) (C_1885 : Cd) (q_1885 : (Nat → Nat)), RunO l Γ (kL T) 16 encI (em3 ma) 1885 [] [wi t0_1885] (E_1885, C_1885, q_1885) (J1885 t0_1885 E_1885 C_1885 q_1885)) : ∀ (E_1884 : Rw) (C_1884 : Cd) (q_1884 : (Nat → Nat)), RunO l Γ (kL T) 16 encI (em3 ma) 1884 [] [] (E_1884, C_1884, q_1884) (fW_law_1884 J1885 E_1884 C_1884 q_1884) := by
  intro E_1884 C_1884 q_1884
  unfold fW_law_1884
  refine ro_iconst (v := 0) dL_law_1884 rfl ?_
  exact hJ1885 0 E_1884 C_1884 q_1884
set_option maxHeartbeats 8000000 in
set_option maxRecDepth 100000 in
theorem b_L_law_1850 {l : Launch} {Γ : Cx} {ma : Nat → Nat} (h : wOn Γ) (hm : ∀ k, k ≤ 10 → ma k ≠ 0) (hG : GK Γ l) {sT : Nat → Nat} (hS : STs Γ sT) (hX : XN Γ) {T : List ExceptionTableEntry} (htb : T = []) {sb : Nat} (Ls : Nat) (xs : Nat → Int32) (a1 : Nat) (v13_97 : Int) (hxs : XScr Γ sb Ls xs) : ∀ (E_1850 : Rw) (C_1850 : Cd) (q_1850 : (Nat → Nat)), RunO l Γ (kL T) 16 encI (em3 ma) 1850 [(1, .ref a1), (2, .ref (ma 0)), (3, .ref (ma 1)), (4, .ref (ma 2)), (5, .ref (ma 3)), (6, .ref (ma 4)), (8, .ref (ma 6)), (9, .ref (ma 7)), (10, .ref (ma 8)), (11, .ref (ma 9)), (13, wi v13_97)] [] (E_1850, C_1850, q_1850) (fW_law_1850 a1 v13_97 E_1850 C_1850 q_1850) := by
  intro E_1850 C_1850 q_1850
  unfold fW_law_1850
  refine r_iload (x := v13_97) dL_law_1850 rfl ?_
  refine r_join (P := fun (J : Int → Rw → Cd → (Nat → Nat) → Option (Int × S3)) => ∀ (t0_1885 : Int) (E_1885 : Rw) (C_1885 : Cd) (q_1885 : (Nat → Nat)), RunO l Γ (kL T) 16 encI (em3 ma) 1885 [] [wi t0_1885] (E_1885, C_1885, q_1885) (J t0_1885 E_1885 C_1885 q_1885)) ?_ (fun J1885 hJ1885 => ?_)
  · exact b_L_law_1885 h hm hG hS hX htb Ls xs hxs
  refine r_join (P := fun (J : Rw → Cd → (Nat → Nat) → Option (Int × S3)) => ∀ (E_1884 : Rw) (C_1884 : Cd) (q_1884 : (Nat → Nat)), RunO l Γ (kL T) 16 encI (em3 ma) 1884 [] [] (E_1884, C_1884, q_1884) (J E_1884 C_1884 q_1884)) ?_ (fun J1884 hJ1884 => ?_)
  · exact b_L_law_1884 h hm hG hS hX htb Ls xs hxs J1885 hJ1885
  refine r_if_eq (tgt := 1884) dL_law_1852 (by decide) ?_ ?_
  · refine r_lo [] (lo2 := []) rfl ?_
    exact hJ1884 E_1850 C_1850 q_1850
  · refine r_aload_n (x := a1) dL_law_1855 rfl rfl ?_
    refine r_aload_n (x := ma 0) dL_law_1856 rfl rfl ?_
    refine r_aload_n (x := ma 1) dL_law_1857 rfl rfl ?_
    refine r_aload (x := ma 2) dL_law_1858 rfl ?_
    refine r_aload (x := ma 3) dL_law_1860 rfl ?_
    refine r_aload (x := ma 4) dL_law_1862 rfl ?_
    refine r_aload (x := ma 6) dL_law_1864 rfl ?_
    refine r_aload (x := ma 7) dL_law_1866 rfl ?_
    refine r_aload (x := ma 8) dL_law_1868 rfl ?_
    refine r_aload (x := ma 9) dL_law_1870 rfl ?_
    refine r_bipush (v := 13) dL_law_1872 rfl ?_
    refine r_cs3i (k2 := k_L_isWiki) (n := 11) (rest := []) htb kv_L_isWiki (c_L_isWiki h hm hG hX a1 13 _ _ _) (by decide) um_L_180 rfl (Nat.le_of_ble_eq_true rfl) dL_law_1874 rfl (fun r5 E6 C7 q8 => ?_)
    refine r_if_eq (tgt := 1884) dL_law_1877 (by decide) ?_ ?_
    · refine r_lo [] (lo2 := []) rfl ?_
      exact hJ1884 E6 C7 q8
    · refine ro_iconst (v := 1) dL_law_1880 rfl ?_
      refine r_goto (tgt := 1885) dL_law_1881 (by decide) ?_
      refine r_lo [] (lo2 := []) rfl ?_
      exact hJ1885 1 E6 C7 q8
set_option maxHeartbeats 8000000 in
set_option maxRecDepth 100000 in
theorem b_L_law_1842 {l : Launch} {Γ : Cx} {ma : Nat → Nat} (h : wOn Γ) (hm : ∀ k, k ≤ 10 → ma k ≠ 0) (hG : GK Γ l) {sT : Nat → Nat} (hS : STs Γ sT) (hX : XN Γ) {T : List ExceptionTableEntry} (htb : T = []) {sb : Nat} (Ls : Nat) (xs : Nat → Int32) (a1 : Nat) (v14_97 : Int) (hxs : XScr Γ sb Ls xs) (L97 : Int → Int → Rw → Cd → (Nat → Nat) → Option (Int × S3)) (hL97 : ∀ (v13_97 : Int) (v14_97 : Int) (E_97 : Rw) (C_97 : Cd) (q_97 : (Nat → Nat)), RunO l Γ (kL T) 16 encI (em3 ma) 97 [(0, .ref sb), (1, .ref a1), (2, .ref (ma 0)), (3, .ref (ma 1)), (4, .ref (ma 2)), (5, .ref (ma 3)), (6, .ref (ma 4)), (7, .ref (ma 5)), (8, .ref (ma 6)), (9, .ref (ma 7)), (10, .ref (ma 8)), (11, .ref (ma 9)), (12, .ref (ma 10)), (13, wi v13_97), (14, wi v14_97)] [] (E_97, C_97, q_97) (L97 v13_97 v14_97 E_97 C_97 q_97)) : ∀ (t0_1842 : Int) (E_1842 : Rw) (C_1842 : Cd) (q_1842 : (Nat → Nat)), RunO l Γ (kL T) 16 encI (em3 ma) 1842 [(0, .ref sb), (1, .ref a1), (2, .ref (ma 0)), (3, .ref (ma 1)), (4, .ref (ma 2)), (5, .ref (ma 3)), (6, .ref (ma 4)), (7, .ref (ma 5)), (8, .ref (ma 6)), (9, .ref (ma 7)), (10, .ref (ma 8)), (11, .ref (ma 9)), (12, .ref (ma 10)), (14, wi v14_97)] [wi t0_1842] (E_1842, C_1842, q_1842) (fW_law_1842 L97 v14_97 t0_1842 E_1842 C_1842 q_1842) := by
  intro t0_1842 E_1842 C_1842 q_1842
  unfold fW_law_1842
  refine r_istore (lo2 := [(13, wi t0_1842), (0, .ref sb), (1, .ref a1), (2, .ref (ma 0)), (3, .ref (ma 1)), (4, .ref (ma 2)), (5, .ref (ma 3)), (6, .ref (ma 4)), (7, .ref (ma 5)), (8, .ref (ma 6)), (9, .ref (ma 7)), (10, .ref (ma 8)), (11, .ref (ma 9)), (12, .ref (ma 10)), (14, wi v14_97)]) dL_law_1842 (show 13 < 35 by decide) rfl ?_
  refine r_iinc (x := v14_97) (lo2 := [(14, wi (v14_97 + 1)), (13, wi t0_1842), (0, .ref sb), (1, .ref a1), (2, .ref (ma 0)), (3, .ref (ma 1)), (4, .ref (ma 2)), (5, .ref (ma 3)), (6, .ref (ma 4)), (7, .ref (ma 5)), (8, .ref (ma 6)), (9, .ref (ma 7)), (10, .ref (ma 8)), (11, .ref (ma 9)), (12, .ref (ma 10))]) dL_law_1844 rfl (show 14 < 35 by decide) rfl ?_
  refine r_goto (tgt := 97) dL_law_1847 (by decide) ?_
  refine r_lo [2, 3, 4, 5, 6, 7, 8, 9, 10, 11, 12, 13, 14, 1, 0] (lo2 := [(0, .ref sb), (1, .ref a1), (2, .ref (ma 0)), (3, .ref (ma 1)), (4, .ref (ma 2)), (5, .ref (ma 3)), (6, .ref (ma 4)), (7, .ref (ma 5)), (8, .ref (ma 6)), (9, .ref (ma 7)), (10, .ref (ma 8)), (11, .ref (ma 9)), (12, .ref (ma 10)), (13, wi t0_1842), (14, wi (v14_97 + 1))]) rfl ?_
  exact hL97 t0_1842 (v14_97 + 1) E_1842 C_1842 q_1842
set_option maxHeartbeats 8000000 in
set_option maxRecDepth 100000 in
theorem b_L_law_1841 {l : Launch} {Γ : Cx} {ma : Nat → Nat} (h : wOn Γ) (hm : ∀ k, k ≤ 10 → ma k ≠ 0) (hG : GK Γ l) {sT : Nat → Nat} (hS : STs Γ sT) (hX : XN Γ) {T : List ExceptionTableEntry} (htb : T = []) {sb : Nat} (Ls : Nat) (xs : Nat → Int32) (a1 : Nat) (v14_97 : Int) (hxs : XScr Γ sb Ls xs) (J1842 : Int → Rw → Cd → (Nat → Nat) → Option (Int × S3)) (hJ1842 : ∀ (t0_1842 : Int) (E_1842 : Rw) (C_1842 : Cd) (q_1842 : (Nat → Nat)), RunO l Γ (kL T) 16 encI (em3 ma) 1842 [(0, .ref sb), (1, .ref a1), (2, .ref (ma 0)), (3, .ref (ma 1)), (4, .ref (ma 2)), (5, .ref (ma 3)), (6, .ref (ma 4)), (7, .ref (ma 5)), (8, .ref (ma 6)), (9, .ref (ma 7)), (10, .ref (ma 8)), (11, .ref (ma 9)), (12, .ref (ma 10)), (14, wi v14_97)] [wi t0_1842] (E_1842, C_1842, q_1842) (J1842 t0_1842 E_1842 C_1842 q_1842)) : ∀ (E_1841 : Rw) (C_1841 : Cd) (q_1841 : (Nat → Nat)), RunO l Γ (kL T) 16 encI (em3 ma) 1841 [(0, .ref sb), (1, .ref a1), (2, .ref (ma 0)), (3, .ref (ma 1)), (4, .ref (ma 2)), (5, .ref (ma 3)), (6, .ref (ma 4)), (7, .ref (ma 5)), (8, .ref (ma 6)), (9, .ref (ma 7)), (10, .ref (ma 8)), (11, .ref (ma 9)), (12, .ref (ma 10)), (14, wi v14_97)] [] (E_1841, C_1841, q_1841) (fW_law_1841 J1842 E_1841 C_1841 q_1841) := by
  intro E_1841 C_1841 q_1841
  unfold fW_law_1841
  refine ro_iconst (v := 0) dL_law_1841 rfl ?_
  exact hJ1842 0 E_1841 C_1841 q_1841
set_option maxHeartbeats 8000000 in
set_option maxRecDepth 100000 in
theorem b_L_law_1837 {l : Launch} {Γ : Cx} {ma : Nat → Nat} (h : wOn Γ) (hm : ∀ k, k ≤ 10 → ma k ≠ 0) (hG : GK Γ l) {sT : Nat → Nat} (hS : STs Γ sT) (hX : XN Γ) {T : List ExceptionTableEntry} (htb : T = []) {sb : Nat} (Ls : Nat) (xs : Nat → Int32) (a1 : Nat) (v14_97 : Int) (hxs : XScr Γ sb Ls xs) (J1842 : Int → Rw → Cd → (Nat → Nat) → Option (Int × S3)) (hJ1842 : ∀ (t0_1842 : Int) (E_1842 : Rw) (C_1842 : Cd) (q_1842 : (Nat → Nat)), RunO l Γ (kL T) 16 encI (em3 ma) 1842 [(0, .ref sb), (1, .ref a1), (2, .ref (ma 0)), (3, .ref (ma 1)), (4, .ref (ma 2)), (5, .ref (ma 3)), (6, .ref (ma 4)), (7, .ref (ma 5)), (8, .ref (ma 6)), (9, .ref (ma 7)), (10, .ref (ma 8)), (11, .ref (ma 9)), (12, .ref (ma 10)), (14, wi v14_97)] [wi t0_1842] (E_1842, C_1842, q_1842) (J1842 t0_1842 E_1842 C_1842 q_1842)) : ∀ (E_1837 : Rw) (C_1837 : Cd) (q_1837 : (Nat → Nat)), RunO l Γ (kL T) 16 encI (em3 ma) 1837 [(0, .ref sb), (1, .ref a1), (2, .ref (ma 0)), (3, .ref (ma 1)), (4, .ref (ma 2)), (5, .ref (ma 3)), (6, .ref (ma 4)), (7, .ref (ma 5)), (8, .ref (ma 6)), (9, .ref (ma 7)), (10, .ref (ma 8)), (11, .ref (ma 9)), (12, .ref (ma 10)), (14, wi v14_97)] [] (E_1837, C_1837, q_1837) (fW_law_1837 J1842 E_1837 C_1837 q_1837) := by
  intro E_1837 C_1837 q_1837
  unfold fW_law_1837
  refine ro_iconst (v := 1) dL_law_1837 rfl ?_
  refine r_goto (tgt := 1842) dL_law_1838 (by decide) ?_
  exact hJ1842 1 E_1837 C_1837 q_1837
set_option maxHeartbeats 8000000 in
set_option maxRecDepth 100000 in
theorem b_L_law_1788 {l : Launch} {Γ : Cx} {ma : Nat → Nat} (h : wOn Γ) (hm : ∀ k, k ≤ 10 → ma k ≠ 0) (hG : GK Γ l) {sT : Nat → Nat} (hS : STs Γ sT) (hX : XN Γ) {T : List ExceptionTableEntry} (htb : T = []) {sb : Nat} (Ls : Nat) (xs : Nat → Int32) (a1 : Nat) (v14_97 : Int) (x17_171 : Int) (hxs : XScr Γ sb Ls xs) (L97 : Int → Int → Rw → Cd → (Nat → Nat) → Option (Int × S3)) (hL97 : ∀ (v13_97 : Int) (v14_97 : Int) (E_97 : Rw) (C_97 : Cd) (q_97 : (Nat → Nat)), RunO l Γ (kL T) 16 encI (em3 ma) 97 [(0, .ref sb), (1, .ref a1), (2, .ref (ma 0)), (3, .ref (ma 1)), (4, .ref (ma 2)), (5, .ref (ma 3)), (6, .ref (ma 4)), (7, .ref (ma 5)), (8, .ref (ma 6)), (9, .ref (ma 7)), (10, .ref (ma 8)), (11, .ref (ma 9)), (12, .ref (ma 10)), (13, wi v13_97), (14, wi v14_97)] [] (E_97, C_97, q_97) (L97 v13_97 v14_97 E_97 C_97 q_97)) : ∀ (v13_1788 : Int) (E_1788 : Rw) (C_1788 : Cd) (q_1788 : (Nat → Nat)), RunO l Γ (kL T) 16 encI (em3 ma) 1788 [(0, .ref sb), (1, .ref a1), (2, .ref (ma 0)), (3, .ref (ma 1)), (4, .ref (ma 2)), (5, .ref (ma 3)), (6, .ref (ma 4)), (7, .ref (ma 5)), (8, .ref (ma 6)), (9, .ref (ma 7)), (10, .ref (ma 8)), (11, .ref (ma 9)), (12, .ref (ma 10)), (13, wi v13_1788), (14, wi v14_97), (17, wi x17_171)] [] (E_1788, C_1788, q_1788) (fW_law_1788 a1 L97 v14_97 x17_171 v13_1788 E_1788 C_1788 q_1788) := by
  intro v13_1788 E_1788 C_1788 q_1788
  unfold fW_law_1788
  refine r_aload_n (x := ma 0) dL_law_1788 rfl rfl ?_
  refine r_aload_n (x := ma 1) dL_law_1789 rfl rfl ?_
  refine r_aload (x := ma 2) dL_law_1790 rfl ?_
  refine r_aload (x := ma 4) dL_law_1792 rfl ?_
  refine r_aload (x := ma 5) dL_law_1794 rfl ?_
  refine r_csv (J := fun (E_ : Rw) => (E_, C_1788, q_1788)) (k2 := k_L_settles) (n := 5) (rest := []) (fun _ => rfl) htb kv_L_settles (c_L_settles (ad := adq ma q_1788) (K0 := C_1788) h (adq_hm hm)  _) (by decide) um_L_231 rfl (Nat.le_of_ble_eq_true rfl) dL_law_1796 rfl (fun r12 E13 => ?_)
  show RunO l Γ (kL T) 16 encI (em3 ma) 1799 [(0, .ref sb), (1, .ref a1), (2, .ref (ma 0)), (3, .ref (ma 1)), (4, .ref (ma 2)), (5, .ref (ma 3)), (6, .ref (ma 4)), (7, .ref (ma 5)), (8, .ref (ma 6)), (9, .ref (ma 7)), (10, .ref (ma 8)), (11, .ref (ma 9)), (12, .ref (ma 10)), (13, wi v13_1788), (14, wi v14_97), (17, wi x17_171)] [] (E13, C_1788, q_1788) _
  refine r_iload (x := v13_1788) dL_law_1799 rfl ?_
  refine r_join (P := fun (J : Int → Rw → Cd → (Nat → Nat) → Option (Int × S3)) => ∀ (t0_1842 : Int) (E_1842 : Rw) (C_1842 : Cd) (q_1842 : (Nat → Nat)), RunO l Γ (kL T) 16 encI (em3 ma) 1842 [(0, .ref sb), (1, .ref a1), (2, .ref (ma 0)), (3, .ref (ma 1)), (4, .ref (ma 2)), (5, .ref (ma 3)), (6, .ref (ma 4)), (7, .ref (ma 5)), (8, .ref (ma 6)), (9, .ref (ma 7)), (10, .ref (ma 8)), (11, .ref (ma 9)), (12, .ref (ma 10)), (14, wi v14_97)] [wi t0_1842] (E_1842, C_1842, q_1842) (J t0_1842 E_1842 C_1842 q_1842)) ?_ (fun J1842 hJ1842 => ?_)
  · exact b_L_law_1842 h hm hG hS hX htb Ls xs a1 v14_97 hxs L97 hL97
  refine r_join (P := fun (J : Rw → Cd → (Nat → Nat) → Option (Int × S3)) => ∀ (E_1841 : Rw) (C_1841 : Cd) (q_1841 : (Nat → Nat)), RunO l Γ (kL T) 16 encI (em3 ma) 1841 [(0, .ref sb), (1, .ref a1), (2, .ref (ma 0)), (3, .ref (ma 1)), (4, .ref (ma 2)), (5, .ref (ma 3)), (6, .ref (ma 4)), (7, .ref (ma 5)), (8, .ref (ma 6)), (9, .ref (ma 7)), (10, .ref (ma 8)), (11, .ref (ma 9)), (12, .ref (ma 10)), (14, wi v14_97)] [] (E_1841, C_1841, q_1841) (J E_1841 C_1841 q_1841)) ?_ (fun J1841 hJ1841 => ?_)
  · exact b_L_law_1841 h hm hG hS hX htb Ls xs a1 v14_97 hxs J1842 hJ1842
  refine r_if_eq (tgt := 1841) dL_law_1801 (by decide) ?_ ?_
  · refine r_lo [0, 1, 2, 3, 4, 5, 6, 7, 8, 9, 10, 11, 12, 14] (lo2 := [(0, .ref sb), (1, .ref a1), (2, .ref (ma 0)), (3, .ref (ma 1)), (4, .ref (ma 2)), (5, .ref (ma 3)), (6, .ref (ma 4)), (7, .ref (ma 5)), (8, .ref (ma 6)), (9, .ref (ma 7)), (10, .ref (ma 8)), (11, .ref (ma 9)), (12, .ref (ma 10)), (14, wi v14_97)]) rfl ?_
    exact hJ1841 E13 C_1788 q_1788
  · refine r_iload (x := v14_97) dL_law_1804 rfl ?_
    refine ro_iconst (v := 5) dL_law_1806 rfl ?_
    refine r_irem dL_law_1807 (by decide) ?_
    refine ro_iconst (v := 4) dL_law_1808 rfl ?_
    refine r_join (P := fun (J : Rw → Cd → (Nat → Nat) → Option (Int × S3)) => ∀ (E_1837 : Rw) (C_1837 : Cd) (q_1837 : (Nat → Nat)), RunO l Γ (kL T) 16 encI (em3 ma) 1837 [(0, .ref sb), (1, .ref a1), (2, .ref (ma 0)), (3, .ref (ma 1)), (4, .ref (ma 2)), (5, .ref (ma 3)), (6, .ref (ma 4)), (7, .ref (ma 5)), (8, .ref (ma 6)), (9, .ref (ma 7)), (10, .ref (ma 8)), (11, .ref (ma 9)), (12, .ref (ma 10)), (14, wi v14_97)] [] (E_1837, C_1837, q_1837) (J E_1837 C_1837 q_1837)) ?_ (fun J1837 hJ1837 => ?_)
    · exact b_L_law_1837 h hm hG hS hX htb Ls xs a1 v14_97 hxs J1842 hJ1842
    refine r_icmp_lt (tgt := 1837) dL_law_1809 (by decide) ?_ ?_
    · refine r_lo [0, 1, 2, 3, 4, 5, 6, 7, 8, 9, 10, 11, 12, 14] (lo2 := [(0, .ref sb), (1, .ref a1), (2, .ref (ma 0)), (3, .ref (ma 1)), (4, .ref (ma 2)), (5, .ref (ma 3)), (6, .ref (ma 4)), (7, .ref (ma 5)), (8, .ref (ma 6)), (9, .ref (ma 7)), (10, .ref (ma 8)), (11, .ref (ma 9)), (12, .ref (ma 10)), (14, wi v14_97)]) rfl ?_
      exact hJ1837 E13 C_1788 q_1788
    · refine r_aload_n (x := a1) dL_law_1812 rfl rfl ?_
      refine r_aload_n (x := ma 0) dL_law_1813 rfl rfl ?_
      refine r_aload_n (x := ma 1) dL_law_1814 rfl rfl ?_
      refine r_aload (x := ma 2) dL_law_1815 rfl ?_
      refine r_aload (x := ma 3) dL_law_1817 rfl ?_
      refine r_aload (x := ma 4) dL_law_1819 rfl ?_
      refine r_aload (x := ma 6) dL_law_1821 rfl ?_
      refine r_aload (x := ma 7) dL_law_1823 rfl ?_
      refine r_aload (x := ma 8) dL_law_1825 rfl ?_
      refine r_aload (x := ma 9) dL_law_1827 rfl ?_
      refine r_iload (x := x17_171) dL_law_1829 rfl ?_
      refine r_cs3i (k2 := k_L_isWiki) (n := 11) (rest := []) htb kv_L_isWiki (c_L_isWiki h hm hG hX a1 x17_171 _ _ _) (by decide) um_L_180 rfl (Nat.le_of_ble_eq_true rfl) dL_law_1831 rfl (fun r14 E15 C16 q17 => ?_)
      refine r_if_eq (tgt := 1841) dL_law_1834 (by decide) ?_ ?_
      · refine r_lo [0, 1, 2, 3, 4, 5, 6, 7, 8, 9, 10, 11, 12, 14] (lo2 := [(0, .ref sb), (1, .ref a1), (2, .ref (ma 0)), (3, .ref (ma 1)), (4, .ref (ma 2)), (5, .ref (ma 3)), (6, .ref (ma 4)), (7, .ref (ma 5)), (8, .ref (ma 6)), (9, .ref (ma 7)), (10, .ref (ma 8)), (11, .ref (ma 9)), (12, .ref (ma 10)), (14, wi v14_97)]) rfl ?_
        exact hJ1841 E15 C16 q17
      · refine r_lo [0, 1, 2, 3, 4, 5, 6, 7, 8, 9, 10, 11, 12, 14] (lo2 := [(0, .ref sb), (1, .ref a1), (2, .ref (ma 0)), (3, .ref (ma 1)), (4, .ref (ma 2)), (5, .ref (ma 3)), (6, .ref (ma 4)), (7, .ref (ma 5)), (8, .ref (ma 6)), (9, .ref (ma 7)), (10, .ref (ma 8)), (11, .ref (ma 9)), (12, .ref (ma 10)), (14, wi v14_97)]) rfl ?_
        exact hJ1837 E15 C16 q17
set_option maxHeartbeats 8000000 in
set_option maxRecDepth 100000 in
theorem b_L_law_1787 {l : Launch} {Γ : Cx} {ma : Nat → Nat} (h : wOn Γ) (hm : ∀ k, k ≤ 10 → ma k ≠ 0) (hG : GK Γ l) {sT : Nat → Nat} (hS : STs Γ sT) (hX : XN Γ) {T : List ExceptionTableEntry} (htb : T = []) {sb : Nat} (Ls : Nat) (xs : Nat → Int32) (a1 : Nat) (v14_97 : Int) (x17_171 : Int) (t0_189 : Int) (x24_1634 : Int) (t0_1712 : Int) (hxs : XScr Γ sb Ls xs) (J1788 : Int → Rw → Cd → (Nat → Nat) → Option (Int × S3)) (hJ1788 : ∀ (v13_1788 : Int) (E_1788 : Rw) (C_1788 : Cd) (q_1788 : (Nat → Nat)), RunO l Γ (kL T) 16 encI (em3 ma) 1788 [(0, .ref sb), (1, .ref a1), (2, .ref (ma 0)), (3, .ref (ma 1)), (4, .ref (ma 2)), (5, .ref (ma 3)), (6, .ref (ma 4)), (7, .ref (ma 5)), (8, .ref (ma 6)), (9, .ref (ma 7)), (10, .ref (ma 8)), (11, .ref (ma 9)), (12, .ref (ma 10)), (13, wi v13_1788), (14, wi v14_97), (17, wi x17_171)] [] (E_1788, C_1788, q_1788) (J1788 v13_1788 E_1788 C_1788 q_1788)) : ∀ (t0_1787 : Int) (E_1787 : Rw) (C_1787 : Cd) (q_1787 : (Nat → Nat)), RunO l Γ (kL T) 16 encI (em3 ma) 1787 [(0, .ref sb), (1, .ref a1), (2, .ref (ma 0)), (3, .ref (ma 1)), (4, .ref (ma 2)), (5, .ref (ma 3)), (6, .ref (ma 4)), (7, .ref (ma 5)), (8, .ref (ma 6)), (9, .ref (ma 7)), (10, .ref (ma 8)), (11, .ref (ma 9)), (12, .ref (ma 10)), (13, wi t0_1712), (14, wi v14_97), (17, wi x17_171)] [wi t0_1787, wi ((16 + t0_189) + (8 * x24_1634)), .ref (ma 9)] (E_1787, C_1787, q_1787) (fW_law_1787 t0_189 J1788 x24_1634 t0_1712 t0_1787 E_1787 C_1787 q_1787) := by
  intro t0_1787 E_1787 C_1787 q_1787
  unfold fW_law_1787
  refine r_wiast3 h (by decide) (by decide) (hm 9 (by decide)) dL_law_1787 (fun E21 => ?_)
  exact hJ1788 t0_1712 E21 C_1787 q_1787
set_option maxHeartbeats 8000000 in
set_option maxRecDepth 100000 in
theorem b_L_law_1747 {l : Launch} {Γ : Cx} {ma : Nat → Nat} (h : wOn Γ) (hm : ∀ k, k ≤ 10 → ma k ≠ 0) (hG : GK Γ l) {sT : Nat → Nat} (hS : STs Γ sT) (hX : XN Γ) {T : List ExceptionTableEntry} (htb : T = []) {sb : Nat} (Ls : Nat) (xs : Nat → Int32) (a1 : Nat) (v14_97 : Int) (x17_171 : Int) (t0_189 : Int) (r9 : Int) (x24_1634 : Int) (t0_1653 : Int) (t0_1712 : Int) (hxs : XScr Γ sb Ls xs) (J1788 : Int → Rw → Cd → (Nat → Nat) → Option (Int × S3)) (hJ1788 : ∀ (v13_1788 : Int) (E_1788 : Rw) (C_1788 : Cd) (q_1788 : (Nat → Nat)), RunO l Γ (kL T) 16 encI (em3 ma) 1788 [(0, .ref sb), (1, .ref a1), (2, .ref (ma 0)), (3, .ref (ma 1)), (4, .ref (ma 2)), (5, .ref (ma 3)), (6, .ref (ma 4)), (7, .ref (ma 5)), (8, .ref (ma 6)), (9, .ref (ma 7)), (10, .ref (ma 8)), (11, .ref (ma 9)), (12, .ref (ma 10)), (13, wi v13_1788), (14, wi v14_97), (17, wi x17_171)] [] (E_1788, C_1788, q_1788) (J1788 v13_1788 E_1788 C_1788 q_1788)) : ∀ (t0_1747 : Int) (E_1747 : Rw) (C_1747 : Cd) (q_1747 : (Nat → Nat)), RunO l Γ (kL T) 16 encI (em3 ma) 1747 [(0, .ref sb), (1, .ref a1), (2, .ref (ma 0)), (3, .ref (ma 1)), (4, .ref (ma 2)), (5, .ref (ma 3)), (6, .ref (ma 4)), (7, .ref (ma 5)), (8, .ref (ma 6)), (9, .ref (ma 7)), (10, .ref (ma 8)), (11, .ref (ma 9)), (12, .ref (ma 10)), (13, wi t0_1712), (14, wi v14_97), (17, wi x17_171), (18, wi t0_189), (20, wi r9), (24, wi x24_1634), (25, wi t0_1653)] [wi t0_1747, wi (t0_189 + (8 * x24_1634)), .ref (ma 9)] (E_1747, C_1747, q_1747) (fW_law_1747 t0_189 r9 J1788 x24_1634 t0_1653 t0_1712 t0_1747 E_1747 C_1747 q_1747) := by
  intro t0_1747 E_1747 C_1747 q_1747
  unfold fW_law_1747
  refine r_wiast3 h (by decide) (by decide) (hm 9 (by decide)) dL_law_1747 (fun E20 => ?_)
  refine r_aload (x := ma 9) dL_law_1748 rfl ?_
  refine r_bipush (v := 16) dL_law_1750 rfl ?_
  refine r_iload (x := t0_189) dL_law_1752 rfl ?_
  refine r_iadd dL_law_1754 ?_
  refine r_bipush (v := 8) dL_law_1755 rfl ?_
  refine r_iload (x := x24_1634) dL_law_1757 rfl ?_
  refine r_imul dL_law_1759 ?_
  refine r_iadd dL_law_1760 ?_
  refine r_iload (x := t0_1653) dL_law_1761 rfl ?_
  refine r_join (P := fun (J : Int → Rw → Cd → (Nat → Nat) → Option (Int × S3)) => ∀ (t0_1787 : Int) (E_1787 : Rw) (C_1787 : Cd) (q_1787 : (Nat → Nat)), RunO l Γ (kL T) 16 encI (em3 ma) 1787 [(0, .ref sb), (1, .ref a1), (2, .ref (ma 0)), (3, .ref (ma 1)), (4, .ref (ma 2)), (5, .ref (ma 3)), (6, .ref (ma 4)), (7, .ref (ma 5)), (8, .ref (ma 6)), (9, .ref (ma 7)), (10, .ref (ma 8)), (11, .ref (ma 9)), (12, .ref (ma 10)), (13, wi t0_1712), (14, wi v14_97), (17, wi x17_171)] [wi t0_1787, wi ((16 + t0_189) + (8 * x24_1634)), .ref (ma 9)] (E_1787, C_1787, q_1787) (J t0_1787 E_1787 C_1787 q_1787)) ?_ (fun J1787 hJ1787 => ?_)
  · exact b_L_law_1787 h hm hG hS hX htb Ls xs a1 v14_97 x17_171 t0_189 x24_1634 t0_1712 hxs J1788 hJ1788
  refine r_if_eq (tgt := 1773) dL_law_1763 (by decide) ?_ ?_
  · refine r_aload (x := ma 9) dL_law_1773 rfl ?_
    refine r_bipush (v := 16) dL_law_1775 rfl ?_
    refine r_iload (x := t0_189) dL_law_1777 rfl ?_
    refine r_iadd dL_law_1779 ?_
    refine r_bipush (v := 8) dL_law_1780 rfl ?_
    refine r_iload (x := x24_1634) dL_law_1782 rfl ?_
    refine r_imul dL_law_1784 ?_
    refine r_iadd dL_law_1785 ?_
    refine r_wiald3 h (by decide) (by decide) (hm 9 (by decide)) dL_law_1786 ?_
    refine r_lo [0, 1, 2, 3, 4, 5, 6, 7, 8, 9, 10, 11, 12, 13, 14, 15] (lo2 := [(0, .ref sb), (1, .ref a1), (2, .ref (ma 0)), (3, .ref (ma 1)), (4, .ref (ma 2)), (5, .ref (ma 3)), (6, .ref (ma 4)), (7, .ref (ma 5)), (8, .ref (ma 6)), (9, .ref (ma 7)), (10, .ref (ma 8)), (11, .ref (ma 9)), (12, .ref (ma 10)), (13, wi t0_1712), (14, wi v14_97), (17, wi x17_171)]) rfl ?_
    exact hJ1787 (E20 9 (ix ((16 + t0_189) + (8 * x24_1634)))) E20 C_1747 q_1747
  · refine r_iload (x := r9) dL_law_1766 rfl ?_
    refine ro_iconst (v := 1) dL_law_1768 rfl ?_
    refine r_iadd dL_law_1769 ?_
    refine r_goto (tgt := 1787) dL_law_1770 (by decide) ?_
    refine r_lo [0, 1, 2, 3, 4, 5, 6, 7, 8, 9, 10, 11, 12, 13, 14, 15] (lo2 := [(0, .ref sb), (1, .ref a1), (2, .ref (ma 0)), (3, .ref (ma 1)), (4, .ref (ma 2)), (5, .ref (ma 3)), (6, .ref (ma 4)), (7, .ref (ma 5)), (8, .ref (ma 6)), (9, .ref (ma 7)), (10, .ref (ma 8)), (11, .ref (ma 9)), (12, .ref (ma 10)), (13, wi t0_1712), (14, wi v14_97), (17, wi x17_171)]) rfl ?_
    exact hJ1787 (r9 + 1) E20 C_1747 q_1747
set_option maxHeartbeats 8000000 in
set_option maxRecDepth 100000 in
theorem b_L_law_1712 {l : Launch} {Γ : Cx} {ma : Nat → Nat} (h : wOn Γ) (hm : ∀ k, k ≤ 10 → ma k ≠ 0) (hG : GK Γ l) {sT : Nat → Nat} (hS : STs Γ sT) (hX : XN Γ) {T : List ExceptionTableEntry} (htb : T = []) {sb : Nat} (Ls : Nat) (xs : Nat → Int32) (a1 : Nat) (v14_97 : Int) (x17_171 : Int) (t0_189 : Int) (r9 : Int) (x23_234 : Int) (x24_1634 : Int) (t0_1653 : Int) (hxs : XScr Γ sb Ls xs) (J1788 : Int → Rw → Cd → (Nat → Nat) → Option (Int × S3)) (hJ1788 : ∀ (v13_1788 : Int) (E_1788 : Rw) (C_1788 : Cd) (q_1788 : (Nat → Nat)), RunO l Γ (kL T) 16 encI (em3 ma) 1788 [(0, .ref sb), (1, .ref a1), (2, .ref (ma 0)), (3, .ref (ma 1)), (4, .ref (ma 2)), (5, .ref (ma 3)), (6, .ref (ma 4)), (7, .ref (ma 5)), (8, .ref (ma 6)), (9, .ref (ma 7)), (10, .ref (ma 8)), (11, .ref (ma 9)), (12, .ref (ma 10)), (13, wi v13_1788), (14, wi v14_97), (17, wi x17_171)] [] (E_1788, C_1788, q_1788) (J1788 v13_1788 E_1788 C_1788 q_1788)) : ∀ (t0_1712 : Int) (E_1712 : Rw) (C_1712 : Cd) (q_1712 : (Nat → Nat)), RunO l Γ (kL T) 16 encI (em3 ma) 1712 [(0, .ref sb), (1, .ref a1), (2, .ref (ma 0)), (3, .ref (ma 1)), (4, .ref (ma 2)), (5, .ref (ma 3)), (6, .ref (ma 4)), (7, .ref (ma 5)), (8, .ref (ma 6)), (9, .ref (ma 7)), (10, .ref (ma 8)), (11, .ref (ma 9)), (12, .ref (ma 10)), (14, wi v14_97), (17, wi x17_171), (18, wi t0_189), (20, wi r9), (23, wi x23_234), (24, wi x24_1634), (25, wi t0_1653)] [wi t0_1712] (E_1712, C_1712, q_1712) (fW_law_1712 t0_189 r9 x23_234 J1788 x24_1634 t0_1653 t0_1712 E_1712 C_1712 q_1712) := by
  intro t0_1712 E_1712 C_1712 q_1712
  unfold fW_law_1712
  refine r_istore (lo2 := [(13, wi t0_1712), (0, .ref sb), (1, .ref a1), (2, .ref (ma 0)), (3, .ref (ma 1)), (4, .ref (ma 2)), (5, .ref (ma 3)), (6, .ref (ma 4)), (7, .ref (ma 5)), (8, .ref (ma 6)), (9, .ref (ma 7)), (10, .ref (ma 8)), (11, .ref (ma 9)), (12, .ref (ma 10)), (14, wi v14_97), (17, wi x17_171), (18, wi t0_189), (20, wi r9), (23, wi x23_234), (24, wi x24_1634), (25, wi t0_1653)]) dL_law_1712 (show 13 < 35 by decide) rfl ?_
  refine r_aload (x := ma 9) dL_law_1714 rfl ?_
  refine r_iload (x := t0_189) dL_law_1716 rfl ?_
  refine r_bipush (v := 8) dL_law_1718 rfl ?_
  refine r_iload (x := x24_1634) dL_law_1720 rfl ?_
  refine r_imul dL_law_1722 ?_
  refine r_iadd dL_law_1723 ?_
  refine r_iload (x := t0_1653) dL_law_1724 rfl ?_
  refine r_join (P := fun (J : Int → Rw → Cd → (Nat → Nat) → Option (Int × S3)) => ∀ (t0_1747 : Int) (E_1747 : Rw) (C_1747 : Cd) (q_1747 : (Nat → Nat)), RunO l Γ (kL T) 16 encI (em3 ma) 1747 [(0, .ref sb), (1, .ref a1), (2, .ref (ma 0)), (3, .ref (ma 1)), (4, .ref (ma 2)), (5, .ref (ma 3)), (6, .ref (ma 4)), (7, .ref (ma 5)), (8, .ref (ma 6)), (9, .ref (ma 7)), (10, .ref (ma 8)), (11, .ref (ma 9)), (12, .ref (ma 10)), (13, wi t0_1712), (14, wi v14_97), (17, wi x17_171), (18, wi t0_189), (20, wi r9), (24, wi x24_1634), (25, wi t0_1653)] [wi t0_1747, wi (t0_189 + (8 * x24_1634)), .ref (ma 9)] (E_1747, C_1747, q_1747) (J t0_1747 E_1747 C_1747 q_1747)) ?_ (fun J1747 hJ1747 => ?_)
  · exact b_L_law_1747 h hm hG hS hX htb Ls xs a1 v14_97 x17_171 t0_189 r9 x24_1634 t0_1653 t0_1712 hxs J1788 hJ1788
  refine r_if_eq (tgt := 1736) dL_law_1726 (by decide) ?_ ?_
  · refine r_aload (x := ma 9) dL_law_1736 rfl ?_
    refine r_iload (x := t0_189) dL_law_1738 rfl ?_
    refine r_bipush (v := 8) dL_law_1740 rfl ?_
    refine r_iload (x := x24_1634) dL_law_1742 rfl ?_
    refine r_imul dL_law_1744 ?_
    refine r_iadd dL_law_1745 ?_
    refine r_wiald3 h (by decide) (by decide) (hm 9 (by decide)) dL_law_1746 ?_
    refine r_lo [1, 2, 3, 4, 5, 6, 7, 8, 9, 10, 11, 12, 13, 0, 14, 15, 16, 17, 19, 20] (lo2 := [(0, .ref sb), (1, .ref a1), (2, .ref (ma 0)), (3, .ref (ma 1)), (4, .ref (ma 2)), (5, .ref (ma 3)), (6, .ref (ma 4)), (7, .ref (ma 5)), (8, .ref (ma 6)), (9, .ref (ma 7)), (10, .ref (ma 8)), (11, .ref (ma 9)), (12, .ref (ma 10)), (13, wi t0_1712), (14, wi v14_97), (17, wi x17_171), (18, wi t0_189), (20, wi r9), (24, wi x24_1634), (25, wi t0_1653)]) rfl ?_
    exact hJ1747 (E_1712 9 (ix (t0_189 + (8 * x24_1634)))) E_1712 C_1712 q_1712
  · refine r_iload (x := x23_234) dL_law_1729 rfl ?_
    refine ro_iconst (v := 1) dL_law_1731 rfl ?_
    refine r_iadd dL_law_1732 ?_
    refine r_goto (tgt := 1747) dL_law_1733 (by decide) ?_
    refine r_lo [1, 2, 3, 4, 5, 6, 7, 8, 9, 10, 11, 12, 13, 0, 14, 15, 16, 17, 19, 20] (lo2 := [(0, .ref sb), (1, .ref a1), (2, .ref (ma 0)), (3, .ref (ma 1)), (4, .ref (ma 2)), (5, .ref (ma 3)), (6, .ref (ma 4)), (7, .ref (ma 5)), (8, .ref (ma 6)), (9, .ref (ma 7)), (10, .ref (ma 8)), (11, .ref (ma 9)), (12, .ref (ma 10)), (13, wi t0_1712), (14, wi v14_97), (17, wi x17_171), (18, wi t0_189), (20, wi r9), (24, wi x24_1634), (25, wi t0_1653)]) rfl ?_
    exact hJ1747 (x23_234 + 1) E_1712 C_1712 q_1712
set_option maxHeartbeats 8000000 in
set_option maxRecDepth 100000 in
theorem b_L_law_1704 {l : Launch} {Γ : Cx} {ma : Nat → Nat} (h : wOn Γ) (hm : ∀ k, k ≤ 10 → ma k ≠ 0) (hG : GK Γ l) {sT : Nat → Nat} (hS : STs Γ sT) (hX : XN Γ) {T : List ExceptionTableEntry} (htb : T = []) {sb : Nat} (Ls : Nat) (xs : Nat → Int32) (a1 : Nat) (v14_97 : Int) (x17_171 : Int) (t0_189 : Int) (r9 : Int) (x23_234 : Int) (x24_1634 : Int) (t0_1653 : Int) (r18 : Int) (hxs : XScr Γ sb Ls xs) (J1788 : Int → Rw → Cd → (Nat → Nat) → Option (Int × S3)) (hJ1788 : ∀ (v13_1788 : Int) (E_1788 : Rw) (C_1788 : Cd) (q_1788 : (Nat → Nat)), RunO l Γ (kL T) 16 encI (em3 ma) 1788 [(0, .ref sb), (1, .ref a1), (2, .ref (ma 0)), (3, .ref (ma 1)), (4, .ref (ma 2)), (5, .ref (ma 3)), (6, .ref (ma 4)), (7, .ref (ma 5)), (8, .ref (ma 6)), (9, .ref (ma 7)), (10, .ref (ma 8)), (11, .ref (ma 9)), (12, .ref (ma 10)), (13, wi v13_1788), (14, wi v14_97), (17, wi x17_171)] [] (E_1788, C_1788, q_1788) (J1788 v13_1788 E_1788 C_1788 q_1788)) : ∀ (t0_1704 : Int) (E_1704 : Rw) (C_1704 : Cd) (q_1704 : (Nat → Nat)), RunO l Γ (kL T) 16 encI (em3 ma) 1704 [(0, .ref sb), (1, .ref a1), (2, .ref (ma 0)), (3, .ref (ma 1)), (4, .ref (ma 2)), (5, .ref (ma 3)), (6, .ref (ma 4)), (7, .ref (ma 5)), (8, .ref (ma 6)), (9, .ref (ma 7)), (10, .ref (ma 8)), (11, .ref (ma 9)), (12, .ref (ma 10)), (14, wi v14_97), (17, wi x17_171), (18, wi t0_189), (20, wi r9), (23, wi x23_234), (24, wi x24_1634), (25, wi t0_1653)] [wi t0_1704, wi r18] (E_1704, C_1704, q_1704) (fW_law_1704 t0_189 r9 x23_234 J1788 x24_1634 t0_1653 r18 t0_1704 E_1704 C_1704 q_1704) := by
  intro t0_1704 E_1704 C_1704 q_1704
  unfold fW_law_1704
  refine r_join (P := fun (J : Int → Rw → Cd → (Nat → Nat) → Option (Int × S3)) => ∀ (t0_1712 : Int) (E_1712 : Rw) (C_1712 : Cd) (q_1712 : (Nat → Nat)), RunO l Γ (kL T) 16 encI (em3 ma) 1712 [(0, .ref sb), (1, .ref a1), (2, .ref (ma 0)), (3, .ref (ma 1)), (4, .ref (ma 2)), (5, .ref (ma 3)), (6, .ref (ma 4)), (7, .ref (ma 5)), (8, .ref (ma 6)), (9, .ref (ma 7)), (10, .ref (ma 8)), (11, .ref (ma 9)), (12, .ref (ma 10)), (14, wi v14_97), (17, wi x17_171), (18, wi t0_189), (20, wi r9), (23, wi x23_234), (24, wi x24_1634), (25, wi t0_1653)] [wi t0_1712] (E_1712, C_1712, q_1712) (J t0_1712 E_1712 C_1712 q_1712)) ?_ (fun J1712 hJ1712 => ?_)
  · exact b_L_law_1712 h hm hG hS hX htb Ls xs a1 v14_97 x17_171 t0_189 r9 x23_234 x24_1634 t0_1653 hxs J1788 hJ1788
  refine r_icmp_ne (tgt := 1711) dL_law_1704 (by decide) ?_ ?_
  · refine ro_iconst (v := 0) dL_law_1711 rfl ?_
    exact hJ1712 0 E_1704 C_1704 q_1704
  · refine ro_iconst (v := 1) dL_law_1707 rfl ?_
    refine r_goto (tgt := 1712) dL_law_1708 (by decide) ?_
    exact hJ1712 1 E_1704 C_1704 q_1704
set_option maxHeartbeats 8000000 in
set_option maxRecDepth 100000 in
theorem b_L_law_1653 {l : Launch} {Γ : Cx} {ma : Nat → Nat} (h : wOn Γ) (hm : ∀ k, k ≤ 10 → ma k ≠ 0) (hG : GK Γ l) {sT : Nat → Nat} (hS : STs Γ sT) (hX : XN Γ) {T : List ExceptionTableEntry} (htb : T = []) {sb : Nat} (Ls : Nat) (xs : Nat → Int32) (a1 : Nat) (v14_97 : Int) (x17_171 : Int) (t0_189 : Int) (t0_203 : Int) (r9 : Int) (x23_234 : Int) (x24_1634 : Int) (hxs : XScr Γ sb Ls xs) (J1788 : Int → Rw → Cd → (Nat → Nat) → Option (Int × S3)) (hJ1788 : ∀ (v13_1788 : Int) (E_1788 : Rw) (C_1788 : Cd) (q_1788 : (Nat → Nat)), RunO l Γ (kL T) 16 encI (em3 ma) 1788 [(0, .ref sb), (1, .ref a1), (2, .ref (ma 0)), (3, .ref (ma 1)), (4, .ref (ma 2)), (5, .ref (ma 3)), (6, .ref (ma 4)), (7, .ref (ma 5)), (8, .ref (ma 6)), (9, .ref (ma 7)), (10, .ref (ma 8)), (11, .ref (ma 9)), (12, .ref (ma 10)), (13, wi v13_1788), (14, wi v14_97), (17, wi x17_171)] [] (E_1788, C_1788, q_1788) (J1788 v13_1788 E_1788 C_1788 q_1788)) : ∀ (t0_1653 : Int) (E_1653 : Rw) (C_1653 : Cd) (q_1653 : (Nat → Nat)), RunO l Γ (kL T) 16 encI (em3 ma) 1653 [(0, .ref sb), (1, .ref a1), (2, .ref (ma 0)), (3, .ref (ma 1)), (4, .ref (ma 2)), (5, .ref (ma 3)), (6, .ref (ma 4)), (7, .ref (ma 5)), (8, .ref (ma 6)), (9, .ref (ma 7)), (10, .ref (ma 8)), (11, .ref (ma 9)), (12, .ref (ma 10)), (14, wi v14_97), (17, wi x17_171), (18, wi t0_189), (19, wi t0_203), (20, wi r9), (23, wi x23_234), (24, wi x24_1634)] [wi t0_1653] (E_1653, C_1653, q_1653) (fW_law_1653 a1 t0_189 t0_203 r9 x23_234 J1788 x24_1634 t0_1653 E_1653 C_1653 q_1653) := by
  intro t0_1653 E_1653 C_1653 q_1653
  unfold fW_law_1653
  refine r_istore (lo2 := [(25, wi t0_1653), (0, .ref sb), (1, .ref a1), (2, .ref (ma 0)), (3, .ref (ma 1)), (4, .ref (ma 2)), (5, .ref (ma 3)), (6, .ref (ma 4)), (7, .ref (ma 5)), (8, .ref (ma 6)), (9, .ref (ma 7)), (10, .ref (ma 8)), (11, .ref (ma 9)), (12, .ref (ma 10)), (14, wi v14_97), (17, wi x17_171), (18, wi t0_189), (19, wi t0_203), (20, wi r9), (23, wi x23_234), (24, wi x24_1634)]) dL_law_1653 (show 25 < 35 by decide) rfl ?_
  refine r_aload_n (x := a1) dL_law_1655 rfl rfl ?_
  refine r_bipush (v := 8) dL_law_1656 rfl ?_
  refine r_iload (x := t0_189) dL_law_1658 rfl ?_
  refine r_iload (x := x24_1634) dL_law_1660 rfl ?_
  refine ro_iconst (v := 1) dL_law_1662 rfl ?_
  refine r_iadd dL_law_1663 ?_
  refine r_iload (x := x23_234) dL_law_1664 rfl ?_
  refine r_csHi (J := fun (C_ : Cd) => (E_1653, C_, q_1653)) (k2 := k_L_does) (n := 5) (rest := []) (fun _ => rfl) kv_L_does (c_L_does (M0 := (fun k => (adq ma q_1653 k : Int), E_1653)) hG hX a1 8 t0_189 (x24_1634 + 1) x23_234 _) (by decide) um_L_132 rfl (Nat.le_of_ble_eq_true rfl) dL_law_1666 rfl (fun r18 C19 => ?_)
  show RunO l Γ (kL T) 16 encI (em3 ma) 1669 [(25, wi t0_1653), (0, .ref sb), (1, .ref a1), (2, .ref (ma 0)), (3, .ref (ma 1)), (4, .ref (ma 2)), (5, .ref (ma 3)), (6, .ref (ma 4)), (7, .ref (ma 5)), (8, .ref (ma 6)), (9, .ref (ma 7)), (10, .ref (ma 8)), (11, .ref (ma 9)), (12, .ref (ma 10)), (14, wi v14_97), (17, wi x17_171), (18, wi t0_189), (19, wi t0_203), (20, wi r9), (23, wi x23_234), (24, wi x24_1634)] [wi r18] (E_1653, C19, q_1653) _
  refine r_iload (x := t0_203) dL_law_1669 rfl ?_
  refine r_join (P := fun (J : Int → Rw → Cd → (Nat → Nat) → Option (Int × S3)) => ∀ (t0_1704 : Int) (E_1704 : Rw) (C_1704 : Cd) (q_1704 : (Nat → Nat)), RunO l Γ (kL T) 16 encI (em3 ma) 1704 [(0, .ref sb), (1, .ref a1), (2, .ref (ma 0)), (3, .ref (ma 1)), (4, .ref (ma 2)), (5, .ref (ma 3)), (6, .ref (ma 4)), (7, .ref (ma 5)), (8, .ref (ma 6)), (9, .ref (ma 7)), (10, .ref (ma 8)), (11, .ref (ma 9)), (12, .ref (ma 10)), (14, wi v14_97), (17, wi x17_171), (18, wi t0_189), (20, wi r9), (23, wi x23_234), (24, wi x24_1634), (25, wi t0_1653)] [wi t0_1704, wi r18] (E_1704, C_1704, q_1704) (J t0_1704 E_1704 C_1704 q_1704)) ?_ (fun J1704 hJ1704 => ?_)
  · exact b_L_law_1704 h hm hG hS hX htb Ls xs a1 v14_97 x17_171 t0_189 r9 x23_234 x24_1634 t0_1653 r18 hxs J1788 hJ1788
  refine r_if_ne (tgt := 1679) dL_law_1671 (by decide) ?_ ?_
  · refine r_iload (x := x23_234) dL_law_1679 rfl ?_
    refine r_iload (x := t0_189) dL_law_1681 rfl ?_
    refine r_icmp_ne (tgt := 1691) dL_law_1683 (by decide) ?_ ?_
    · refine r_aload (x := ma 9) dL_law_1691 rfl ?_
      refine r_iload (x := t0_189) dL_law_1693 rfl ?_
      refine r_bipush (v := 8) dL_law_1695 rfl ?_
      refine r_iload (x := x24_1634) dL_law_1697 rfl ?_
      refine r_imul dL_law_1699 ?_
      refine r_iadd dL_law_1700 ?_
      refine r_wiald3 h (by decide) (by decide) (hm 9 (by decide)) dL_law_1701 ?_
      refine ro_iconst (v := 1) dL_law_1702 rfl ?_
      refine r_isub dL_law_1703 ?_
      refine r_lo [1, 2, 3, 4, 5, 6, 7, 8, 9, 10, 11, 12, 13, 14, 15, 16, 18, 19, 20, 0] (lo2 := [(0, .ref sb), (1, .ref a1), (2, .ref (ma 0)), (3, .ref (ma 1)), (4, .ref (ma 2)), (5, .ref (ma 3)), (6, .ref (ma 4)), (7, .ref (ma 5)), (8, .ref (ma 6)), (9, .ref (ma 7)), (10, .ref (ma 8)), (11, .ref (ma 9)), (12, .ref (ma 10)), (14, wi v14_97), (17, wi x17_171), (18, wi t0_189), (20, wi r9), (23, wi x23_234), (24, wi x24_1634), (25, wi t0_1653)]) rfl ?_
      exact hJ1704 ((E_1653 9 (ix (t0_189 + (8 * x24_1634)))) - 1) E_1653 C19 q_1653
    · refine r_bipush (v := (-12)) dL_law_1686 rfl ?_
      refine r_goto (tgt := 1704) dL_law_1688 (by decide) ?_
      refine r_lo [1, 2, 3, 4, 5, 6, 7, 8, 9, 10, 11, 12, 13, 14, 15, 16, 18, 19, 20, 0] (lo2 := [(0, .ref sb), (1, .ref a1), (2, .ref (ma 0)), (3, .ref (ma 1)), (4, .ref (ma 2)), (5, .ref (ma 3)), (6, .ref (ma 4)), (7, .ref (ma 5)), (8, .ref (ma 6)), (9, .ref (ma 7)), (10, .ref (ma 8)), (11, .ref (ma 9)), (12, .ref (ma 10)), (14, wi v14_97), (17, wi x17_171), (18, wi t0_189), (20, wi r9), (23, wi x23_234), (24, wi x24_1634), (25, wi t0_1653)]) rfl ?_
      exact hJ1704 (-12) E_1653 C19 q_1653
  · refine r_bipush (v := (-11)) dL_law_1674 rfl ?_
    refine r_goto (tgt := 1704) dL_law_1676 (by decide) ?_
    refine r_lo [1, 2, 3, 4, 5, 6, 7, 8, 9, 10, 11, 12, 13, 14, 15, 16, 18, 19, 20, 0] (lo2 := [(0, .ref sb), (1, .ref a1), (2, .ref (ma 0)), (3, .ref (ma 1)), (4, .ref (ma 2)), (5, .ref (ma 3)), (6, .ref (ma 4)), (7, .ref (ma 5)), (8, .ref (ma 6)), (9, .ref (ma 7)), (10, .ref (ma 8)), (11, .ref (ma 9)), (12, .ref (ma 10)), (14, wi v14_97), (17, wi x17_171), (18, wi t0_189), (20, wi r9), (23, wi x23_234), (24, wi x24_1634), (25, wi t0_1653)]) rfl ?_
    exact hJ1704 (-11) E_1653 C19 q_1653
set_option maxHeartbeats 8000000 in
set_option maxRecDepth 100000 in
theorem b_L_law_1652 {l : Launch} {Γ : Cx} {ma : Nat → Nat} (h : wOn Γ) (hm : ∀ k, k ≤ 10 → ma k ≠ 0) (hG : GK Γ l) {sT : Nat → Nat} (hS : STs Γ sT) (hX : XN Γ) {T : List ExceptionTableEntry} (htb : T = []) {sb : Nat} (Ls : Nat) (xs : Nat → Int32) (a1 : Nat) (v14_97 : Int) (x17_171 : Int) (t0_189 : Int) (t0_203 : Int) (r9 : Int) (x23_234 : Int) (x24_1634 : Int) (hxs : XScr Γ sb Ls xs) (J1653 : Int → Rw → Cd → (Nat → Nat) → Option (Int × S3)) (hJ1653 : ∀ (t0_1653 : Int) (E_1653 : Rw) (C_1653 : Cd) (q_1653 : (Nat → Nat)), RunO l Γ (kL T) 16 encI (em3 ma) 1653 [(0, .ref sb), (1, .ref a1), (2, .ref (ma 0)), (3, .ref (ma 1)), (4, .ref (ma 2)), (5, .ref (ma 3)), (6, .ref (ma 4)), (7, .ref (ma 5)), (8, .ref (ma 6)), (9, .ref (ma 7)), (10, .ref (ma 8)), (11, .ref (ma 9)), (12, .ref (ma 10)), (14, wi v14_97), (17, wi x17_171), (18, wi t0_189), (19, wi t0_203), (20, wi r9), (23, wi x23_234), (24, wi x24_1634)] [wi t0_1653] (E_1653, C_1653, q_1653) (J1653 t0_1653 E_1653 C_1653 q_1653)) : ∀ (E_1652 : Rw) (C_1652 : Cd) (q_1652 : (Nat → Nat)), RunO l Γ (kL T) 16 encI (em3 ma) 1652 [(0, .ref sb), (1, .ref a1), (2, .ref (ma 0)), (3, .ref (ma 1)), (4, .ref (ma 2)), (5, .ref (ma 3)), (6, .ref (ma 4)), (7, .ref (ma 5)), (8, .ref (ma 6)), (9, .ref (ma 7)), (10, .ref (ma 8)), (11, .ref (ma 9)), (12, .ref (ma 10)), (14, wi v14_97), (17, wi x17_171), (18, wi t0_189), (19, wi t0_203), (20, wi r9), (23, wi x23_234), (24, wi x24_1634)] [] (E_1652, C_1652, q_1652) (fW_law_1652 J1653 E_1652 C_1652 q_1652) := by
  intro E_1652 C_1652 q_1652
  unfold fW_law_1652
  refine ro_iconst (v := 0) dL_law_1652 rfl ?_
  exact hJ1653 0 E_1652 C_1652 q_1652
set_option maxHeartbeats 8000000 in
set_option maxRecDepth 100000 in
theorem b_L_law_1609 {l : Launch} {Γ : Cx} {ma : Nat → Nat} (h : wOn Γ) (hm : ∀ k, k ≤ 10 → ma k ≠ 0) (hG : GK Γ l) {sT : Nat → Nat} (hS : STs Γ sT) (hX : XN Γ) {T : List ExceptionTableEntry} (htb : T = []) {sb : Nat} (Ls : Nat) (xs : Nat → Int32) (a1 : Nat) (v14_97 : Int) (x17_171 : Int) (t0_189 : Int) (x24_1580 : Int) (hxs : XScr Γ sb Ls xs) (J1788 : Int → Rw → Cd → (Nat → Nat) → Option (Int × S3)) (hJ1788 : ∀ (v13_1788 : Int) (E_1788 : Rw) (C_1788 : Cd) (q_1788 : (Nat → Nat)), RunO l Γ (kL T) 16 encI (em3 ma) 1788 [(0, .ref sb), (1, .ref a1), (2, .ref (ma 0)), (3, .ref (ma 1)), (4, .ref (ma 2)), (5, .ref (ma 3)), (6, .ref (ma 4)), (7, .ref (ma 5)), (8, .ref (ma 6)), (9, .ref (ma 7)), (10, .ref (ma 8)), (11, .ref (ma 9)), (12, .ref (ma 10)), (13, wi v13_1788), (14, wi v14_97), (17, wi x17_171)] [] (E_1788, C_1788, q_1788) (J1788 v13_1788 E_1788 C_1788 q_1788)) : ∀ (t0_1609 : Int) (E_1609 : Rw) (C_1609 : Cd) (q_1609 : (Nat → Nat)), RunO l Γ (kL T) 16 encI (em3 ma) 1609 [(0, .ref sb), (1, .ref a1), (2, .ref (ma 0)), (3, .ref (ma 1)), (4, .ref (ma 2)), (5, .ref (ma 3)), (6, .ref (ma 4)), (7, .ref (ma 5)), (8, .ref (ma 6)), (9, .ref (ma 7)), (10, .ref (ma 8)), (11, .ref (ma 9)), (12, .ref (ma 10)), (14, wi v14_97), (17, wi x17_171), (18, wi t0_189), (24, wi x24_1580)] [wi t0_1609] (E_1609, C_1609, q_1609) (fW_law_1609 t0_189 J1788 x24_1580 t0_1609 E_1609 C_1609 q_1609) := by
  intro t0_1609 E_1609 C_1609 q_1609
  unfold fW_law_1609
  refine r_istore (lo2 := [(13, wi t0_1609), (0, .ref sb), (1, .ref a1), (2, .ref (ma 0)), (3, .ref (ma 1)), (4, .ref (ma 2)), (5, .ref (ma 3)), (6, .ref (ma 4)), (7, .ref (ma 5)), (8, .ref (ma 6)), (9, .ref (ma 7)), (10, .ref (ma 8)), (11, .ref (ma 9)), (12, .ref (ma 10)), (14, wi v14_97), (17, wi x17_171), (18, wi t0_189), (24, wi x24_1580)]) dL_law_1609 (show 13 < 35 by decide) rfl ?_
  refine r_aload (x := ma 6) dL_law_1611 rfl ?_
  refine r_bipush (v := 7) dL_law_1613 rfl ?_
  refine r_iload (x := t0_189) dL_law_1615 rfl ?_
  refine r_imul dL_law_1617 ?_
  refine r_bipush (v := 6) dL_law_1618 rfl ?_
  refine r_iadd dL_law_1620 ?_
  refine r_iload (x := x24_1580) dL_law_1621 rfl ?_
  refine r_wiast3 h (by decide) (by decide) (hm 6 (by decide)) dL_law_1623 (fun E24 => ?_)
  refine r_goto (tgt := 1788) dL_law_1624 (by decide) ?_
  refine r_lo [1, 2, 3, 4, 5, 6, 7, 8, 9, 10, 11, 12, 13, 0, 14, 15] (lo2 := [(0, .ref sb), (1, .ref a1), (2, .ref (ma 0)), (3, .ref (ma 1)), (4, .ref (ma 2)), (5, .ref (ma 3)), (6, .ref (ma 4)), (7, .ref (ma 5)), (8, .ref (ma 6)), (9, .ref (ma 7)), (10, .ref (ma 8)), (11, .ref (ma 9)), (12, .ref (ma 10)), (13, wi t0_1609), (14, wi v14_97), (17, wi x17_171)]) rfl ?_
  exact hJ1788 t0_1609 E24 C_1609 q_1609
set_option maxHeartbeats 8000000 in
set_option maxRecDepth 100000 in
theorem b_L_law_1560 {l : Launch} {Γ : Cx} {ma : Nat → Nat} (h : wOn Γ) (hm : ∀ k, k ≤ 10 → ma k ≠ 0) (hG : GK Γ l) {sT : Nat → Nat} (hS : STs Γ sT) (hX : XN Γ) {T : List ExceptionTableEntry} (htb : T = []) {sb : Nat} (Ls : Nat) (xs : Nat → Int32) (a1 : Nat) (v14_97 : Int) (x17_171 : Int) (hxs : XScr Γ sb Ls xs) (J1788 : Int → Rw → Cd → (Nat → Nat) → Option (Int × S3)) (hJ1788 : ∀ (v13_1788 : Int) (E_1788 : Rw) (C_1788 : Cd) (q_1788 : (Nat → Nat)), RunO l Γ (kL T) 16 encI (em3 ma) 1788 [(0, .ref sb), (1, .ref a1), (2, .ref (ma 0)), (3, .ref (ma 1)), (4, .ref (ma 2)), (5, .ref (ma 3)), (6, .ref (ma 4)), (7, .ref (ma 5)), (8, .ref (ma 6)), (9, .ref (ma 7)), (10, .ref (ma 8)), (11, .ref (ma 9)), (12, .ref (ma 10)), (13, wi v13_1788), (14, wi v14_97), (17, wi x17_171)] [] (E_1788, C_1788, q_1788) (J1788 v13_1788 E_1788 C_1788 q_1788)) : ∀ (t0_1560 : Int) (E_1560 : Rw) (C_1560 : Cd) (q_1560 : (Nat → Nat)), RunO l Γ (kL T) 16 encI (em3 ma) 1560 [(0, .ref sb), (1, .ref a1), (2, .ref (ma 0)), (3, .ref (ma 1)), (4, .ref (ma 2)), (5, .ref (ma 3)), (6, .ref (ma 4)), (7, .ref (ma 5)), (8, .ref (ma 6)), (9, .ref (ma 7)), (10, .ref (ma 8)), (11, .ref (ma 9)), (12, .ref (ma 10)), (14, wi v14_97), (17, wi x17_171)] [wi t0_1560] (E_1560, C_1560, q_1560) (fW_law_1560 J1788 t0_1560 E_1560 C_1560 q_1560) := by
  intro t0_1560 E_1560 C_1560 q_1560
  unfold fW_law_1560
  refine r_istore (lo2 := [(13, wi t0_1560), (0, .ref sb), (1, .ref a1), (2, .ref (ma 0)), (3, .ref (ma 1)), (4, .ref (ma 2)), (5, .ref (ma 3)), (6, .ref (ma 4)), (7, .ref (ma 5)), (8, .ref (ma 6)), (9, .ref (ma 7)), (10, .ref (ma 8)), (11, .ref (ma 9)), (12, .ref (ma 10)), (14, wi v14_97), (17, wi x17_171)]) dL_law_1560 (show 13 < 35 by decide) rfl ?_
  refine r_goto (tgt := 1788) dL_law_1562 (by decide) ?_
  refine r_lo [1, 2, 3, 4, 5, 6, 7, 8, 9, 10, 11, 12, 13, 0, 14, 15] (lo2 := [(0, .ref sb), (1, .ref a1), (2, .ref (ma 0)), (3, .ref (ma 1)), (4, .ref (ma 2)), (5, .ref (ma 3)), (6, .ref (ma 4)), (7, .ref (ma 5)), (8, .ref (ma 6)), (9, .ref (ma 7)), (10, .ref (ma 8)), (11, .ref (ma 9)), (12, .ref (ma 10)), (13, wi t0_1560), (14, wi v14_97), (17, wi x17_171)]) rfl ?_
  exact hJ1788 t0_1560 E_1560 C_1560 q_1560
