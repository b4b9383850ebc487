set_option maxHeartbeats 8000000 in
set_option maxRecDepth 100000 in
theorem b_L_isWiki_694 {l : Launch} {Γ : Cx} {ma : Nat → Nat} (h : wOn Γ) (hm : ∀ k, k ≤ 10 → ma k ≠ 0) (hG : GK Γ l) (hX : XN Γ) (a0 : Nat) (v13_32 : Int) (v14_32 : Int) (v12_653 : Int) : ∀ (E_694 : Rw) (C_694 : Cd) (q_694 : (Nat → Nat)), RunO l Γ k_L_isWiki 15 encI (em3 ma) 694 [(0, .ref a0), (12, wi v12_653), (13, wi v13_32), (14, wi v14_32)] [] (E_694, C_694, q_694) (fW_isWiki_694 a0 v13_32 v14_32 v12_653 E_694 C_694 q_694) := by
  intro E_694 C_694 q_694
  unfold fW_isWiki_694
  refine r_iload (x := v12_653) dL_isWiki_694 rfl ?_
  refine r_join (P := fun (J : Int → Rw → Cd → (Nat → Nat) → Option (Int × S3)) => ∀ (t0_723 : Int) (E_723 : Rw) (C_723 : Cd) (q_723 : (Nat → Nat)), RunO l Γ k_L_isWiki 15 encI (em3 ma) 723 [] [wi t0_723] (E_723, C_723, q_723) (J t0_723 E_723 C_723 q_723)) ?_ (fun J723 hJ723 => ?_)
  · exact b_L_isWiki_723 h hm hG hX
  refine r_join (P := fun (J : Rw → Cd → (Nat → Nat) → Option (Int × S3)) => ∀ (E_722 : Rw) (C_722 : Cd) (q_722 : (Nat → Nat)), RunO l Γ k_L_isWiki 15 encI (em3 ma) 722 [] [] (E_722, C_722, q_722) (J E_722 C_722 q_722)) ?_ (fun J722 hJ722 => ?_)
  · exact b_L_isWiki_722 h hm hG hX J723 hJ723
  refine r_if_eq (tgt := 722) dL_isWiki_696 (by decide) ?_ ?_
  · refine r_lo [] (lo2 := []) rfl ?_
    exact hJ722 E_694 C_694 q_694
  · refine r_aload_n (x := a0) dL_isWiki_699 rfl rfl ?_
    refine r_cc1 (M0 := (fun k => (adq ma q_694 k : Int), E_694)) (J := fun (C_ : Cd) => (E_694, C_, q_694)) (k2 := k_X11_queued) (c := 14) (T := TX11) (N := 10) (n := 0) (rest := []) (fun _ => rfl) rfl um_L_172 kv_X11_queued hc_X11 (by decide) (c_X11_queued hG _ _) (by decide) rfl (Nat.le_of_ble_eq_true rfl) dL_isWiki_700 rfl (fun r7 C8 => ?_)
    show RunO l Γ k_L_isWiki 15 encI (em3 ma) 703 [(0, .ref a0), (12, wi v12_653), (13, wi v13_32), (14, wi v14_32)] [wi r7] (E_694, C8, q_694) _
    refine r_iload (x := v13_32) dL_isWiki_703 rfl ?_
    refine r_icmp_ne (tgt := 722) dL_isWiki_705 (by decide) ?_ ?_
    · refine r_lo [] (lo2 := []) rfl ?_
      exact hJ722 E_694 C8 q_694
    · refine r_aload_n (x := a0) dL_isWiki_708 rfl rfl ?_
      refine ro_iconst (v := 1) dL_isWiki_709 rfl ?_
      refine r_cc1 (M0 := (fun k => (adq ma q_694 k : Int), E_694)) (J := fun (C_ : Cd) => (E_694, C_, q_694)) (k2 := k_X11_odd) (c := 14) (T := TX11) (N := 10) (n := 1) (rest := []) (fun _ => rfl) rfl um_L_175 kv_X11_odd hc_X11 (by decide) (c_X11_odd hG _ _ _) (by decide) rfl (Nat.le_of_ble_eq_true rfl) dL_isWiki_710 rfl (fun r9 C10 => ?_)
      show RunO l Γ k_L_isWiki 15 encI (em3 ma) 713 [(0, .ref a0), (12, wi v12_653), (13, wi v13_32), (14, wi v14_32)] [wi r9] (E_694, C10, q_694) _
      refine r_iload (x := v14_32) dL_isWiki_713 rfl ?_
      refine r_icmp_ne (tgt := 722) dL_isWiki_715 (by decide) ?_ ?_
      · refine r_lo [] (lo2 := []) rfl ?_
        exact hJ722 E_694 C10 q_694
      · refine ro_iconst (v := 1) dL_isWiki_718 rfl ?_
        refine r_goto (tgt := 723) dL_isWiki_719 (by decide) ?_
        refine r_lo [] (lo2 := []) rfl ?_
        exact hJ723 1 E_694 C10 q_694
set_option maxHeartbeats 8000000 in
set_option maxRecDepth 100000 in
theorem b_L_isWiki_686 {l : Launch} {Γ : Cx} {ma : Nat → Nat} (h : wOn Γ) (hm : ∀ k, k ≤ 10 → ma k ≠ 0) (hG : GK Γ l) (hX : XN Γ) (a0 : Nat) (v13_32 : Int) (v14_32 : Int) (v15_653 : Int) (L653 : Int → Int → Rw → Cd → (Nat → Nat) → Option (Int × S3)) (hL653 : ∀ (v12_653 : Int) (v15_653 : Int) (E_653 : Rw) (C_653 : Cd) (q_653 : (Nat → Nat)), RunO l Γ k_L_isWiki 15 encI (em3 ma) 653 [(0, .ref a0), (6, .ref (ma 6)), (12, wi v12_653), (13, wi v13_32), (14, wi v14_32), (15, wi v15_653)] [] (E_653, C_653, q_653) (L653 v12_653 v15_653 E_653 C_653 q_653)) : ∀ (t0_686 : Int) (E_686 : Rw) (C_686 : Cd) (q_686 : (Nat → Nat)), RunO l Γ k_L_isWiki 15 encI (em3 ma) 686 [(0, .ref a0), (6, .ref (ma 6)), (13, wi v13_32), (14, wi v14_32), (15, wi v15_653)] [wi t0_686] (E_686, C_686, q_686) (fW_isWiki_686 L653 v15_653 t0_686 E_686 C_686 q_686) := by
  intro t0_686 E_686 C_686 q_686
  unfold fW_isWiki_686
  refine r_istore (lo2 := [(12, wi t0_686), (0, .ref a0), (6, .ref (ma 6)), (13, wi v13_32), (14, wi v14_32), (15, wi v15_653)]) dL_isWiki_686 (by decide) rfl ?_
  refine r_iinc (x := v15_653) (lo2 := [(15, wi (v15_653 + 1)), (12, wi t0_686), (0, .ref a0), (6, .ref (ma 6)), (13, wi v13_32), (14, wi v14_32)]) dL_isWiki_688 rfl (by decide) rfl ?_
  refine r_goto (tgt := 653) dL_isWiki_691 (by decide) ?_
  refine r_lo [2, 3, 1, 4, 5, 0] (lo2 := [(0, .ref a0), (6, .ref (ma 6)), (12, wi t0_686), (13, wi v13_32), (14, wi v14_32), (15, wi (v15_653 + 1))]) rfl ?_
  exact hL653 t0_686 (v15_653 + 1) E_686 C_686 q_686
set_option maxHeartbeats 8000000 in
set_option maxRecDepth 100000 in
theorem b_L_isWiki_653 {l : Launch} {Γ : Cx} {ma : Nat → Nat} (h : wOn Γ) (hm : ∀ k, k ≤ 10 → ma k ≠ 0) (hG : GK Γ l) (hX : XN Γ) (a0 : Nat) (v13_32 : Int) (v14_32 : Int) (L653 : Int → Int → Rw → Cd → (Nat → Nat) → Option (Int × S3)) (hL653 : ∀ (v12_653 : Int) (v15_653 : Int) (E_653 : Rw) (C_653 : Cd) (q_653 : (Nat → Nat)), RunO l Γ k_L_isWiki 15 encI (em3 ma) 653 [(0, .ref a0), (6, .ref (ma 6)), (12, wi v12_653), (13, wi v13_32), (14, wi v14_32), (15, wi v15_653)] [] (E_653, C_653, q_653) (L653 v12_653 v15_653 E_653 C_653 q_653)) : ∀ (v12_653 : Int) (v15_653 : Int) (E_653 : Rw) (C_653 : Cd) (q_653 : (Nat → Nat)), RunO l Γ k_L_isWiki 15 encI (em3 ma) 653 [(0, .ref a0), (6, .ref (ma 6)), (12, wi v12_653), (13, wi v13_32), (14, wi v14_32), (15, wi v15_653)] [] (E_653, C_653, q_653) (fW_isWiki_653 a0 v13_32 v14_32 L653 v12_653 v15_653 E_653 C_653 q_653) := by
  intro v12_653 v15_653 E_653 C_653 q_653
  unfold fW_isWiki_653
  refine r_iload (x := v15_653) dL_isWiki_653 rfl ?_
  refine r_bipush (v := 8) dL_isWiki_655 rfl ?_
  refine r_join (P := fun (J : Rw → Cd → (Nat → Nat) → Option (Int × S3)) => ∀ (E_694 : Rw) (C_694 : Cd) (q_694 : (Nat → Nat)), RunO l Γ k_L_isWiki 15 encI (em3 ma) 694 [(0, .ref a0), (12, wi v12_653), (13, wi v13_32), (14, wi v14_32)] [] (E_694, C_694, q_694) (J E_694 C_694 q_694)) ?_ (fun J694 hJ694 => ?_)
  · exact b_L_isWiki_694 h hm hG hX a0 v13_32 v14_32 v12_653
  refine r_icmp_ge (tgt := 694) dL_isWiki_657 (by decide) ?_ ?_
  · refine r_lo [0, 2, 3, 4] (lo2 := [(0, .ref a0), (12, wi v12_653), (13, wi v13_32), (14, wi v14_32)]) rfl ?_
    exact hJ694 E_653 C_653 q_653
  · refine r_iload (x := v12_653) dL_isWiki_660 rfl ?_
    refine r_if_eq (tgt := 694) dL_isWiki_662 (by decide) ?_ ?_
    · refine r_lo [0, 2, 3, 4] (lo2 := [(0, .ref a0), (12, wi v12_653), (13, wi v13_32), (14, wi v14_32)]) rfl ?_
      exact hJ694 E_653 C_653 q_653
    · refine r_aload_n (x := a0) dL_isWiki_665 rfl rfl ?_
      refine r_iload (x := v15_653) dL_isWiki_666 rfl ?_
      refine r_cx1 (M0 := (fun k => (adq ma q_653 k : Int), E_653)) (J := fun (C_ : Cd) => (E_653, C_, q_653)) (k2 := k_X11_members) (c := 14) (T := TX11) (N := 10) (n := 1) (rest := []) (fun _ => rfl) rfl um_L_170 kv_X11_members hc_X11 (by decide) (c_X11_members hG _ _ _) (by decide) rfl (Nat.le_of_ble_eq_true rfl) dL_isWiki_668 rfl (fun r11 C12 => ?_)
      show RunO l Γ k_L_isWiki 15 encI (em3 ma) 671 [(0, .ref a0), (6, .ref (ma 6)), (12, wi v12_653), (13, wi v13_32), (14, wi v14_32), (15, wi v15_653)] [wi r11] (E_653, C12, q_653) _
      refine r_aload (x := ma 6) dL_isWiki_671 rfl ?_
      refine r_iload (x := v15_653) dL_isWiki_673 rfl ?_
      refine r_csi (J := fun (E_ : Rw) => (E_, C12, q_653)) (k2 := k_L_members) (n := 2) (rest := [wi r11]) (fun _ => rfl) rfl kv_L_members (c_L_members (ad := adq ma q_653) (K0 := C12) h (adq_hm hm) v15_653 _) (by decide) um_L_31 rfl (Nat.le_of_ble_eq_true rfl) dL_isWiki_675 rfl (fun r13 E14 => ?_)
      show RunO l Γ k_L_isWiki 15 encI (em3 ma) 678 [(0, .ref a0), (6, .ref (ma 6)), (12, wi v12_653), (13, wi v13_32), (14, wi v14_32), (15, wi v15_653)] [wi r13, wi r11] (E14, C12, q_653) _
      refine r_join (P := fun (J : Int → Rw → Cd → (Nat → Nat) → Option (Int × S3)) => ∀ (t0_686 : Int) (E_686 : Rw) (C_686 : Cd) (q_686 : (Nat → Nat)), RunO l Γ k_L_isWiki 15 encI (em3 ma) 686 [(0, .ref a0), (6, .ref (ma 6)), (13, wi v13_32), (14, wi v14_32), (15, wi v15_653)] [wi t0_686] (E_686, C_686, q_686) (J t0_686 E_686 C_686 q_686)) ?_ (fun J686 hJ686 => ?_)
      · exact b_L_isWiki_686 h hm hG hX a0 v13_32 v14_32 v15_653 L653 hL653
      refine r_icmp_ne (tgt := 685) dL_isWiki_678 (by decide) ?_ ?_
      · refine ro_iconst (v := 0) dL_isWiki_685 rfl ?_
        refine r_lo [0, 1, 3, 4, 5] (lo2 := [(0, .ref a0), (6, .ref (ma 6)), (13, wi v13_32), (14, wi v14_32), (15, wi v15_653)]) rfl ?_
        exact hJ686 0 E14 C12 q_653
      · refine ro_iconst (v := 1) dL_isWiki_681 rfl ?_
        refine r_goto (tgt := 686) dL_isWiki_682 (by decide) ?_
        refine r_lo [0, 1, 3, 4, 5] (lo2 := [(0, .ref a0), (6, .ref (ma 6)), (13, wi v13_32), (14, wi v14_32), (15, wi v15_653)]) rfl ?_
        exact hJ686 1 E14 C12 q_653
set_option maxHeartbeats 8000000 in
set_option maxRecDepth 100000 in
theorem b_L_isWiki_650 {l : Launch} {Γ : Cx} {ma : Nat → Nat} (h : wOn Γ) (hm : ∀ k, k ≤ 10 → ma k ≠ 0) (hG : GK Γ l) (hX : XN Γ) (a0 : Nat) (v12_32 : Int) (v13_32 : Int) (v14_32 : Int) : ∀ (E_650 : Rw) (C_650 : Cd) (q_650 : (Nat → Nat)), RunO l Γ k_L_isWiki 15 encI (em3 ma) 650 [(0, .ref a0), (6, .ref (ma 6)), (12, wi v12_32), (13, wi v13_32), (14, wi v14_32)] [] (E_650, C_650, q_650) (fW_isWiki_650 a0 v12_32 v13_32 v14_32 E_650 C_650 q_650) := by
  intro E_650 C_650 q_650
  unfold fW_isWiki_650
  refine ro_iconst (v := 0) dL_isWiki_650 rfl ?_
  refine r_istore (lo2 := [(15, wi 0), (0, .ref a0), (6, .ref (ma 6)), (12, wi v12_32), (13, wi v13_32), (14, wi v14_32)]) dL_isWiki_651 (by decide) rfl ?_
  refine r_loop (P := fun (J : Int → Int → Rw → Cd → (Nat → Nat) → Option (Int × S3)) => ∀ (v12_653 : Int) (v15_653 : Int) (E_653 : Rw) (C_653 : Cd) (q_653 : (Nat → Nat)), RunO l Γ k_L_isWiki 15 encI (em3 ma) 653 [(0, .ref a0), (6, .ref (ma 6)), (12, wi v12_653), (13, wi v13_32), (14, wi v14_32), (15, wi v15_653)] [] (E_653, C_653, q_653) (J v12_653 v15_653 E_653 C_653 q_653)) ?_ (fun L653 hL653 => ?_) (fun J653 hJ653 => ?_)
  · intros; exact ro_none
  · exact b_L_isWiki_653 h hm hG hX a0 v13_32 v14_32 L653 hL653
  refine r_lo [1, 2, 3, 4, 5, 0] (lo2 := [(0, .ref a0), (6, .ref (ma 6)), (12, wi v12_32), (13, wi v13_32), (14, wi v14_32), (15, wi 0)]) rfl ?_
  exact hJ653 v12_32 0 E_650 C_650 q_650
set_option maxHeartbeats 8000000 in
set_option maxRecDepth 100000 in
theorem b_L_isWiki_644 {l : Launch} {Γ : Cx} {ma : Nat → Nat} (h : wOn Γ) (hm : ∀ k, k ≤ 10 → ma k ≠ 0) (hG : GK Γ l) (hX : XN Γ) (a0 : Nat) (a10 : Int) (y4 : Nat) (v15_32 : Int) (x13_121 : Int) (v14_436 : Int) (v12_495 : Int) (L32 : Int → Int → Int → Int → Rw → Cd → (Nat → Nat) → Option (Int × S3)) (hL32 : ∀ (v12_32 : Int) (v13_32 : Int) (v14_32 : Int) (v15_32 : Int) (E_32 : Rw) (C_32 : Cd) (q_32 : (Nat → Nat)), RunO l Γ k_L_isWiki 15 encI (em3 ma) 32 [(0, .ref a0), (1, .ref (ma 0)), (2, .ref (ma 1)), (3, .ref (ma 2)), (4, .ref (ma 3)), (5, .ref (ma 4)), (6, .ref (ma 6)), (7, .ref (ma 7)), (8, .ref (ma 8)), (9, .ref (ma 9)), (10, wi a10), (11, .ref y4), (12, wi v12_32), (13, wi v13_32), (14, wi v14_32), (15, wi v15_32)] [] (E_32, C_32, q_32) (L32 v12_32 v13_32 v14_32 v15_32 E_32 C_32 q_32)) : ∀ (E_644 : Rw) (C_644 : Cd) (q_644 : (Nat → Nat)), RunO l Γ k_L_isWiki 15 encI (em3 ma) 644 [(0, .ref a0), (1, .ref (ma 0)), (2, .ref (ma 1)), (3, .ref (ma 2)), (4, .ref (ma 3)), (5, .ref (ma 4)), (6, .ref (ma 6)), (7, .ref (ma 7)), (8, .ref (ma 8)), (9, .ref (ma 9)), (10, wi a10), (11, .ref y4), (12, wi v12_495), (13, wi x13_121), (14, wi v14_436), (15, wi v15_32)] [] (E_644, C_644, q_644) (fW_isWiki_644 L32 v15_32 x13_121 v14_436 v12_495 E_644 C_644 q_644) := by
  intro E_644 C_644 q_644
  unfold fW_isWiki_644
  refine r_iinc (x := v15_32) (lo2 := [(15, wi (v15_32 + 1)), (0, .ref a0), (1, .ref (ma 0)), (2, .ref (ma 1)), (3, .ref (ma 2)), (4, .ref (ma 3)), (5, .ref (ma 4)), (6, .ref (ma 6)), (7, .ref (ma 7)), (8, .ref (ma 8)), (9, .ref (ma 9)), (10, wi a10), (11, .ref y4), (12, wi v12_495), (13, wi x13_121), (14, wi v14_436)]) dL_isWiki_644 rfl (by decide) rfl ?_
  refine r_goto (tgt := 32) dL_isWiki_647 (by decide) ?_
  refine r_lo [1, 2, 3, 4, 5, 6, 7, 8, 9, 10, 11, 12, 13, 14, 15, 0] (lo2 := [(0, .ref a0), (1, .ref (ma 0)), (2, .ref (ma 1)), (3, .ref (ma 2)), (4, .ref (ma 3)), (5, .ref (ma 4)), (6, .ref (ma 6)), (7, .ref (ma 7)), (8, .ref (ma 8)), (9, .ref (ma 9)), (10, wi a10), (11, .ref y4), (12, wi v12_495), (13, wi x13_121), (14, wi v14_436), (15, wi (v15_32 + 1))]) rfl ?_
  exact hL32 v12_495 x13_121 v14_436 (v15_32 + 1) E_644 C_644 q_644
set_option maxHeartbeats 8000000 in
set_option maxRecDepth 100000 in
theorem b_L_isWiki_636 {l : Launch} {Γ : Cx} {ma : Nat → Nat} (h : wOn Γ) (hm : ∀ k, k ≤ 10 → ma k ≠ 0) (hG : GK Γ l) (hX : XN Γ) (a0 : Nat) (a10 : Int) (y4 : Nat) (v15_32 : Int) (r15 : Int) (x13_121 : Int) (v14_436 : Int) (v20_495 : Int) (L495 : Int → Int → Rw → Cd → (Nat → Nat) → Option (Int × S3)) (hL495 : ∀ (v12_495 : Int) (v20_495 : Int) (E_495 : Rw) (C_495 : Cd) (q_495 : (Nat → Nat)), RunO l Γ k_L_isWiki 15 encI (em3 ma) 495 [(0, .ref a0), (1, .ref (ma 0)), (2, .ref (ma 1)), (3, .ref (ma 2)), (4, .ref (ma 3)), (5, .ref (ma 4)), (6, .ref (ma 6)), (7, .ref (ma 7)), (8, .ref (ma 8)), (9, .ref (ma 9)), (10, wi a10), (11, .ref y4), (12, wi v12_495), (13, wi x13_121), (14, wi v14_436), (15, wi v15_32), (16, wi r15), (20, wi v20_495)] [] (E_495, C_495, q_495) (L495 v12_495 v20_495 E_495 C_495 q_495)) : ∀ (t0_636 : Int) (E_636 : Rw) (C_636 : Cd) (q_636 : (Nat → Nat)), RunO l Γ k_L_isWiki 15 encI (em3 ma) 636 [(0, .ref a0), (1, .ref (ma 0)), (2, .ref (ma 1)), (3, .ref (ma 2)), (4, .ref (ma 3)), (5, .ref (ma 4)), (6, .ref (ma 6)), (7, .ref (ma 7)), (8, .ref (ma 8)), (9, .ref (ma 9)), (10, wi a10), (11, .ref y4), (13, wi x13_121), (14, wi v14_436), (15, wi v15_32), (16, wi r15), (20, wi v20_495)] [wi t0_636] (E_636, C_636, q_636) (fW_isWiki_636 L495 v20_495 t0_636 E_636 C_636 q_636) := by
  intro t0_636 E_636 C_636 q_636
  unfold fW_isWiki_636
  refine r_istore (lo2 := [(12, wi t0_636), (0, .ref a0), (1, .ref (ma 0)), (2, .ref (ma 1)), (3, .ref (ma 2)), (4, .ref (ma 3)), (5, .ref (ma 4)), (6, .ref (ma 6)), (7, .ref (ma 7)), (8, .ref (ma 8)), (9, .ref (ma 9)), (10, wi a10), (11, .ref y4), (13, wi x13_121), (14, wi v14_436), (15, wi v15_32), (16, wi r15), (20, wi v20_495)]) dL_isWiki_636 (by decide) rfl ?_
  refine r_iinc (x := v20_495) (lo2 := [(20, wi (v20_495 + 1)), (12, wi t0_636), (0, .ref a0), (1, .ref (ma 0)), (2, .ref (ma 1)), (3, .ref (ma 2)), (4, .ref (ma 3)), (5, .ref (ma 4)), (6, .ref (ma 6)), (7, .ref (ma 7)), (8, .ref (ma 8)), (9, .ref (ma 9)), (10, wi a10), (11, .ref y4), (13, wi x13_121), (14, wi v14_436), (15, wi v15_32), (16, wi r15)]) dL_isWiki_638 rfl (by decide) rfl ?_
  refine r_goto (tgt := 495) dL_isWiki_641 (by decide) ?_
  refine r_lo [2, 3, 4, 5, 6, 7, 8, 9, 10, 11, 12, 13, 1, 14, 15, 16, 17, 0] (lo2 := [(0, .ref a0), (1, .ref (ma 0)), (2, .ref (ma 1)), (3, .ref (ma 2)), (4, .ref (ma 3)), (5, .ref (ma 4)), (6, .ref (ma 6)), (7, .ref (ma 7)), (8, .ref (ma 8)), (9, .ref (ma 9)), (10, wi a10), (11, .ref y4), (12, wi t0_636), (13, wi x13_121), (14, wi v14_436), (15, wi v15_32), (16, wi r15), (20, wi (v20_495 + 1))]) rfl ?_
  exact hL495 t0_636 (v20_495 + 1) E_636 C_636 q_636
set_option maxHeartbeats 8000000 in
set_option maxRecDepth 100000 in
theorem b_L_isWiki_635 {l : Launch} {Γ : Cx} {ma : Nat → Nat} (h : wOn Γ) (hm : ∀ k, k ≤ 10 → ma k ≠ 0) (hG : GK Γ l) (hX : XN Γ) (a0 : Nat) (a10 : Int) (y4 : Nat) (v15_32 : Int) (r15 : Int) (x13_121 : Int) (v14_436 : Int) (v20_495 : Int) (J636 : Int → Rw → Cd → (Nat → Nat) → Option (Int × S3)) (hJ636 : ∀ (t0_636 : Int) (E_636 : Rw) (C_636 : Cd) (q_636 : (Nat → Nat)), RunO l Γ k_L_isWiki 15 encI (em3 ma) 636 [(0, .ref a0), (1, .ref (ma 0)), (2, .ref (ma 1)), (3, .ref (ma 2)), (4, .ref (ma 3)), (5, .ref (ma 4)), (6, .ref (ma 6)), (7, .ref (ma 7)), (8, .ref (ma 8)), (9, .ref (ma 9)), (10, wi a10), (11, .ref y4), (13, wi x13_121), (14, wi v14_436), (15, wi v15_32), (16, wi r15), (20, wi v20_495)] [wi t0_636] (E_636, C_636, q_636) (J636 t0_636 E_636 C_636 q_636)) : ∀ (E_635 : Rw) (C_635 : Cd) (q_635 : (Nat → Nat)), RunO l Γ k_L_isWiki 15 encI (em3 ma) 635 [(0, .ref a0), (1, .ref (ma 0)), (2, .ref (ma 1)), (3, .ref (ma 2)), (4, .ref (ma 3)), (5, .ref (ma 4)), (6, .ref (ma 6)), (7, .ref (ma 7)), (8, .ref (ma 8)), (9, .ref (ma 9)), (10, wi a10), (11, .ref y4), (13, wi x13_121), (14, wi v14_436), (15, wi v15_32), (16, wi r15), (20, wi v20_495)] [] (E_635, C_635, q_635) (fW_isWiki_635 J636 E_635 C_635 q_635) := by
  intro E_635 C_635 q_635
  unfold fW_isWiki_635
  refine ro_iconst (v := 0) dL_isWiki_635 rfl ?_
  exact hJ636 0 E_635 C_635 q_635
set_option maxHeartbeats 8000000 in
set_option maxRecDepth 100000 in
theorem b_L_isWiki_628 {l : Launch} {Γ : Cx} {ma : Nat → Nat} (h : wOn Γ) (hm : ∀ k, k ≤ 10 → ma k ≠ 0) (hG : GK Γ l) (hX : XN Γ) (a0 : Nat) (a10 : Int) (y4 : Nat) (v15_32 : Int) (r15 : Int) (x13_121 : Int) (v14_436 : Int) (v20_495 : Int) (r25 : Int) (J636 : Int → Rw → Cd → (Nat → Nat) → Option (Int × S3)) (hJ636 : ∀ (t0_636 : Int) (E_636 : Rw) (C_636 : Cd) (q_636 : (Nat → Nat)), RunO l Γ k_L_isWiki 15 encI (em3 ma) 636 [(0, .ref a0), (1, .ref (ma 0)), (2, .ref (ma 1)), (3, .ref (ma 2)), (4, .ref (ma 3)), (5, .ref (ma 4)), (6, .ref (ma 6)), (7, .ref (ma 7)), (8, .ref (ma 8)), (9, .ref (ma 9)), (10, wi a10), (11, .ref y4), (13, wi x13_121), (14, wi v14_436), (15, wi v15_32), (16, wi r15), (20, wi v20_495)] [wi t0_636] (E_636, C_636, q_636) (J636 t0_636 E_636 C_636 q_636)) (J635 : Rw → Cd → (Nat → Nat) → Option (Int × S3)) (hJ635 : ∀ (E_635 : Rw) (C_635 : Cd) (q_635 : (Nat → Nat)), RunO l Γ k_L_isWiki 15 encI (em3 ma) 635 [(0, .ref a0), (1, .ref (ma 0)), (2, .ref (ma 1)), (3, .ref (ma 2)), (4, .ref (ma 3)), (5, .ref (ma 4)), (6, .ref (ma 6)), (7, .ref (ma 7)), (8, .ref (ma 8)), (9, .ref (ma 9)), (10, wi a10), (11, .ref y4), (13, wi x13_121), (14, wi v14_436), (15, wi v15_32), (16, wi r15), (20, wi v20_495)] [] (E_635, C_635, q_635) (J635 E_635 C_635 q_635)) : ∀ (t0_628 : Int) (E_628 : Rw) (C_628 : Cd) (q_628 : (Nat → Nat)), RunO l Γ k_L_isWiki 15 encI (em3 ma) 628 [(0, .ref a0), (1, .ref (ma 0)), (2, .ref (ma 1)), (3, .ref (ma 2)), (4, .ref (ma 3)), (5, .ref (ma 4)), (6, .ref (ma 6)), (7, .ref (ma 7)), (8, .ref (ma 8)), (9, .ref (ma 9)), (10, wi a10), (11, .ref y4), (13, wi x13_121), (14, wi v14_436), (15, wi v15_32), (16, wi r15), (20, wi v20_495)] [wi t0_628, wi r25] (E_628, C_628, q_628) (fW_isWiki_628 J636 J635 r25 t0_628 E_628 C_628 q_628) := by
  intro t0_628 E_628 C_628 q_628
  unfold fW_isWiki_628
  refine r_icmp_ne (tgt := 635) dL_isWiki_628 (by decide) ?_ ?_
  · exact hJ635 E_628 C_628 q_628
  · refine ro_iconst (v := 1) dL_isWiki_631 rfl ?_
    refine r_goto (tgt := 636) dL_isWiki_632 (by decide) ?_
    exact hJ636 1 E_628 C_628 q_628
set_option maxHeartbeats 8000000 in
set_option maxRecDepth 100000 in
theorem b_L_isWiki_627 {l : Launch} {Γ : Cx} {ma : Nat → Nat} (h : wOn Γ) (hm : ∀ k, k ≤ 10 → ma k ≠ 0) (hG : GK Γ l) (hX : XN Γ) (a0 : Nat) (a10 : Int) (y4 : Nat) (v15_32 : Int) (r15 : Int) (x13_121 : Int) (v14_436 : Int) (v20_495 : Int) (r25 : Int) (J628 : Int → Rw → Cd → (Nat → Nat) → Option (Int × S3)) (hJ628 : ∀ (t0_628 : Int) (E_628 : Rw) (C_628 : Cd) (q_628 : (Nat → Nat)), RunO l Γ k_L_isWiki 15 encI (em3 ma) 628 [(0, .ref a0), (1, .ref (ma 0)), (2, .ref (ma 1)), (3, .ref (ma 2)), (4, .ref (ma 3)), (5, .ref (ma 4)), (6, .ref (ma 6)), (7, .ref (ma 7)), (8, .ref (ma 8)), (9, .ref (ma 9)), (10, wi a10), (11, .ref y4), (13, wi x13_121), (14, wi v14_436), (15, wi v15_32), (16, wi r15), (20, wi v20_495)] [wi t0_628, wi r25] (E_628, C_628, q_628) (J628 t0_628 E_628 C_628 q_628)) : ∀ (E_627 : Rw) (C_627 : Cd) (q_627 : (Nat → Nat)), RunO l Γ k_L_isWiki 15 encI (em3 ma) 627 [(0, .ref a0), (1, .ref (ma 0)), (2, .ref (ma 1)), (3, .ref (ma 2)), (4, .ref (ma 3)), (5, .ref (ma 4)), (6, .ref (ma 6)), (7, .ref (ma 7)), (8, .ref (ma 8)), (9, .ref (ma 9)), (10, wi a10), (11, .ref y4), (13, wi x13_121), (14, wi v14_436), (15, wi v15_32), (16, wi r15), (20, wi v20_495)] [wi r25] (E_627, C_627, q_627) (fW_isWiki_627 J628 E_627 C_627 q_627) := by
  intro E_627 C_627 q_627
  unfold fW_isWiki_627
  refine ro_iconst (v := 0) dL_isWiki_627 rfl ?_
  exact hJ628 0 E_627 C_627 q_627
set_option maxHeartbeats 8000000 in
set_option maxRecDepth 100000 in
theorem b_L_isWiki_570 {l : Launch} {Γ : Cx} {ma : Nat → Nat} (h : wOn Γ) (hm : ∀ k, k ≤ 10 → ma k ≠ 0) (hG : GK Γ l) (hX : XN Γ) (a0 : Nat) (a10 : Int) (y4 : Nat) (v15_32 : Int) (r15 : Int) (x13_121 : Int) (v14_436 : Int) (v20_495 : Int) (x21_517 : Int) (L495 : Int → Int → Rw → Cd → (Nat → Nat) → Option (Int × S3)) (hL495 : ∀ (v12_495 : Int) (v20_495 : Int) (E_495 : Rw) (C_495 : Cd) (q_495 : (Nat → Nat)), RunO l Γ k_L_isWiki 15 encI (em3 ma) 495 [(0, .ref a0), (1, .ref (ma 0)), (2, .ref (ma 1)), (3, .ref (ma 2)), (4, .ref (ma 3)), (5, .ref (ma 4)), (6, .ref (ma 6)), (7, .ref (ma 7)), (8, .ref (ma 8)), (9, .ref (ma 9)), (10, wi a10), (11, .ref y4), (12, wi v12_495), (13, wi x13_121), (14, wi v14_436), (15, wi v15_32), (16, wi r15), (20, wi v20_495)] [] (E_495, C_495, q_495) (L495 v12_495 v20_495 E_495 C_495 q_495)) : ∀ (t0_570 : Int) (E_570 : Rw) (C_570 : Cd) (q_570 : (Nat → Nat)), RunO l Γ k_L_isWiki 15 encI (em3 ma) 570 [(0, .ref a0), (1, .ref (ma 0)), (2, .ref (ma 1)), (3, .ref (ma 2)), (4, .ref (ma 3)), (5, .ref (ma 4)), (6, .ref (ma 6)), (7, .ref (ma 7)), (8, .ref (ma 8)), (9, .ref (ma 9)), (10, wi a10), (11, .ref y4), (13, wi x13_121), (14, wi v14_436), (15, wi v15_32), (16, wi r15), (20, wi v20_495), (21, wi x21_517)] [wi t0_570] (E_570, C_570, q_570) (fW_isWiki_570 a0 v15_32 r15 L495 v20_495 x21_517 t0_570 E_570 C_570 q_570) := by
  intro t0_570 E_570 C_570 q_570
  unfold fW_isWiki_570
  refine r_istore (lo2 := [(23, wi t0_570), (0, .ref a0), (1, .ref (ma 0)), (2, .ref (ma 1)), (3, .ref (ma 2)), (4, .ref (ma 3)), (5, .ref (ma 4)), (6, .ref (ma 6)), (7, .ref (ma 7)), (8, .ref (ma 8)), (9, .ref (ma 9)), (10, wi a10), (11, .ref y4), (13, wi x13_121), (14, wi v14_436), (15, wi v15_32), (16, wi r15), (20, wi v20_495), (21, wi x21_517)]) dL_isWiki_570 (by decide) rfl ?_
  refine r_aload_n (x := a0) dL_isWiki_572 rfl rfl ?_
  refine r_iload (x := v15_32) dL_isWiki_573 rfl ?_
  refine r_iload (x := v20_495) dL_isWiki_575 rfl ?_
  refine ro_iconst (v := 1) dL_isWiki_577 rfl ?_
  refine r_iadd dL_isWiki_578 ?_
  refine r_cx1 (M0 := (fun k => (adq ma q_570 k : Int), E_570)) (J := fun (C_ : Cd) => (E_570, C_, q_570)) (k2 := k_X11_inLanguage) (c := 14) (T := TX11) (N := 10) (n := 2) (rest := []) (fun _ => rfl) rfl um_L_163 kv_X11_inLanguage hc_X11 (by decide) (c_X11_inLanguage hG _ _ _ _) (by decide) rfl (Nat.le_of_ble_eq_true rfl) dL_isWiki_579 rfl (fun r23 C24 => ?_)
  show RunO l Γ k_L_isWiki 15 encI (em3 ma) 582 [(23, wi t0_570), (0, .ref a0), (1, .ref (ma 0)), (2, .ref (ma 1)), (3, .ref (ma 2)), (4, .ref (ma 3)), (5, .ref (ma 4)), (6, .ref (ma 6)), (7, .ref (ma 7)), (8, .ref (ma 8)), (9, .ref (ma 9)), (10, wi a10), (11, .ref y4), (13, wi x13_121), (14, wi v14_436), (15, wi v15_32), (16, wi r15), (20, wi v20_495), (21, wi x21_517)] [wi r23] (E_570, C24, q_570) _
  refine r_iload (x := t0_570) dL_isWiki_582 rfl ?_
  refine r_join (P := fun (J : Int → Rw → Cd → (Nat → Nat) → Option (Int × S3)) => ∀ (t0_636 : Int) (E_636 : Rw) (C_636 : Cd) (q_636 : (Nat → Nat)), RunO l Γ k_L_isWiki 15 encI (em3 ma) 636 [(0, .ref a0), (1, .ref (ma 0)), (2, .ref (ma 1)), (3, .ref (ma 2)), (4, .ref (ma 3)), (5, .ref (ma 4)), (6, .ref (ma 6)), (7, .ref (ma 7)), (8, .ref (ma 8)), (9, .ref (ma 9)), (10, wi a10), (11, .ref y4), (13, wi x13_121), (14, wi v14_436), (15, wi v15_32), (16, wi r15), (20, wi v20_495)] [wi t0_636] (E_636, C_636, q_636) (J t0_636 E_636 C_636 q_636)) ?_ (fun J636 hJ636 => ?_)
  · exact b_L_isWiki_636 h hm hG hX a0 a10 y4 v15_32 r15 x13_121 v14_436 v20_495 L495 hL495
  refine r_join (P := fun (J : Rw → Cd → (Nat → Nat) → Option (Int × S3)) => ∀ (E_635 : Rw) (C_635 : Cd) (q_635 : (Nat → Nat)), RunO l Γ k_L_isWiki 15 encI (em3 ma) 635 [(0, .ref a0), (1, .ref (ma 0)), (2, .ref (ma 1)), (3, .ref (ma 2)), (4, .ref (ma 3)), (5, .ref (ma 4)), (6, .ref (ma 6)), (7, .ref (ma 7)), (8, .ref (ma 8)), (9, .ref (ma 9)), (10, wi a10), (11, .ref y4), (13, wi x13_121), (14, wi v14_436), (15, wi v15_32), (16, wi r15), (20, wi v20_495)] [] (E_635, C_635, q_635) (J E_635 C_635 q_635)) ?_ (fun J635 hJ635 => ?_)
  · exact b_L_isWiki_635 h hm hG hX a0 a10 y4 v15_32 r15 x13_121 v14_436 v20_495 J636 hJ636
  refine r_icmp_ne (tgt := 635) dL_isWiki_584 (by decide) ?_ ?_
  · refine r_lo [1, 2, 3, 4, 5, 6, 7, 8, 9, 10, 11, 12, 13, 14, 15, 16, 17] (lo2 := [(0, .ref a0), (1, .ref (ma 0)), (2, .ref (ma 1)), (3, .ref (ma 2)), (4, .ref (ma 3)), (5, .ref (ma 4)), (6, .ref (ma 6)), (7, .ref (ma 7)), (8, .ref (ma 8)), (9, .ref (ma 9)), (10, wi a10), (11, .ref y4), (13, wi x13_121), (14, wi v14_436), (15, wi v15_32), (16, wi r15), (20, wi v20_495)]) rfl ?_
    exact hJ635 E_570 C24 q_570
  · refine r_aload_n (x := a0) dL_isWiki_587 rfl rfl ?_
    refine r_iload (x := v15_32) dL_isWiki_588 rfl ?_
    refine r_iload (x := v20_495) dL_isWiki_590 rfl ?_
    refine ro_iconst (v := 1) dL_isWiki_592 rfl ?_
    refine r_iadd dL_isWiki_593 ?_
    refine r_cx1 (M0 := (fun k => (adq ma q_570 k : Int), E_570)) (J := fun (C_ : Cd) => (E_570, C_, q_570)) (k2 := k_X11_isOutdated) (c := 14) (T := TX11) (N := 10) (n := 2) (rest := []) (fun _ => rfl) rfl um_L_166 kv_X11_isOutdated hc_X11 (by decide) (c_X11_isOutdated hG _ _ _ _) (by decide) rfl (Nat.le_of_ble_eq_true rfl) dL_isWiki_594 rfl (fun r25 C26 => ?_)
    show RunO l Γ k_L_isWiki 15 encI (em3 ma) 597 [(23, wi t0_570), (0, .ref a0), (1, .ref (ma 0)), (2, .ref (ma 1)), (3, .ref (ma 2)), (4, .ref (ma 3)), (5, .ref (ma 4)), (6, .ref (ma 6)), (7, .ref (ma 7)), (8, .ref (ma 8)), (9, .ref (ma 9)), (10, wi a10), (11, .ref y4), (13, wi x13_121), (14, wi v14_436), (15, wi v15_32), (16, wi r15), (20, wi v20_495), (21, wi x21_517)] [wi r25] (E_570, C26, q_570) _
    refine r_iload (x := x21_517) dL_isWiki_597 rfl ?_
    refine r_join (P := fun (J : Int → Rw → Cd → (Nat → Nat) → Option (Int × S3)) => ∀ (t0_628 : Int) (E_628 : Rw) (C_628 : Cd) (q_628 : (Nat → Nat)), RunO l Γ k_L_isWiki 15 encI (em3 ma) 628 [(0, .ref a0), (1, .ref (ma 0)), (2, .ref (ma 1)), (3, .ref (ma 2)), (4, .ref (ma 3)), (5, .ref (ma 4)), (6, .ref (ma 6)), (7, .ref (ma 7)), (8, .ref (ma 8)), (9, .ref (ma 9)), (10, wi a10), (11, .ref y4), (13, wi x13_121), (14, wi v14_436), (15, wi v15_32), (16, wi r15), (20, wi v20_495)] [wi t0_628, wi r25] (E_628, C_628, q_628) (J t0_628 E_628 C_628 q_628)) ?_ (fun J628 hJ628 => ?_)
    · exact b_L_isWiki_628 h hm hG hX a0 a10 y4 v15_32 r15 x13_121 v14_436 v20_495 r25 J636 hJ636 J635 hJ635
    refine r_join (P := fun (J : Rw → Cd → (Nat → Nat) → Option (Int × S3)) => ∀ (E_627 : Rw) (C_627 : Cd) (q_627 : (Nat → Nat)), RunO l Γ k_L_isWiki 15 encI (em3 ma) 627 [(0, .ref a0), (1, .ref (ma 0)), (2, .ref (ma 1)), (3, .ref (ma 2)), (4, .ref (ma 3)), (5, .ref (ma 4)), (6, .ref (ma 6)), (7, .ref (ma 7)), (8, .ref (ma 8)), (9, .ref (ma 9)), (10, wi a10), (11, .ref y4), (13, wi x13_121), (14, wi v14_436), (15, wi v15_32), (16, wi r15), (20, wi v20_495)] [wi r25] (E_627, C_627, q_627) (J E_627 C_627 q_627)) ?_ (fun J627 hJ627 => ?_)
    · exact b_L_isWiki_627 h hm hG hX a0 a10 y4 v15_32 r15 x13_121 v14_436 v20_495 r25 J628 hJ628
    refine r_if_le (tgt := 627) dL_isWiki_599 (by decide) ?_ ?_
    · refine r_lo [1, 2, 3, 4, 5, 6, 7, 8, 9, 10, 11, 12, 13, 14, 15, 16, 17] (lo2 := [(0, .ref a0), (1, .ref (ma 0)), (2, .ref (ma 1)), (3, .ref (ma 2)), (4, .ref (ma 3)), (5, .ref (ma 4)), (6, .ref (ma 6)), (7, .ref (ma 7)), (8, .ref (ma 8)), (9, .ref (ma 9)), (10, wi a10), (11, .ref y4), (13, wi x13_121), (14, wi v14_436), (15, wi v15_32), (16, wi r15), (20, wi v20_495)]) rfl ?_
      exact hJ627 E_570 C26 q_570
    · refine r_aload (x := ma 9) dL_isWiki_602 rfl ?_
      refine r_bipush (v := 16) dL_isWiki_604 rfl ?_
      refine r_iload (x := v15_32) dL_isWiki_606 rfl ?_
      refine r_iadd dL_isWiki_608 ?_
      refine r_bipush (v := 8) dL_isWiki_609 rfl ?_
      refine r_iload (x := v20_495) dL_isWiki_611 rfl ?_
      refine r_imul dL_isWiki_613 ?_
      refine r_iadd dL_isWiki_614 ?_
      refine r_wiald3 h (by decide) (by decide) (hm 9 (by decide)) dL_isWiki_615 ?_
      refine r_iload (x := r15) dL_isWiki_616 rfl ?_
      refine ro_iconst (v := 1) dL_isWiki_618 rfl ?_
      refine r_iadd dL_isWiki_619 ?_
      refine r_icmp_eq (tgt := 627) dL_isWiki_620 (by decide) ?_ ?_
      · refine r_lo [1, 2, 3, 4, 5, 6, 7, 8, 9, 10, 11, 12, 13, 14, 15, 16, 17] (lo2 := [(0, .ref a0), (1, .ref (ma 0)), (2, .ref (ma 1)), (3, .ref (ma 2)), (4, .ref (ma 3)), (5, .ref (ma 4)), (6, .ref (ma 6)), (7, .ref (ma 7)), (8, .ref (ma 8)), (9, .ref (ma 9)), (10, wi a10), (11, .ref y4), (13, wi x13_121), (14, wi v14_436), (15, wi v15_32), (16, wi r15), (20, wi v20_495)]) rfl ?_
        exact hJ627 E_570 C26 q_570
      · refine ro_iconst (v := 1) dL_isWiki_623 rfl ?_
        refine r_goto (tgt := 628) dL_isWiki_624 (by decide) ?_
        refine r_lo [1, 2, 3, 4, 5, 6, 7, 8, 9, 10, 11, 12, 13, 14, 15, 16, 17] (lo2 := [(0, .ref a0), (1, .ref (ma 0)), (2, .ref (ma 1)), (3, .ref (ma 2)), (4, .ref (ma 3)), (5, .ref (ma 4)), (6, .ref (ma 6)), (7, .ref (ma 7)), (8, .ref (ma 8)), (9, .ref (ma 9)), (10, wi a10), (11, .ref y4), (13, wi x13_121), (14, wi v14_436), (15, wi v15_32), (16, wi r15), (20, wi v20_495)]) rfl ?_
        exact hJ628 1 E_570 C26 q_570
set_option maxHeartbeats 8000000 in
set_option maxRecDepth 100000 in
theorem b_L_isWiki_568 {l : Launch} {Γ : Cx} {ma : Nat → Nat} (h : wOn Γ) (hm : ∀ k, k ≤ 10 → ma k ≠ 0) (hG : GK Γ l) (hX : XN Γ) (a0 : Nat) (a10 : Int) (y4 : Nat) (v15_32 : Int) (r15 : Int) (x13_121 : Int) (v14_436 : Int) (v20_495 : Int) (x21_517 : Int) (J570 : Int → Rw → Cd → (Nat → Nat) → Option (Int × S3)) (hJ570 : ∀ (t0_570 : Int) (E_570 : Rw) (C_570 : Cd) (q_570 : (Nat → Nat)), RunO l Γ k_L_isWiki 15 encI (em3 ma) 570 [(0, .ref a0), (1, .ref (ma 0)), (2, .ref (ma 1)), (3, .ref (ma 2)), (4, .ref (ma 3)), (5, .ref (ma 4)), (6, .ref (ma 6)), (7, .ref (ma 7)), (8, .ref (ma 8)), (9, .ref (ma 9)), (10, wi a10), (11, .ref y4), (13, wi x13_121), (14, wi v14_436), (15, wi v15_32), (16, wi r15), (20, wi v20_495), (21, wi x21_517)] [wi t0_570] (E_570, C_570, q_570) (J570 t0_570 E_570 C_570 q_570)) : ∀ (E_568 : Rw) (C_568 : Cd) (q_568 : (Nat → Nat)), RunO l Γ k_L_isWiki 15 encI (em3 ma) 568 [(0, .ref a0), (1, .ref (ma 0)), (2, .ref (ma 1)), (3, .ref (ma 2)), (4, .ref (ma 3)), (5, .ref (ma 4)), (6, .ref (ma 6)), (7, .ref (ma 7)), (8, .ref (ma 8)), (9, .ref (ma 9)), (10, wi a10), (11, .ref y4), (13, wi x13_121), (14, wi v14_436), (15, wi v15_32), (16, wi r15), (20, wi v20_495), (21, wi x21_517)] [] (E_568, C_568, q_568) (fW_isWiki_568 v15_32 J570 E_568 C_568 q_568) := by
  intro E_568 C_568 q_568
  unfold fW_isWiki_568
  refine r_iload (x := v15_32) dL_isWiki_568 rfl ?_
  exact hJ570 v15_32 E_568 C_568 q_568
set_option maxHeartbeats 8000000 in
set_option maxRecDepth 100000 in
theorem b_L_isWiki_547 {l : Launch} {Γ : Cx} {ma : Nat → Nat} (h : wOn Γ) (hm : ∀ k, k ≤ 10 → ma k ≠ 0) (hG : GK Γ l) (hX : XN Γ) (a0 : Nat) (a10 : Int) (y4 : Nat) (v15_32 : Int) (r15 : Int) (x13_121 : Int) (v14_436 : Int) (v20_495 : Int) (x21_517 : Int) (x22_524 : Int) (J570 : Int → Rw → Cd → (Nat → Nat) → Option (Int × S3)) (hJ570 : ∀ (t0_570 : Int) (E_570 : Rw) (C_570 : Cd) (q_570 : (Nat → Nat)), RunO l Γ k_L_isWiki 15 encI (em3 ma) 570 [(0, .ref a0), (1, .ref (ma 0)), (2, .ref (ma 1)), (3, .ref (ma 2)), (4, .ref (ma 3)), (5, .ref (ma 4)), (6, .ref (ma 6)), (7, .ref (ma 7)), (8, .ref (ma 8)), (9, .ref (ma 9)), (10, wi a10), (11, .ref y4), (13, wi x13_121), (14, wi v14_436), (15, wi v15_32), (16, wi r15), (20, wi v20_495), (21, wi x21_517)] [wi t0_570] (E_570, C_570, q_570) (J570 t0_570 E_570 C_570 q_570)) : ∀ (E_547 : Rw) (C_547 : Cd) (q_547 : (Nat → Nat)), RunO l Γ k_L_isWiki 15 encI (em3 ma) 547 [(0, .ref a0), (1, .ref (ma 0)), (2, .ref (ma 1)), (3, .ref (ma 2)), (4, .ref (ma 3)), (5, .ref (ma 4)), (6, .ref (ma 6)), (7, .ref (ma 7)), (8, .ref (ma 8)), (9, .ref (ma 9)), (10, wi a10), (11, .ref y4), (13, wi x13_121), (14, wi v14_436), (15, wi v15_32), (16, wi r15), (20, wi v20_495), (21, wi x21_517), (22, wi x22_524)] [] (E_547, C_547, q_547) (fW_isWiki_547 v15_32 x22_524 J570 E_547 C_547 q_547) := by
  intro E_547 C_547 q_547
  unfold fW_isWiki_547
  refine r_iload (x := x22_524) dL_isWiki_547 rfl ?_
  refine r_join (P := fun (J : Rw → Cd → (Nat → Nat) → Option (Int × S3)) => ∀ (E_568 : Rw) (C_568 : Cd) (q_568 : (Nat → Nat)), RunO l Γ k_L_isWiki 15 encI (em3 ma) 568 [(0, .ref a0), (1, .ref (ma 0)), (2, .ref (ma 1)), (3, .ref (ma 2)), (4, .ref (ma 3)), (5, .ref (ma 4)), (6, .ref (ma 6)), (7, .ref (ma 7)), (8, .ref (ma 8)), (9, .ref (ma 9)), (10, wi a10), (11, .ref y4), (13, wi x13_121), (14, wi v14_436), (15, wi v15_32), (16, wi r15), (20, wi v20_495), (21, wi x21_517)] [] (E_568, C_568, q_568) (J E_568 C_568 q_568)) ?_ (fun J568 hJ568 => ?_)
  · exact b_L_isWiki_568 h hm hG hX a0 a10 y4 v15_32 r15 x13_121 v14_436 v20_495 x21_517 J570 hJ570
  refine r_if_le (tgt := 568) dL_isWiki_549 (by decide) ?_ ?_
  · refine r_lo [0, 1, 2, 3, 4, 5, 6, 7, 8, 9, 10, 11, 12, 13, 14, 15, 16, 17] (lo2 := [(0, .ref a0), (1, .ref (ma 0)), (2, .ref (ma 1)), (3, .ref (ma 2)), (4, .ref (ma 3)), (5, .ref (ma 4)), (6, .ref (ma 6)), (7, .ref (ma 7)), (8, .ref (ma 8)), (9, .ref (ma 9)), (10, wi a10), (11, .ref y4), (13, wi x13_121), (14, wi v14_436), (15, wi v15_32), (16, wi r15), (20, wi v20_495), (21, wi x21_517)]) rfl ?_
    exact hJ568 E_547 C_547 q_547
  · refine r_aload_n (x := ma 1) dL_isWiki_552 rfl rfl ?_
    refine r_iload (x := x22_524) dL_isWiki_553 rfl ?_
    refine ro_iconst (v := 1) dL_isWiki_555 rfl ?_
    refine r_isub dL_isWiki_556 ?_
    refine r_wiald3 h (by decide) (by decide) (hm 1 (by decide)) dL_isWiki_557 ?_
    refine r_if_le (tgt := 568) dL_isWiki_558 (by decide) ?_ ?_
    · refine r_lo [0, 1, 2, 3, 4, 5, 6, 7, 8, 9, 10, 11, 12, 13, 14, 15, 16, 17] (lo2 := [(0, .ref a0), (1, .ref (ma 0)), (2, .ref (ma 1)), (3, .ref (ma 2)), (4, .ref (ma 3)), (5, .ref (ma 4)), (6, .ref (ma 6)), (7, .ref (ma 7)), (8, .ref (ma 8)), (9, .ref (ma 9)), (10, wi a10), (11, .ref y4), (13, wi x13_121), (14, wi v14_436), (15, wi v15_32), (16, wi r15), (20, wi v20_495), (21, wi x21_517)]) rfl ?_
      exact hJ568 E_547 C_547 q_547
    · refine r_iload (x := x22_524) dL_isWiki_561 rfl ?_
      refine ro_iconst (v := 1) dL_isWiki_563 rfl ?_
      refine r_isub dL_isWiki_564 ?_
      refine r_goto (tgt := 570) dL_isWiki_565 (by decide) ?_
      refine r_lo [0, 1, 2, 3, 4, 5, 6, 7, 8, 9, 10, 11, 12, 13, 14, 15, 16, 17] (lo2 := [(0, .ref a0), (1, .ref (ma 0)), (2, .ref (ma 1)), (3, .ref (ma 2)), (4, .ref (ma 3)), (5, .ref (ma 4)), (6, .ref (ma 6)), (7, .ref (ma 7)), (8, .ref (ma 8)), (9, .ref (ma 9)), (10, wi a10), (11, .ref y4), (13, wi x13_121), (14, wi v14_436), (15, wi v15_32), (16, wi r15), (20, wi v20_495), (21, wi x21_517)]) rfl ?_
      exact hJ570 (x22_524 - 1) E_547 C_547 q_547
set_option maxHeartbeats 8000000 in
set_option maxRecDepth 100000 in
theorem b_L_isWiki_495 {l : Launch} {Γ : Cx} {ma : Nat → Nat} (h : wOn Γ) (hm : ∀ k, k ≤ 10 → ma k ≠ 0) (hG : GK Γ l) (hX : XN Γ) (a0 : Nat) (a10 : Int) (y4 : Nat) (v15_32 : Int) (r15 : Int) (x13_121 : Int) (v14_436 : Int) (L32 : Int → Int → Int → Int → Rw → Cd → (Nat → Nat) → Option (Int × S3)) (hL32 : ∀ (v12_32 : Int) (v13_32 : Int) (v14_32 : Int) (v15_32 : Int) (E_32 : Rw) (C_32 : Cd) (q_32 : (Nat → Nat)), RunO l Γ k_L_isWiki 15 encI (em3 ma) 32 [(0, .ref a0), (1, .ref (ma 0)), (2, .ref (ma 1)), (3, .ref (ma 2)), (4, .ref (ma 3)), (5, .ref (ma 4)), (6, .ref (ma 6)), (7, .ref (ma 7)), (8, .ref (ma 8)), (9, .ref (ma 9)), (10, wi a10), (11, .ref y4), (12, wi v12_32), (13, wi v13_32), (14, wi v14_32), (15, wi v15_32)] [] (E_32, C_32, q_32) (L32 v12_32 v13_32 v14_32 v15_32 E_32 C_32 q_32)) (L495 : Int → Int → Rw → Cd → (Nat → Nat) → Option (Int × S3)) (hL495 : ∀ (v12_495 : Int) (v20_495 : Int) (E_495 : Rw) (C_495 : Cd) (q_495 : (Nat → Nat)), RunO l Γ k_L_isWiki 15 encI (em3 ma) 495 [(0, .ref a0), (1, .ref (ma 0)), (2, .ref (ma 1)), (3, .ref (ma 2)), (4, .ref (ma 3)), (5, .ref (ma 4)), (6, .ref (ma 6)), (7, .ref (ma 7)), (8, .ref (ma 8)), (9, .ref (ma 9)), (10, wi a10), (11, .ref y4), (12, wi v12_495), (13, wi x13_121), (14, wi v14_436), (15, wi v15_32), (16, wi r15), (20, wi v20_495)] [] (E_495, C_495, q_495) (L495 v12_495 v20_495 E_495 C_495 q_495)) : ∀ (v12_495 : Int) (v20_495 : Int) (E_495 : Rw) (C_495 : Cd) (q_495 : (Nat → Nat)), RunO l Γ k_L_isWiki 15 encI (em3 ma) 495 [(0, .ref a0), (1, .ref (ma 0)), (2, .ref (ma 1)), (3, .ref (ma 2)), (4, .ref (ma 3)), (5, .ref (ma 4)), (6, .ref (ma 6)), (7, .ref (ma 7)), (8, .ref (ma 8)), (9, .ref (ma 9)), (10, wi a10), (11, .ref y4), (12, wi v12_495), (13, wi x13_121), (14, wi v14_436), (15, wi v15_32), (16, wi r15), (20, wi v20_495)] [] (E_495, C_495, q_495) (fW_isWiki_495 a0 L32 v15_32 r15 x13_121 v14_436 L495 v12_495 v20_495 E_495 C_495 q_495) := by
  intro v12_495 v20_495 E_495 C_495 q_495
  unfold fW_isWiki_495
  refine r_iload (x := v20_495) dL_isWiki_495 rfl ?_
  refine ro_iconst (v := 2) dL_isWiki_497 rfl ?_
  refine r_join (P := fun (J : Rw → Cd → (Nat → Nat) → Option (Int × S3)) => ∀ (E_644 : Rw) (C_644 : Cd) (q_644 : (Nat → Nat)), RunO l Γ k_L_isWiki 15 encI (em3 ma) 644 [(0, .ref a0), (1, .ref (ma 0)), (2, .ref (ma 1)), (3, .ref (ma 2)), (4, .ref (ma 3)), (5, .ref (ma 4)), (6, .ref (ma 6)), (7, .ref (ma 7)), (8, .ref (ma 8)), (9, .ref (ma 9)), (10, wi a10), (11, .ref y4), (12, wi v12_495), (13, wi x13_121), (14, wi v14_436), (15, wi v15_32)] [] (E_644, C_644, q_644) (J E_644 C_644 q_644)) ?_ (fun J644 hJ644 => ?_)
  · exact b_L_isWiki_644 h hm hG hX a0 a10 y4 v15_32 x13_121 v14_436 v12_495 L32 hL32
  refine r_icmp_ge (tgt := 644) dL_isWiki_498 (by decide) ?_ ?_
  · refine r_lo [0, 1, 2, 3, 4, 5, 6, 7, 8, 9, 10, 11, 12, 13, 14, 15] (lo2 := [(0, .ref a0), (1, .ref (ma 0)), (2, .ref (ma 1)), (3, .ref (ma 2)), (4, .ref (ma 3)), (5, .ref (ma 4)), (6, .ref (ma 6)), (7, .ref (ma 7)), (8, .ref (ma 8)), (9, .ref (ma 9)), (10, wi a10), (11, .ref y4), (12, wi v12_495), (13, wi x13_121), (14, wi v14_436), (15, wi v15_32)]) rfl ?_
    exact hJ644 E_495 C_495 q_495
  · refine r_iload (x := v12_495) dL_isWiki_501 rfl ?_
    refine r_if_eq (tgt := 644) dL_isWiki_503 (by decide) ?_ ?_
    · refine r_lo [0, 1, 2, 3, 4, 5, 6, 7, 8, 9, 10, 11, 12, 13, 14, 15] (lo2 := [(0, .ref a0), (1, .ref (ma 0)), (2, .ref (ma 1)), (3, .ref (ma 2)), (4, .ref (ma 3)), (5, .ref (ma 4)), (6, .ref (ma 6)), (7, .ref (ma 7)), (8, .ref (ma 8)), (9, .ref (ma 9)), (10, wi a10), (11, .ref y4), (12, wi v12_495), (13, wi x13_121), (14, wi v14_436), (15, wi v15_32)]) rfl ?_
      exact hJ644 E_495 C_495 q_495
    · refine r_aload (x := ma 9) dL_isWiki_506 rfl ?_
      refine r_iload (x := v15_32) dL_isWiki_508 rfl ?_
      refine r_bipush (v := 8) dL_isWiki_510 rfl ?_
      refine r_iload (x := v20_495) dL_isWiki_512 rfl ?_
      refine r_imul dL_isWiki_514 ?_
      refine r_iadd dL_isWiki_515 ?_
      refine r_wiald3 h (by decide) (by decide) (hm 9 (by decide)) dL_isWiki_516 ?_
      refine r_nm (fun x21_517 => ?_)
      refine r_istore (lo2 := [(21, wi x21_517), (0, .ref a0), (1, .ref (ma 0)), (2, .ref (ma 1)), (3, .ref (ma 2)), (4, .ref (ma 3)), (5, .ref (ma 4)), (6, .ref (ma 6)), (7, .ref (ma 7)), (8, .ref (ma 8)), (9, .ref (ma 9)), (10, wi a10), (11, .ref y4), (12, wi v12_495), (13, wi x13_121), (14, wi v14_436), (15, wi v15_32), (16, wi r15), (20, wi v20_495)]) dL_isWiki_517 (by decide) rfl ?_
      refine r_aload (x := ma 9) dL_isWiki_519 rfl ?_
      refine r_iload (x := v15_32) dL_isWiki_521 rfl ?_
      refine r_wiald3 h (by decide) (by decide) (hm 9 (by decide)) dL_isWiki_523 ?_
      refine r_nm (fun x22_524 => ?_)
      refine r_istore (lo2 := [(22, wi x22_524), (21, wi x21_517), (0, .ref a0), (1, .ref (ma 0)), (2, .ref (ma 1)), (3, .ref (ma 2)), (4, .ref (ma 3)), (5, .ref (ma 4)), (6, .ref (ma 6)), (7, .ref (ma 7)), (8, .ref (ma 8)), (9, .ref (ma 9)), (10, wi a10), (11, .ref y4), (12, wi v12_495), (13, wi x13_121), (14, wi v14_436), (15, wi v15_32), (16, wi r15), (20, wi v20_495)]) dL_isWiki_524 (by decide) rfl ?_
      refine r_iload (x := x21_517) dL_isWiki_526 rfl ?_
      refine r_join (P := fun (J : Int → Rw → Cd → (Nat → Nat) → Option (Int × S3)) => ∀ (t0_570 : Int) (E_570 : Rw) (C_570 : Cd) (q_570 : (Nat → Nat)), RunO l Γ k_L_isWiki 15 encI (em3 ma) 570 [(0, .ref a0), (1, .ref (ma 0)), (2, .ref (ma 1)), (3, .ref (ma 2)), (4, .ref (ma 3)), (5, .ref (ma 4)), (6, .ref (ma 6)), (7, .ref (ma 7)), (8, .ref (ma 8)), (9, .ref (ma 9)), (10, wi a10), (11, .ref y4), (13, wi x13_121), (14, wi v14_436), (15, wi v15_32), (16, wi r15), (20, wi v20_495), (21, wi x21_517)] [wi t0_570] (E_570, C_570, q_570) (J t0_570 E_570 C_570 q_570)) ?_ (fun J570 hJ570 => ?_)
      · exact b_L_isWiki_570 h hm hG hX a0 a10 y4 v15_32 r15 x13_121 v14_436 v20_495 x21_517 L495 hL495
      refine r_join (P := fun (J : Rw → Cd → (Nat → Nat) → Option (Int × S3)) => ∀ (E_547 : Rw) (C_547 : Cd) (q_547 : (Nat → Nat)), RunO l Γ k_L_isWiki 15 encI (em3 ma) 547 [(0, .ref a0), (1, .ref (ma 0)), (2, .ref (ma 1)), (3, .ref (ma 2)), (4, .ref (ma 3)), (5, .ref (ma 4)), (6, .ref (ma 6)), (7, .ref (ma 7)), (8, .ref (ma 8)), (9, .ref (ma 9)), (10, wi a10), (11, .ref y4), (13, wi x13_121), (14, wi v14_436), (15, wi v15_32), (16, wi r15), (20, wi v20_495), (21, wi x21_517), (22, wi x22_524)] [] (E_547, C_547, q_547) (J E_547 C_547 q_547)) ?_ (fun J547 hJ547 => ?_)
      · exact b_L_isWiki_547 h hm hG hX a0 a10 y4 v15_32 r15 x13_121 v14_436 v20_495 x21_517 x22_524 J570 hJ570
      refine r_if_le (tgt := 547) dL_isWiki_528 (by decide) ?_ ?_
      · refine r_lo [2, 3, 4, 5, 6, 7, 8, 9, 10, 11, 12, 13, 15, 16, 17, 18, 19, 1, 0] (lo2 := [(0, .ref a0), (1, .ref (ma 0)), (2, .ref (ma 1)), (3, .ref (ma 2)), (4, .ref (ma 3)), (5, .ref (ma 4)), (6, .ref (ma 6)), (7, .ref (ma 7)), (8, .ref (ma 8)), (9, .ref (ma 9)), (10, wi a10), (11, .ref y4), (13, wi x13_121), (14, wi v14_436), (15, wi v15_32), (16, wi r15), (20, wi v20_495), (21, wi x21_517), (22, wi x22_524)]) rfl ?_
        exact hJ547 E_495 C_495 q_495
      · refine r_aload_n (x := ma 1) dL_isWiki_531 rfl rfl ?_
        refine r_iload (x := x21_517) dL_isWiki_532 rfl ?_
        refine ro_iconst (v := 1) dL_isWiki_534 rfl ?_
        refine r_isub dL_isWiki_535 ?_
        refine r_wiald3 h (by decide) (by decide) (hm 1 (by decide)) dL_isWiki_536 ?_
        refine r_if_le (tgt := 547) dL_isWiki_537 (by decide) ?_ ?_
        · refine r_lo [2, 3, 4, 5, 6, 7, 8, 9, 10, 11, 12, 13, 15, 16, 17, 18, 19, 1, 0] (lo2 := [(0, .ref a0), (1, .ref (ma 0)), (2, .ref (ma 1)), (3, .ref (ma 2)), (4, .ref (ma 3)), (5, .ref (ma 4)), (6, .ref (ma 6)), (7, .ref (ma 7)), (8, .ref (ma 8)), (9, .ref (ma 9)), (10, wi a10), (11, .ref y4), (13, wi x13_121), (14, wi v14_436), (15, wi v15_32), (16, wi r15), (20, wi v20_495), (21, wi x21_517), (22, wi x22_524)]) rfl ?_
          exact hJ547 E_495 C_495 q_495
        · refine r_iload (x := x21_517) dL_isWiki_540 rfl ?_
          refine ro_iconst (v := 1) dL_isWiki_542 rfl ?_
          refine r_isub dL_isWiki_543 ?_
          refine r_goto (tgt := 570) dL_isWiki_544 (by decide) ?_
          refine r_lo [2, 3, 4, 5, 6, 7, 8, 9, 10, 11, 12, 13, 15, 16, 17, 18, 19, 1] (lo2 := [(0, .ref a0), (1, .ref (ma 0)), (2, .ref (ma 1)), (3, .ref (ma 2)), (4, .ref (ma 3)), (5, .ref (ma 4)), (6, .ref (ma 6)), (7, .ref (ma 7)), (8, .ref (ma 8)), (9, .ref (ma 9)), (10, wi a10), (11, .ref y4), (13, wi x13_121), (14, wi v14_436), (15, wi v15_32), (16, wi r15), (20, wi v20_495), (21, wi x21_517)]) rfl ?_
          exact hJ570 (x21_517 - 1) E_495 C_495 q_495
set_option maxHeartbeats 8000000 in
set_option maxRecDepth 100000 in
theorem b_L_isWiki_483 {l : Launch} {Γ : Cx} {ma : Nat → Nat} (h : wOn Γ) (hm : ∀ k, k ≤ 10 → ma k ≠ 0) (hG : GK Γ l) (hX : XN Γ) (a0 : Nat) (a10 : Int) (y4 : Nat) (v15_32 : Int) (r15 : Int) (x13_121 : Int) (v12_433 : Int) (v14_436 : Int) (v20_436 : Int) (L436 : Int → Int → Rw → Cd → (Nat → Nat) → Option (Int × S3)) (hL436 : ∀ (v14_436 : Int) (v20_436 : Int) (E_436 : Rw) (C_436 : Cd) (q_436 : (Nat → Nat)), RunO l Γ k_L_isWiki 15 encI (em3 ma) 436 [(0, .ref a0), (1, .ref (ma 0)), (2, .ref (ma 1)), (3, .ref (ma 2)), (4, .ref (ma 3)), (5, .ref (ma 4)), (6, .ref (ma 6)), (7, .ref (ma 7)), (8, .ref (ma 8)), (9, .ref (ma 9)), (10, wi a10), (11, .ref y4), (12, wi v12_433), (13, wi x13_121), (14, wi v14_436), (15, wi v15_32), (16, wi r15), (20, wi v20_436)] [] (E_436, C_436, q_436) (L436 v14_436 v20_436 E_436 C_436 q_436)) : ∀ (t0_483 : Int) (E_483 : Rw) (C_483 : Cd) (q_483 : (Nat → Nat)), RunO l Γ k_L_isWiki 15 encI (em3 ma) 483 [(0, .ref a0), (1, .ref (ma 0)), (2, .ref (ma 1)), (3, .ref (ma 2)), (4, .ref (ma 3)), (5, .ref (ma 4)), (6, .ref (ma 6)), (7, .ref (ma 7)), (8, .ref (ma 8)), (9, .ref (ma 9)), (10, wi a10), (11, .ref y4), (12, wi v12_433), (13, wi x13_121), (15, wi v15_32), (16, wi r15), (20, wi v20_436)] [wi t0_483, wi v14_436] (E_483, C_483, q_483) (fW_isWiki_483 L436 v14_436 v20_436 t0_483 E_483 C_483 q_483) := by
  intro t0_483 E_483 C_483 q_483
  unfold fW_isWiki_483
  refine r_ior dL_isWiki_483 ?_
  refine r_nm (fun x14_484 => ?_)
  refine r_istore (lo2 := [(14, wi x14_484), (0, .ref a0), (1, .ref (ma 0)), (2, .ref (ma 1)), (3, .ref (ma 2)), (4, .ref (ma 3)), (5, .ref (ma 4)), (6, .ref (ma 6)), (7, .ref (ma 7)), (8, .ref (ma 8)), (9, .ref (ma 9)), (10, wi a10), (11, .ref y4), (12, wi v12_433), (13, wi x13_121), (15, wi v15_32), (16, wi r15), (20, wi v20_436)]) dL_isWiki_484 (by decide) rfl ?_
  refine r_iinc (x := v20_436) (lo2 := [(20, wi (v20_436 + 1)), (14, wi x14_484), (0, .ref a0), (1, .ref (ma 0)), (2, .ref (ma 1)), (3, .ref (ma 2)), (4, .ref (ma 3)), (5, .ref (ma 4)), (6, .ref (ma 6)), (7, .ref (ma 7)), (8, .ref (ma 8)), (9, .ref (ma 9)), (10, wi a10), (11, .ref y4), (12, wi v12_433), (13, wi x13_121), (15, wi v15_32), (16, wi r15)]) dL_isWiki_486 rfl (by decide) rfl ?_
  refine r_goto (tgt := 436) dL_isWiki_489 (by decide) ?_
  refine r_lo [2, 3, 4, 5, 6, 7, 8, 9, 10, 11, 12, 13, 14, 15, 1, 16, 17, 0] (lo2 := [(0, .ref a0), (1, .ref (ma 0)), (2, .ref (ma 1)), (3, .ref (ma 2)), (4, .ref (ma 3)), (5, .ref (ma 4)), (6, .ref (ma 6)), (7, .ref (ma 7)), (8, .ref (ma 8)), (9, .ref (ma 9)), (10, wi a10), (11, .ref y4), (12, wi v12_433), (13, wi x13_121), (14, wi x14_484), (15, wi v15_32), (16, wi r15), (20, wi (v20_436 + 1))]) rfl ?_
  exact hL436 x14_484 (v20_436 + 1) E_483 C_483 q_483
set_option maxHeartbeats 8000000 in
set_option maxRecDepth 100000 in
theorem b_L_isWiki_482 {l : Launch} {Γ : Cx} {ma : Nat → Nat} (h : wOn Γ) (hm : ∀ k, k ≤ 10 → ma k ≠ 0) (hG : GK Γ l) (hX : XN Γ) (a0 : Nat) (a10 : Int) (y4 : Nat) (v15_32 : Int) (r15 : Int) (x13_121 : Int) (v12_433 : Int) (v14_436 : Int) (v20_436 : Int) (J483 : Int → Rw → Cd → (Nat → Nat) → Option (Int × S3)) (hJ483 : ∀ (t0_483 : Int) (E_483 : Rw) (C_483 : Cd) (q_483 : (Nat → Nat)), RunO l Γ k_L_isWiki 15 encI (em3 ma) 483 [(0, .ref a0), (1, .ref (ma 0)), (2, .ref (ma 1)), (3, .ref (ma 2)), (4, .ref (ma 3)), (5, .ref (ma 4)), (6, .ref (ma 6)), (7, .ref (ma 7)), (8, .ref (ma 8)), (9, .ref (ma 9)), (10, wi a10), (11, .ref y4), (12, wi v12_433), (13, wi x13_121), (15, wi v15_32), (16, wi r15), (20, wi v20_436)] [wi t0_483, wi v14_436] (E_483, C_483, q_483) (J483 t0_483 E_483 C_483 q_483)) : ∀ (E_482 : Rw) (C_482 : Cd) (q_482 : (Nat → Nat)), RunO l Γ k_L_isWiki 15 encI (em3 ma) 482 [(0, .ref a0), (1, .ref (ma 0)), (2, .ref (ma 1)), (3, .ref (ma 2)), (4, .ref (ma 3)), (5, .ref (ma 4)), (6, .ref (ma 6)), (7, .ref (ma 7)), (8, .ref (ma 8)), (9, .ref (ma 9)), (10, wi a10), (11, .ref y4), (12, wi v12_433), (13, wi x13_121), (15, wi v15_32), (16, wi r15), (20, wi v20_436)] [wi v14_436] (E_482, C_482, q_482) (fW_isWiki_482 J483 E_482 C_482 q_482) := by
  intro E_482 C_482 q_482
  unfold fW_isWiki_482
  refine ro_iconst (v := 0) dL_isWiki_482 rfl ?_
  exact hJ483 0 E_482 C_482 q_482
set_option maxHeartbeats 8000000 in
set_option maxRecDepth 100000 in
theorem b_L_isWiki_436 {l : Launch} {Γ : Cx} {ma : Nat → Nat} (h : wOn Γ) (hm : ∀ k, k ≤ 10 → ma k ≠ 0) (hG : GK Γ l) (hX : XN Γ) (a0 : Nat) (a10 : Int) (y4 : Nat) (v15_32 : Int) (r15 : Int) (x13_121 : Int) (v12_433 : Int) (L32 : Int → Int → Int → Int → Rw → Cd → (Nat → Nat) → Option (Int × S3)) (hL32 : ∀ (v12_32 : Int) (v13_32 : Int) (v14_32 : Int) (v15_32 : Int) (E_32 : Rw) (C_32 : Cd) (q_32 : (Nat → Nat)), RunO l Γ k_L_isWiki 15 encI (em3 ma) 32 [(0, .ref a0), (1, .ref (ma 0)), (2, .ref (ma 1)), (3, .ref (ma 2)), (4, .ref (ma 3)), (5, .ref (ma 4)), (6, .ref (ma 6)), (7, .ref (ma 7)), (8, .ref (ma 8)), (9, .ref (ma 9)), (10, wi a10), (11, .ref y4), (12, wi v12_32), (13, wi v13_32), (14, wi v14_32), (15, wi v15_32)] [] (E_32, C_32, q_32) (L32 v12_32 v13_32 v14_32 v15_32 E_32 C_32 q_32)) (L436 : Int → Int → Rw → Cd → (Nat → Nat) → Option (Int × S3)) (hL436 : ∀ (v14_436 : Int) (v20_436 : Int) (E_436 : Rw) (C_436 : Cd) (q_436 : (Nat → Nat)), RunO l Γ k_L_isWiki 15 encI (em3 ma) 436 [(0, .ref a0), (1, .ref (ma 0)), (2, .ref (ma 1)), (3, .ref (ma 2)), (4, .ref (ma 3)), (5, .ref (ma 4)), (6, .ref (ma 6)), (7, .ref (ma 7)), (8, .ref (ma 8)), (9, .ref (ma 9)), (10, wi a10), (11, .ref y4), (12, wi v12_433), (13, wi x13_121), (14, wi v14_436), (15, wi v15_32), (16, wi r15), (20, wi v20_436)] [] (E_436, C_436, q_436) (L436 v14_436 v20_436 E_436 C_436 q_436)) : ∀ (v14_436 : Int) (v20_436 : Int) (E_436 : Rw) (C_436 : Cd) (q_436 : (Nat → Nat)), RunO l Γ k_L_isWiki 15 encI (em3 ma) 436 [(0, .ref a0), (1, .ref (ma 0)), (2, .ref (ma 1)), (3, .ref (ma 2)), (4, .ref (ma 3)), (5, .ref (ma 4)), (6, .ref (ma 6)), (7, .ref (ma 7)), (8, .ref (ma 8)), (9, .ref (ma 9)), (10, wi a10), (11, .ref y4), (12, wi v12_433), (13, wi x13_121), (14, wi v14_436), (15, wi v15_32), (16, wi r15), (20, wi v20_436)] [] (E_436, C_436, q_436) (fW_isWiki_436 a0 L32 v15_32 r15 x13_121 v12_433 L436 v14_436 v20_436 E_436 C_436 q_436) := by
  intro v14_436 v20_436 E_436 C_436 q_436
  unfold fW_isWiki_436
  refine r_iload (x := v20_436) dL_isWiki_436 rfl ?_
  refine r_bipush (v := 8) dL_isWiki_438 rfl ?_
  refine r_icmp_ge (tgt := 492) dL_isWiki_440 (by decide) ?_ ?_
  · refine ro_iconst (v := 0) dL_isWiki_492 rfl ?_
    refine r_istore (lo2 := [(20, wi 0), (0, .ref a0), (1, .ref (ma 0)), (2, .ref (ma 1)), (3, .ref (ma 2)), (4, .ref (ma 3)), (5, .ref (ma 4)), (6, .ref (ma 6)), (7, .ref (ma 7)), (8, .ref (ma 8)), (9, .ref (ma 9)), (10, wi a10), (11, .ref y4), (12, wi v12_433), (13, wi x13_121), (14, wi v14_436), (15, wi v15_32), (16, wi r15)]) dL_isWiki_493 (by decide) rfl ?_
    refine r_loop (P := fun (J : Int → Int → Rw → Cd → (Nat → Nat) → Option (Int × S3)) => ∀ (v12_495 : Int) (v20_495 : Int) (E_495 : Rw) (C_495 : Cd) (q_495 : (Nat → Nat)), RunO l Γ k_L_isWiki 15 encI (em3 ma) 495 [(0, .ref a0), (1, .ref (ma 0)), (2, .ref (ma 1)), (3, .ref (ma 2)), (4, .ref (ma 3)), (5, .ref (ma 4)), (6, .ref (ma 6)), (7, .ref (ma 7)), (8, .ref (ma 8)), (9, .ref (ma 9)), (10, wi a10), (11, .ref y4), (12, wi v12_495), (13, wi x13_121), (14, wi v14_436), (15, wi v15_32), (16, wi r15), (20, wi v20_495)] [] (E_495, C_495, q_495) (J v12_495 v20_495 E_495 C_495 q_495)) ?_ (fun L495 hL495 => ?_) (fun J495 hJ495 => ?_)
    · intros; exact ro_none
    · exact b_L_isWiki_495 h hm hG hX a0 a10 y4 v15_32 r15 x13_121 v14_436 L32 hL32 L495 hL495
    refine r_lo [1, 2, 3, 4, 5, 6, 7, 8, 9, 10, 11, 12, 13, 14, 15, 16, 17, 0] (lo2 := [(0, .ref a0), (1, .ref (ma 0)), (2, .ref (ma 1)), (3, .ref (ma 2)), (4, .ref (ma 3)), (5, .ref (ma 4)), (6, .ref (ma 6)), (7, .ref (ma 7)), (8, .ref (ma 8)), (9, .ref (ma 9)), (10, wi a10), (11, .ref y4), (12, wi v12_433), (13, wi x13_121), (14, wi v14_436), (15, wi v15_32), (16, wi r15), (20, wi 0)]) rfl ?_
    exact hJ495 v12_433 0 E_436 C_436 q_436
  · refine r_iload (x := v14_436) dL_isWiki_443 rfl ?_
    refine r_iload (x := r15) dL_isWiki_445 rfl ?_
    refine r_join (P := fun (J : Int → Rw → Cd → (Nat → Nat) → Option (Int × S3)) => ∀ (t0_483 : Int) (E_483 : Rw) (C_483 : Cd) (q_483 : (Nat → Nat)), RunO l Γ k_L_isWiki 15 encI (em3 ma) 483 [(0, .ref a0), (1, .ref (ma 0)), (2, .ref (ma 1)), (3, .ref (ma 2)), (4, .ref (ma 3)), (5, .ref (ma 4)), (6, .ref (ma 6)), (7, .ref (ma 7)), (8, .ref (ma 8)), (9, .ref (ma 9)), (10, wi a10), (11, .ref y4), (12, wi v12_433), (13, wi x13_121), (15, wi v15_32), (16, wi r15), (20, wi v20_436)] [wi t0_483, wi v14_436] (E_483, C_483, q_483) (J t0_483 E_483 C_483 q_483)) ?_ (fun J483 hJ483 => ?_)
    · exact b_L_isWiki_483 h hm hG hX a0 a10 y4 v15_32 r15 x13_121 v12_433 v14_436 v20_436 L436 hL436
    refine r_join (P := fun (J : Rw → Cd → (Nat → Nat) → Option (Int × S3)) => ∀ (E_482 : Rw) (C_482 : Cd) (q_482 : (Nat → Nat)), RunO l Γ k_L_isWiki 15 encI (em3 ma) 482 [(0, .ref a0), (1, .ref (ma 0)), (2, .ref (ma 1)), (3, .ref (ma 2)), (4, .ref (ma 3)), (5, .ref (ma 4)), (6, .ref (ma 6)), (7, .ref (ma 7)), (8, .ref (ma 8)), (9, .ref (ma 9)), (10, wi a10), (11, .ref y4), (12, wi v12_433), (13, wi x13_121), (15, wi v15_32), (16, wi r15), (20, wi v20_436)] [wi v14_436] (E_482, C_482, q_482) (J E_482 C_482 q_482)) ?_ (fun J482 hJ482 => ?_)
    · exact b_L_isWiki_482 h hm hG hX a0 a10 y4 v15_32 r15 x13_121 v12_433 v14_436 v20_436 J483 hJ483
    refine r_if_ge (tgt := 482) dL_isWiki_447 (by decide) ?_ ?_
    · refine r_lo [0, 1, 2, 3, 4, 5, 6, 7, 8, 9, 10, 11, 12, 13, 15, 16, 17] (lo2 := [(0, .ref a0), (1, .ref (ma 0)), (2, .ref (ma 1)), (3, .ref (ma 2)), (4, .ref (ma 3)), (5, .ref (ma 4)), (6, .ref (ma 6)), (7, .ref (ma 7)), (8, .ref (ma 8)), (9, .ref (ma 9)), (10, wi a10), (11, .ref y4), (12, wi v12_433), (13, wi x13_121), (15, wi v15_32), (16, wi r15), (20, wi v20_436)]) rfl ?_
      exact hJ482 E_436 C_436 q_436
    · refine r_aload (x := ma 6) dL_isWiki_450 rfl ?_
      refine r_bipush (v := 7) dL_isWiki_452 rfl ?_
      refine r_iload (x := v20_436) dL_isWiki_454 rfl ?_
      refine r_imul dL_isWiki_456 ?_
      refine r_wiald3 h (by decide) (by decide) (hm 6 (by decide)) dL_isWiki_457 ?_
      refine r_if_le (tgt := 482) dL_isWiki_458 (by decide) ?_ ?_
      · refine r_lo [0, 1, 2, 3, 4, 5, 6, 7, 8, 9, 10, 11, 12, 13, 15, 16, 17] (lo2 := [(0, .ref a0), (1, .ref (ma 0)), (2, .ref (ma 1)), (3, .ref (ma 2)), (4, .ref (ma 3)), (5, .ref (ma 4)), (6, .ref (ma 6)), (7, .ref (ma 7)), (8, .ref (ma 8)), (9, .ref (ma 9)), (10, wi a10), (11, .ref y4), (12, wi v12_433), (13, wi x13_121), (15, wi v15_32), (16, wi r15), (20, wi v20_436)]) rfl ?_
        exact hJ482 E_436 C_436 q_436
      · refine r_aload (x := ma 6) dL_isWiki_461 rfl ?_
        refine r_bipush (v := 7) dL_isWiki_463 rfl ?_
        refine r_iload (x := v20_436) dL_isWiki_465 rfl ?_
        refine r_imul dL_isWiki_467 ?_
        refine ro_iconst (v := 2) dL_isWiki_468 rfl ?_
        refine r_iadd dL_isWiki_469 ?_
        refine r_wiald3 h (by decide) (by decide) (hm 6 (by decide)) dL_isWiki_470 ?_
        refine r_iload (x := v15_32) dL_isWiki_471 rfl ?_
        refine r_ishr dL_isWiki_473 ?_
        refine ro_iconst (v := 1) dL_isWiki_474 rfl ?_
        refine r_iand dL_isWiki_475 ?_
        refine r_iload (x := v15_32) dL_isWiki_476 rfl ?_
        refine r_ishl dL_isWiki_478 ?_
        refine r_goto (tgt := 483) dL_isWiki_479 (by decide) ?_
        refine r_lo [0, 1, 2, 3, 4, 5, 6, 7, 8, 9, 10, 11, 12, 13, 15, 16, 17] (lo2 := [(0, .ref a0), (1, .ref (ma 0)), (2, .ref (ma 1)), (3, .ref (ma 2)), (4, .ref (ma 3)), (5, .ref (ma 4)), (6, .ref (ma 6)), (7, .ref (ma 7)), (8, .ref (ma 8)), (9, .ref (ma 9)), (10, wi a10), (11, .ref y4), (12, wi v12_433), (13, wi x13_121), (15, wi v15_32), (16, wi r15), (20, wi v20_436)]) rfl ?_
        exact hJ483 (shlI (andI (shrI (E_436 6 (ix ((7 * v20_436) + 2))) v15_32) 1) v15_32) E_436 C_436 q_436
set_option maxHeartbeats 8000000 in
set_option maxRecDepth 100000 in
theorem b_L_isWiki_433 {l : Launch} {Γ : Cx} {ma : Nat → Nat} (h : wOn Γ) (hm : ∀ k, k ≤ 10 → ma k ≠ 0) (hG : GK Γ l) (hX : XN Γ) (a0 : Nat) (a10 : Int) (y4 : Nat) (v14_32 : Int) (v15_32 : Int) (r15 : Int) (x13_121 : Int) (L32 : Int → Int → Int → Int → Rw → Cd → (Nat → Nat) → Option (Int × S3)) (hL32 : ∀ (v12_32 : Int) (v13_32 : Int) (v14_32 : Int) (v15_32 : Int) (E_32 : Rw) (C_32 : Cd) (q_32 : (Nat → Nat)), RunO l Γ k_L_isWiki 15 encI (em3 ma) 32 [(0, .ref a0), (1, .ref (ma 0)), (2, .ref (ma 1)), (3, .ref (ma 2)), (4, .ref (ma 3)), (5, .ref (ma 4)), (6, .ref (ma 6)), (7, .ref (ma 7)), (8, .ref (ma 8)), (9, .ref (ma 9)), (10, wi a10), (11, .ref y4), (12, wi v12_32), (13, wi v13_32), (14, wi v14_32), (15, wi v15_32)] [] (E_32, C_32, q_32) (L32 v12_32 v13_32 v14_32 v15_32 E_32 C_32 q_32)) : ∀ (v12_433 : Int) (E_433 : Rw) (C_433 : Cd) (q_433 : (Nat → Nat)), RunO l Γ k_L_isWiki 15 encI (em3 ma) 433 [(0, .ref a0), (1, .ref (ma 0)), (2, .ref (ma 1)), (3, .ref (ma 2)), (4, .ref (ma 3)), (5, .ref (ma 4)), (6, .ref (ma 6)), (7, .ref (ma 7)), (8, .ref (ma 8)), (9, .ref (ma 9)), (10, wi a10), (11, .ref y4), (12, wi v12_433), (13, wi x13_121), (14, wi v14_32), (15, wi v15_32), (16, wi r15)] [] (E_433, C_433, q_433) (fW_isWiki_433 a0 L32 v14_32 v15_32 r15 x13_121 v12_433 E_433 C_433 q_433) := by
  intro v12_433 E_433 C_433 q_433
  unfold fW_isWiki_433
  refine ro_iconst (v := 0) dL_isWiki_433 rfl ?_
  refine r_istore (lo2 := [(20, wi 0), (0, .ref a0), (1, .ref (ma 0)), (2, .ref (ma 1)), (3, .ref (ma 2)), (4, .ref (ma 3)), (5, .ref (ma 4)), (6, .ref (ma 6)), (7, .ref (ma 7)), (8, .ref (ma 8)), (9, .ref (ma 9)), (10, wi a10), (11, .ref y4), (12, wi v12_433), (13, wi x13_121), (14, wi v14_32), (15, wi v15_32), (16, wi r15)]) dL_isWiki_434 (by decide) rfl ?_
  refine r_loop (P := fun (J : Int → Int → Rw → Cd → (Nat → Nat) → Option (Int × S3)) => ∀ (v14_436 : Int) (v20_436 : Int) (E_436 : Rw) (C_436 : Cd) (q_436 : (Nat → Nat)), RunO l Γ k_L_isWiki 15 encI (em3 ma) 436 [(0, .ref a0), (1, .ref (ma 0)), (2, .ref (ma 1)), (3, .ref (ma 2)), (4, .ref (ma 3)), (5, .ref (ma 4)), (6, .ref (ma 6)), (7, .ref (ma 7)), (8, .ref (ma 8)), (9, .ref (ma 9)), (10, wi a10), (11, .ref y4), (12, wi v12_433), (13, wi x13_121), (14, wi v14_436), (15, wi v15_32), (16, wi r15), (20, wi v20_436)] [] (E_436, C_436, q_436) (J v14_436 v20_436 E_436 C_436 q_436)) ?_ (fun L436 hL436 => ?_) (fun J436 hJ436 => ?_)
  · intros; exact ro_none
  · exact b_L_isWiki_436 h hm hG hX a0 a10 y4 v15_32 r15 x13_121 v12_433 L32 hL32 L436 hL436
  refine r_lo [1, 2, 3, 4, 5, 6, 7, 8, 9, 10, 11, 12, 13, 14, 15, 16, 17, 0] (lo2 := [(0, .ref a0), (1, .ref (ma 0)), (2, .ref (ma 1)), (3, .ref (ma 2)), (4, .ref (ma 3)), (5, .ref (ma 4)), (6, .ref (ma 6)), (7, .ref (ma 7)), (8, .ref (ma 8)), (9, .ref (ma 9)), (10, wi a10), (11, .ref y4), (12, wi v12_433), (13, wi x13_121), (14, wi v14_32), (15, wi v15_32), (16, wi r15), (20, wi 0)]) rfl ?_
  exact hJ436 v14_32 0 E_433 C_433 q_433
set_option maxHeartbeats 8000000 in
set_option maxRecDepth 100000 in
theorem b_L_isWiki_431 {l : Launch} {Γ : Cx} {ma : Nat → Nat} (h : wOn Γ) (hm : ∀ k, k ≤ 10 → ma k ≠ 0) (hG : GK Γ l) (hX : XN Γ) (a0 : Nat) (a10 : Int) (y4 : Nat) (v14_32 : Int) (v15_32 : Int) (r15 : Int) (x13_121 : Int) (J433 : Int → Rw → Cd → (Nat → Nat) → Option (Int × S3)) (hJ433 : ∀ (v12_433 : Int) (E_433 : Rw) (C_433 : Cd) (q_433 : (Nat → Nat)), RunO l Γ k_L_isWiki 15 encI (em3 ma) 433 [(0, .ref a0), (1, .ref (ma 0)), (2, .ref (ma 1)), (3, .ref (ma 2)), (4, .ref (ma 3)), (5, .ref (ma 4)), (6, .ref (ma 6)), (7, .ref (ma 7)), (8, .ref (ma 8)), (9, .ref (ma 9)), (10, wi a10), (11, .ref y4), (12, wi v12_433), (13, wi x13_121), (14, wi v14_32), (15, wi v15_32), (16, wi r15)] [] (E_433, C_433, q_433) (J433 v12_433 E_433 C_433 q_433)) : ∀ (t0_431 : Int) (E_431 : Rw) (C_431 : Cd) (q_431 : (Nat → Nat)), RunO l Γ k_L_isWiki 15 encI (em3 ma) 431 [(0, .ref a0), (1, .ref (ma 0)), (2, .ref (ma 1)), (3, .ref (ma 2)), (4, .ref (ma 3)), (5, .ref (ma 4)), (6, .ref (ma 6)), (7, .ref (ma 7)), (8, .ref (ma 8)), (9, .ref (ma 9)), (10, wi a10), (11, .ref y4), (13, wi x13_121), (14, wi v14_32), (15, wi v15_32), (16, wi r15)] [wi t0_431] (E_431, C_431, q_431) (fW_isWiki_431 J433 t0_431 E_431 C_431 q_431) := by
  intro t0_431 E_431 C_431 q_431
  unfold fW_isWiki_431
  refine r_istore (lo2 := [(12, wi t0_431), (0, .ref a0), (1, .ref (ma 0)), (2, .ref (ma 1)), (3, .ref (ma 2)), (4, .ref (ma 3)), (5, .ref (ma 4)), (6, .ref (ma 6)), (7, .ref (ma 7)), (8, .ref (ma 8)), (9, .ref (ma 9)), (10, wi a10), (11, .ref y4), (13, wi x13_121), (14, wi v14_32), (15, wi v15_32), (16, wi r15)]) dL_isWiki_431 (by decide) rfl ?_
  refine r_lo [1, 2, 3, 4, 5, 6, 7, 8, 9, 10, 11, 12, 0, 13, 14, 15, 16] (lo2 := [(0, .ref a0), (1, .ref (ma 0)), (2, .ref (ma 1)), (3, .ref (ma 2)), (4, .ref (ma 3)), (5, .ref (ma 4)), (6, .ref (ma 6)), (7, .ref (ma 7)), (8, .ref (ma 8)), (9, .ref (ma 9)), (10, wi a10), (11, .ref y4), (12, wi t0_431), (13, wi x13_121), (14, wi v14_32), (15, wi v15_32), (16, wi r15)]) rfl ?_
  exact hJ433 t0_431 E_431 C_431 q_431
set_option maxHeartbeats 8000000 in
set_option maxRecDepth 100000 in
theorem b_L_isWiki_430 {l : Launch} {Γ : Cx} {ma : Nat → Nat} (h : wOn Γ) (hm : ∀ k, k ≤ 10 → ma k ≠ 0) (hG : GK Γ l) (hX : XN Γ) (a0 : Nat) (a10 : Int) (y4 : Nat) (v14_32 : Int) (v15_32 : Int) (r15 : Int) (x13_121 : Int) (J431 : Int → Rw → Cd → (Nat → Nat) → Option (Int × S3)) (hJ431 : ∀ (t0_431 : Int) (E_431 : Rw) (C_431 : Cd) (q_431 : (Nat → Nat)), RunO l Γ k_L_isWiki 15 encI (em3 ma) 431 [(0, .ref a0), (1, .ref (ma 0)), (2, .ref (ma 1)), (3, .ref (ma 2)), (4, .ref (ma 3)), (5, .ref (ma 4)), (6, .ref (ma 6)), (7, .ref (ma 7)), (8, .ref (ma 8)), (9, .ref (ma 9)), (10, wi a10), (11, .ref y4), (13, wi x13_121), (14, wi v14_32), (15, wi v15_32), (16, wi r15)] [wi t0_431] (E_431, C_431, q_431) (J431 t0_431 E_431 C_431 q_431)) : ∀ (E_430 : Rw) (C_430 : Cd) (q_430 : (Nat → Nat)), RunO l Γ k_L_isWiki 15 encI (em3 ma) 430 [(0, .ref a0), (1, .ref (ma 0)), (2, .ref (ma 1)), (3, .ref (ma 2)), (4, .ref (ma 3)), (5, .ref (ma 4)), (6, .ref (ma 6)), (7, .ref (ma 7)), (8, .ref (ma 8)), (9, .ref (ma 9)), (10, wi a10), (11, .ref y4), (13, wi x13_121), (14, wi v14_32), (15, wi v15_32), (16, wi r15)] [] (E_430, C_430, q_430) (fW_isWiki_430 J431 E_430 C_430 q_430) := by
  intro E_430 C_430 q_430
  unfold fW_isWiki_430
  refine ro_iconst (v := 0) dL_isWiki_430 rfl ?_
  exact hJ431 0 E_430 C_430 q_430
set_option maxHeartbeats 8000000 in
set_option maxRecDepth 100000 in
theorem b_L_isWiki_396 {l : Launch} {Γ : Cx} {ma : Nat → Nat} (h : wOn Γ) (hm : ∀ k, k ≤ 10 → ma k ≠ 0) (hG : GK Γ l) (hX : XN Γ) (a0 : Nat) (a10 : Int) (y4 : Nat) (v14_32 : Int) (v15_32 : Int) (r15 : Int) (x13_121 : Int) (J433 : Int → Rw → Cd → (Nat → Nat) → Option (Int × S3)) (hJ433 : ∀ (v12_433 : Int) (E_433 : Rw) (C_433 : Cd) (q_433 : (Nat → Nat)), RunO l Γ k_L_isWiki 15 encI (em3 ma) 433 [(0, .ref a0), (1, .ref (ma 0)), (2, .ref (ma 1)), (3, .ref (ma 2)), (4, .ref (ma 3)), (5, .ref (ma 4)), (6, .ref (ma 6)), (7, .ref (ma 7)), (8, .ref (ma 8)), (9, .ref (ma 9)), (10, wi a10), (11, .ref y4), (12, wi v12_433), (13, wi x13_121), (14, wi v14_32), (15, wi v15_32), (16, wi r15)] [] (E_433, C_433, q_433) (J433 v12_433 E_433 C_433 q_433)) : ∀ (t0_396 : Int) (E_396 : Rw) (C_396 : Cd) (q_396 : (Nat → Nat)), RunO l Γ k_L_isWiki 15 encI (em3 ma) 396 [(0, .ref a0), (1, .ref (ma 0)), (2, .ref (ma 1)), (3, .ref (ma 2)), (4, .ref (ma 3)), (5, .ref (ma 4)), (6, .ref (ma 6)), (7, .ref (ma 7)), (8, .ref (ma 8)), (9, .ref (ma 9)), (10, wi a10), (11, .ref y4), (13, wi x13_121), (14, wi v14_32), (15, wi v15_32), (16, wi r15)] [wi t0_396] (E_396, C_396, q_396) (fW_isWiki_396 a0 v15_32 r15 J433 t0_396 E_396 C_396 q_396) := by
  intro t0_396 E_396 C_396 q_396
  unfold fW_isWiki_396
  refine r_istore (lo2 := [(12, wi t0_396), (0, .ref a0), (1, .ref (ma 0)), (2, .ref (ma 1)), (3, .ref (ma 2)), (4, .ref (ma 3)), (5, .ref (ma 4)), (6, .ref (ma 6)), (7, .ref (ma 7)), (8, .ref (ma 8)), (9, .ref (ma 9)), (10, wi a10), (11, .ref y4), (13, wi x13_121), (14, wi v14_32), (15, wi v15_32), (16, wi r15)]) dL_isWiki_396 (by decide) rfl ?_
  refine r_iload (x := t0_396) dL_isWiki_398 rfl ?_
  refine r_join (P := fun (J : Int → Rw → Cd → (Nat → Nat) → Option (Int × S3)) => ∀ (t0_431 : Int) (E_431 : Rw) (C_431 : Cd) (q_431 : (Nat → Nat)), RunO l Γ k_L_isWiki 15 encI (em3 ma) 431 [(0, .ref a0), (1, .ref (ma 0)), (2, .ref (ma 1)), (3, .ref (ma 2)), (4, .ref (ma 3)), (5, .ref (ma 4)), (6, .ref (ma 6)), (7, .ref (ma 7)), (8, .ref (ma 8)), (9, .ref (ma 9)), (10, wi a10), (11, .ref y4), (13, wi x13_121), (14, wi v14_32), (15, wi v15_32), (16, wi r15)] [wi t0_431] (E_431, C_431, q_431) (J t0_431 E_431 C_431 q_431)) ?_ (fun J431 hJ431 => ?_)
  · exact b_L_isWiki_431 h hm hG hX a0 a10 y4 v14_32 v15_32 r15 x13_121 J433 hJ433
  refine r_join (P := fun (J : Rw → Cd → (Nat → Nat) → Option (Int × S3)) => ∀ (E_430 : Rw) (C_430 : Cd) (q_430 : (Nat → Nat)), RunO l Γ k_L_isWiki 15 encI (em3 ma) 430 [(0, .ref a0), (1, .ref (ma 0)), (2, .ref (ma 1)), (3, .ref (ma 2)), (4, .ref (ma 3)), (5, .ref (ma 4)), (6, .ref (ma 6)), (7, .ref (ma 7)), (8, .ref (ma 8)), (9, .ref (ma 9)), (10, wi a10), (11, .ref y4), (13, wi x13_121), (14, wi v14_32), (15, wi v15_32), (16, wi r15)] [] (E_430, C_430, q_430) (J E_430 C_430 q_430)) ?_ (fun J430 hJ430 => ?_)
  · exact b_L_isWiki_430 h hm hG hX a0 a10 y4 v14_32 v15_32 r15 x13_121 J431 hJ431
  refine r_if_eq (tgt := 430) dL_isWiki_400 (by decide) ?_ ?_
  · refine r_lo [1, 2, 3, 4, 5, 6, 7, 8, 9, 10, 11, 12, 13, 14, 15, 16] (lo2 := [(0, .ref a0), (1, .ref (ma 0)), (2, .ref (ma 1)), (3, .ref (ma 2)), (4, .ref (ma 3)), (5, .ref (ma 4)), (6, .ref (ma 6)), (7, .ref (ma 7)), (8, .ref (ma 8)), (9, .ref (ma 9)), (10, wi a10), (11, .ref y4), (13, wi x13_121), (14, wi v14_32), (15, wi v15_32), (16, wi r15)]) rfl ?_
    exact hJ430 E_396 C_396 q_396
  · refine r_aload_n (x := a0) dL_isWiki_403 rfl rfl ?_
    refine r_iload (x := v15_32) dL_isWiki_404 rfl ?_
    refine ro_iconst (v := 0) dL_isWiki_406 rfl ?_
    refine r_cx1 (M0 := (fun k => (adq ma q_396 k : Int), E_396)) (J := fun (C_ : Cd) => (E_396, C_, q_396)) (k2 := k_X11_tokenAt) (c := 14) (T := TX11) (N := 10) (n := 2) (rest := []) (fun _ => rfl) rfl um_L_97 kv_X11_tokenAt hc_X11 (by decide) (c_X11_tokenAt hG _ _ _ _) (by decide) rfl (Nat.le_of_ble_eq_true rfl) dL_isWiki_407 rfl (fun r29 C30 => ?_)
    show RunO l Γ k_L_isWiki 15 encI (em3 ma) 410 [(12, wi t0_396), (0, .ref a0), (1, .ref (ma 0)), (2, .ref (ma 1)), (3, .ref (ma 2)), (4, .ref (ma 3)), (5, .ref (ma 4)), (6, .ref (ma 6)), (7, .ref (ma 7)), (8, .ref (ma 8)), (9, .ref (ma 9)), (10, wi a10), (11, .ref y4), (13, wi x13_121), (14, wi v14_32), (15, wi v15_32), (16, wi r15)] [wi r29] (E_396, C30, q_396) _
    refine r_aload (x := ma 3) dL_isWiki_410 rfl ?_
    refine r_iload (x := r15) dL_isWiki_412 rfl ?_
    refine r_wlald3 h (by decide) (by decide) (hm 3 (by decide)) dL_isWiki_414 ?_
    refine ro_iconst (v := 0) dL_isWiki_415 rfl ?_
    refine r_csi (J := fun (_ : Unit) => (E_396, C30, q_396)) (k2 := k_L_macro) (n := 2) (rest := [wi r29]) (fun _ => rfl) rfl kv_L_macro (c_L_macro (σ0 := _) (E_396 3 (ix r15)) 0) (by decide) um_L_19 rfl (Nat.le_of_ble_eq_true rfl) dL_isWiki_416 rfl (fun r31 _ => ?_)
    show RunO l Γ k_L_isWiki 15 encI (em3 ma) 419 [(12, wi t0_396), (0, .ref a0), (1, .ref (ma 0)), (2, .ref (ma 1)), (3, .ref (ma 2)), (4, .ref (ma 3)), (5, .ref (ma 4)), (6, .ref (ma 6)), (7, .ref (ma 7)), (8, .ref (ma 8)), (9, .ref (ma 9)), (10, wi a10), (11, .ref y4), (13, wi x13_121), (14, wi v14_32), (15, wi v15_32), (16, wi r15)] [wi r31, wi r29] (E_396, C30, q_396) _
    refine ro_iconst (v := 0) dL_isWiki_419 rfl ?_
    refine r_csi (J := fun (_ : Unit) => (E_396, C30, q_396)) (k2 := k_L_code) (n := 2) (rest := [wi r29]) (fun _ => rfl) rfl kv_L_code (c_L_code (σ0 := _) r31 0) (by decide) um_L_113 rfl (Nat.le_of_ble_eq_true rfl) dL_isWiki_420 rfl (fun r32 _ => ?_)
    show RunO l Γ k_L_isWiki 15 encI (em3 ma) 423 [(12, wi t0_396), (0, .ref a0), (1, .ref (ma 0)), (2, .ref (ma 1)), (3, .ref (ma 2)), (4, .ref (ma 3)), (5, .ref (ma 4)), (6, .ref (ma 6)), (7, .ref (ma 7)), (8, .ref (ma 8)), (9, .ref (ma 9)), (10, wi a10), (11, .ref y4), (13, wi x13_121), (14, wi v14_32), (15, wi v15_32), (16, wi r15)] [wi r32, wi r29] (E_396, C30, q_396) _
    refine r_icmp_ne (tgt := 430) dL_isWiki_423 (by decide) ?_ ?_
    · refine r_lo [1, 2, 3, 4, 5, 6, 7, 8, 9, 10, 11, 12, 13, 14, 15, 16] (lo2 := [(0, .ref a0), (1, .ref (ma 0)), (2, .ref (ma 1)), (3, .ref (ma 2)), (4, .ref (ma 3)), (5, .ref (ma 4)), (6, .ref (ma 6)), (7, .ref (ma 7)), (8, .ref (ma 8)), (9, .ref (ma 9)), (10, wi a10), (11, .ref y4), (13, wi x13_121), (14, wi v14_32), (15, wi v15_32), (16, wi r15)]) rfl ?_
      exact hJ430 E_396 C30 q_396
    · refine ro_iconst (v := 1) dL_isWiki_426 rfl ?_
      refine r_goto (tgt := 431) dL_isWiki_427 (by decide) ?_
      refine r_lo [1, 2, 3, 4, 5, 6, 7, 8, 9, 10, 11, 12, 13, 14, 15, 16] (lo2 := [(0, .ref a0), (1, .ref (ma 0)), (2, .ref (ma 1)), (3, .ref (ma 2)), (4, .ref (ma 3)), (5, .ref (ma 4)), (6, .ref (ma 6)), (7, .ref (ma 7)), (8, .ref (ma 8)), (9, .ref (ma 9)), (10, wi a10), (11, .ref y4), (13, wi x13_121), (14, wi v14_32), (15, wi v15_32), (16, wi r15)]) rfl ?_
      exact hJ431 1 E_396 C30 q_396
set_option maxHeartbeats 8000000 in
set_option maxRecDepth 100000 in
theorem b_L_isWiki_395 {l : Launch} {Γ : Cx} {ma : Nat → Nat} (h : wOn Γ) (hm : ∀ k, k ≤ 10 → ma k ≠ 0) (hG : GK Γ l) (hX : XN Γ) (a0 : Nat) (a10 : Int) (y4 : Nat) (v14_32 : Int) (v15_32 : Int) (r15 : Int) (x13_121 : Int) (J396 : Int → Rw → Cd → (Nat → Nat) → Option (Int × S3)) (hJ396 : ∀ (t0_396 : Int) (E_396 : Rw) (C_396 : Cd) (q_396 : (Nat → Nat)), RunO l Γ k_L_isWiki 15 encI (em3 ma) 396 [(0, .ref a0), (1, .ref (ma 0)), (2, .ref (ma 1)), (3, .ref (ma 2)), (4, .ref (ma 3)), (5, .ref (ma 4)), (6, .ref (ma 6)), (7, .ref (ma 7)), (8, .ref (ma 8)), (9, .ref (ma 9)), (10, wi a10), (11, .ref y4), (13, wi x13_121), (14, wi v14_32), (15, wi v15_32), (16, wi r15)] [wi t0_396] (E_396, C_396, q_396) (J396 t0_396 E_396 C_396 q_396)) : ∀ (E_395 : Rw) (C_395 : Cd) (q_395 : (Nat → Nat)), RunO l Γ k_L_isWiki 15 encI (em3 ma) 395 [(0, .ref a0), (1, .ref (ma 0)), (2, .ref (ma 1)), (3, .ref (ma 2)), (4, .ref (ma 3)), (5, .ref (ma 4)), (6, .ref (ma 6)), (7, .ref (ma 7)), (8, .ref (ma 8)), (9, .ref (ma 9)), (10, wi a10), (11, .ref y4), (13, wi x13_121), (14, wi v14_32), (15, wi v15_32), (16, wi r15)] [] (E_395, C_395, q_395) (fW_isWiki_395 J396 E_395 C_395 q_395) := by
  intro E_395 C_395 q_395
  unfold fW_isWiki_395
  refine ro_iconst (v := 0) dL_isWiki_395 rfl ?_
  exact hJ396 0 E_395 C_395 q_395
set_option maxHeartbeats 8000000 in
set_option maxRecDepth 100000 in
theorem b_L_isWiki_391 {l : Launch} {Γ : Cx} {ma : Nat → Nat} (h : wOn Γ) (hm : ∀ k, k ≤ 10 → ma k ≠ 0) (hG : GK Γ l) (hX : XN Γ) (a0 : Nat) (a10 : Int) (y4 : Nat) (v14_32 : Int) (v15_32 : Int) (r15 : Int) (x13_121 : Int) (J396 : Int → Rw → Cd → (Nat → Nat) → Option (Int × S3)) (hJ396 : ∀ (t0_396 : Int) (E_396 : Rw) (C_396 : Cd) (q_396 : (Nat → Nat)), RunO l Γ k_L_isWiki 15 encI (em3 ma) 396 [(0, .ref a0), (1, .ref (ma 0)), (2, .ref (ma 1)), (3, .ref (ma 2)), (4, .ref (ma 3)), (5, .ref (ma 4)), (6, .ref (ma 6)), (7, .ref (ma 7)), (8, .ref (ma 8)), (9, .ref (ma 9)), (10, wi a10), (11, .ref y4), (13, wi x13_121), (14, wi v14_32), (15, wi v15_32), (16, wi r15)] [wi t0_396] (E_396, C_396, q_396) (J396 t0_396 E_396 C_396 q_396)) : ∀ (E_391 : Rw) (C_391 : Cd) (q_391 : (Nat → Nat)), RunO l Γ k_L_isWiki 15 encI (em3 ma) 391 [(0, .ref a0), (1, .ref (ma 0)), (2, .ref (ma 1)), (3, .ref (ma 2)), (4, .ref (ma 3)), (5, .ref (ma 4)), (6, .ref (ma 6)), (7, .ref (ma 7)), (8, .ref (ma 8)), (9, .ref (ma 9)), (10, wi a10), (11, .ref y4), (13, wi x13_121), (14, wi v14_32), (15, wi v15_32), (16, wi r15)] [] (E_391, C_391, q_391) (fW_isWiki_391 J396 E_391 C_391 q_391) := by
  intro E_391 C_391 q_391
  unfold fW_isWiki_391
  refine ro_iconst (v := 1) dL_isWiki_391 rfl ?_
  refine r_goto (tgt := 396) dL_isWiki_392 (by decide) ?_
  exact hJ396 1 E_391 C_391 q_391
set_option maxHeartbeats 8000000 in
set_option maxRecDepth 100000 in
theorem b_L_isWiki_358 {l : Launch} {Γ : Cx} {ma : Nat → Nat} (h : wOn Γ) (hm : ∀ k, k ≤ 10 → ma k ≠ 0) (hG : GK Γ l) (hX : XN Γ) (a0 : Nat) (a10 : Int) (y4 : Nat) (v14_32 : Int) (v15_32 : Int) (r15 : Int) (x13_121 : Int) (J396 : Int → Rw → Cd → (Nat → Nat) → Option (Int × S3)) (hJ396 : ∀ (t0_396 : Int) (E_396 : Rw) (C_396 : Cd) (q_396 : (Nat → Nat)), RunO l Γ k_L_isWiki 15 encI (em3 ma) 396 [(0, .ref a0), (1, .ref (ma 0)), (2, .ref (ma 1)), (3, .ref (ma 2)), (4, .ref (ma 3)), (5, .ref (ma 4)), (6, .ref (ma 6)), (7, .ref (ma 7)), (8, .ref (ma 8)), (9, .ref (ma 9)), (10, wi a10), (11, .ref y4), (13, wi x13_121), (14, wi v14_32), (15, wi v15_32), (16, wi r15)] [wi t0_396] (E_396, C_396, q_396) (J396 t0_396 E_396 C_396 q_396)) (J395 : Rw → Cd → (Nat → Nat) → Option (Int × S3)) (hJ395 : ∀ (E_395 : Rw) (C_395 : Cd) (q_395 : (Nat → Nat)), RunO l Γ k_L_isWiki 15 encI (em3 ma) 395 [(0, .ref a0), (1, .ref (ma 0)), (2, .ref (ma 1)), (3, .ref (ma 2)), (4, .ref (ma 3)), (5, .ref (ma 4)), (6, .ref (ma 6)), (7, .ref (ma 7)), (8, .ref (ma 8)), (9, .ref (ma 9)), (10, wi a10), (11, .ref y4), (13, wi x13_121), (14, wi v14_32), (15, wi v15_32), (16, wi r15)] [] (E_395, C_395, q_395) (J395 E_395 C_395 q_395)) : ∀ (E_358 : Rw) (C_358 : Cd) (q_358 : (Nat → Nat)), RunO l Γ k_L_isWiki 15 encI (em3 ma) 358 [(0, .ref a0), (1, .ref (ma 0)), (2, .ref (ma 1)), (3, .ref (ma 2)), (4, .ref (ma 3)), (5, .ref (ma 4)), (6, .ref (ma 6)), (7, .ref (ma 7)), (8, .ref (ma 8)), (9, .ref (ma 9)), (10, wi a10), (11, .ref y4), (13, wi x13_121), (14, wi v14_32), (15, wi v15_32), (16, wi r15)] [] (E_358, C_358, q_358) (fW_isWiki_358 a0 a10 y4 v15_32 J396 J395 E_358 C_358 q_358) := by
  intro E_358 C_358 q_358
  unfold fW_isWiki_358
  refine r_iload (x := v15_32) dL_isWiki_358 rfl ?_
  refine r_iload (x := a10) dL_isWiki_360 rfl ?_
  refine r_bipush (v := 8) dL_isWiki_362 rfl ?_
  refine r_irem dL_isWiki_364 (by decide) ?_
  refine r_join (P := fun (J : Rw → Cd → (Nat → Nat) → Option (Int × S3)) => ∀ (E_391 : Rw) (C_391 : Cd) (q_391 : (Nat → Nat)), RunO l Γ k_L_isWiki 15 encI (em3 ma) 391 [(0, .ref a0), (1, .ref (ma 0)), (2, .ref (ma 1)), (3, .ref (ma 2)), (4, .ref (ma 3)), (5, .ref (ma 4)), (6, .ref (ma 6)), (7, .ref (ma 7)), (8, .ref (ma 8)), (9, .ref (ma 9)), (10, wi a10), (11, .ref y4), (13, wi x13_121), (14, wi v14_32), (15, wi v15_32), (16, wi r15)] [] (E_391, C_391, q_391) (J E_391 C_391 q_391)) ?_ (fun J391 hJ391 => ?_)
  · exact b_L_isWiki_391 h hm hG hX a0 a10 y4 v14_32 v15_32 r15 x13_121 J396 hJ396
  refine r_icmp_ne (tgt := 391) dL_isWiki_365 (by decide) ?_ ?_
  · exact hJ391 E_358 C_358 q_358
  · refine r_aload_n (x := a0) dL_isWiki_368 rfl rfl ?_
    refine r_aload_n (x := ma 0) dL_isWiki_369 rfl rfl ?_
    refine r_aload_n (x := ma 1) dL_isWiki_370 rfl rfl ?_
    refine r_aload_n (x := ma 2) dL_isWiki_371 rfl rfl ?_
    refine r_aload (x := ma 3) dL_isWiki_372 rfl ?_
    refine r_aload (x := ma 6) dL_isWiki_374 rfl ?_
    refine r_aload (x := y4) dL_isWiki_376 rfl ?_
    refine r_iload (x := v15_32) dL_isWiki_378 rfl ?_
    refine r_iload (x := a10) dL_isWiki_380 rfl ?_
    refine r_bipush (v := 8) dL_isWiki_382 rfl ?_
    refine r_idiv dL_isWiki_384 (by decide) ?_
    refine r_cs3i (k2 := k_L_isAnew) (n := 9) (rest := []) rfl kv_L_isAnew (c_L_isAnew h hm hG hX a0 y4 v15_32 (divI a10 8) _ _ _) (by decide) um_L_159 rfl (Nat.le_of_ble_eq_true rfl) dL_isWiki_385 rfl (fun r35 E36 C37 q38 => ?_)
    refine r_if_eq (tgt := 395) dL_isWiki_388 (by decide) ?_ ?_
    · exact hJ395 E36 C37 q38
    · exact hJ391 E36 C37 q38
set_option maxHeartbeats 8000000 in
set_option maxRecDepth 100000 in
theorem b_L_isWiki_354 {l : Launch} {Γ : Cx} {ma : Nat → Nat} (h : wOn Γ) (hm : ∀ k, k ≤ 10 → ma k ≠ 0) (hG : GK Γ l) (hX : XN Γ) (a0 : Nat) (a10 : Int) (y4 : Nat) (v14_32 : Int) (v15_32 : Int) (r15 : Int) (x13_121 : Int) (r39 : Int) (J395 : Rw → Cd → (Nat → Nat) → Option (Int × S3)) (hJ395 : ∀ (E_395 : Rw) (C_395 : Cd) (q_395 : (Nat → Nat)), RunO l Γ k_L_isWiki 15 encI (em3 ma) 395 [(0, .ref a0), (1, .ref (ma 0)), (2, .ref (ma 1)), (3, .ref (ma 2)), (4, .ref (ma 3)), (5, .ref (ma 4)), (6, .ref (ma 6)), (7, .ref (ma 7)), (8, .ref (ma 8)), (9, .ref (ma 9)), (10, wi a10), (11, .ref y4), (13, wi x13_121), (14, wi v14_32), (15, wi v15_32), (16, wi r15)] [] (E_395, C_395, q_395) (J395 E_395 C_395 q_395)) (J358 : Rw → Cd → (Nat → Nat) → Option (Int × S3)) (hJ358 : ∀ (E_358 : Rw) (C_358 : Cd) (q_358 : (Nat → Nat)), RunO l Γ k_L_isWiki 15 encI (em3 ma) 358 [(0, .ref a0), (1, .ref (ma 0)), (2, .ref (ma 1)), (3, .ref (ma 2)), (4, .ref (ma 3)), (5, .ref (ma 4)), (6, .ref (ma 6)), (7, .ref (ma 7)), (8, .ref (ma 8)), (9, .ref (ma 9)), (10, wi a10), (11, .ref y4), (13, wi x13_121), (14, wi v14_32), (15, wi v15_32), (16, wi r15)] [] (E_358, C_358, q_358) (J358 E_358 C_358 q_358)) : ∀ (t0_354 : Int) (E_354 : Rw) (C_354 : Cd) (q_354 : (Nat → Nat)), RunO l Γ k_L_isWiki 15 encI (em3 ma) 354 [(0, .ref a0), (1, .ref (ma 0)), (2, .ref (ma 1)), (3, .ref (ma 2)), (4, .ref (ma 3)), (5, .ref (ma 4)), (6, .ref (ma 6)), (7, .ref (ma 7)), (8, .ref (ma 8)), (9, .ref (ma 9)), (10, wi a10), (11, .ref y4), (13, wi x13_121), (14, wi v14_32), (15, wi v15_32), (16, wi r15)] [vl t0_354, vl r39] (E_354, C_354, q_354) (fW_isWiki_354 J395 J358 r39 t0_354 E_354 C_354 q_354) := by
  intro t0_354 E_354 C_354 q_354
  unfold fW_isWiki_354
  refine r_lcmp dL_isWiki_354 ?_
  refine r_if_ne (tgt := 395) dL_isWiki_355 (by decide) ?_ ?_
  · exact hJ395 E_354 C_354 q_354
  · exact hJ358 E_354 C_354 q_354
set_option maxHeartbeats 8000000 in
set_option maxRecDepth 100000 in
theorem b_L_isWiki_313 {l : Launch} {Γ : Cx} {ma : Nat → Nat} (h : wOn Γ) (hm : ∀ k, k ≤ 10 → ma k ≠ 0) (hG : GK Γ l) (hX : XN Γ) (a0 : Nat) (a10 : Int) (y4 : Nat) (v14_32 : Int) (v15_32 : Int) (r15 : Int) (t0_106 : Int) (x13_121 : Int) (J396 : Int → Rw → Cd → (Nat → Nat) → Option (Int × S3)) (hJ396 : ∀ (t0_396 : Int) (E_396 : Rw) (C_396 : Cd) (q_396 : (Nat → Nat)), RunO l Γ k_L_isWiki 15 encI (em3 ma) 396 [(0, .ref a0), (1, .ref (ma 0)), (2, .ref (ma 1)), (3, .ref (ma 2)), (4, .ref (ma 3)), (5, .ref (ma 4)), (6, .ref (ma 6)), (7, .ref (ma 7)), (8, .ref (ma 8)), (9, .ref (ma 9)), (10, wi a10), (11, .ref y4), (13, wi x13_121), (14, wi v14_32), (15, wi v15_32), (16, wi r15)] [wi t0_396] (E_396, C_396, q_396) (J396 t0_396 E_396 C_396 q_396)) (J395 : Rw → Cd → (Nat → Nat) → Option (Int × S3)) (hJ395 : ∀ (E_395 : Rw) (C_395 : Cd) (q_395 : (Nat → Nat)), RunO l Γ k_L_isWiki 15 encI (em3 ma) 395 [(0, .ref a0), (1, .ref (ma 0)), (2, .ref (ma 1)), (3, .ref (ma 2)), (4, .ref (ma 3)), (5, .ref (ma 4)), (6, .ref (ma 6)), (7, .ref (ma 7)), (8, .ref (ma 8)), (9, .ref (ma 9)), (10, wi a10), (11, .ref y4), (13, wi x13_121), (14, wi v14_32), (15, wi v15_32), (16, wi r15)] [] (E_395, C_395, q_395) (J395 E_395 C_395 q_395)) : ∀ (t0_313 : Int) (E_313 : Rw) (C_313 : Cd) (q_313 : (Nat → Nat)), RunO l Γ k_L_isWiki 15 encI (em3 ma) 313 [(0, .ref a0), (1, .ref (ma 0)), (2, .ref (ma 1)), (3, .ref (ma 2)), (4, .ref (ma 3)), (5, .ref (ma 4)), (6, .ref (ma 6)), (7, .ref (ma 7)), (8, .ref (ma 8)), (9, .ref (ma 9)), (10, wi a10), (11, .ref y4), (13, wi x13_121), (14, wi v14_32), (15, wi v15_32), (16, wi r15), (19, wi t0_106)] [wi t0_313, wi v15_32, wi 9, .ref a0] (E_313, C_313, q_313) (fW_isWiki_313 a0 a10 y4 v15_32 t0_106 J396 J395 t0_313 E_313 C_313 q_313) := by
  intro t0_313 E_313 C_313 q_313
  unfold fW_isWiki_313
  refine ro_iconst (v := 0) dL_isWiki_313 rfl ?_
  refine r_csHi (J := fun (C_ : Cd) => (E_313, C_, q_313)) (k2 := k_L_does) (n := 5) (rest := []) (fun _ => rfl) kv_L_does (c_L_does (M0 := (fun k => (adq ma q_313 k : Int), E_313)) hG hX a0 9 v15_32 t0_313 0 _) (by decide) um_L_132 rfl (Nat.le_of_ble_eq_true rfl) dL_isWiki_314 rfl (fun r33 C34 => ?_)
  show RunO l Γ k_L_isWiki 15 encI (em3 ma) 317 [(0, .ref a0), (1, .ref (ma 0)), (2, .ref (ma 1)), (3, .ref (ma 2)), (4, .ref (ma 3)), (5, .ref (ma 4)), (6, .ref (ma 6)), (7, .ref (ma 7)), (8, .ref (ma 8)), (9, .ref (ma 9)), (10, wi a10), (11, .ref y4), (13, wi x13_121), (14, wi v14_32), (15, wi v15_32), (16, wi r15), (19, wi t0_106)] [wi r33] (E_313, C34, q_313) _
  refine ro_iconst (v := (-1)) dL_isWiki_317 rfl ?_
  refine r_icmp_ne (tgt := 395) dL_isWiki_318 (by decide) ?_ ?_
  · refine r_lo [0, 1, 2, 3, 4, 5, 6, 7, 8, 9, 10, 11, 12, 13, 14, 15] (lo2 := [(0, .ref a0), (1, .ref (ma 0)), (2, .ref (ma 1)), (3, .ref (ma 2)), (4, .ref (ma 3)), (5, .ref (ma 4)), (6, .ref (ma 6)), (7, .ref (ma 7)), (8, .ref (ma 8)), (9, .ref (ma 9)), (10, wi a10), (11, .ref y4), (13, wi x13_121), (14, wi v14_32), (15, wi v15_32), (16, wi r15)]) rfl ?_
    exact hJ395 E_313 C34 q_313
  · refine r_iload (x := v15_32) dL_isWiki_321 rfl ?_
    refine ro_iconst (v := 2) dL_isWiki_323 rfl ?_
    refine r_irem dL_isWiki_324 (by decide) ?_
    refine r_iload (x := a10) dL_isWiki_325 rfl ?_
    refine ro_iconst (v := 2) dL_isWiki_327 rfl ?_
    refine r_irem dL_isWiki_328 (by decide) ?_
    refine r_join (P := fun (J : Rw → Cd → (Nat → Nat) → Option (Int × S3)) => ∀ (E_358 : Rw) (C_358 : Cd) (q_358 : (Nat → Nat)), RunO l Γ k_L_isWiki 15 encI (em3 ma) 358 [(0, .ref a0), (1, .ref (ma 0)), (2, .ref (ma 1)), (3, .ref (ma 2)), (4, .ref (ma 3)), (5, .ref (ma 4)), (6, .ref (ma 6)), (7, .ref (ma 7)), (8, .ref (ma 8)), (9, .ref (ma 9)), (10, wi a10), (11, .ref y4), (13, wi x13_121), (14, wi v14_32), (15, wi v15_32), (16, wi r15)] [] (E_358, C_358, q_358) (J E_358 C_358 q_358)) ?_ (fun J358 hJ358 => ?_)
    · exact b_L_isWiki_358 h hm hG hX a0 a10 y4 v14_32 v15_32 r15 x13_121 J396 hJ396 J395 hJ395
    refine r_icmp_ne (tgt := 358) dL_isWiki_329 (by decide) ?_ ?_
    · refine r_lo [0, 1, 2, 3, 4, 5, 6, 7, 8, 9, 10, 11, 12, 13, 14, 15] (lo2 := [(0, .ref a0), (1, .ref (ma 0)), (2, .ref (ma 1)), (3, .ref (ma 2)), (4, .ref (ma 3)), (5, .ref (ma 4)), (6, .ref (ma 6)), (7, .ref (ma 7)), (8, .ref (ma 8)), (9, .ref (ma 9)), (10, wi a10), (11, .ref y4), (13, wi x13_121), (14, wi v14_32), (15, wi v15_32), (16, wi r15)]) rfl ?_
      exact hJ358 E_313 C34 q_313
    · refine r_aload_n (x := a0) dL_isWiki_332 rfl rfl ?_
      refine r_bipush (v := 9) dL_isWiki_333 rfl ?_
      refine r_iload (x := v15_32) dL_isWiki_335 rfl ?_
      refine r_csj (J := fun (C_ : Cd) => (E_313, C_, q_313)) (k2 := k_L_digest) (n := 3) (rest := []) (fun _ => rfl) rfl kv_L_digest (c_L_digest (M0 := (fun k => (adq ma q_313 k : Int), E_313)) hG hX a0 9 v15_32 _) (by decide) um_L_155 rfl (Nat.le_of_ble_eq_true rfl) dL_isWiki_337 rfl (fun r39 C40 => ?_)
      show RunO l Γ k_L_isWiki 15 encI (em3 ma) 340 [(0, .ref a0), (1, .ref (ma 0)), (2, .ref (ma 1)), (3, .ref (ma 2)), (4, .ref (ma 3)), (5, .ref (ma 4)), (6, .ref (ma 6)), (7, .ref (ma 7)), (8, .ref (ma 8)), (9, .ref (ma 9)), (10, wi a10), (11, .ref y4), (13, wi x13_121), (14, wi v14_32), (15, wi v15_32), (16, wi r15), (19, wi t0_106)] [vl r39] (E_313, C40, q_313) _
      refine r_iload (x := t0_106) dL_isWiki_340 rfl ?_
      refine r_join (P := fun (J : Int → Rw → Cd → (Nat → Nat) → Option (Int × S3)) => ∀ (t0_354 : Int) (E_354 : Rw) (C_354 : Cd) (q_354 : (Nat → Nat)), RunO l Γ k_L_isWiki 15 encI (em3 ma) 354 [(0, .ref a0), (1, .ref (ma 0)), (2, .ref (ma 1)), (3, .ref (ma 2)), (4, .ref (ma 3)), (5, .ref (ma 4)), (6, .ref (ma 6)), (7, .ref (ma 7)), (8, .ref (ma 8)), (9, .ref (ma 9)), (10, wi a10), (11, .ref y4), (13, wi x13_121), (14, wi v14_32), (15, wi v15_32), (16, wi r15)] [vl t0_354, vl r39] (E_354, C_354, q_354) (J t0_354 E_354 C_354 q_354)) ?_ (fun J354 hJ354 => ?_)
      · exact b_L_isWiki_354 h hm hG hX a0 a10 y4 v14_32 v15_32 r15 x13_121 r39 J395 hJ395 J358 hJ358
      refine r_if_eq (tgt := 353) dL_isWiki_342 (by decide) ?_ ?_
      · refine r_lconst (x := 1) dL_isWiki_353 rfl ?_
        refine r_lo [0, 1, 2, 3, 4, 5, 6, 7, 8, 9, 10, 11, 12, 13, 14, 15] (lo2 := [(0, .ref a0), (1, .ref (ma 0)), (2, .ref (ma 1)), (3, .ref (ma 2)), (4, .ref (ma 3)), (5, .ref (ma 4)), (6, .ref (ma 6)), (7, .ref (ma 7)), (8, .ref (ma 8)), (9, .ref (ma 9)), (10, wi a10), (11, .ref y4), (13, wi x13_121), (14, wi v14_32), (15, wi v15_32), (16, wi r15)]) rfl ?_
        exact hJ354 1 E_313 C40 q_313
      · refine r_aload (x := ma 7) dL_isWiki_345 rfl ?_
        refine r_iload (x := v15_32) dL_isWiki_347 rfl ?_
        refine r_wlald3 h (by decide) (by decide) (hm 7 (by decide)) dL_isWiki_349 ?_
        refine r_goto (tgt := 354) dL_isWiki_350 (by decide) ?_
        refine r_lo [0, 1, 2, 3, 4, 5, 6, 7, 8, 9, 10, 11, 12, 13, 14, 15] (lo2 := [(0, .ref a0), (1, .ref (ma 0)), (2, .ref (ma 1)), (3, .ref (ma 2)), (4, .ref (ma 3)), (5, .ref (ma 4)), (6, .ref (ma 6)), (7, .ref (ma 7)), (8, .ref (ma 8)), (9, .ref (ma 9)), (10, wi a10), (11, .ref y4), (13, wi x13_121), (14, wi v14_32), (15, wi v15_32), (16, wi r15)]) rfl ?_
        exact hJ354 (E_313 7 (ix v15_32)) E_313 C40 q_313
set_option maxHeartbeats 8000000 in
set_option maxRecDepth 100000 in
theorem b_L_isWiki_266 {l : Launch} {Γ : Cx} {ma : Nat → Nat} (h : wOn Γ) (hm : ∀ k, k ≤ 10 → ma k ≠ 0) (hG : GK Γ l) (hX : XN Γ) (a0 : Nat) (a10 : Int) (y4 : Nat) (v14_32 : Int) (v15_32 : Int) (r15 : Int) (r19 : Int) (t0_106 : Int) (x13_121 : Int) (L32 : Int → Int → Int → Int → Rw → Cd → (Nat → Nat) → Option (Int × S3)) (hL32 : ∀ (v12_32 : Int) (v13_32 : Int) (v14_32 : Int) (v15_32 : Int) (E_32 : Rw) (C_32 : Cd) (q_32 : (Nat → Nat)), RunO l Γ k_L_isWiki 15 encI (em3 ma) 32 [(0, .ref a0), (1, .ref (ma 0)), (2, .ref (ma 1)), (3, .ref (ma 2)), (4, .ref (ma 3)), (5, .ref (ma 4)), (6, .ref (ma 6)), (7, .ref (ma 7)), (8, .ref (ma 8)), (9, .ref (ma 9)), (10, wi a10), (11, .ref y4), (12, wi v12_32), (13, wi v13_32), (14, wi v14_32), (15, wi v15_32)] [] (E_32, C_32, q_32) (L32 v12_32 v13_32 v14_32 v15_32 E_32 C_32 q_32)) : ∀ (t0_266 : Int) (E_266 : Rw) (C_266 : Cd) (q_266 : (Nat → Nat)), RunO l Γ k_L_isWiki 15 encI (em3 ma) 266 [(0, .ref a0), (1, .ref (ma 0)), (2, .ref (ma 1)), (3, .ref (ma 2)), (4, .ref (ma 3)), (5, .ref (ma 4)), (6, .ref (ma 6)), (7, .ref (ma 7)), (8, .ref (ma 8)), (9, .ref (ma 9)), (10, wi a10), (11, .ref y4), (13, wi x13_121), (14, wi v14_32), (15, wi v15_32), (16, wi r15), (18, wi r19), (19, wi t0_106)] [wi t0_266] (E_266, C_266, q_266) (fW_isWiki_266 a0 a10 y4 L32 v14_32 v15_32 r15 r19 t0_106 x13_121 t0_266 E_266 C_266 q_266) := by
  intro t0_266 E_266 C_266 q_266
  unfold fW_isWiki_266
  refine r_istore (lo2 := [(12, wi t0_266), (0, .ref a0), (1, .ref (ma 0)), (2, .ref (ma 1)), (3, .ref (ma 2)), (4, .ref (ma 3)), (5, .ref (ma 4)), (6, .ref (ma 6)), (7, .ref (ma 7)), (8, .ref (ma 8)), (9, .ref (ma 9)), (10, wi a10), (11, .ref y4), (13, wi x13_121), (14, wi v14_32), (15, wi v15_32), (16, wi r15), (18, wi r19), (19, wi t0_106)]) dL_isWiki_266 (by decide) rfl ?_
  refine r_iload (x := t0_266) dL_isWiki_268 rfl ?_
  refine r_join (P := fun (J : Int → Rw → Cd → (Nat → Nat) → Option (Int × S3)) => ∀ (v12_433 : Int) (E_433 : Rw) (C_433 : Cd) (q_433 : (Nat → Nat)), RunO l Γ k_L_isWiki 15 encI (em3 ma) 433 [(0, .ref a0), (1, .ref (ma 0)), (2, .ref (ma 1)), (3, .ref (ma 2)), (4, .ref (ma 3)), (5, .ref (ma 4)), (6, .ref (ma 6)), (7, .ref (ma 7)), (8, .ref (ma 8)), (9, .ref (ma 9)), (10, wi a10), (11, .ref y4), (12, wi v12_433), (13, wi x13_121), (14, wi v14_32), (15, wi v15_32), (16, wi r15)] [] (E_433, C_433, q_433) (J v12_433 E_433 C_433 q_433)) ?_ (fun J433 hJ433 => ?_)
  · exact b_L_isWiki_433 h hm hG hX a0 a10 y4 v14_32 v15_32 r15 x13_121 L32 hL32
  refine r_if_eq (tgt := 433) dL_isWiki_270 (by decide) ?_ ?_
  · refine r_lo [1, 2, 3, 4, 5, 6, 7, 8, 9, 10, 11, 12, 0, 13, 14, 15, 16] (lo2 := [(0, .ref a0), (1, .ref (ma 0)), (2, .ref (ma 1)), (3, .ref (ma 2)), (4, .ref (ma 3)), (5, .ref (ma 4)), (6, .ref (ma 6)), (7, .ref (ma 7)), (8, .ref (ma 8)), (9, .ref (ma 9)), (10, wi a10), (11, .ref y4), (12, wi t0_266), (13, wi x13_121), (14, wi v14_32), (15, wi v15_32), (16, wi r15)]) rfl ?_
    exact hJ433 t0_266 E_266 C_266 q_266
  · refine r_iload (x := r15) dL_isWiki_273 rfl ?_
    refine r_if_lt (tgt := 433) dL_isWiki_275 (by decide) ?_ ?_
    · refine r_lo [1, 2, 3, 4, 5, 6, 7, 8, 9, 10, 11, 12, 0, 13, 14, 15, 16] (lo2 := [(0, .ref a0), (1, .ref (ma 0)), (2, .ref (ma 1)), (3, .ref (ma 2)), (4, .ref (ma 3)), (5, .ref (ma 4)), (6, .ref (ma 6)), (7, .ref (ma 7)), (8, .ref (ma 8)), (9, .ref (ma 9)), (10, wi a10), (11, .ref y4), (12, wi t0_266), (13, wi x13_121), (14, wi v14_32), (15, wi v15_32), (16, wi r15)]) rfl ?_
      exact hJ433 t0_266 E_266 C_266 q_266
    · refine r_aload_n (x := a0) dL_isWiki_278 rfl rfl ?_
      refine r_iload (x := v15_32) dL_isWiki_279 rfl ?_
      refine r_cx1 (M0 := (fun k => (adq ma q_266 k : Int), E_266)) (J := fun (C_ : Cd) => (E_266, C_, q_266)) (k2 := k_X11_isStale) (c := 14) (T := TX11) (N := 10) (n := 1) (rest := []) (fun _ => rfl) rfl um_L_152 kv_X11_isStale hc_X11 (by decide) (c_X11_isStale hG _ _ _) (by decide) rfl (Nat.le_of_ble_eq_true rfl) dL_isWiki_281 rfl (fun r27 C28 => ?_)
      show RunO l Γ k_L_isWiki 15 encI (em3 ma) 284 [(12, wi t0_266), (0, .ref a0), (1, .ref (ma 0)), (2, .ref (ma 1)), (3, .ref (ma 2)), (4, .ref (ma 3)), (5, .ref (ma 4)), (6, .ref (ma 6)), (7, .ref (ma 7)), (8, .ref (ma 8)), (9, .ref (ma 9)), (10, wi a10), (11, .ref y4), (13, wi x13_121), (14, wi v14_32), (15, wi v15_32), (16, wi r15), (18, wi r19), (19, wi t0_106)] [wi r27] (E_266, C28, q_266) _
      refine r_iload (x := r19) dL_isWiki_284 rfl ?_
      refine r_join (P := fun (J : Int → Rw → Cd → (Nat → Nat) → Option (Int × S3)) => ∀ (t0_396 : Int) (E_396 : Rw) (C_396 : Cd) (q_396 : (Nat → Nat)), RunO l Γ k_L_isWiki 15 encI (em3 ma) 396 [(0, .ref a0), (1, .ref (ma 0)), (2, .ref (ma 1)), (3, .ref (ma 2)), (4, .ref (ma 3)), (5, .ref (ma 4)), (6, .ref (ma 6)), (7, .ref (ma 7)), (8, .ref (ma 8)), (9, .ref (ma 9)), (10, wi a10), (11, .ref y4), (13, wi x13_121), (14, wi v14_32), (15, wi v15_32), (16, wi r15)] [wi t0_396] (E_396, C_396, q_396) (J t0_396 E_396 C_396 q_396)) ?_ (fun J396 hJ396 => ?_)
      · exact b_L_isWiki_396 h hm hG hX a0 a10 y4 v14_32 v15_32 r15 x13_121 J433 hJ433
      refine r_join (P := fun (J : Rw → Cd → (Nat → Nat) → Option (Int × S3)) => ∀ (E_395 : Rw) (C_395 : Cd) (q_395 : (Nat → Nat)), RunO l Γ k_L_isWiki 15 encI (em3 ma) 395 [(0, .ref a0), (1, .ref (ma 0)), (2, .ref (ma 1)), (3, .ref (ma 2)), (4, .ref (ma 3)), (5, .ref (ma 4)), (6, .ref (ma 6)), (7, .ref (ma 7)), (8, .ref (ma 8)), (9, .ref (ma 9)), (10, wi a10), (11, .ref y4), (13, wi x13_121), (14, wi v14_32), (15, wi v15_32), (16, wi r15)] [] (E_395, C_395, q_395) (J E_395 C_395 q_395)) ?_ (fun J395 hJ395 => ?_)
      · exact b_L_isWiki_395 h hm hG hX a0 a10 y4 v14_32 v15_32 r15 x13_121 J396 hJ396
      refine r_icmp_ne (tgt := 395) dL_isWiki_286 (by decide) ?_ ?_
      · refine r_lo [1, 2, 3, 4, 5, 6, 7, 8, 9, 10, 11, 12, 13, 14, 15, 16] (lo2 := [(0, .ref a0), (1, .ref (ma 0)), (2, .ref (ma 1)), (3, .ref (ma 2)), (4, .ref (ma 3)), (5, .ref (ma 4)), (6, .ref (ma 6)), (7, .ref (ma 7)), (8, .ref (ma 8)), (9, .ref (ma 9)), (10, wi a10), (11, .ref y4), (13, wi x13_121), (14, wi v14_32), (15, wi v15_32), (16, wi r15)]) rfl ?_
        exact hJ395 E_266 C28 q_266
      · refine r_aload_n (x := a0) dL_isWiki_289 rfl rfl ?_
        refine r_bipush (v := 9) dL_isWiki_290 rfl ?_
        refine r_iload (x := v15_32) dL_isWiki_292 rfl ?_
        refine r_iload (x := t0_106) dL_isWiki_294 rfl ?_
        refine r_join (P := fun (J : Int → Rw → Cd → (Nat → Nat) → Option (Int × S3)) => ∀ (t0_313 : Int) (E_313 : Rw) (C_313 : Cd) (q_313 : (Nat → Nat)), RunO l Γ k_L_isWiki 15 encI (em3 ma) 313 [(0, .ref a0), (1, .ref (ma 0)), (2, .ref (ma 1)), (3, .ref (ma 2)), (4, .ref (ma 3)), (5, .ref (ma 4)), (6, .ref (ma 6)), (7, .ref (ma 7)), (8, .ref (ma 8)), (9, .ref (ma 9)), (10, wi a10), (11, .ref y4), (13, wi x13_121), (14, wi v14_32), (15, wi v15_32), (16, wi r15), (19, wi t0_106)] [wi t0_313, wi v15_32, wi 9, .ref a0] (E_313, C_313, q_313) (J t0_313 E_313 C_313 q_313)) ?_ (fun J313 hJ313 => ?_)
        · exact b_L_isWiki_313 h hm hG hX a0 a10 y4 v14_32 v15_32 r15 t0_106 x13_121 J396 hJ396 J395 hJ395
        refine r_if_eq (tgt := 312) dL_isWiki_296 (by decide) ?_ ?_
        · refine ro_iconst (v := 0) dL_isWiki_312 rfl ?_
          refine r_lo [1, 2, 3, 4, 5, 6, 7, 8, 9, 10, 11, 12, 13, 14, 15, 16, 18] (lo2 := [(0, .ref a0), (1, .ref (ma 0)), (2, .ref (ma 1)), (3, .ref (ma 2)), (4, .ref (ma 3)), (5, .ref (ma 4)), (6, .ref (ma 6)), (7, .ref (ma 7)), (8, .ref (ma 8)), (9, .ref (ma 9)), (10, wi a10), (11, .ref y4), (13, wi x13_121), (14, wi v14_32), (15, wi v15_32), (16, wi r15), (19, wi t0_106)]) rfl ?_
          exact hJ313 0 E_266 C28 q_266
        · refine r_aload (x := ma 6) dL_isWiki_299 rfl ?_
          refine r_bipush (v := 7) dL_isWiki_301 rfl ?_
          refine r_iload (x := v15_32) dL_isWiki_303 rfl ?_
          refine r_imul dL_isWiki_305 ?_
          refine ro_iconst (v := 1) dL_isWiki_306 rfl ?_
          refine r_iadd dL_isWiki_307 ?_
          refine r_wiald3 h (by decide) (by decide) (hm 6 (by decide)) dL_isWiki_308 ?_
          refine r_goto (tgt := 313) dL_isWiki_309 (by decide) ?_
          refine r_lo [1, 2, 3, 4, 5, 6, 7, 8, 9, 10, 11, 12, 13, 14, 15, 16, 18] (lo2 := [(0, .ref a0), (1, .ref (ma 0)), (2, .ref (ma 1)), (3, .ref (ma 2)), (4, .ref (ma 3)), (5, .ref (ma 4)), (6, .ref (ma 6)), (7, .ref (ma 7)), (8, .ref (ma 8)), (9, .ref (ma 9)), (10, wi a10), (11, .ref y4), (13, wi x13_121), (14, wi v14_32), (15, wi v15_32), (16, wi r15), (19, wi t0_106)]) rfl ?_
          exact hJ313 (E_266 6 (ix ((7 * v15_32) + 1))) E_266 C28 q_266
set_option maxHeartbeats 8000000 in
set_option maxRecDepth 100000 in
theorem b_L_isWiki_265 {l : Launch} {Γ : Cx} {ma : Nat → Nat} (h : wOn Γ) (hm : ∀ k, k ≤ 10 → ma k ≠ 0) (hG : GK Γ l) (hX : XN Γ) (a0 : Nat) (a10 : Int) (y4 : Nat) (v14_32 : Int) (v15_32 : Int) (r15 : Int) (r19 : Int) (t0_106 : Int) (x13_121 : Int) (J266 : Int → Rw → Cd → (Nat → Nat) → Option (Int × S3)) (hJ266 : ∀ (t0_266 : Int) (E_266 : Rw) (C_266 : Cd) (q_266 : (Nat → Nat)), RunO l Γ k_L_isWiki 15 encI (em3 ma) 266 [(0, .ref a0), (1, .ref (ma 0)), (2, .ref (ma 1)), (3, .ref (ma 2)), (4, .ref (ma 3)), (5, .ref (ma 4)), (6, .ref (ma 6)), (7, .ref (ma 7)), (8, .ref (ma 8)), (9, .ref (ma 9)), (10, wi a10), (11, .ref y4), (13, wi x13_121), (14, wi v14_32), (15, wi v15_32), (16, wi r15), (18, wi r19), (19, wi t0_106)] [wi t0_266] (E_266, C_266, q_266) (J266 t0_266 E_266 C_266 q_266)) : ∀ (E_265 : Rw) (C_265 : Cd) (q_265 : (Nat → Nat)), RunO l Γ k_L_isWiki 15 encI (em3 ma) 265 [(0, .ref a0), (1, .ref (ma 0)), (2, .ref (ma 1)), (3, .ref (ma 2)), (4, .ref (ma 3)), (5, .ref (ma 4)), (6, .ref (ma 6)), (7, .ref (ma 7)), (8, .ref (ma 8)), (9, .ref (ma 9)), (10, wi a10), (11, .ref y4), (13, wi x13_121), (14, wi v14_32), (15, wi v15_32), (16, wi r15), (18, wi r19), (19, wi t0_106)] [] (E_265, C_265, q_265) (fW_isWiki_265 J266 E_265 C_265 q_265) := by
  intro E_265 C_265 q_265
  unfold fW_isWiki_265
  refine ro_iconst (v := 0) dL_isWiki_265 rfl ?_
  exact hJ266 0 E_265 C_265 q_265
set_option maxHeartbeats 8000000 in
set_option maxRecDepth 100000 in
theorem b_L_isWiki_258 {l : Launch} {Γ : Cx} {ma : Nat → Nat} (h : wOn Γ) (hm : ∀ k, k ≤ 10 → ma k ≠ 0) (hG : GK Γ l) (hX : XN Γ) (a0 : Nat) (a10 : Int) (y4 : Nat) (v14_32 : Int) (v15_32 : Int) (r15 : Int) (r19 : Int) (t0_106 : Int) (x13_121 : Int) (r50 : Int) (J266 : Int → Rw → Cd → (Nat → Nat) → Option (Int × S3)) (hJ266 : ∀ (t0_266 : Int) (E_266 : Rw) (C_266 : Cd) (q_266 : (Nat → Nat)), RunO l Γ k_L_isWiki 15 encI (em3 ma) 266 [(0, .ref a0), (1, .ref (ma 0)), (2, .ref (ma 1)), (3, .ref (ma 2)), (4, .ref (ma 3)), (5, .ref (ma 4)), (6, .ref (ma 6)), (7, .ref (ma 7)), (8, .ref (ma 8)), (9, .ref (ma 9)), (10, wi a10), (11, .ref y4), (13, wi x13_121), (14, wi v14_32), (15, wi v15_32), (16, wi r15), (18, wi r19), (19, wi t0_106)] [wi t0_266] (E_266, C_266, q_266) (J266 t0_266 E_266 C_266 q_266)) (J265 : Rw → Cd → (Nat → Nat) → Option (Int × S3)) (hJ265 : ∀ (E_265 : Rw) (C_265 : Cd) (q_265 : (Nat → Nat)), RunO l Γ k_L_isWiki 15 encI (em3 ma) 265 [(0, .ref a0), (1, .ref (ma 0)), (2, .ref (ma 1)), (3, .ref (ma 2)), (4, .ref (ma 3)), (5, .ref (ma 4)), (6, .ref (ma 6)), (7, .ref (ma 7)), (8, .ref (ma 8)), (9, .ref (ma 9)), (10, wi a10), (11, .ref y4), (13, wi x13_121), (14, wi v14_32), (15, wi v15_32), (16, wi r15), (18, wi r19), (19, wi t0_106)] [] (E_265, C_265, q_265) (J265 E_265 C_265 q_265)) : ∀ (t0_258 : Int) (E_258 : Rw) (C_258 : Cd) (q_258 : (Nat → Nat)), RunO l Γ k_L_isWiki 15 encI (em3 ma) 258 [(0, .ref a0), (1, .ref (ma 0)), (2, .ref (ma 1)), (3, .ref (ma 2)), (4, .ref (ma 3)), (5, .ref (ma 4)), (6, .ref (ma 6)), (7, .ref (ma 7)), (8, .ref (ma 8)), (9, .ref (ma 9)), (10, wi a10), (11, .ref y4), (13, wi x13_121), (14, wi v14_32), (15, wi v15_32), (16, wi r15), (18, wi r19), (19, wi t0_106)] [wi t0_258, wi r50] (E_258, C_258, q_258) (fW_isWiki_258 J266 J265 r50 t0_258 E_258 C_258 q_258) := by
  intro t0_258 E_258 C_258 q_258
  unfold fW_isWiki_258
  refine r_icmp_ne (tgt := 265) dL_isWiki_258 (by decide) ?_ ?_
  · exact hJ265 E_258 C_258 q_258
  · refine ro_iconst (v := 1) dL_isWiki_261 rfl ?_
    refine r_goto (tgt := 266) dL_isWiki_262 (by decide) ?_
    exact hJ266 1 E_258 C_258 q_258
