def k_X11_undo : Kd := (yX11_undo, cX11_undo, 8, some .int, [])
theorem kv_X11_undo : KV k_X11_undo 2 := ⟨uw_mem 1220 (by decide +kernel) rfl, uw_mem 161 (by decide +kernel) rfl, uw_mem 1218 (by decide +kernel) rfl, uw_mem 1219 (by decide +kernel) rfl, ⟨by decide +kernel, by decide +kernel⟩, by decide +kernel, by decide +kernel⟩
set_option maxHeartbeats 8000000 in
set_option maxRecDepth 100000 in
theorem c_X11_undo {l : Launch} {Γ : Cx} {M0 : Md} (hG : GK Γ l) (a0 : Nat) (a1 : Int) (a2 : Int) (C : Cd) : Ct l Γ k_X11_undo 12 (encX gI) (emC M0) [.ref a0, wi a1, wi a2] C (fX11_undo a0 a1 a2 C) := by
  refine ct_of (by decide +kernel) rfl (Nat.le_of_ble_eq_true rfl) ?_
  refine r_lo [0, 1, 2] (lo2 := [(0, .ref a0), (1, wi a1), (2, wi a2)]) rfl ?_
  unfold fX11_undo
  refine r_aload_n (x := a0) dX11_undo_0 rfl rfl ?_
  refine r_iload_n (x := a1) dX11_undo_1 rfl rfl ?_
  refine r_cxV (c := 14) (h := gR) (k2 := k_X11_pageOf) (n := 1) (rest := []) um_X11_116 rfl kv_X11_pageOf hc_X11 (by decide) (c_X11_pageOf hG _ _ _) (by decide) rfl (Nat.le_of_ble_eq_true rfl) dX11_undo_2 rfl (fun r2 C1 => ?_)
  show RunO l Γ k_X11_undo 12 (encX gI) (emC M0) 5 [(0, .ref a0), (1, wi a1), (2, wi a2)] [va_rf r2] C1 _
  refine r_astoreq_n (lo2 := [(3, va_rf r2), (0, .ref a0), (1, wi a1), (2, wi a2)]) dX11_undo_5 rfl (by decide) rfl ?_
  refine r_aloadq_n (x := r2) dX11_undo_6 rfl rfl ?_
  refine r_iload_n (x := a2) dX11_undo_7 rfl rfl ?_
  refine r_dref (fun p3 hp3 => ?_)
  subst hp3
  refine r_ccVNi (c := 6) (k2 := k_X3_indexOf) (n := 1) (rest := []) hG um_X11_120 rfl kv_X3_indexOf hc_X3 (by decide) (c_X3_indexOf hG _ _ _) (by decide) rfl (Nat.le_of_ble_eq_true rfl) dX11_undo_8 rfl (fun r5 C4 => ?_)
  refine r_istore (lo2 := [(4, wi r5), (3, .ref p3), (0, .ref a0), (1, wi a1), (2, wi a2)]) dX11_undo_11 (by decide) rfl ?_
  refine r_aload_n (x := p3) dX11_undo_13 rfl rfl ?_
  refine r_iload (x := r5) dX11_undo_14 rfl ?_
  refine r_ccVNr (c := 6) (k2 := k_X3_versionAtIndex) (n := 1) (rest := []) hG um_X11_126 rfl kv_X3_versionAtIndex hc_X3 (by decide) (c_X3_versionAtIndex hG _ _ _) (by decide) rfl (Nat.le_of_ble_eq_true rfl) dX11_undo_16 rfl (fun r7 C6 => ?_)
  refine r_astoreq (lo2 := [(5, va_rf r7), (4, wi r5), (3, .ref p3), (0, .ref a0), (1, wi a1), (2, wi a2)]) dX11_undo_19 (by decide) rfl ?_
  refine r_aload_n (x := p3) dX11_undo_21 rfl rfl ?_
  refine r_iload (x := r5) dX11_undo_22 rfl ?_
  refine ro_iconst (v := 1) dX11_undo_24 rfl ?_
  refine r_isub dX11_undo_25 ?_
  refine r_ccVNr (c := 6) (k2 := k_X3_versionAtIndex) (n := 1) (rest := []) hG um_X11_126 rfl kv_X3_versionAtIndex hc_X3 (by decide) (c_X3_versionAtIndex hG _ _ _) (by decide) rfl (Nat.le_of_ble_eq_true rfl) dX11_undo_26 rfl (fun r9 C8 => ?_)
  refine r_astoreq (lo2 := [(6, va_rf r9), (5, va_rf r7), (4, wi r5), (3, .ref p3), (0, .ref a0), (1, wi a1), (2, wi a2)]) dX11_undo_29 (by decide) (by cases r7 <;> rfl) ?_
  refine r_aloadq (x := r7) dX11_undo_31 rfl ?_
  refine r_join (P := fun (J : Cd → Option ((Int ⊕ Nat) × Cd)) => ∀  (C_41 : Cd), RunO l Γ k_X11_undo 12 (encX gI) (emC M0) 41 [] [] C_41 (J C_41)) ?_ (fun J41 hJ41 => ?_)
  · intro C_41
    exact r_throw (e := 2) (text := "no such version") hG rfl rfl (by decide) (by decide) (by decide) (Nat.le_of_ble_eq_true rfl) dX11_undo_41 dX11_undo_44 dX11_undo_45 dX11_undo_47 dX11_undo_50
  refine r_opt (fun hn => ?_) (fun p10 hp10 => ?_)
  · subst hn
    refine r_ifnullN (tgt := 41) dX11_undo_33 (by decide) ?_
    refine r_lo [] (lo2 := []) rfl ?_
    exact hJ41  C8
  · subst hp10
    refine r_ifnullS (a := p10) dX11_undo_33 ?_
    refine r_aloadq (x := r9) dX11_undo_36 rfl ?_
    refine r_opt (fun hn => ?_) (fun p11 hp11 => ?_)
    · subst hn
      refine r_ifnonnullN dX11_undo_38 ?_
      refine r_lo [] (lo2 := []) rfl ?_
      exact hJ41  C8
    · subst hp11
      refine r_ifnonnullS (a := p11) (tgt := 51) dX11_undo_38 (by decide) ?_
      refine r_aload_n (x := a0) dX11_undo_51 rfl rfl ?_
      refine r_aload_n (x := a0) dX11_undo_52 rfl rfl ?_
      refine r_cgetR (c := 14) (kk := 1) hc_X11 rfl (by decide) inU_X11 (by decide) uf_X11_20 rfl (by decide) dX11_undo_53 (fun z12 => ?_)
      refine r_iload_n (x := a1) dX11_undo_56 rfl rfl ?_
      refine r_dref (fun p13 hp13 => ?_)
      subst hp13
      refine r_caald (t := 102) rfl (by decide) (by decide) dX11_undo_57 (fun z14 => ?_)
      refine r_ccVi (c := 14) (k2 := k_X11_mayActAt) (n := 1) (rest := []) um_X11_91 rfl kv_X11_mayActAt hc_X11 (by decide) (c_X11_mayActAt hG _ _ _) (by decide) rfl (Nat.le_of_ble_eq_true rfl) dX11_undo_58 rfl (fun r16 C15 => ?_)
      refine r_join (P := fun (J : Int → Cd → Option ((Int ⊕ Nat) × Cd)) => ∀ (t0_103 : Int) (C_103 : Cd), RunO l Γ k_X11_undo 12 (encX gI) (emC M0) 103 [(0, .ref a0), (1, wi a1), (3, .ref p3)] [wi t0_103] C_103 (J t0_103 C_103)) ?_ (fun J103 hJ103 => ?_)
      · intro t0_103 C_103
        refine r_istore (lo2 := [(7, wi t0_103), (0, .ref a0), (1, wi a1), (3, .ref p3)]) dX11_undo_103 (by decide) rfl ?_
        refine r_iload (x := t0_103) dX11_undo_105 rfl ?_
        refine r_join (P := fun (J : Cd → Option ((Int ⊕ Nat) × Cd)) => ∀  (C_137 : Cd), RunO l Γ k_X11_undo 12 (encX gI) (emC M0) 137 [] [] C_137 (J C_137)) ?_ (fun J137 hJ137 => ?_)
        · intro C_137
          exact r_throw (e := 1) (text := "it cannot be undone") hG rfl rfl (by decide) (by decide) (by decide) (Nat.le_of_ble_eq_true rfl) dX11_undo_137 dX11_undo_140 dX11_undo_141 dX11_undo_143 dX11_undo_146
        refine r_if_eq (tgt := 137) dX11_undo_107 (by decide) ?_ ?_
        · refine r_lo [] (lo2 := []) rfl ?_
          exact hJ137  C_103
        · refine r_aload_n (x := a0) dX11_undo_110 rfl rfl ?_
          refine r_cgetR (c := 14) (kk := 5) hc_X11 rfl (by decide) inU_X11 (by decide) uf_X11_38 rfl (by decide) dX11_undo_111 (fun z17 => ?_)
          refine r_dref (fun p18 hp18 => ?_)
          subst hp18
          refine r_ccVNi (c := 11) (k2 := k_X8_isText) (n := 0) (rest := []) hG um_X11_106 rfl kv_X8_isText hc_X8 (by decide) (c_X8_isText hG _ _) (by decide) rfl (Nat.le_of_ble_eq_true rfl) dX11_undo_114 rfl (fun r20 C19 => ?_)
          refine r_if_eq (tgt := 137) dX11_undo_117 (by decide) ?_ ?_
          · refine r_lo [] (lo2 := []) rfl ?_
            exact hJ137  C19
          · refine r_aload_n (x := a0) dX11_undo_120 rfl rfl ?_
            refine r_cgetR (c := 14) (kk := 5) hc_X11 rfl (by decide) inU_X11 (by decide) uf_X11_38 rfl (by decide) dX11_undo_121 (fun z21 => ?_)
            refine r_aload_n (x := p3) dX11_undo_124 rfl rfl ?_
            refine r_cgetRN (c := 6) (kk := 1) hc_X3 rfl (by decide) inU_X3 (by decide) hG uf_X11_148 rfl (by decide) dX11_undo_125 (fun z22 => ?_)
            refine r_dref (fun p23 hp23 => ?_)
            subst hp23
            refine r_cgetRN (c := 13) (kk := 2) hc_X10 rfl (by decide) inU_X10 (by decide) hG uf_X11_130 rfl (by decide) dX11_undo_128 (fun z24 => ?_)
            refine r_dref (fun p25 hp25 => ?_)
            subst hp25
            refine r_ccVNi (c := 11) (k2 := k_X8_sameAs) (n := 1) (rest := []) hG um_X11_156 rfl kv_X8_sameAs hc_X8 (by decide) (c_X8_sameAs hG _ _ _) (by decide) rfl (Nat.le_of_ble_eq_true rfl) dX11_undo_131 rfl (fun r27 C26 => ?_)
            refine r_if_eq (tgt := 147) dX11_undo_134 (by decide) ?_ ?_
            · refine r_aload_n (x := a0) dX11_undo_147 rfl rfl ?_
              refine r_iload_n (x := a1) dX11_undo_148 rfl rfl ?_
              refine r_aload_n (x := p3) dX11_undo_149 rfl rfl ?_
              refine r_aload_n (x := a0) dX11_undo_150 rfl rfl ?_
              refine r_cgetR (c := 14) (kk := 5) hc_X11 rfl (by decide) inU_X11 (by decide) uf_X11_38 rfl (by decide) dX11_undo_151 (fun z28 => ?_)
              refine r_ccVi (c := 14) (k2 := k_X11_addNextVersion) (n := 3) (rest := []) um_X11_162 rfl kv_X11_addNextVersion hc_X11 (by decide) (c_X11_addNextVersion hG _ _ _ _ _) (by decide) rfl (Nat.le_of_ble_eq_true rfl) dX11_undo_154 rfl (fun r30 C29 => ?_)
              exact r_iretX rfl dX11_undo_157
            · refine r_lo [] (lo2 := []) rfl ?_
              exact hJ137  C26
      refine r_join (P := fun (J : Cd → Option ((Int ⊕ Nat) × Cd)) => ∀  (C_102 : Cd), RunO l Γ k_X11_undo 12 (encX gI) (emC M0) 102 [(0, .ref a0), (1, wi a1), (3, .ref p3)] [] C_102 (J C_102)) ?_ (fun J102 hJ102 => ?_)
      · intro C_102
        refine ro_iconst (v := 0) dX11_undo_102 rfl ?_
        exact hJ103 0 C_102
      refine r_if_eq (tgt := 102) dX11_undo_61 (by decide) ?_ ?_
      · refine r_lo [4, 5, 3] (lo2 := [(0, .ref a0), (1, wi a1), (3, .ref p3)]) rfl ?_
        exact hJ102  C15
      · refine r_aload_n (x := a0) dX11_undo_64 rfl rfl ?_
        refine r_cgetI (c := 14) (kk := 7) hc_X11 rfl (by decide) inU_X11 (by decide) uf_X11_45 rfl (by decide) dX11_undo_65 ?_
        refine r_bipush (v := 120) dX11_undo_68 rfl ?_
        refine r_icmp_ge (tgt := 102) dX11_undo_70 (by decide) ?_ ?_
        · refine r_lo [4, 5, 3] (lo2 := [(0, .ref a0), (1, wi a1), (3, .ref p3)]) rfl ?_
          exact hJ102  C15
        · refine r_aload_n (x := a0) dX11_undo_73 rfl rfl ?_
          refine r_aload (x := p10) dX11_undo_74 rfl ?_
          refine r_cgetRN (c := 13) (kk := 2) hc_X10 rfl (by decide) inU_X10 (by decide) hG uf_X11_130 rfl (by decide) dX11_undo_76 (fun z31 => ?_)
          refine r_aload (x := p11) dX11_undo_79 rfl ?_
          refine r_cgetRN (c := 13) (kk := 2) hc_X10 rfl (by decide) inU_X10 (by decide) hG uf_X11_130 rfl (by decide) dX11_undo_81 (fun z32 => ?_)
          refine r_aload_n (x := p3) dX11_undo_84 rfl rfl ?_
          refine r_cgetRN (c := 6) (kk := 1) hc_X3 rfl (by decide) inU_X3 (by decide) hG uf_X11_148 rfl (by decide) dX11_undo_85 (fun z33 => ?_)
          refine r_dref (fun p34 hp34 => ?_)
          subst hp34
          refine r_cgetRN (c := 13) (kk := 2) hc_X10 rfl (by decide) inU_X10 (by decide) hG uf_X11_130 rfl (by decide) dX11_undo_88 (fun z35 => ?_)
          refine ro_iconst (v := 0) dX11_undo_91 rfl ?_
          refine r_ccVi (c := 14) (k2 := k_X11_merge) (n := 4) (rest := []) um_X11_152 rfl kv_X11_merge hc_X11 (by decide) (c_X11_merge hG _ _ _ _ _ _) (by decide) rfl (Nat.le_of_ble_eq_true rfl) dX11_undo_92 rfl (fun r37 C36 => ?_)
          refine r_if_eq (tgt := 102) dX11_undo_95 (by decide) ?_ ?_
          · refine r_lo [4, 5, 3] (lo2 := [(0, .ref a0), (1, wi a1), (3, .ref p3)]) rfl ?_
            exact hJ102  C36
          · refine ro_iconst (v := 1) dX11_undo_98 rfl ?_
            refine r_goto (tgt := 103) dX11_undo_99 (by decide) ?_
            refine r_lo [4, 5, 3] (lo2 := [(0, .ref a0), (1, wi a1), (3, .ref p3)]) rfl ?_
            exact hJ103 1 C36
def k_X11_versionAt : Kd := (yX11_versionAt, cX11_versionAt, 5, some .int, [])
theorem kv_X11_versionAt : KV k_X11_versionAt 2 := ⟨uw_mem 1564 (by decide +kernel) rfl, uw_mem 161 (by decide +kernel) rfl, uw_mem 1562 (by decide +kernel) rfl, uw_mem 1563 (by decide +kernel) rfl, ⟨by decide +kernel, by decide +kernel⟩, by decide +kernel, by decide +kernel⟩
set_option maxHeartbeats 8000000 in
set_option maxRecDepth 100000 in
theorem c_X11_versionAt {l : Launch} {Γ : Cx} {M0 : Md} (hG : GK Γ l) (a0 : Nat) (a1 : Int) (a2 : Int) (C : Cd) : Ct l Γ k_X11_versionAt 7 (encX gI) (emC M0) [.ref a0, wi a1, wi a2] C (fX11_versionAt a0 a1 a2 C) := by
  refine ct_of (by decide +kernel) rfl (Nat.le_of_ble_eq_true rfl) ?_
  refine r_lo [0, 1, 2] (lo2 := [(0, .ref a0), (1, wi a1), (2, wi a2)]) rfl ?_
  unfold fX11_versionAt
  refine r_aload_n (x := a0) dX11_versionAt_0 rfl rfl ?_
  refine r_iload_n (x := a1) dX11_versionAt_1 rfl rfl ?_
  refine r_cxV (c := 14) (h := gR) (k2 := k_X11_titleOf) (n := 1) (rest := []) um_X11_85 rfl kv_X11_titleOf hc_X11 (by decide) (c_X11_titleOf hG _ _ _) (by decide) rfl (Nat.le_of_ble_eq_true rfl) dX11_versionAt_2 rfl (fun r2 C1 => ?_)
  show RunO l Γ k_X11_versionAt 7 (encX gI) (emC M0) 5 [(0, .ref a0), (1, wi a1), (2, wi a2)] [va_rf r2] C1 _
  refine r_dref (fun p3 hp3 => ?_)
  subst hp3
  refine r_cgetRN (c := 12) (kk := 3) hc_X9 rfl (by decide) inU_X9 (by decide) hG uf_X11_102 rfl (by decide) dX11_versionAt_5 (fun z4 => ?_)
  refine r_astoreq_n (lo2 := [(3, va_rf z4), (0, .ref a0), (1, wi a1), (2, wi a2)]) dX11_versionAt_8 rfl (by decide) rfl ?_
  refine r_aloadq_n (x := z4) dX11_versionAt_9 rfl rfl ?_
  refine r_join (P := fun (J : Option Nat → Cd → Option ((Int ⊕ Nat) × Cd)) => ∀ (t0_22 : Option Nat) (C_22 : Cd), RunO l Γ k_X11_versionAt 7 (encX gI) (emC M0) 22 [] [va_rf t0_22] C_22 (J t0_22 C_22)) ?_ (fun J22 hJ22 => ?_)
  · intro t0_22 C_22
    refine r_astoreq (lo2 := [(4, va_rf t0_22)]) dX11_versionAt_22 (by decide) rfl ?_
    refine r_aloadq (x := t0_22) dX11_versionAt_24 rfl ?_
    refine r_opt (fun hn => ?_) (fun p5 hp5 => ?_)
    · subst hn
      refine r_ifnonnullN dX11_versionAt_26 ?_
      exact r_throw (e := 2) (text := "no such version") hG rfl rfl (by decide) (by decide) (by decide) (Nat.le_of_ble_eq_true rfl) dX11_versionAt_29 dX11_versionAt_32 dX11_versionAt_33 dX11_versionAt_35 dX11_versionAt_38
    · subst hp5
      refine r_ifnonnullS (a := p5) (tgt := 39) dX11_versionAt_26 (by decide) ?_
      refine r_aload (x := p5) dX11_versionAt_39 rfl ?_
      refine r_cgetIN (c := 13) (kk := 0) hc_X10 rfl (by decide) inU_X10 (by decide) hG uf_X11_226 rfl (by decide) dX11_versionAt_41 ?_
      exact r_iretX rfl dX11_versionAt_44
  refine r_opt (fun hn => ?_) (fun p6 hp6 => ?_)
  · subst hn
    refine r_ifnonnullN dX11_versionAt_10 ?_
    refine r_null dX11_versionAt_13 ?_
    refine r_goto (tgt := 22) dX11_versionAt_14 (by decide) ?_
    refine r_lo [] (lo2 := []) rfl ?_
    exact hJ22 none C1
  · subst hp6
    refine r_ifnonnullS (a := p6) (tgt := 17) dX11_versionAt_10 (by decide) ?_
    refine r_aload_n (x := p6) dX11_versionAt_17 rfl rfl ?_
    refine r_iload_n (x := a2) dX11_versionAt_18 rfl rfl ?_
    refine r_ccVNr (c := 6) (k2 := k_X3_versionAtIndex) (n := 1) (rest := []) hG um_X11_126 rfl kv_X3_versionAtIndex hc_X3 (by decide) (c_X3_versionAtIndex hG _ _ _) (by decide) rfl (Nat.le_of_ble_eq_true rfl) dX11_versionAt_19 rfl (fun r8 C7 => ?_)
    refine r_lo [] (lo2 := []) rfl ?_
    exact hJ22 r8 C7
def k_X11_versions : Kd := (yX11_versions, cX11_versions, 3, some .int, [])
theorem kv_X11_versions : KV k_X11_versions 1 := ⟨uw_mem 1556 (by decide +kernel) rfl, uw_mem 161 (by decide +kernel) rfl, uw_mem 1554 (by decide +kernel) rfl, uw_mem 1555 (by decide +kernel) rfl, ⟨by decide +kernel, by decide +kernel⟩, by decide +kernel, by decide +kernel⟩
set_option maxHeartbeats 8000000 in
set_option maxRecDepth 100000 in
theorem c_X11_versions {l : Launch} {Γ : Cx} {M0 : Md} (hG : GK Γ l) (a0 : Nat) (a1 : Int) (C : Cd) : Ct l Γ k_X11_versions 7 (encX gI) (emC M0) [.ref a0, wi a1] C (fX11_versions a0 a1 C) := by
  refine ct_of (by decide +kernel) rfl (Nat.le_of_ble_eq_true rfl) ?_
  refine r_lo [0, 1] (lo2 := [(0, .ref a0), (1, wi a1)]) rfl ?_
  unfold fX11_versions
  refine r_aload_n (x := a0) dX11_versions_0 rfl rfl ?_
  refine r_iload_n (x := a1) dX11_versions_1 rfl rfl ?_
  refine r_cxV (c := 14) (h := gR) (k2 := k_X11_titleOf) (n := 1) (rest := []) um_X11_85 rfl kv_X11_titleOf hc_X11 (by decide) (c_X11_titleOf hG _ _ _) (by decide) rfl (Nat.le_of_ble_eq_true rfl) dX11_versions_2 rfl (fun r2 C1 => ?_)
  show RunO l Γ k_X11_versions 7 (encX gI) (emC M0) 5 [(0, .ref a0), (1, wi a1)] [va_rf r2] C1 _
  refine r_dref (fun p3 hp3 => ?_)
  subst hp3
  refine r_cgetRN (c := 12) (kk := 3) hc_X9 rfl (by decide) inU_X9 (by decide) hG uf_X11_102 rfl (by decide) dX11_versions_5 (fun z4 => ?_)
  refine r_astoreq_n (lo2 := [(2, va_rf z4), (0, .ref a0), (1, wi a1)]) dX11_versions_8 rfl (by decide) rfl ?_
  refine r_aloadq_n (x := z4) dX11_versions_9 rfl rfl ?_
  refine r_join (P := fun (J : Int → Cd → Option ((Int ⊕ Nat) × Cd)) => ∀ (t0_24 : Int) (C_24 : Cd), RunO l Γ k_X11_versions 7 (encX gI) (emC M0) 24 [] [wi t0_24] C_24 (J t0_24 C_24)) ?_ (fun J24 hJ24 => ?_)
  · intro t0_24 C_24
    exact r_iretX rfl dX11_versions_24
  refine r_opt (fun hn => ?_) (fun p5 hp5 => ?_)
  · subst hn
    refine r_ifnonnullN dX11_versions_10 ?_
    refine ro_iconst (v := 0) dX11_versions_13 rfl ?_
    refine r_goto (tgt := 24) dX11_versions_14 (by decide) ?_
    refine r_lo [] (lo2 := []) rfl ?_
    exact hJ24 0 C1
  · subst hp5
    refine r_ifnonnullS (a := p5) (tgt := 17) dX11_versions_10 (by decide) ?_
    refine r_aload_n (x := p5) dX11_versions_17 rfl rfl ?_
    refine r_cgetRN (c := 6) (kk := 0) hc_X3 rfl (by decide) inU_X3 (by decide) hG uf_X11_280 rfl (by decide) dX11_versions_18 (fun z6 => ?_)
    refine r_dref (fun p7 hp7 => ?_)
    subst hp7
    refine r_ccVi (c := 2) (k2 := k_AL_size) (n := 0) (rest := []) um_X11_284 rfl kv_AL_size hc_Jx4a65c (by decide) (c_AL_size hG _ _) (by decide) rfl (Nat.le_of_ble_eq_true rfl) dX11_versions_21 rfl (fun r9 C8 => ?_)
    refine r_lo [] (lo2 := []) rfl ?_
    exact hJ24 r9 C8
def k_X11_wipe : Kd := (yX11_wipe, cX11_wipe, 2, some .int, [])
theorem kv_X11_wipe : KV k_X11_wipe 0 := ⟨uw_mem 493 (by decide +kernel) rfl, uw_mem 161 (by decide +kernel) rfl, uw_mem 491 (by decide +kernel) rfl, uw_mem 492 (by decide +kernel) rfl, ⟨by decide +kernel, by decide +kernel⟩, by decide +kernel, by decide +kernel⟩
set_option maxHeartbeats 8000000 in
set_option maxRecDepth 100000 in
theorem c_X11_wipe {l : Launch} {Γ : Cx} {M0 : Md} (hG : GK Γ l) (a0 : Nat) (C : Cd) : Ct l Γ k_X11_wipe 2 encI (emC M0) [.ref a0] C (fX11_wipe a0 C) := by
  refine ct_of (by decide +kernel) rfl (Nat.le_of_ble_eq_true rfl) ?_
  refine r_lo [0] (lo2 := [(0, .ref a0)]) rfl ?_
  unfold fX11_wipe
  refine r_aload_n (x := a0) dX11_wipe_0 rfl rfl ?_
  refine r_cgetR (c := 14) (kk := 3) hc_X11 rfl (by decide) inU_X11 (by decide) uf_X11_31 rfl (by decide) dX11_wipe_1 (fun z1 => ?_)
  refine r_dref (fun p2 hp2 => ?_)
  subst hp2
  refine r_cgetIN (c := 11) (kk := 2) hc_X8 rfl (by decide) inU_X8 (by decide) hG uf_X11_69 rfl (by decide) dX11_wipe_4 ?_
  refine r_nm (fun x1_7 => ?_)
  refine r_istore_n (lo2 := [(1, wi x1_7), (0, .ref a0)]) dX11_wipe_7 rfl (by decide) rfl ?_
  refine r_aload_n (x := a0) dX11_wipe_8 rfl rfl ?_
  refine r_cgetR (c := 14) (kk := 3) hc_X11 rfl (by decide) inU_X11 (by decide) uf_X11_31 rfl (by decide) dX11_wipe_9 (fun z3 => ?_)
  refine r_dref (fun p4 hp4 => ?_)
  subst hp4
  refine r_ccVNv (c := 11) (k2 := k_X8_clear) (n := 0) (rest := []) hG um_X11_80 rfl kv_X8_clear hc_X8 (by decide) (c_X8_clear hG _ _) (by decide) rfl (Nat.le_of_ble_eq_true rfl) dX11_wipe_12 rfl (fun r6 C5 => ?_)
  refine r_iload_n (x := x1_7) dX11_wipe_15 rfl rfl ?_
  exact r_iret rfl dX11_wipe_16
def k_X11_work : Kd := (yX11_work, cX11_work, 5, some .int, [])
theorem kv_X11_work : KV k_X11_work 1 := ⟨uw_mem 1371 (by decide +kernel) rfl, uw_mem 161 (by decide +kernel) rfl, uw_mem 1369 (by decide +kernel) rfl, uw_mem 1370 (by decide +kernel) rfl, ⟨by decide +kernel, by decide +kernel⟩, by decide +kernel, by decide +kernel⟩
set_option maxHeartbeats 8000000 in
set_option maxRecDepth 100000 in
theorem c_X11_work {l : Launch} {Γ : Cx} {M0 : Md} (hG : GK Γ l) (a0 : Nat) (a1 : Int) (C : Cd) : Ct l Γ k_X11_work 8 (encX gI) (emC M0) [.ref a0, wi a1] C (fX11_work a0 a1 C) := by
  refine ct_of (by decide +kernel) rfl (Nat.le_of_ble_eq_true rfl) ?_
  refine r_lo [0, 1] (lo2 := [(0, .ref a0), (1, wi a1)]) rfl ?_
  unfold fX11_work
  refine r_iload_n (x := a1) dX11_work_0 rfl rfl ?_
  refine ro_iconst (v := 1) dX11_work_1 rfl ?_
  refine r_join (P := fun (J : Cd → Option ((Int ⊕ Nat) × Cd)) => ∀  (C_10 : Cd), RunO l Γ k_X11_work 8 (encX gI) (emC M0) 10 [] [] C_10 (J C_10)) ?_ (fun J10 hJ10 => ?_)
  · intro C_10
    exact r_throw (e := 0) (text := "not so many") hG rfl rfl (by decide) (by decide) (by decide) (Nat.le_of_ble_eq_true rfl) dX11_work_10 dX11_work_13 dX11_work_14 dX11_work_16 dX11_work_19
  refine r_icmp_lt (tgt := 10) dX11_work_2 (by decide) ?_ ?_
  · refine r_lo [] (lo2 := []) rfl ?_
    exact hJ10  C
  · refine r_iload_n (x := a1) dX11_work_5 rfl rfl ?_
    refine ro_iconst (v := 4) dX11_work_6 rfl ?_
    refine r_icmp_le (tgt := 20) dX11_work_7 (by decide) ?_ ?_
    · refine ro_iconst (v := 0) dX11_work_20 rfl ?_
      refine r_istore_n (lo2 := [(2, wi 0), (0, .ref a0), (1, wi a1)]) dX11_work_21 rfl (by decide) rfl ?_
      refine ro_iconst (v := 0) dX11_work_22 rfl ?_
      refine r_istore_n (lo2 := [(3, wi 0), (2, wi 0), (0, .ref a0), (1, wi a1)]) dX11_work_23 rfl (by decide) rfl ?_
      refine r_loop (P := fun (J : Int → Int → Cd → Option ((Int ⊕ Nat) × Cd)) => ∀ (v2_24 : Int) (v3_24 : Int) (C_24 : Cd), RunO l Γ k_X11_work 8 (encX gI) (emC M0) 24 [(0, .ref a0), (1, wi a1), (2, wi v2_24), (3, wi v3_24)] [] C_24 (J v2_24 v3_24 C_24)) ?_ (fun L24 hL24 => ?_) (fun J24 hJ24 => ?_)
      · intros; exact ro_none
      · intro v2_24 v3_24 C_24
        refine r_iload_n (x := v3_24) dX11_work_24 rfl rfl ?_
        refine r_iload_n (x := a1) dX11_work_25 rfl rfl ?_
        refine r_join (P := fun (J : Cd → Option ((Int ⊕ Nat) × Cd)) => ∀  (C_66 : Cd), RunO l Γ k_X11_work 8 (encX gI) (emC M0) 66 [(2, wi v2_24)] [] C_66 (J C_66)) ?_ (fun J66 hJ66 => ?_)
        · intro C_66
          refine r_iload_n (x := v2_24) dX11_work_66 rfl rfl ?_
          exact r_iretX rfl dX11_work_67
        refine r_icmp_ge (tgt := 66) dX11_work_26 (by decide) ?_ ?_
        · refine r_lo [2] (lo2 := [(2, wi v2_24)]) rfl ?_
          exact hJ66  C_24
        · refine r_aload_n (x := a0) dX11_work_29 rfl rfl ?_
          refine r_ccVi (c := 14) (k2 := k_X11_firstInQueue) (n := 0) (rest := []) um_X11_253 rfl kv_X11_firstInQueue hc_X11 (by decide) (c_X11_firstInQueue hG _ _) (by decide) rfl (Nat.le_of_ble_eq_true rfl) dX11_work_30 rfl (fun r2 C1 => ?_)
          refine r_istore (lo2 := [(4, wi r2), (0, .ref a0), (1, wi a1), (2, wi v2_24), (3, wi v3_24)]) dX11_work_33 (by decide) rfl ?_
          refine r_iload (x := r2) dX11_work_35 rfl ?_
          refine ro_iconst (v := (-1)) dX11_work_37 rfl ?_
          refine r_icmp_ne (tgt := 44) dX11_work_38 (by decide) ?_ ?_
          · refine r_aload_n (x := a0) dX11_work_44 rfl rfl ?_
            refine r_iload (x := r2) dX11_work_45 rfl ?_
            refine r_aload_n (x := a0) dX11_work_47 rfl rfl ?_
            refine r_cgetR (c := 14) (kk := 1) hc_X11 rfl (by decide) inU_X11 (by decide) uf_X11_20 rfl (by decide) dX11_work_48 (fun z3 => ?_)
            refine r_iload (x := r2) dX11_work_51 rfl ?_
            refine r_dref (fun p4 hp4 => ?_)
            subst hp4
            refine r_caald (t := 102) rfl (by decide) (by decide) dX11_work_53 (fun z5 => ?_)
            refine r_ccVv (c := 14) (k2 := k_X11_render) (n := 2) (rest := []) um_X11_256 rfl kv_X11_render hc_X11 (by decide) (c_X11_render hG _ _ _ _) (by decide) rfl (Nat.le_of_ble_eq_true rfl) dX11_work_54 rfl (fun r7 C6 => ?_)
            refine r_iinc (x := v2_24) (lo2 := [(2, wi (v2_24 + 1)), (4, wi r2), (0, .ref a0), (1, wi a1), (3, wi v3_24)]) dX11_work_57 rfl (by decide) rfl ?_
            refine r_iinc (x := v3_24) (lo2 := [(3, wi (v3_24 + 1)), (2, wi (v2_24 + 1)), (4, wi r2), (0, .ref a0), (1, wi a1)]) dX11_work_60 rfl (by decide) rfl ?_
            refine r_goto (tgt := 24) dX11_work_63 (by decide) ?_
            refine r_lo [3, 4, 1, 0] (lo2 := [(0, .ref a0), (1, wi a1), (2, wi (v2_24 + 1)), (3, wi (v3_24 + 1))]) rfl ?_
            exact hL24 (v2_24 + 1) (v3_24 + 1) C6
          · refine r_goto (tgt := 66) dX11_work_41 (by decide) ?_
            refine r_lo [3] (lo2 := [(2, wi v2_24)]) rfl ?_
            exact hJ66  C1
      refine r_lo [2, 3, 1, 0] (lo2 := [(0, .ref a0), (1, wi a1), (2, wi 0), (3, wi 0)]) rfl ?_
      exact hJ24 0 0 C
    · refine r_lo [] (lo2 := []) rfl ?_
      exact hJ10  C
