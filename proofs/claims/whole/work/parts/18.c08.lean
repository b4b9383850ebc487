def k_X11_pagesLeadingInto : Kd := (yX11_pagesLeadingInto, cX11_pagesLeadingInto, 5, some .int, [])
theorem kv_X11_pagesLeadingInto : KV k_X11_pagesLeadingInto 1 := ⟨uw_mem 1271 (by decide +kernel) rfl, uw_mem 161 (by decide +kernel) rfl, uw_mem 1270 (by decide +kernel) rfl, uw_mem 49 (by decide +kernel) rfl, ⟨by decide +kernel, by decide +kernel⟩, by decide +kernel, by decide +kernel⟩
set_option maxHeartbeats 8000000 in
set_option maxRecDepth 100000 in
theorem c_X11_pagesLeadingInto {l : Launch} {Γ : Cx} {M0 : Md} (hG : GK Γ l) (a0 : Nat) (a1 : Int) (C : Cd) : Ct l Γ k_X11_pagesLeadingInto 4 encI (emC M0) [.ref a0, wi a1] C (fX11_pagesLeadingInto a0 a1 C) := by
  refine ct_of (by decide +kernel) rfl (Nat.le_of_ble_eq_true rfl) ?_
  refine r_lo [0, 1] (lo2 := [(0, .ref a0), (1, wi a1)]) rfl ?_
  unfold fX11_pagesLeadingInto
  refine ro_iconst (v := 0) dX11_pagesLeadingInto_0 rfl ?_
  refine r_istore_n (lo2 := [(2, wi 0), (0, .ref a0), (1, wi a1)]) dX11_pagesLeadingInto_1 rfl (by decide) rfl ?_
  refine ro_iconst (v := 0) dX11_pagesLeadingInto_2 rfl ?_
  refine r_istore_n (lo2 := [(3, wi 0), (2, wi 0), (0, .ref a0), (1, wi a1)]) dX11_pagesLeadingInto_3 rfl (by decide) rfl ?_
  refine r_loop (P := fun (J : Int → Int → Cd → Option (Int × Cd)) => ∀ (v2_4 : Int) (v3_4 : Int) (C_4 : Cd), RunO l Γ k_X11_pagesLeadingInto 4 encI (emC M0) 4 [(0, .ref a0), (1, wi a1), (2, wi v2_4), (3, wi v3_4)] [] C_4 (J v2_4 v3_4 C_4)) ?_ (fun L4 hL4 => ?_) (fun J4 hJ4 => ?_)
  · intros; exact ro_none
  · intro v2_4 v3_4 C_4
    refine r_iload_n (x := v3_4) dX11_pagesLeadingInto_4 rfl rfl ?_
    refine r_aload_n (x := a0) dX11_pagesLeadingInto_5 rfl rfl ?_
    refine r_cgetR (c := 14) (kk := 1) hc_X11 rfl (by decide) inU_X11 (by decide) uf_X11_20 rfl (by decide) dX11_pagesLeadingInto_6 (fun z1 => ?_)
    refine r_dref (fun p2 hp2 => ?_)
    subst hp2
    refine r_calen (t := 102) rfl (by decide) dX11_pagesLeadingInto_9 ?_
    refine r_icmp_ge (tgt := 53) dX11_pagesLeadingInto_10 (by decide) ?_ ?_
    · refine r_iload_n (x := v2_4) dX11_pagesLeadingInto_53 rfl rfl ?_
      exact r_iret rfl dX11_pagesLeadingInto_54
    · refine r_aload_n (x := a0) dX11_pagesLeadingInto_13 rfl rfl ?_
      refine r_cgetR (c := 14) (kk := 1) hc_X11 rfl (by decide) inU_X11 (by decide) uf_X11_20 rfl (by decide) dX11_pagesLeadingInto_14 (fun z3 => ?_)
      refine r_iload_n (x := v3_4) dX11_pagesLeadingInto_17 rfl rfl ?_
      refine r_dref (fun p4 hp4 => ?_)
      subst hp4
      refine r_caald (t := 102) rfl (by decide) (by decide) dX11_pagesLeadingInto_18 (fun z5 => ?_)
      refine r_dref (fun p6 hp6 => ?_)
      subst hp6
      refine r_cgetRN (c := 12) (kk := 3) hc_X9 rfl (by decide) inU_X9 (by decide) hG uf_X11_102 rfl (by decide) dX11_pagesLeadingInto_19 (fun z7 => ?_)
      refine r_astoreq (lo2 := [(4, va_rf z7), (0, .ref a0), (1, wi a1), (2, wi v2_4), (3, wi v3_4)]) dX11_pagesLeadingInto_22 (by decide) rfl ?_
      refine r_aloadq (x := z7) dX11_pagesLeadingInto_24 rfl ?_
      refine r_join (P := fun (J : Int → Cd → Option (Int × Cd)) => ∀ (v2_47 : Int) (C_47 : Cd), RunO l Γ k_X11_pagesLeadingInto 4 encI (emC M0) 47 [(0, .ref a0), (1, wi a1), (2, wi v2_47), (3, wi v3_4)] [] C_47 (J v2_47 C_47)) ?_ (fun J47 hJ47 => ?_)
      · intro v2_47 C_47
        refine r_iinc (x := v3_4) (lo2 := [(3, wi (v3_4 + 1)), (0, .ref a0), (1, wi a1), (2, wi v2_47)]) dX11_pagesLeadingInto_47 rfl (by decide) rfl ?_
        refine r_goto (tgt := 4) dX11_pagesLeadingInto_50 (by decide) ?_
        refine r_lo [1, 2, 3, 0] (lo2 := [(0, .ref a0), (1, wi a1), (2, wi v2_47), (3, wi (v3_4 + 1))]) rfl ?_
        exact hL4 v2_47 (v3_4 + 1) C_47
      refine r_opt (fun hn => ?_) (fun p8 hp8 => ?_)
      · subst hn
        refine r_ifnullN (tgt := 47) dX11_pagesLeadingInto_26 (by decide) ?_
        refine r_lo [1, 2, 3, 4] (lo2 := [(0, .ref a0), (1, wi a1), (2, wi v2_4), (3, wi v3_4)]) rfl ?_
        exact hJ47 v2_4 C_4
      · subst hp8
        refine r_ifnullS (a := p8) dX11_pagesLeadingInto_26 ?_
        refine r_aload (x := p8) dX11_pagesLeadingInto_29 rfl ?_
        refine r_cgetRN (c := 6) (kk := 1) hc_X3 rfl (by decide) inU_X3 (by decide) hG uf_X11_148 rfl (by decide) dX11_pagesLeadingInto_31 (fun z9 => ?_)
        refine r_dref (fun p10 hp10 => ?_)
        subst hp10
        refine r_cgetRN (c := 13) (kk := 2) hc_X10 rfl (by decide) inU_X10 (by decide) hG uf_X11_130 rfl (by decide) dX11_pagesLeadingInto_34 (fun z11 => ?_)
        refine r_iload_n (x := a1) dX11_pagesLeadingInto_37 rfl rfl ?_
        refine r_dref (fun p12 hp12 => ?_)
        subst hp12
        refine r_ccVNi (c := 11) (k2 := k_X8_leadsInto_) (n := 1) (rest := []) hG um_X11_202 rfl kv_X8_leadsInto_ hc_X8 (by decide) (c_X8_leadsInto_ hG _ _ _) (by decide) rfl (Nat.le_of_ble_eq_true rfl) dX11_pagesLeadingInto_38 rfl (fun r14 C13 => ?_)
        refine r_if_eq (tgt := 47) dX11_pagesLeadingInto_41 (by decide) ?_ ?_
        · refine r_lo [1, 2, 3, 4] (lo2 := [(0, .ref a0), (1, wi a1), (2, wi v2_4), (3, wi v3_4)]) rfl ?_
          exact hJ47 v2_4 C13
        · refine r_iinc (x := v2_4) (lo2 := [(2, wi (v2_4 + 1)), (4, .ref p8), (0, .ref a0), (1, wi a1), (3, wi v3_4)]) dX11_pagesLeadingInto_44 rfl (by decide) rfl ?_
          refine r_lo [2, 3, 0, 4] (lo2 := [(0, .ref a0), (1, wi a1), (2, wi (v2_4 + 1)), (3, wi v3_4)]) rfl ?_
          exact hJ47 (v2_4 + 1) C13
  refine r_lo [2, 3, 1, 0] (lo2 := [(0, .ref a0), (1, wi a1), (2, wi 0), (3, wi 0)]) rfl ?_
  exact hJ4 0 0 C
def k_X11_moveTree : Kd := (yX11_moveTree, cX11_moveTree, 8, some .int, [])
theorem kv_X11_moveTree : KV k_X11_moveTree 2 := ⟨uw_mem 1262 (by decide +kernel) rfl, uw_mem 161 (by decide +kernel) rfl, uw_mem 1260 (by decide +kernel) rfl, uw_mem 1261 (by decide +kernel) rfl, ⟨by decide +kernel, by decide +kernel⟩, by decide +kernel, by decide +kernel⟩
set_option maxHeartbeats 8000000 in
set_option maxRecDepth 100000 in
theorem c_X11_moveTree {l : Launch} {Γ : Cx} {M0 : Md} (hG : GK Γ l) (a0 : Nat) (a1 : Int) (a2 : Int) (C : Cd) : Ct l Γ k_X11_moveTree 12 (encX gI) (emC M0) [.ref a0, wi a1, wi a2] C (fX11_moveTree a0 a1 a2 C) := by
  refine ct_of (by decide +kernel) rfl (Nat.le_of_ble_eq_true rfl) ?_
  refine r_lo [0, 1, 2] (lo2 := [(0, .ref a0), (1, wi a1), (2, wi a2)]) rfl ?_
  unfold fX11_moveTree
  refine r_iload_n (x := a1) dX11_moveTree_0 rfl rfl ?_
  refine r_join (P := fun (J : Cd → Option ((Int ⊕ Nat) × Cd)) => ∀  (C_20 : Cd), RunO l Γ k_X11_moveTree 12 (encX gI) (emC M0) 20 [] [] C_20 (J C_20)) ?_ (fun J20 hJ20 => ?_)
  · intro C_20
    exact r_throw (e := 2) (text := "no such tree") hG rfl rfl (by decide) (by decide) (by decide) (Nat.le_of_ble_eq_true rfl) dX11_moveTree_20 dX11_moveTree_23 dX11_moveTree_24 dX11_moveTree_26 dX11_moveTree_29
  refine r_if_lt (tgt := 20) dX11_moveTree_1 (by decide) ?_ ?_
  · refine r_lo [] (lo2 := []) rfl ?_
    exact hJ20  C
  · refine r_iload_n (x := a1) dX11_moveTree_4 rfl rfl ?_
    refine r_bipush (v := 6) dX11_moveTree_5 rfl ?_
    refine r_icmp_ge (tgt := 20) dX11_moveTree_7 (by decide) ?_ ?_
    · refine r_lo [] (lo2 := []) rfl ?_
      exact hJ20  C
    · refine r_iload_n (x := a2) dX11_moveTree_10 rfl rfl ?_
      refine r_if_lt (tgt := 20) dX11_moveTree_11 (by decide) ?_ ?_
      · refine r_lo [] (lo2 := []) rfl ?_
        exact hJ20  C
      · refine r_iload_n (x := a2) dX11_moveTree_14 rfl rfl ?_
        refine r_bipush (v := 6) dX11_moveTree_15 rfl ?_
        refine r_icmp_lt (tgt := 30) dX11_moveTree_17 (by decide) ?_ ?_
        · refine r_aload_n (x := a0) dX11_moveTree_30 rfl rfl ?_
          refine r_iload_n (x := a1) dX11_moveTree_31 rfl rfl ?_
          refine r_ccVi (c := 14) (k2 := k_X11_pagesOfTree) (n := 1) (rest := []) um_X11_188 rfl kv_X11_pagesOfTree hc_X11 (by decide) (c_X11_pagesOfTree hG _ _ _) (by decide) rfl (Nat.le_of_ble_eq_true rfl) dX11_moveTree_32 rfl (fun r2 C1 => ?_)
          refine r_istore_n (lo2 := [(3, wi r2), (0, .ref a0), (1, wi a1), (2, wi a2)]) dX11_moveTree_35 rfl (by decide) rfl ?_
          refine r_aload_n (x := a0) dX11_moveTree_36 rfl rfl ?_
          refine r_iload_n (x := r2) dX11_moveTree_37 rfl rfl ?_
          refine r_ccVi (c := 14) (k2 := k_X11_pagesLeadingInto) (n := 1) (rest := []) um_X11_191 rfl kv_X11_pagesLeadingInto hc_X11 (by decide) (c_X11_pagesLeadingInto hG _ _ _) (by decide) rfl (Nat.le_of_ble_eq_true rfl) dX11_moveTree_38 rfl (fun r4 C3 => ?_)
          refine r_istore (lo2 := [(4, wi r4), (3, wi r2), (0, .ref a0), (1, wi a1), (2, wi a2)]) dX11_moveTree_41 (by decide) rfl ?_
          refine r_iload_n (x := r2) dX11_moveTree_43 rfl rfl ?_
          refine r_join (P := fun (J : Cd → Option ((Int ⊕ Nat) × Cd)) => ∀  (C_83 : Cd), RunO l Γ k_X11_moveTree 12 (encX gI) (emC M0) 83 [] [] C_83 (J C_83)) ?_ (fun J83 hJ83 => ?_)
          · intro C_83
            exact r_throw (e := 1) (text := "it cannot be moved") hG rfl rfl (by decide) (by decide) (by decide) (Nat.le_of_ble_eq_true rfl) dX11_moveTree_83 dX11_moveTree_86 dX11_moveTree_87 dX11_moveTree_89 dX11_moveTree_92
          refine r_if_eq (tgt := 83) dX11_moveTree_44 (by decide) ?_ ?_
          · refine r_lo [] (lo2 := []) rfl ?_
            exact hJ83  C3
          · refine r_aload_n (x := a0) dX11_moveTree_47 rfl rfl ?_
            refine r_iload_n (x := a2) dX11_moveTree_48 rfl rfl ?_
            refine r_ccVi (c := 14) (k2 := k_X11_pagesOfTree) (n := 1) (rest := []) um_X11_188 rfl kv_X11_pagesOfTree hc_X11 (by decide) (c_X11_pagesOfTree hG _ _ _) (by decide) rfl (Nat.le_of_ble_eq_true rfl) dX11_moveTree_49 rfl (fun r6 C5 => ?_)
            refine r_if_ne (tgt := 83) dX11_moveTree_52 (by decide) ?_ ?_
            · refine r_lo [] (lo2 := []) rfl ?_
              exact hJ83  C5
            · refine r_aload_n (x := a0) dX11_moveTree_55 rfl rfl ?_
              refine r_iload_n (x := a1) dX11_moveTree_56 rfl rfl ?_
              refine r_ccVi (c := 14) (k2 := k_X11_mayActInTree) (n := 1) (rest := []) um_X11_194 rfl kv_X11_mayActInTree hc_X11 (by decide) (c_X11_mayActInTree hG _ _ _) (by decide) rfl (Nat.le_of_ble_eq_true rfl) dX11_moveTree_57 rfl (fun r8 C7 => ?_)
              refine r_if_eq (tgt := 83) dX11_moveTree_60 (by decide) ?_ ?_
              · refine r_lo [] (lo2 := []) rfl ?_
                exact hJ83  C7
              · refine r_aload_n (x := a0) dX11_moveTree_63 rfl rfl ?_
                refine r_iload_n (x := a2) dX11_moveTree_64 rfl rfl ?_
                refine r_ccVi (c := 14) (k2 := k_X11_mayActInTree) (n := 1) (rest := []) um_X11_194 rfl kv_X11_mayActInTree hc_X11 (by decide) (c_X11_mayActInTree hG _ _ _) (by decide) rfl (Nat.le_of_ble_eq_true rfl) dX11_moveTree_65 rfl (fun r10 C9 => ?_)
                refine r_if_eq (tgt := 83) dX11_moveTree_68 (by decide) ?_ ?_
                · refine r_lo [] (lo2 := []) rfl ?_
                  exact hJ83  C9
                · refine r_aload_n (x := a0) dX11_moveTree_71 rfl rfl ?_
                  refine r_cgetI (c := 14) (kk := 7) hc_X11 rfl (by decide) inU_X11 (by decide) uf_X11_45 rfl (by decide) dX11_moveTree_72 ?_
                  refine r_iload (x := r4) dX11_moveTree_75 rfl ?_
                  refine r_iadd dX11_moveTree_77 ?_
                  refine r_bipush (v := 120) dX11_moveTree_78 rfl ?_
                  refine r_icmp_le (tgt := 93) dX11_moveTree_80 (by decide) ?_ ?_
                  · refine r_iload_n (x := a2) dX11_moveTree_93 rfl rfl ?_
                    refine r_iload_n (x := a1) dX11_moveTree_94 rfl rfl ?_
                    refine r_isub dX11_moveTree_95 ?_
                    refine ro_iconst (v := 4) dX11_moveTree_96 rfl ?_
                    refine r_imul dX11_moveTree_97 ?_
                    refine r_nm (fun x5_98 => ?_)
                    refine r_istore (lo2 := [(5, wi x5_98), (4, wi r4), (3, wi r2), (0, .ref a0), (1, wi a1), (2, wi a2)]) dX11_moveTree_98 (by decide) rfl ?_
                    refine ro_iconst (v := 0) dX11_moveTree_100 rfl ?_
                    refine r_istore (lo2 := [(6, wi 0), (5, wi x5_98), (4, wi r4), (3, wi r2), (0, .ref a0), (1, wi a1), (2, wi a2)]) dX11_moveTree_101 (by decide) rfl ?_
                    refine r_loop (P := fun (J : Int → Cd → Option ((Int ⊕ Nat) × Cd)) => ∀ (v6_103 : Int) (C_103 : Cd), RunO l Γ k_X11_moveTree 12 (encX gI) (emC M0) 103 [(0, .ref a0), (3, wi r2), (4, wi r4), (5, wi x5_98), (6, wi v6_103)] [] C_103 (J v6_103 C_103)) ?_ (fun L103 hL103 => ?_) (fun J103 hJ103 => ?_)
                    · intros; exact ro_none
                    · intro v6_103 C_103
                      refine r_iload (x := v6_103) dX11_moveTree_103 rfl ?_
                      refine r_aload_n (x := a0) dX11_moveTree_105 rfl rfl ?_
                      refine r_cgetR (c := 14) (kk := 1) hc_X11 rfl (by decide) inU_X11 (by decide) uf_X11_20 rfl (by decide) dX11_moveTree_106 (fun z11 => ?_)
                      refine r_dref (fun p12 hp12 => ?_)
                      subst hp12
                      refine r_calen (t := 102) rfl (by decide) dX11_moveTree_109 ?_
                      refine r_icmp_ge (tgt := 139) dX11_moveTree_110 (by decide) ?_ ?_
                      · refine ro_iconst (v := 0) dX11_moveTree_139 rfl ?_
                        refine r_istore (lo2 := [(6, wi 0), (0, .ref a0), (3, wi r2), (4, wi r4), (5, wi x5_98)]) dX11_moveTree_140 (by decide) rfl ?_
                        refine r_loop (P := fun (J : Int → Cd → Option ((Int ⊕ Nat) × Cd)) => ∀ (v6_142 : Int) (C_142 : Cd), RunO l Γ k_X11_moveTree 12 (encX gI) (emC M0) 142 [(0, .ref a0), (3, wi r2), (4, wi r4), (5, wi x5_98), (6, wi v6_142)] [] C_142 (J v6_142 C_142)) ?_ (fun L142 hL142 => ?_) (fun J142 hJ142 => ?_)
                        · intros; exact ro_none
                        · intro v6_142 C_142
                          refine r_iload (x := v6_142) dX11_moveTree_142 rfl ?_
                          refine r_aload_n (x := a0) dX11_moveTree_144 rfl rfl ?_
                          refine r_cgetR (c := 14) (kk := 1) hc_X11 rfl (by decide) inU_X11 (by decide) uf_X11_20 rfl (by decide) dX11_moveTree_145 (fun z13 => ?_)
                          refine r_dref (fun p14 hp14 => ?_)
                          subst hp14
                          refine r_calen (t := 102) rfl (by decide) dX11_moveTree_148 ?_
                          refine r_icmp_ge (tgt := 221) dX11_moveTree_149 (by decide) ?_ ?_
                          · refine r_iload (x := r4) dX11_moveTree_221 rfl ?_
                            exact r_iretX rfl dX11_moveTree_223
                          · refine r_aload_n (x := a0) dX11_moveTree_152 rfl rfl ?_
                            refine r_cgetR (c := 14) (kk := 1) hc_X11 rfl (by decide) inU_X11 (by decide) uf_X11_20 rfl (by decide) dX11_moveTree_153 (fun z15 => ?_)
                            refine r_iload (x := v6_142) dX11_moveTree_156 rfl ?_
                            refine r_dref (fun p16 hp16 => ?_)
                            subst hp16
                            refine r_caald (t := 102) rfl (by decide) (by decide) dX11_moveTree_158 (fun z17 => ?_)
                            refine r_dref (fun p18 hp18 => ?_)
                            subst hp18
                            refine r_cgetRN (c := 12) (kk := 3) hc_X9 rfl (by decide) inU_X9 (by decide) hG uf_X11_102 rfl (by decide) dX11_moveTree_159 (fun z19 => ?_)
                            refine r_astoreq (lo2 := [(7, va_rf z19), (0, .ref a0), (3, wi r2), (4, wi r4), (5, wi x5_98), (6, wi v6_142)]) dX11_moveTree_162 (by decide) rfl ?_
                            refine r_aloadq (x := z19) dX11_moveTree_164 rfl ?_
                            refine r_join (P := fun (J : Cd → Option ((Int ⊕ Nat) × Cd)) => ∀  (C_215 : Cd), RunO l Γ k_X11_moveTree 12 (encX gI) (emC M0) 215 [(0, .ref a0), (3, wi r2), (4, wi r4), (5, wi x5_98), (6, wi v6_142)] [] C_215 (J C_215)) ?_ (fun J215 hJ215 => ?_)
                            · intro C_215
                              refine r_iinc (x := v6_142) (lo2 := [(6, wi (v6_142 + 1)), (0, .ref a0), (3, wi r2), (4, wi r4), (5, wi x5_98)]) dX11_moveTree_215 rfl (by decide) rfl ?_
                              refine r_goto (tgt := 142) dX11_moveTree_218 (by decide) ?_
                              refine r_lo [1, 2, 3, 4, 0] (lo2 := [(0, .ref a0), (3, wi r2), (4, wi r4), (5, wi x5_98), (6, wi (v6_142 + 1))]) rfl ?_
                              exact hL142 (v6_142 + 1) C_215
                            refine r_opt (fun hn => ?_) (fun p20 hp20 => ?_)
                            · subst hn
                              refine r_ifnullN (tgt := 215) dX11_moveTree_166 (by decide) ?_
                              refine r_lo [1, 2, 3, 4, 5] (lo2 := [(0, .ref a0), (3, wi r2), (4, wi r4), (5, wi x5_98), (6, wi v6_142)]) rfl ?_
                              exact hJ215  C_142
                            · subst hp20
                              refine r_ifnullS (a := p20) dX11_moveTree_166 ?_
                              refine r_aload (x := p20) dX11_moveTree_169 rfl ?_
                              refine r_cgetRN (c := 6) (kk := 1) hc_X3 rfl (by decide) inU_X3 (by decide) hG uf_X11_148 rfl (by decide) dX11_moveTree_171 (fun z21 => ?_)
                              refine r_dref (fun p22 hp22 => ?_)
                              subst hp22
                              refine r_cgetRN (c := 13) (kk := 2) hc_X10 rfl (by decide) inU_X10 (by decide) hG uf_X11_130 rfl (by decide) dX11_moveTree_174 (fun z23 => ?_)
                              refine r_iload_n (x := r2) dX11_moveTree_177 rfl rfl ?_
                              refine r_dref (fun p24 hp24 => ?_)
                              subst hp24
                              refine r_ccVNi (c := 11) (k2 := k_X8_leadsInto_) (n := 1) (rest := []) hG um_X11_202 rfl kv_X8_leadsInto_ hc_X8 (by decide) (c_X8_leadsInto_ hG _ _ _) (by decide) rfl (Nat.le_of_ble_eq_true rfl) dX11_moveTree_178 rfl (fun r26 C25 => ?_)
                              refine r_if_eq (tgt := 215) dX11_moveTree_181 (by decide) ?_ ?_
                              · refine r_lo [1, 2, 3, 4, 5] (lo2 := [(0, .ref a0), (3, wi r2), (4, wi r4), (5, wi x5_98), (6, wi v6_142)]) rfl ?_
                                exact hJ215  C25
                              · refine r_aload (x := p20) dX11_moveTree_184 rfl ?_
                                refine r_cgetRN (c := 6) (kk := 1) hc_X3 rfl (by decide) inU_X3 (by decide) hG uf_X11_148 rfl (by decide) dX11_moveTree_186 (fun z27 => ?_)
                                refine r_dref (fun p28 hp28 => ?_)
                                subst hp28
                                refine r_cgetRN (c := 13) (kk := 2) hc_X10 rfl (by decide) inU_X10 (by decide) hG uf_X11_130 rfl (by decide) dX11_moveTree_189 (fun z29 => ?_)
                                refine r_iload_n (x := r2) dX11_moveTree_192 rfl rfl ?_
                                refine r_iload (x := x5_98) dX11_moveTree_193 rfl ?_
                                refine r_aload_n (x := a0) dX11_moveTree_195 rfl rfl ?_
                                refine r_cgetR (c := 14) (kk := 5) hc_X11 rfl (by decide) inU_X11 (by decide) uf_X11_38 rfl (by decide) dX11_moveTree_196 (fun z30 => ?_)
                                refine r_dref (fun p31 hp31 => ?_)
                                subst hp31
                                refine r_ccVNv (c := 11) (k2 := k_X8_writeLeadingOn) (n := 3) (rest := []) hG um_X11_205 rfl kv_X8_writeLeadingOn hc_X8 (by decide) (c_X8_writeLeadingOn hG _ _ _ _ _) (by decide) rfl (Nat.le_of_ble_eq_true rfl) dX11_moveTree_199 rfl (fun r33 C32 => ?_)
                                refine r_aload_n (x := a0) dX11_moveTree_202 rfl rfl ?_
                                refine r_iload (x := v6_142) dX11_moveTree_203 rfl ?_
                                refine r_aload (x := p20) dX11_moveTree_205 rfl ?_
                                refine r_aload_n (x := a0) dX11_moveTree_207 rfl rfl ?_
                                refine r_cgetR (c := 14) (kk := 5) hc_X11 rfl (by decide) inU_X11 (by decide) uf_X11_38 rfl (by decide) dX11_moveTree_208 (fun z34 => ?_)
                                refine r_ccVi (c := 14) (k2 := k_X11_addNextVersion) (n := 3) (rest := []) um_X11_162 rfl kv_X11_addNextVersion hc_X11 (by decide) (c_X11_addNextVersion hG _ _ _ _ _) (by decide) rfl (Nat.le_of_ble_eq_true rfl) dX11_moveTree_211 rfl (fun r36 C35 => ?_)
                                refine r_pop dX11_moveTree_214 rfl ?_
                                refine r_lo [1, 2, 3, 4, 5] (lo2 := [(0, .ref a0), (3, wi r2), (4, wi r4), (5, wi x5_98), (6, wi v6_142)]) rfl ?_
                                exact hJ215  C35
                        refine r_lo [1, 2, 3, 4, 0] (lo2 := [(0, .ref a0), (3, wi r2), (4, wi r4), (5, wi x5_98), (6, wi 0)]) rfl ?_
                        exact hJ142 0 C_103
                      · refine r_iload_n (x := r2) dX11_moveTree_113 rfl rfl ?_
                        refine r_iload (x := v6_103) dX11_moveTree_114 rfl ?_
                        refine r_ccSi (k2 := k_X11_has) (n := 2) (rest := []) um_X11_198 rfl kv_X11_has (c_X11_has hG _ _ _) (by decide) rfl (Nat.le_of_ble_eq_true rfl) dX11_moveTree_116 rfl (fun r38 C37 => ?_)
                        refine r_join (P := fun (J : Cd → Option ((Int ⊕ Nat) × Cd)) => ∀  (C_133 : Cd), RunO l Γ k_X11_moveTree 12 (encX gI) (emC M0) 133 [(0, .ref a0), (3, wi r2), (4, wi r4), (5, wi x5_98), (6, wi v6_103)] [] C_133 (J C_133)) ?_ (fun J133 hJ133 => ?_)
                        · intro C_133
                          refine r_iinc (x := v6_103) (lo2 := [(6, wi (v6_103 + 1)), (0, .ref a0), (3, wi r2), (4, wi r4), (5, wi x5_98)]) dX11_moveTree_133 rfl (by decide) rfl ?_
                          refine r_goto (tgt := 103) dX11_moveTree_136 (by decide) ?_
                          refine r_lo [1, 2, 3, 4, 0] (lo2 := [(0, .ref a0), (3, wi r2), (4, wi r4), (5, wi x5_98), (6, wi (v6_103 + 1))]) rfl ?_
                          exact hL103 (v6_103 + 1) C_133
                        refine r_if_eq (tgt := 133) dX11_moveTree_119 (by decide) ?_ ?_
                        · exact hJ133  C37
                        · refine r_aload_n (x := a0) dX11_moveTree_122 rfl rfl ?_
                          refine r_iload (x := v6_103) dX11_moveTree_123 rfl ?_
                          refine r_iload (x := v6_103) dX11_moveTree_125 rfl ?_
                          refine r_iload (x := x5_98) dX11_moveTree_127 rfl ?_
                          refine r_iadd dX11_moveTree_129 ?_
                          refine r_cxV (c := 14) (h := gV) (k2 := k_X11_bringOver) (n := 2) (rest := []) um_X11_182 rfl kv_X11_bringOver hc_X11 (by decide) (c_X11_bringOver hG _ _ _ _) (by decide) rfl (Nat.le_of_ble_eq_true rfl) dX11_moveTree_130 rfl (fun r40 C39 => ?_)
                          show RunO l Γ k_X11_moveTree 12 (encX gI) (emC M0) 133 [(0, .ref a0), (3, wi r2), (4, wi r4), (5, wi x5_98), (6, wi v6_103)] [] C39 _
                          exact hJ133  C39
                    refine r_lo [4, 3, 2, 1, 0] (lo2 := [(0, .ref a0), (3, wi r2), (4, wi r4), (5, wi x5_98), (6, wi 0)]) rfl ?_
                    exact hJ103 0 C9
                  · refine r_lo [] (lo2 := []) rfl ?_
                    exact hJ83  C9
        · refine r_lo [] (lo2 := []) rfl ?_
          exact hJ20  C
def k_X11_wantedTitles : Kd := (yX11_wantedTitles, cX11_wantedTitles, 3, some .int, [])
theorem kv_X11_wantedTitles : KV k_X11_wantedTitles 0 := ⟨uw_mem 517 (by decide +kernel) rfl, uw_mem 161 (by decide +kernel) rfl, uw_mem 516 (by decide +kernel) rfl, uw_mem 2 (by decide +kernel) rfl, ⟨by decide +kernel, by decide +kernel⟩, by decide +kernel, by decide +kernel⟩
set_option maxHeartbeats 8000000 in
set_option maxRecDepth 100000 in
theorem c_X11_wantedTitles {l : Launch} {Γ : Cx} {M0 : Md} (hG : GK Γ l) (a0 : Nat) (C : Cd) : Ct l Γ k_X11_wantedTitles 3 encI (emC M0) [.ref a0] C (fX11_wantedTitles a0 C) := by
  refine ct_of (by decide +kernel) rfl (Nat.le_of_ble_eq_true rfl) ?_
  refine r_lo [0] (lo2 := [(0, .ref a0)]) rfl ?_
  unfold fX11_wantedTitles
  refine ro_iconst (v := 0) dX11_wantedTitles_0 rfl ?_
  refine r_istore_n (lo2 := [(1, wi 0), (0, .ref a0)]) dX11_wantedTitles_1 rfl (by decide) rfl ?_
  refine ro_iconst (v := 0) dX11_wantedTitles_2 rfl ?_
  refine r_istore_n (lo2 := [(2, wi 0), (1, wi 0), (0, .ref a0)]) dX11_wantedTitles_3 rfl (by decide) rfl ?_
  refine r_loop (P := fun (J : Int → Int → Cd → Option (Int × Cd)) => ∀ (v1_4 : Int) (v2_4 : Int) (C_4 : Cd), RunO l Γ k_X11_wantedTitles 3 encI (emC M0) 4 [(0, .ref a0), (1, wi v1_4), (2, wi v2_4)] [] C_4 (J v1_4 v2_4 C_4)) ?_ (fun L4 hL4 => ?_) (fun J4 hJ4 => ?_)
  · intros; exact ro_none
  · intro v1_4 v2_4 C_4
    refine r_iload_n (x := v2_4) dX11_wantedTitles_4 rfl rfl ?_
    refine r_aload_n (x := a0) dX11_wantedTitles_5 rfl rfl ?_
    refine r_cgetR (c := 14) (kk := 1) hc_X11 rfl (by decide) inU_X11 (by decide) uf_X11_20 rfl (by decide) dX11_wantedTitles_6 (fun z1 => ?_)
    refine r_dref (fun p2 hp2 => ?_)
    subst hp2
    refine r_calen (t := 102) rfl (by decide) dX11_wantedTitles_9 ?_
    refine r_icmp_ge (tgt := 45) dX11_wantedTitles_10 (by decide) ?_ ?_
    · refine r_iload_n (x := v1_4) dX11_wantedTitles_45 rfl rfl ?_
      exact r_iret rfl dX11_wantedTitles_46
    · refine r_aload_n (x := a0) dX11_wantedTitles_13 rfl rfl ?_
      refine r_cgetR (c := 14) (kk := 1) hc_X11 rfl (by decide) inU_X11 (by decide) uf_X11_20 rfl (by decide) dX11_wantedTitles_14 (fun z3 => ?_)
      refine r_iload_n (x := v2_4) dX11_wantedTitles_17 rfl rfl ?_
      refine r_dref (fun p4 hp4 => ?_)
      subst hp4
      refine r_caald (t := 102) rfl (by decide) (by decide) dX11_wantedTitles_18 (fun z5 => ?_)
      refine r_dref (fun p6 hp6 => ?_)
      subst hp6
      refine r_cgetRN (c := 12) (kk := 3) hc_X9 rfl (by decide) inU_X9 (by decide) hG uf_X11_102 rfl (by decide) dX11_wantedTitles_19 (fun z7 => ?_)
      refine r_join (P := fun (J : Int → Cd → Option (Int × Cd)) => ∀ (v1_39 : Int) (C_39 : Cd), RunO l Γ k_X11_wantedTitles 3 encI (emC M0) 39 [(0, .ref a0), (1, wi v1_39), (2, wi v2_4)] [] C_39 (J v1_39 C_39)) ?_ (fun J39 hJ39 => ?_)
      · intro v1_39 C_39
        refine r_iinc (x := v2_4) (lo2 := [(2, wi (v2_4 + 1)), (0, .ref a0), (1, wi v1_39)]) dX11_wantedTitles_39 rfl (by decide) rfl ?_
        refine r_goto (tgt := 4) dX11_wantedTitles_42 (by decide) ?_
        refine r_lo [1, 2, 0] (lo2 := [(0, .ref a0), (1, wi v1_39), (2, wi (v2_4 + 1))]) rfl ?_
        exact hL4 v1_39 (v2_4 + 1) C_39
      refine r_opt (fun hn => ?_) (fun p8 hp8 => ?_)
      · subst hn
        refine r_ifnonnullN dX11_wantedTitles_22 ?_
        refine r_aload_n (x := a0) dX11_wantedTitles_25 rfl rfl ?_
        refine r_iload_n (x := v2_4) dX11_wantedTitles_26 rfl rfl ?_
        refine r_ccVi (c := 14) (k2 := k_X11_linkingTo) (n := 1) (rest := []) um_X11_318 rfl kv_X11_linkingTo hc_X11 (by decide) (c_X11_linkingTo hG _ _ _) (by decide) rfl (Nat.le_of_ble_eq_true rfl) dX11_wantedTitles_27 rfl (fun r10 C9 => ?_)
        refine r_if_eq (tgt := 39) dX11_wantedTitles_30 (by decide) ?_ ?_
        · exact hJ39 v1_4 C9
        · refine r_iload_n (x := v1_4) dX11_wantedTitles_33 rfl rfl ?_
          refine ro_iconst (v := 1) dX11_wantedTitles_34 rfl ?_
          refine r_iload_n (x := v2_4) dX11_wantedTitles_35 rfl rfl ?_
          refine r_ishl dX11_wantedTitles_36 ?_
          refine r_ior dX11_wantedTitles_37 ?_
          refine r_nm (fun x1_38 => ?_)
          refine r_istore_n (lo2 := [(1, wi x1_38), (0, .ref a0), (2, wi v2_4)]) dX11_wantedTitles_38 rfl (by decide) rfl ?_
          refine r_lo [1, 0, 2] (lo2 := [(0, .ref a0), (1, wi x1_38), (2, wi v2_4)]) rfl ?_
          exact hJ39 x1_38 C9
      · subst hp8
        refine r_ifnonnullS (a := p8) (tgt := 39) dX11_wantedTitles_22 (by decide) ?_
        exact hJ39 v1_4 C_4
  refine r_lo [2, 1, 0] (lo2 := [(0, .ref a0), (1, wi 0), (2, wi 0)]) rfl ?_
  exact hJ4 0 0 C
def k_X11_odd : Kd := (yX11_odd, cX11_odd, 2, some .int, [])
theorem kv_X11_odd : KV k_X11_odd 1 := ⟨uw_mem 513 (by decide +kernel) rfl, uw_mem 161 (by decide +kernel) rfl, uw_mem 511 (by decide +kernel) rfl, uw_mem 512 (by decide +kernel) rfl, ⟨by decide +kernel, by decide +kernel⟩, by decide +kernel, by decide +kernel⟩
set_option maxHeartbeats 8000000 in
set_option maxRecDepth 100000 in
theorem c_X11_odd {l : Launch} {Γ : Cx} {M0 : Md} (hG : GK Γ l) (a0 : Nat) (a1 : Int) (C : Cd) : Ct l Γ k_X11_odd 5 encI (emC M0) [.ref a0, wi a1] C (fX11_odd a0 a1 C) := by
  refine ct_of (by decide +kernel) rfl (Nat.le_of_ble_eq_true rfl) ?_
  refine r_lo [0, 1] (lo2 := [(0, .ref a0), (1, wi a1)]) rfl ?_
  unfold fX11_odd
  refine r_iload_n (x := a1) dX11_odd_0 rfl rfl ?_
  refine r_join (P := fun (J : Int → Cd → Option (Int × Cd)) => ∀ (t0_15 : Int) (C_15 : Cd), RunO l Γ k_X11_odd 5 encI (emC M0) 15 [] [wi t0_15] C_15 (J t0_15 C_15)) ?_ (fun J15 hJ15 => ?_)
  · intro t0_15 C_15
    exact r_iret rfl dX11_odd_15
  refine r_if_eq (tgt := 11) dX11_odd_1 (by decide) ?_ ?_
  · refine r_aload_n (x := a0) dX11_odd_11 rfl rfl ?_
    refine r_ccVi (c := 14) (k2 := k_X11_lonelyTitles) (n := 0) (rest := []) um_X11_335 rfl kv_X11_lonelyTitles hc_X11 (by decide) (c_X11_lonelyTitles hG _ _) (by decide) rfl (Nat.le_of_ble_eq_true rfl) dX11_odd_12 rfl (fun r2 C1 => ?_)
    refine r_lo [] (lo2 := []) rfl ?_
    exact hJ15 r2 C1
  · refine r_aload_n (x := a0) dX11_odd_4 rfl rfl ?_
    refine r_ccVi (c := 14) (k2 := k_X11_wantedTitles) (n := 0) (rest := []) um_X11_332 rfl kv_X11_wantedTitles hc_X11 (by decide) (c_X11_wantedTitles hG _ _) (by decide) rfl (Nat.le_of_ble_eq_true rfl) dX11_odd_5 rfl (fun r4 C3 => ?_)
    refine r_goto (tgt := 15) dX11_odd_8 (by decide) ?_
    refine r_lo [] (lo2 := []) rfl ?_
    exact hJ15 r4 C3
def k_X11_protect : Kd := (yX11_protect, cX11_protect, 5, some .int, [])
theorem kv_X11_protect : KV k_X11_protect 2 := ⟨uw_mem 673 (by decide +kernel) rfl, uw_mem 161 (by decide +kernel) rfl, uw_mem 671 (by decide +kernel) rfl, uw_mem 672 (by decide +kernel) rfl, ⟨by decide +kernel, by decide +kernel⟩, by decide +kernel, by decide +kernel⟩
set_option maxHeartbeats 8000000 in
set_option maxRecDepth 100000 in
theorem c_X11_protect {l : Launch} {Γ : Cx} {M0 : Md} (hG : GK Γ l) (a0 : Nat) (a1 : Int) (a2 : Int) (C : Cd) : Ct l Γ k_X11_protect 7 (encX gI) (emC M0) [.ref a0, wi a1, wi a2] C (fX11_protect a0 a1 a2 C) := by
  refine ct_of (by decide +kernel) rfl (Nat.le_of_ble_eq_true rfl) ?_
  refine r_lo [0, 1, 2] (lo2 := [(0, .ref a0), (1, wi a1), (2, wi a2)]) rfl ?_
  unfold fX11_protect
  refine r_aload_n (x := a0) dX11_protect_0 rfl rfl ?_
  refine r_iload_n (x := a1) dX11_protect_1 rfl rfl ?_
  refine r_cxV (c := 14) (h := gR) (k2 := k_X11_titleOf) (n := 1) (rest := []) um_X11_85 rfl kv_X11_titleOf hc_X11 (by decide) (c_X11_titleOf hG _ _ _) (by decide) rfl (Nat.le_of_ble_eq_true rfl) dX11_protect_2 rfl (fun r2 C1 => ?_)
  show RunO l Γ k_X11_protect 7 (encX gI) (emC M0) 5 [(0, .ref a0), (1, wi a1), (2, wi a2)] [va_rf r2] C1 _
  refine r_astoreq_n (lo2 := [(3, va_rf r2), (0, .ref a0), (1, wi a1), (2, wi a2)]) dX11_protect_5 rfl (by decide) rfl ?_
  refine r_iload_n (x := a2) dX11_protect_6 rfl rfl ?_
  refine r_join (P := fun (J : Cd → Option ((Int ⊕ Nat) × Cd)) => ∀  (C_15 : Cd), RunO l Γ k_X11_protect 7 (encX gI) (emC M0) 15 [] [] C_15 (J C_15)) ?_ (fun J15 hJ15 => ?_)
  · intro C_15
    exact r_throw (e := 0) (text := "no such protection") hG rfl rfl (by decide) (by decide) (by decide) (Nat.le_of_ble_eq_true rfl) dX11_protect_15 dX11_protect_18 dX11_protect_19 dX11_protect_21 dX11_protect_24
  refine r_if_lt (tgt := 15) dX11_protect_7 (by decide) ?_ ?_
  · refine r_lo [] (lo2 := []) rfl ?_
    exact hJ15  C1
  · refine r_iload_n (x := a2) dX11_protect_10 rfl rfl ?_
    refine ro_iconst (v := 2) dX11_protect_11 rfl ?_
    refine r_icmp_le (tgt := 25) dX11_protect_12 (by decide) ?_ ?_
    · refine r_aload_n (x := a0) dX11_protect_25 rfl rfl ?_
      refine r_aloadq_n (x := r2) dX11_protect_26 rfl rfl ?_
      refine r_ccVi (c := 14) (k2 := k_X11_mayActAt) (n := 1) (rest := []) um_X11_91 rfl kv_X11_mayActAt hc_X11 (by decide) (c_X11_mayActAt hG _ _ _) (by decide) rfl (Nat.le_of_ble_eq_true rfl) dX11_protect_27 rfl (fun r4 C3 => ?_)
      refine r_join (P := fun (J : Cd → Option ((Int ⊕ Nat) × Cd)) => ∀  (C_41 : Cd), RunO l Γ k_X11_protect 7 (encX gI) (emC M0) 41 [] [] C_41 (J C_41)) ?_ (fun J41 hJ41 => ?_)
      · intro C_41
        exact r_throw (e := 1) (text := "the rank is too low") hG rfl rfl (by decide) (by decide) (by decide) (Nat.le_of_ble_eq_true rfl) dX11_protect_41 dX11_protect_44 dX11_protect_45 dX11_protect_47 dX11_protect_50
      refine r_if_eq (tgt := 41) dX11_protect_30 (by decide) ?_ ?_
      · refine r_lo [] (lo2 := []) rfl ?_
        exact hJ41  C3
      · refine r_aload_n (x := a0) dX11_protect_33 rfl rfl ?_
        refine r_cgetI (c := 14) (kk := 9) hc_X11 rfl (by decide) inU_X11 (by decide) uf_X11_51 rfl (by decide) dX11_protect_34 ?_
        refine r_iload_n (x := a2) dX11_protect_37 rfl rfl ?_
        refine r_icmp_ge (tgt := 51) dX11_protect_38 (by decide) ?_ ?_
        · refine r_aloadq_n (x := r2) dX11_protect_51 rfl rfl ?_
          refine r_dref (fun p5 hp5 => ?_)
          subst hp5
          refine r_cgetIN (c := 12) (kk := 4) hc_X9 rfl (by decide) inU_X9 (by decide) hG uf_X11_97 rfl (by decide) dX11_protect_52 ?_
          refine r_nm (fun x4_55 => ?_)
          refine r_istore (lo2 := [(4, wi x4_55), (3, .ref p5), (0, .ref a0), (1, wi a1), (2, wi a2)]) dX11_protect_55 (by decide) rfl ?_
          refine r_aload_n (x := p5) dX11_protect_57 rfl rfl ?_
          refine r_iload_n (x := a2) dX11_protect_58 rfl rfl ?_
          refine r_cputIN (c := 12) (kk := 4) hc_X9 rfl (by decide) inU_X9 (by decide) hG uf_X11_97 rfl tyX9 tyX9_ok nmX9 (fty := .int) (by decide) rfl rfl rfl rfl dX11_protect_59 (fun C6 _ _ => ?_)
          refine r_iload (x := x4_55) dX11_protect_62 rfl ?_
          exact r_iretX rfl dX11_protect_64
        · refine r_lo [] (lo2 := []) rfl ?_
          exact hJ41  C3
    · refine r_lo [] (lo2 := []) rfl ?_
      exact hJ15  C1
def k_X11_queued : Kd := (yX11_queued, cX11_queued, 3, some .int, [])
theorem kv_X11_queued : KV k_X11_queued 0 := ⟨uw_mem 505 (by decide +kernel) rfl, uw_mem 161 (by decide +kernel) rfl, uw_mem 503 (by decide +kernel) rfl, uw_mem 504 (by decide +kernel) rfl, ⟨by decide +kernel, by decide +kernel⟩, by decide +kernel, by decide +kernel⟩
set_option maxHeartbeats 8000000 in
set_option maxRecDepth 100000 in
theorem c_X11_queued {l : Launch} {Γ : Cx} {M0 : Md} (hG : GK Γ l) (a0 : Nat) (C : Cd) : Ct l Γ k_X11_queued 2 encI (emC M0) [.ref a0] C (fX11_queued a0 C) := by
  refine ct_of (by decide +kernel) rfl (Nat.le_of_ble_eq_true rfl) ?_
  refine r_lo [0] (lo2 := [(0, .ref a0)]) rfl ?_
  unfold fX11_queued
  refine ro_iconst (v := 0) dX11_queued_0 rfl ?_
  refine r_istore_n (lo2 := [(1, wi 0), (0, .ref a0)]) dX11_queued_1 rfl (by decide) rfl ?_
  refine ro_iconst (v := 0) dX11_queued_2 rfl ?_
  refine r_istore_n (lo2 := [(2, wi 0), (1, wi 0), (0, .ref a0)]) dX11_queued_3 rfl (by decide) rfl ?_
  refine r_loop (P := fun (J : Int → Int → Cd → Option (Int × Cd)) => ∀ (v1_4 : Int) (v2_4 : Int) (C_4 : Cd), RunO l Γ k_X11_queued 2 encI (emC M0) 4 [(0, .ref a0), (1, wi v1_4), (2, wi v2_4)] [] C_4 (J v1_4 v2_4 C_4)) ?_ (fun L4 hL4 => ?_) (fun J4 hJ4 => ?_)
  · intros; exact ro_none
  · intro v1_4 v2_4 C_4
    refine r_iload_n (x := v2_4) dX11_queued_4 rfl rfl ?_
    refine r_aload_n (x := a0) dX11_queued_5 rfl rfl ?_
    refine r_cgetR (c := 14) (kk := 1) hc_X11 rfl (by decide) inU_X11 (by decide) uf_X11_20 rfl (by decide) dX11_queued_6 (fun z1 => ?_)
    refine r_dref (fun p2 hp2 => ?_)
    subst hp2
    refine r_calen (t := 102) rfl (by decide) dX11_queued_9 ?_
    refine r_icmp_ge (tgt := 34) dX11_queued_10 (by decide) ?_ ?_
    · refine r_iload_n (x := v1_4) dX11_queued_34 rfl rfl ?_
      exact r_iret rfl dX11_queued_35
    · refine r_aload_n (x := a0) dX11_queued_13 rfl rfl ?_
      refine r_cgetR (c := 14) (kk := 1) hc_X11 rfl (by decide) inU_X11 (by decide) uf_X11_20 rfl (by decide) dX11_queued_14 (fun z3 => ?_)
      refine r_iload_n (x := v2_4) dX11_queued_17 rfl rfl ?_
      refine r_dref (fun p4 hp4 => ?_)
      subst hp4
      refine r_caald (t := 102) rfl (by decide) (by decide) dX11_queued_18 (fun z5 => ?_)
      refine r_dref (fun p6 hp6 => ?_)
      subst hp6
      refine r_ccVNi (c := 12) (k2 := k_X9_waits) (n := 0) (rest := []) hG um_X11_298 rfl kv_X9_waits hc_X9 (by decide) (c_X9_waits hG _ _) (by decide) rfl (Nat.le_of_ble_eq_true rfl) dX11_queued_19 rfl (fun r8 C7 => ?_)
      refine r_join (P := fun (J : Int → Cd → Option (Int × Cd)) => ∀ (v1_28 : Int) (C_28 : Cd), RunO l Γ k_X11_queued 2 encI (emC M0) 28 [(0, .ref a0), (1, wi v1_28), (2, wi v2_4)] [] C_28 (J v1_28 C_28)) ?_ (fun J28 hJ28 => ?_)
      · intro v1_28 C_28
        refine r_iinc (x := v2_4) (lo2 := [(2, wi (v2_4 + 1)), (0, .ref a0), (1, wi v1_28)]) dX11_queued_28 rfl (by decide) rfl ?_
        refine r_goto (tgt := 4) dX11_queued_31 (by decide) ?_
        refine r_lo [1, 2, 0] (lo2 := [(0, .ref a0), (1, wi v1_28), (2, wi (v2_4 + 1))]) rfl ?_
        exact hL4 v1_28 (v2_4 + 1) C_28
      refine r_if_eq (tgt := 28) dX11_queued_22 (by decide) ?_ ?_
      · exact hJ28 v1_4 C7
      · refine r_iinc (x := v1_4) (lo2 := [(1, wi (v1_4 + 1)), (0, .ref a0), (2, wi v2_4)]) dX11_queued_25 rfl (by decide) rfl ?_
        refine r_lo [1, 0, 2] (lo2 := [(0, .ref a0), (1, wi (v1_4 + 1)), (2, wi v2_4)]) rfl ?_
        exact hJ28 (v1_4 + 1) C7
  refine r_lo [2, 1, 0] (lo2 := [(0, .ref a0), (1, wi 0), (2, wi 0)]) rfl ?_
  exact hJ4 0 0 C
def k_X11_rank : Kd := (yX11_rank, cX11_rank, 5, some .int, [])
theorem kv_X11_rank : KV k_X11_rank 2 := ⟨uw_mem 1364 (by decide +kernel) rfl, uw_mem 161 (by decide +kernel) rfl, uw_mem 1362 (by decide +kernel) rfl, uw_mem 1363 (by decide +kernel) rfl, ⟨by decide +kernel, by decide +kernel⟩, by decide +kernel, by decide +kernel⟩
set_option maxHeartbeats 8000000 in
set_option maxRecDepth 100000 in
theorem c_X11_rank {l : Launch} {Γ : Cx} {M0 : Md} (hG : GK Γ l) (a0 : Nat) (a1 : Int) (a2 : Int) (C : Cd) : Ct l Γ k_X11_rank 7 (encX gI) (emC M0) [.ref a0, wi a1, wi a2] C (fX11_rank a0 a1 a2 C) := by
  refine ct_of (by decide +kernel) rfl (Nat.le_of_ble_eq_true rfl) ?_
  refine r_lo [0, 1, 2] (lo2 := [(0, .ref a0), (1, wi a1), (2, wi a2)]) rfl ?_
  unfold fX11_rank
  refine r_aload_n (x := a0) dX11_rank_0 rfl rfl ?_
  refine r_iload_n (x := a1) dX11_rank_1 rfl rfl ?_
  refine r_cxV (c := 14) (h := gR) (k2 := k_X11_titleOf) (n := 1) (rest := []) um_X11_85 rfl kv_X11_titleOf hc_X11 (by decide) (c_X11_titleOf hG _ _ _) (by decide) rfl (Nat.le_of_ble_eq_true rfl) dX11_rank_2 rfl (fun r2 C1 => ?_)
  show RunO l Γ k_X11_rank 7 (encX gI) (emC M0) 5 [(0, .ref a0), (1, wi a1), (2, wi a2)] [va_rf r2] C1 _
  refine r_astoreq_n (lo2 := [(3, va_rf r2), (0, .ref a0), (1, wi a1), (2, wi a2)]) dX11_rank_5 rfl (by decide) rfl ?_
  refine r_iload_n (x := a2) dX11_rank_6 rfl rfl ?_
  refine r_join (P := fun (J : Cd → Option ((Int ⊕ Nat) × Cd)) => ∀  (C_16 : Cd), RunO l Γ k_X11_rank 7 (encX gI) (emC M0) 16 [] [] C_16 (J C_16)) ?_ (fun J16 hJ16 => ?_)
  · intro C_16
    exact r_throw (e := 0) (text := "no such rank") hG rfl rfl (by decide) (by decide) (by decide) (Nat.le_of_ble_eq_true rfl) dX11_rank_16 dX11_rank_19 dX11_rank_20 dX11_rank_22 dX11_rank_25
  refine r_if_lt (tgt := 16) dX11_rank_7 (by decide) ?_ ?_
  · refine r_lo [] (lo2 := []) rfl ?_
    exact hJ16  C1
  · refine r_iload_n (x := a2) dX11_rank_10 rfl rfl ?_
    refine r_bipush (v := 99) dX11_rank_11 rfl ?_
    refine r_icmp_le (tgt := 26) dX11_rank_13 (by decide) ?_ ?_
    · refine r_aloadq_n (x := r2) dX11_rank_26 rfl rfl ?_
      refine r_dref (fun p3 hp3 => ?_)
      subst hp3
      refine r_cgetIN (c := 12) (kk := 5) hc_X9 rfl (by decide) inU_X9 (by decide) hG uf_X11_248 rfl (by decide) dX11_rank_27 ?_
      refine r_nm (fun x4_30 => ?_)
      refine r_istore (lo2 := [(4, wi x4_30), (3, .ref p3), (0, .ref a0), (1, wi a1), (2, wi a2)]) dX11_rank_30 (by decide) rfl ?_
      refine r_aload_n (x := p3) dX11_rank_32 rfl rfl ?_
      refine r_iload_n (x := a2) dX11_rank_33 rfl rfl ?_
      refine r_cputIN (c := 12) (kk := 5) hc_X9 rfl (by decide) inU_X9 (by decide) hG uf_X11_248 rfl tyX9 tyX9_ok nmX9 (fty := .int) (by decide) rfl rfl rfl rfl dX11_rank_34 (fun C4 _ _ => ?_)
      refine r_iload (x := x4_30) dX11_rank_37 rfl ?_
      exact r_iretX rfl dX11_rank_39
    · refine r_lo [] (lo2 := []) rfl ?_
      exact hJ16  C1
def k_X11_render : Kd := (yX11_render, cX11_render, 4, none, [])
theorem kv_X11_render : KV k_X11_render 2 := ⟨uw_mem 1380 (by decide +kernel) rfl, uw_mem 161 (by decide +kernel) rfl, uw_mem 1379 (by decide +kernel) rfl, uw_mem 58 (by decide +kernel) rfl, ⟨by decide +kernel, by decide +kernel⟩, by decide +kernel, by decide +kernel⟩
set_option maxHeartbeats 8000000 in
set_option maxRecDepth 100000 in
theorem c_X11_render {l : Launch} {Γ : Cx} {M0 : Md} (hG : GK Γ l) (a0 : Nat) (a1 : Int) (a2 : Option Nat) (C : Cd) : Ct l Γ k_X11_render 7 encV (emC M0) [.ref a0, wi a1, va_rf a2] C (fX11_render a0 a1 a2 C) := by
  refine ct_of (by decide +kernel) rfl (by cases a2 <;> exact Nat.le_of_ble_eq_true rfl) ?_
  refine r_lo [0, 1, 2] (lo2 := [(0, .ref a0), (1, wi a1), (2, va_rf a2)]) (by cases a2 <;> rfl) ?_
  unfold fX11_render
  refine r_aloadq_n (x := a2) dX11_render_0 rfl rfl ?_
  refine r_dref (fun p1 hp1 => ?_)
  subst hp1
  refine r_cgetRN (c := 12) (kk := 3) hc_X9 rfl (by decide) inU_X9 (by decide) hG uf_X11_102 rfl (by decide) dX11_render_1 (fun z2 => ?_)
  refine r_opt (fun hn => ?_) (fun p3 hp3 => ?_)
  · subst hn
    refine r_ifnonnullN dX11_render_4 ?_
    exact r_vret rfl dX11_render_7
  · subst hp3
    refine r_ifnonnullS (a := p3) (tgt := 8) dX11_render_4 (by decide) ?_
    refine r_aload_n (x := a0) dX11_render_8 rfl rfl ?_
    refine r_cgetR (c := 14) (kk := 0) hc_X11 rfl (by decide) inU_X11 (by decide) uf_X11_10 rfl (by decide) dX11_render_9 (fun z4 => ?_)
    refine r_iload_n (x := a1) dX11_render_12 rfl rfl ?_
    refine r_aload_n (x := p1) dX11_render_13 rfl rfl ?_
    refine r_cgetRN (c := 12) (kk := 3) hc_X9 rfl (by decide) inU_X9 (by decide) hG uf_X11_102 rfl (by decide) dX11_render_14 (fun z5 => ?_)
    refine r_dref (fun p6 hp6 => ?_)
    subst hp6
    refine r_cgetRN (c := 6) (kk := 1) hc_X3 rfl (by decide) inU_X3 (by decide) hG uf_X11_148 rfl (by decide) dX11_render_17 (fun z7 => ?_)
    refine r_dref (fun p8 hp8 => ?_)
    subst hp8
    refine r_cgetRN (c := 13) (kk := 2) hc_X10 rfl (by decide) inU_X10 (by decide) hG uf_X11_130 rfl (by decide) dX11_render_20 (fun z9 => ?_)
    refine ro_iconst (v := (-1)) dX11_render_23 rfl ?_
    refine r_dref (fun p10 hp10 => ?_)
    subst hp10
    refine r_ccVNv (c := 4) (k2 := k_X1_expand) (n := 3) (rest := []) hG um_X11_304 rfl kv_X1_expand hc_X1 (by decide) (c_X1_expand hG _ _ _ _ _) (by decide) rfl (Nat.le_of_ble_eq_true rfl) dX11_render_24 rfl (fun r12 C11 => ?_)
    refine r_aload_n (x := p1) dX11_render_27 rfl rfl ?_
    refine r_cgetRN (c := 12) (kk := 0) hc_X9 rfl (by decide) inU_X9 (by decide) hG uf_X11_260 rfl (by decide) dX11_render_28 (fun z13 => ?_)
    refine r_dref (fun p14 hp14 => ?_)
    subst hp14
    refine r_cgetIN (c := 7) (kk := 4) hc_X4 rfl (by decide) inU_X4 (by decide) hG uf_X11_382 rfl (by decide) dX11_render_31 ?_
    refine r_aload_n (x := a0) dX11_render_34 rfl rfl ?_
    refine r_cgetR (c := 14) (kk := 0) hc_X11 rfl (by decide) inU_X11 (by decide) uf_X11_10 rfl (by decide) dX11_render_35 (fun z15 => ?_)
    refine r_dref (fun p16 hp16 => ?_)
    subst hp16
    refine r_cgetRN (c := 4) (kk := 7) hc_X1 rfl (by decide) inU_X1 (by decide) hG uf_X11_308 rfl (by decide) dX11_render_38 (fun z17 => ?_)
    refine r_dref (fun p18 hp18 => ?_)
    subst hp18
    refine r_cgetIN (c := 7) (kk := 4) hc_X4 rfl (by decide) inU_X4 (by decide) hG uf_X11_382 rfl (by decide) dX11_render_41 ?_
    refine r_ixor dX11_render_44 ?_
    refine r_nm (fun x3_45 => ?_)
    refine r_istore_n (lo2 := [(3, wi x3_45), (0, .ref a0), (1, wi a1), (2, .ref p1)]) dX11_render_45 rfl (by decide) rfl ?_
    refine r_aload_n (x := p1) dX11_render_46 rfl rfl ?_
    refine r_cgetRN (c := 12) (kk := 0) hc_X9 rfl (by decide) inU_X9 (by decide) hG uf_X11_260 rfl (by decide) dX11_render_47 (fun z19 => ?_)
    refine r_aload_n (x := a0) dX11_render_50 rfl rfl ?_
    refine r_cgetR (c := 14) (kk := 0) hc_X11 rfl (by decide) inU_X11 (by decide) uf_X11_10 rfl (by decide) dX11_render_51 (fun z20 => ?_)
    refine r_dref (fun p21 hp21 => ?_)
    subst hp21
    refine r_cgetRN (c := 4) (kk := 7) hc_X1 rfl (by decide) inU_X1 (by decide) hG uf_X11_308 rfl (by decide) dX11_render_54 (fun z22 => ?_)
    refine r_dref (fun p23 hp23 => ?_)
    subst hp23
    refine r_ccVNv (c := 7) (k2 := k_X4_take) (n := 1) (rest := []) hG um_X11_395 rfl kv_X4_take hc_X4 (by decide) (c_X4_take hG _ _ _) (by decide) rfl (Nat.le_of_ble_eq_true rfl) dX11_render_57 rfl (fun r25 C24 => ?_)
    refine r_aload_n (x := a0) dX11_render_60 rfl rfl ?_
    refine r_iload_n (x := x3_45) dX11_render_61 rfl rfl ?_
    refine r_ccVv (c := 14) (k2 := k_X11_noteMemberChange) (n := 1) (rest := []) um_X11_386 rfl kv_X11_noteMemberChange hc_X11 (by decide) (c_X11_noteMemberChange hG _ _ _) (by decide) rfl (Nat.le_of_ble_eq_true rfl) dX11_render_62 rfl (fun r27 C26 => ?_)
    exact r_vret rfl dX11_render_65
def k_X11_read : Kd := (yX11_read, cX11_read, 4, some .int, [])
theorem kv_X11_read : KV k_X11_read 2 := ⟨uw_mem 1549 (by decide +kernel) rfl, uw_mem 161 (by decide +kernel) rfl, uw_mem 1547 (by decide +kernel) rfl, uw_mem 1548 (by decide +kernel) rfl, ⟨by decide +kernel, by decide +kernel⟩, by decide +kernel, by decide +kernel⟩
set_option maxHeartbeats 8000000 in
set_option maxRecDepth 100000 in
theorem c_X11_read {l : Launch} {Γ : Cx} {M0 : Md} (hG : GK Γ l) (a0 : Nat) (a1 : Int) (a2 : Int) (C : Cd) : Ct l Γ k_X11_read 8 (encX gI) (emC M0) [.ref a0, wi a1, wi a2] C (fX11_read a0 a1 a2 C) := by
  refine ct_of (by decide +kernel) rfl (Nat.le_of_ble_eq_true rfl) ?_
  refine r_lo [0, 1, 2] (lo2 := [(0, .ref a0), (1, wi a1), (2, wi a2)]) rfl ?_
  unfold fX11_read
  refine r_aload_n (x := a0) dX11_read_0 rfl rfl ?_
  refine r_iload_n (x := a1) dX11_read_1 rfl rfl ?_
  refine r_cxV (c := 14) (h := gR) (k2 := k_X11_pageOf) (n := 1) (rest := []) um_X11_116 rfl kv_X11_pageOf hc_X11 (by decide) (c_X11_pageOf hG _ _ _) (by decide) rfl (Nat.le_of_ble_eq_true rfl) dX11_read_2 rfl (fun r2 C1 => ?_)
  show RunO l Γ k_X11_read 8 (encX gI) (emC M0) 5 [(0, .ref a0), (1, wi a1), (2, wi a2)] [va_rf r2] C1 _
  refine r_pop dX11_read_5 (by cases r2 <;> rfl) ?_
  refine r_aload_n (x := a0) dX11_read_6 rfl rfl ?_
  refine r_cgetR (c := 14) (kk := 1) hc_X11 rfl (by decide) inU_X11 (by decide) uf_X11_20 rfl (by decide) dX11_read_7 (fun z3 => ?_)
  refine r_iload_n (x := a1) dX11_read_10 rfl rfl ?_
  refine r_dref (fun p4 hp4 => ?_)
  subst hp4
  refine r_caald (t := 102) rfl (by decide) (by decide) dX11_read_11 (fun z5 => ?_)
  refine r_astoreq_n (lo2 := [(3, va_rf z5), (0, .ref a0), (1, wi a1), (2, wi a2)]) dX11_read_12 rfl (by decide) rfl ?_
  refine r_aloadq_n (x := z5) dX11_read_13 rfl rfl ?_
  refine r_dref (fun p6 hp6 => ?_)
  subst hp6
  refine r_cgetRN (c := 12) (kk := 0) hc_X9 rfl (by decide) inU_X9 (by decide) hG uf_X11_260 rfl (by decide) dX11_read_14 (fun z7 => ?_)
  refine r_dref (fun p8 hp8 => ?_)
  subst hp8
  refine r_cgetIN (c := 7) (kk := 1) hc_X4 rfl (by decide) inU_X4 (by decide) hG uf_X11_264 rfl (by decide) dX11_read_17 ?_
  refine r_join (P := fun (J : Cd → Option ((Int ⊕ Nat) × Cd)) => ∀  (C_43 : Cd), RunO l Γ k_X11_read 8 (encX gI) (emC M0) 43 [(3, .ref p6)] [] C_43 (J C_43)) ?_ (fun J43 hJ43 => ?_)
  · intro C_43
    refine r_aload_n (x := p6) dX11_read_43 rfl rfl ?_
    refine r_cgetRN (c := 12) (kk := 0) hc_X9 rfl (by decide) inU_X9 (by decide) hG uf_X11_260 rfl (by decide) dX11_read_44 (fun z9 => ?_)
    refine r_dref (fun p10 hp10 => ?_)
    subst hp10
    refine r_cgetRN (c := 7) (kk := 0) hc_X4 rfl (by decide) inU_X4 (by decide) hG uf_X11_273 rfl (by decide) dX11_read_47 (fun z11 => ?_)
    refine r_dref (fun p12 hp12 => ?_)
    subst hp12
    refine r_cgetIN (c := 8) (kk := 1) hc_X5 rfl (by decide) inU_X5 (by decide) hG uf_X11_277 rfl (by decide) dX11_read_50 ?_
    exact r_iretX rfl dX11_read_53
  refine r_join (P := fun (J : Cd → Option ((Int ⊕ Nat) × Cd)) => ∀  (C_37 : Cd), RunO l Γ k_X11_read 8 (encX gI) (emC M0) 37 [(0, .ref a0), (1, wi a1), (3, .ref p6)] [] C_37 (J C_37)) ?_ (fun J37 hJ37 => ?_)
  · intro C_37
    refine r_aload_n (x := a0) dX11_read_37 rfl rfl ?_
    refine r_iload_n (x := a1) dX11_read_38 rfl rfl ?_
    refine r_aload_n (x := p6) dX11_read_39 rfl rfl ?_
    refine r_ccVv (c := 14) (k2 := k_X11_render) (n := 2) (rest := []) um_X11_256 rfl kv_X11_render hc_X11 (by decide) (c_X11_render hG _ _ _ _) (by decide) rfl (Nat.le_of_ble_eq_true rfl) dX11_read_40 rfl (fun r14 C13 => ?_)
    refine r_lo [2] (lo2 := [(3, .ref p6)]) rfl ?_
    exact hJ43  C13
  refine r_if_eq (tgt := 37) dX11_read_20 (by decide) ?_ ?_
  · refine r_lo [1, 2, 0] (lo2 := [(0, .ref a0), (1, wi a1), (3, .ref p6)]) rfl ?_
    exact hJ37  C1
  · refine r_aload_n (x := p6) dX11_read_23 rfl rfl ?_
    refine r_cgetRN (c := 12) (kk := 0) hc_X9 rfl (by decide) inU_X9 (by decide) hG uf_X11_260 rfl (by decide) dX11_read_24 (fun z15 => ?_)
    refine r_dref (fun p16 hp16 => ?_)
    subst hp16
    refine r_cgetIN (c := 7) (kk := 2) hc_X4 rfl (by decide) inU_X4 (by decide) hG uf_X11_270 rfl (by decide) dX11_read_27 ?_
    refine r_if_eq (tgt := 43) dX11_read_30 (by decide) ?_ ?_
    · refine r_lo [0] (lo2 := [(3, .ref p6)]) rfl ?_
      exact hJ43  C1
    · refine r_iload_n (x := a2) dX11_read_33 rfl rfl ?_
      refine r_if_ne (tgt := 43) dX11_read_34 (by decide) ?_ ?_
      · refine r_lo [0] (lo2 := [(3, .ref p6)]) rfl ?_
        exact hJ43  C1
      · refine r_lo [1, 2, 0] (lo2 := [(0, .ref a0), (1, wi a1), (3, .ref p6)]) rfl ?_
        exact hJ37  C1
def k_X11_shown : Kd := (yX11_shown, cX11_shown, 3, some .int, [])
theorem kv_X11_shown : KV k_X11_shown 2 := ⟨uw_mem 1598 (by decide +kernel) rfl, uw_mem 161 (by decide +kernel) rfl, uw_mem 1596 (by decide +kernel) rfl, uw_mem 1597 (by decide +kernel) rfl, ⟨by decide +kernel, by decide +kernel⟩, by decide +kernel, by decide +kernel⟩
set_option maxHeartbeats 8000000 in
set_option maxRecDepth 100000 in
theorem c_X11_shown {l : Launch} {Γ : Cx} {M0 : Md} (hG : GK Γ l) (a0 : Nat) (a1 : Int) (a2 : Int) (C : Cd) : Ct l Γ k_X11_shown 8 (encX gI) (emC M0) [.ref a0, wi a1, wi a2] C (fX11_shown a0 a1 a2 C) := by
  refine ct_of (by decide +kernel) rfl (Nat.le_of_ble_eq_true rfl) ?_
  refine r_lo [0, 1, 2] (lo2 := [(0, .ref a0), (1, wi a1), (2, wi a2)]) rfl ?_
  unfold fX11_shown
  refine r_aload_n (x := a0) dX11_shown_0 rfl rfl ?_
  refine r_iload_n (x := a1) dX11_shown_1 rfl rfl ?_
  refine r_cxV (c := 14) (h := gR) (k2 := k_X11_pageOf) (n := 1) (rest := []) um_X11_116 rfl kv_X11_pageOf hc_X11 (by decide) (c_X11_pageOf hG _ _ _) (by decide) rfl (Nat.le_of_ble_eq_true rfl) dX11_shown_2 rfl (fun r2 C1 => ?_)
  show RunO l Γ k_X11_shown 8 (encX gI) (emC M0) 5 [(0, .ref a0), (1, wi a1), (2, wi a2)] [va_rf r2] C1 _
  refine r_pop dX11_shown_5 (by cases r2 <;> rfl) ?_
  refine r_aload_n (x := a0) dX11_shown_6 rfl rfl ?_
  refine r_iload_n (x := a2) dX11_shown_7 rfl rfl ?_
  refine r_cxV (c := 14) (h := gV) (k2 := k_X11_refuseBelowZero) (n := 1) (rest := []) um_X11_288 rfl kv_X11_refuseBelowZero hc_X11 (by decide) (c_X11_refuseBelowZero hG _ _ _) (by decide) rfl (Nat.le_of_ble_eq_true rfl) dX11_shown_8 rfl (fun r4 C3 => ?_)
  show RunO l Γ k_X11_shown 8 (encX gI) (emC M0) 11 [(0, .ref a0), (1, wi a1), (2, wi a2)] [] C3 _
  refine r_aload_n (x := a0) dX11_shown_11 rfl rfl ?_
  refine r_cgetR (c := 14) (kk := 1) hc_X11 rfl (by decide) inU_X11 (by decide) uf_X11_20 rfl (by decide) dX11_shown_12 (fun z5 => ?_)
  refine r_iload_n (x := a1) dX11_shown_15 rfl rfl ?_
  refine r_dref (fun p6 hp6 => ?_)
  subst hp6
  refine r_caald (t := 102) rfl (by decide) (by decide) dX11_shown_16 (fun z7 => ?_)
  refine r_dref (fun p8 hp8 => ?_)
  subst hp8
  refine r_cgetRN (c := 12) (kk := 0) hc_X9 rfl (by decide) inU_X9 (by decide) hG uf_X11_260 rfl (by decide) dX11_shown_17 (fun z9 => ?_)
  refine r_dref (fun p10 hp10 => ?_)
  subst hp10
  refine r_cgetRN (c := 7) (kk := 0) hc_X4 rfl (by decide) inU_X4 (by decide) hG uf_X11_273 rfl (by decide) dX11_shown_20 (fun z11 => ?_)
  refine r_iload_n (x := a2) dX11_shown_23 rfl rfl ?_
  refine r_dref (fun p12 hp12 => ?_)
  subst hp12
  refine r_ccVNi (c := 8) (k2 := k_X5_at) (n := 1) (rest := []) hG um_X11_301 rfl kv_X5_at hc_X5 (by decide) (c_X5_at hG _ _ _) (by decide) rfl (Nat.le_of_ble_eq_true rfl) dX11_shown_24 rfl (fun r14 C13 => ?_)
  exact r_iretX rfl dX11_shown_27
def k_X11_shownAnew : Kd := (yX11_shownAnew, cX11_shownAnew, 4, some .int, [])
theorem kv_X11_shownAnew : KV k_X11_shownAnew 2 := ⟨uw_mem 1606 (by decide +kernel) rfl, uw_mem 161 (by decide +kernel) rfl, uw_mem 1604 (by decide +kernel) rfl, uw_mem 1605 (by decide +kernel) rfl, ⟨by decide +kernel, by decide +kernel⟩, by decide +kernel, by decide +kernel⟩
set_option maxHeartbeats 8000000 in
set_option maxRecDepth 100000 in
theorem c_X11_shownAnew {l : Launch} {Γ : Cx} {M0 : Md} (hG : GK Γ l) (a0 : Nat) (a1 : Int) (a2 : Int) (C : Cd) : Ct l Γ k_X11_shownAnew 8 (encX gI) (emC M0) [.ref a0, wi a1, wi a2] C (fX11_shownAnew a0 a1 a2 C) := by
  refine ct_of (by decide +kernel) rfl (Nat.le_of_ble_eq_true rfl) ?_
  refine r_lo [0, 1, 2] (lo2 := [(0, .ref a0), (1, wi a1), (2, wi a2)]) rfl ?_
  unfold fX11_shownAnew
  refine r_aload_n (x := a0) dX11_shownAnew_0 rfl rfl ?_
  refine r_iload_n (x := a1) dX11_shownAnew_1 rfl rfl ?_
  refine r_cxV (c := 14) (h := gR) (k2 := k_X11_pageOf) (n := 1) (rest := []) um_X11_116 rfl kv_X11_pageOf hc_X11 (by decide) (c_X11_pageOf hG _ _ _) (by decide) rfl (Nat.le_of_ble_eq_true rfl) dX11_shownAnew_2 rfl (fun r2 C1 => ?_)
  show RunO l Γ k_X11_shownAnew 8 (encX gI) (emC M0) 5 [(0, .ref a0), (1, wi a1), (2, wi a2)] [va_rf r2] C1 _
  refine r_astoreq_n (lo2 := [(3, va_rf r2), (0, .ref a0), (1, wi a1), (2, wi a2)]) dX11_shownAnew_5 rfl (by decide) rfl ?_
  refine r_aload_n (x := a0) dX11_shownAnew_6 rfl rfl ?_
  refine r_iload_n (x := a2) dX11_shownAnew_7 rfl rfl ?_
  refine r_cxV (c := 14) (h := gV) (k2 := k_X11_refuseBelowZero) (n := 1) (rest := []) um_X11_288 rfl kv_X11_refuseBelowZero hc_X11 (by decide) (c_X11_refuseBelowZero hG _ _ _) (by decide) rfl (Nat.le_of_ble_eq_true rfl) dX11_shownAnew_8 rfl (fun r4 C3 => ?_)
  show RunO l Γ k_X11_shownAnew 8 (encX gI) (emC M0) 11 [(3, va_rf r2), (0, .ref a0), (1, wi a1), (2, wi a2)] [] C3 _
  refine r_aload_n (x := a0) dX11_shownAnew_11 rfl rfl ?_
  refine r_cgetR (c := 14) (kk := 0) hc_X11 rfl (by decide) inU_X11 (by decide) uf_X11_10 rfl (by decide) dX11_shownAnew_12 (fun z5 => ?_)
  refine r_iload_n (x := a1) dX11_shownAnew_15 rfl rfl ?_
  refine r_aloadq_n (x := r2) dX11_shownAnew_16 rfl rfl ?_
  refine r_dref (fun p6 hp6 => ?_)
  subst hp6
  refine r_cgetRN (c := 6) (kk := 1) hc_X3 rfl (by decide) inU_X3 (by decide) hG uf_X11_148 rfl (by decide) dX11_shownAnew_17 (fun z7 => ?_)
  refine r_dref (fun p8 hp8 => ?_)
  subst hp8
  refine r_cgetRN (c := 13) (kk := 2) hc_X10 rfl (by decide) inU_X10 (by decide) hG uf_X11_130 rfl (by decide) dX11_shownAnew_20 (fun z9 => ?_)
  refine ro_iconst (v := (-1)) dX11_shownAnew_23 rfl ?_
  refine r_dref (fun p10 hp10 => ?_)
  subst hp10
  refine r_ccVNv (c := 4) (k2 := k_X1_expand) (n := 3) (rest := []) hG um_X11_304 rfl kv_X1_expand hc_X1 (by decide) (c_X1_expand hG _ _ _ _ _) (by decide) rfl (Nat.le_of_ble_eq_true rfl) dX11_shownAnew_24 rfl (fun r12 C11 => ?_)
  refine r_aload_n (x := a0) dX11_shownAnew_27 rfl rfl ?_
  refine r_cgetR (c := 14) (kk := 0) hc_X11 rfl (by decide) inU_X11 (by decide) uf_X11_10 rfl (by decide) dX11_shownAnew_28 (fun z13 => ?_)
  refine r_dref (fun p14 hp14 => ?_)
  subst hp14
  refine r_cgetRN (c := 4) (kk := 7) hc_X1 rfl (by decide) inU_X1 (by decide) hG uf_X11_308 rfl (by decide) dX11_shownAnew_31 (fun z15 => ?_)
  refine r_dref (fun p16 hp16 => ?_)
  subst hp16
  refine r_cgetRN (c := 7) (kk := 0) hc_X4 rfl (by decide) inU_X4 (by decide) hG uf_X11_273 rfl (by decide) dX11_shownAnew_34 (fun z17 => ?_)
  refine r_iload_n (x := a2) dX11_shownAnew_37 rfl rfl ?_
  refine r_dref (fun p18 hp18 => ?_)
  subst hp18
  refine r_ccVNi (c := 8) (k2 := k_X5_at) (n := 1) (rest := []) hG um_X11_301 rfl kv_X5_at hc_X5 (by decide) (c_X5_at hG _ _ _) (by decide) rfl (Nat.le_of_ble_eq_true rfl) dX11_shownAnew_38 rfl (fun r20 C19 => ?_)
  exact r_iretX rfl dX11_shownAnew_41
def k_X11_token : Kd := (yX11_token, cX11_token, 3, some .int, [])
theorem kv_X11_token : KV k_X11_token 2 := ⟨uw_mem 563 (by decide +kernel) rfl, uw_mem 161 (by decide +kernel) rfl, uw_mem 561 (by decide +kernel) rfl, uw_mem 562 (by decide +kernel) rfl, ⟨by decide +kernel, by decide +kernel⟩, by decide +kernel, by decide +kernel⟩
set_option maxHeartbeats 8000000 in
set_option maxRecDepth 100000 in
theorem c_X11_token {l : Launch} {Γ : Cx} {M0 : Md} (hG : GK Γ l) (a0 : Nat) (a1 : Int) (a2 : Int) {sT : Nat → Nat} (hS : STs Γ sT) (C : Cd) : Ct l Γ k_X11_token 6 (encX gI) (emC M0) [.ref a0, wi a1, wi a2] C (fX11_token a0 a1 a2 C) := by
  refine ct_of (by decide +kernel) rfl (Nat.le_of_ble_eq_true rfl) ?_
  refine r_lo [0, 1, 2] (lo2 := [(0, .ref a0), (1, wi a1), (2, wi a2)]) rfl ?_
  unfold fX11_token
  refine r_aload_n (x := a0) dX11_token_0 rfl rfl ?_
  refine r_gets 0 hS (by decide) us_X11_54 rfl dX11_token_1 ?_
  refine r_iload_n (x := a1) dX11_token_4 rfl rfl ?_
  refine r_iload_n (x := a2) dX11_token_5 rfl rfl ?_
  refine r_ccVi (c := 14) (k2 := k_X11_isAmong) (n := 3) (rest := []) um_X11_58 rfl kv_X11_isAmong hc_X11 (by decide) (c_X11_isAmong hG _ _ _ _ hS (by decide) _) (by decide) rfl (Nat.le_of_ble_eq_true rfl) dX11_token_6 rfl (fun r2 C1 => ?_)
  refine r_if_ne (tgt := 22) dX11_token_9 (by decide) ?_ ?_
  · refine r_aload_n (x := a0) dX11_token_22 rfl rfl ?_
    refine r_cgetR (c := 14) (kk := 3) hc_X11 rfl (by decide) inU_X11 (by decide) uf_X11_31 rfl (by decide) dX11_token_23 (fun z3 => ?_)
    refine r_dref (fun p4 hp4 => ?_)
    subst hp4
    refine r_cgetIN (c := 11) (kk := 2) hc_X8 rfl (by decide) inU_X8 (by decide) hG uf_X11_69 rfl (by decide) dX11_token_26 ?_
    refine r_bipush (v := 30) dX11_token_29 rfl ?_
    refine r_icmp_lt (tgt := 44) dX11_token_31 (by decide) ?_ ?_
    · refine r_aload_n (x := a0) dX11_token_44 rfl rfl ?_
      refine r_cgetR (c := 14) (kk := 3) hc_X11 rfl (by decide) inU_X11 (by decide) uf_X11_31 rfl (by decide) dX11_token_45 (fun z5 => ?_)
      refine r_iload_n (x := a1) dX11_token_48 rfl rfl ?_
      refine r_sipush (v := 1000) dX11_token_49 rfl ?_
      refine r_imul dX11_token_52 ?_
      refine r_iload_n (x := a2) dX11_token_53 rfl rfl ?_
      refine r_iadd dX11_token_54 ?_
      refine r_dref (fun p6 hp6 => ?_)
      subst hp6
      refine r_ccVNv (c := 11) (k2 := k_X8_add) (n := 1) (rest := []) hG um_X11_77 rfl kv_X8_add hc_X8 (by decide) (c_X8_add hG _ _ _) (by decide) rfl (Nat.le_of_ble_eq_true rfl) dX11_token_55 rfl (fun r8 C7 => ?_)
      refine r_aload_n (x := a0) dX11_token_58 rfl rfl ?_
      refine r_cgetR (c := 14) (kk := 3) hc_X11 rfl (by decide) inU_X11 (by decide) uf_X11_31 rfl (by decide) dX11_token_59 (fun z9 => ?_)
      refine r_dref (fun p10 hp10 => ?_)
      subst hp10
      refine r_cgetIN (c := 11) (kk := 2) hc_X8 rfl (by decide) inU_X8 (by decide) hG uf_X11_69 rfl (by decide) dX11_token_62 ?_
      exact r_iretX rfl dX11_token_65
    · exact r_throw (e := 1) (text := "the draft is full") hG rfl rfl (by decide) (by decide) (by decide) (Nat.le_of_ble_eq_true rfl) dX11_token_34 dX11_token_37 dX11_token_38 dX11_token_40 dX11_token_43
  · exact r_throw (e := 0) (text := "no such token") hG rfl rfl (by decide) (by decide) (by decide) (Nat.le_of_ble_eq_true rfl) dX11_token_12 dX11_token_15 dX11_token_16 dX11_token_18 dX11_token_21
def k_X11_tokenAt : Kd := (yX11_tokenAt, cX11_tokenAt, 4, some .int, [])
theorem kv_X11_tokenAt : KV k_X11_tokenAt 2 := ⟨uw_mem 1571 (by decide +kernel) rfl, uw_mem 161 (by decide +kernel) rfl, uw_mem 1569 (by decide +kernel) rfl, uw_mem 1570 (by decide +kernel) rfl, ⟨by decide +kernel, by decide +kernel⟩, by decide +kernel, by decide +kernel⟩
set_option maxHeartbeats 8000000 in
set_option maxRecDepth 100000 in
theorem c_X11_tokenAt {l : Launch} {Γ : Cx} {M0 : Md} (hG : GK Γ l) (a0 : Nat) (a1 : Int) (a2 : Int) (C : Cd) : Ct l Γ k_X11_tokenAt 8 (encX gI) (emC M0) [.ref a0, wi a1, wi a2] C (fX11_tokenAt a0 a1 a2 C) := by
  refine ct_of (by decide +kernel) rfl (Nat.le_of_ble_eq_true rfl) ?_
  refine r_lo [0, 1, 2] (lo2 := [(0, .ref a0), (1, wi a1), (2, wi a2)]) rfl ?_
  unfold fX11_tokenAt
  refine r_aload_n (x := a0) dX11_tokenAt_0 rfl rfl ?_
  refine r_iload_n (x := a1) dX11_tokenAt_1 rfl rfl ?_
  refine r_cxV (c := 14) (h := gR) (k2 := k_X11_pageOf) (n := 1) (rest := []) um_X11_116 rfl kv_X11_pageOf hc_X11 (by decide) (c_X11_pageOf hG _ _ _) (by decide) rfl (Nat.le_of_ble_eq_true rfl) dX11_tokenAt_2 rfl (fun r2 C1 => ?_)
  show RunO l Γ k_X11_tokenAt 8 (encX gI) (emC M0) 5 [(0, .ref a0), (1, wi a1), (2, wi a2)] [va_rf r2] C1 _
  refine r_astoreq_n (lo2 := [(3, va_rf r2), (0, .ref a0), (1, wi a1), (2, wi a2)]) dX11_tokenAt_5 rfl (by decide) rfl ?_
  refine r_aload_n (x := a0) dX11_tokenAt_6 rfl rfl ?_
  refine r_iload_n (x := a2) dX11_tokenAt_7 rfl rfl ?_
  refine r_cxV (c := 14) (h := gV) (k2 := k_X11_refuseBelowZero) (n := 1) (rest := []) um_X11_288 rfl kv_X11_refuseBelowZero hc_X11 (by decide) (c_X11_refuseBelowZero hG _ _ _) (by decide) rfl (Nat.le_of_ble_eq_true rfl) dX11_tokenAt_8 rfl (fun r4 C3 => ?_)
  show RunO l Γ k_X11_tokenAt 8 (encX gI) (emC M0) 11 [(3, va_rf r2), (0, .ref a0), (1, wi a1), (2, wi a2)] [] C3 _
  refine r_aloadq_n (x := r2) dX11_tokenAt_11 rfl rfl ?_
  refine r_dref (fun p5 hp5 => ?_)
  subst hp5
  refine r_cgetRN (c := 6) (kk := 1) hc_X3 rfl (by decide) inU_X3 (by decide) hG uf_X11_148 rfl (by decide) dX11_tokenAt_12 (fun z6 => ?_)
  refine r_dref (fun p7 hp7 => ?_)
  subst hp7
  refine r_cgetRN (c := 13) (kk := 2) hc_X10 rfl (by decide) inU_X10 (by decide) hG uf_X11_130 rfl (by decide) dX11_tokenAt_15 (fun z8 => ?_)
  refine r_iload_n (x := a2) dX11_tokenAt_18 rfl rfl ?_
  refine r_dref (fun p9 hp9 => ?_)
  subst hp9
  refine r_ccVNi (c := 11) (k2 := k_X8_codeAt) (n := 1) (rest := []) hG um_X11_291 rfl kv_X8_codeAt hc_X8 (by decide) (c_X8_codeAt hG _ _ _) (by decide) rfl (Nat.le_of_ble_eq_true rfl) dX11_tokenAt_19 rfl (fun r11 C10 => ?_)
  exact r_iretX rfl dX11_tokenAt_22
def k_X11_translate : Kd := (yX11_translate, cX11_translate, 7, some .int, [])
theorem kv_X11_translate : KV k_X11_translate 3 := ⟨uw_mem 1325 (by decide +kernel) rfl, uw_mem 161 (by decide +kernel) rfl, uw_mem 1323 (by decide +kernel) rfl, uw_mem 1324 (by decide +kernel) rfl, ⟨by decide +kernel, by decide +kernel⟩, by decide +kernel, by decide +kernel⟩
set_option maxHeartbeats 8000000 in
set_option maxRecDepth 100000 in
theorem c_X11_translate {l : Launch} {Γ : Cx} {M0 : Md} (hG : GK Γ l) (a0 : Nat) (a1 : Int) (a2 : Int) (a3 : Int) (C : Cd) : Ct l Γ k_X11_translate 8 (encX gI) (emC M0) [.ref a0, wi a1, wi a2, wi a3] C (fX11_translate a0 a1 a2 a3 C) := by
  refine ct_of (by decide +kernel) rfl (Nat.le_of_ble_eq_true rfl) ?_
  refine r_lo [0, 1, 2, 3] (lo2 := [(0, .ref a0), (1, wi a1), (2, wi a2), (3, wi a3)]) rfl ?_
  unfold fX11_translate
  refine r_aload_n (x := a0) dX11_translate_0 rfl rfl ?_
  refine r_iload_n (x := a3) dX11_translate_1 rfl rfl ?_
  refine r_cxV (c := 14) (h := gR) (k2 := k_X11_titleOf) (n := 1) (rest := []) um_X11_85 rfl kv_X11_titleOf hc_X11 (by decide) (c_X11_titleOf hG _ _ _) (by decide) rfl (Nat.le_of_ble_eq_true rfl) dX11_translate_2 rfl (fun r2 C1 => ?_)
  show RunO l Γ k_X11_translate 8 (encX gI) (emC M0) 5 [(0, .ref a0), (1, wi a1), (2, wi a2), (3, wi a3)] [va_rf r2] C1 _
  refine r_pop dX11_translate_5 (by cases r2 <;> rfl) ?_
  refine r_aload_n (x := a0) dX11_translate_6 rfl rfl ?_
  refine r_iload_n (x := a1) dX11_translate_7 rfl rfl ?_
  refine r_cxV (c := 14) (h := gR) (k2 := k_X11_pageOf) (n := 1) (rest := []) um_X11_116 rfl kv_X11_pageOf hc_X11 (by decide) (c_X11_pageOf hG _ _ _) (by decide) rfl (Nat.le_of_ble_eq_true rfl) dX11_translate_8 rfl (fun r4 C3 => ?_)
  show RunO l Γ k_X11_translate 8 (encX gI) (emC M0) 11 [(0, .ref a0), (1, wi a1), (2, wi a2), (3, wi a3)] [va_rf r4] C3 _
  refine r_astoreq (lo2 := [(4, va_rf r4), (0, .ref a0), (1, wi a1), (2, wi a2), (3, wi a3)]) dX11_translate_11 (by decide) rfl ?_
  refine r_iload_n (x := a2) dX11_translate_13 rfl rfl ?_
  refine ro_iconst (v := 1) dX11_translate_14 rfl ?_
  refine r_join (P := fun (J : Cd → Option ((Int ⊕ Nat) × Cd)) => ∀  (C_28 : Cd), RunO l Γ k_X11_translate 8 (encX gI) (emC M0) 28 [] [] C_28 (J C_28)) ?_ (fun J28 hJ28 => ?_)
  · intro C_28
    exact r_throw (e := 0) (text := "no such translation") hG rfl rfl (by decide) (by decide) (by decide) (Nat.le_of_ble_eq_true rfl) dX11_translate_28 dX11_translate_31 dX11_translate_32 dX11_translate_34 dX11_translate_37
  refine r_icmp_lt (tgt := 28) dX11_translate_15 (by decide) ?_ ?_
  · refine r_lo [] (lo2 := []) rfl ?_
    exact hJ28  C3
  · refine r_iload_n (x := a2) dX11_translate_18 rfl rfl ?_
    refine ro_iconst (v := 2) dX11_translate_19 rfl ?_
    refine r_icmp_gt (tgt := 28) dX11_translate_20 (by decide) ?_ ?_
    · refine r_lo [] (lo2 := []) rfl ?_
      exact hJ28  C3
    · refine r_iload_n (x := a1) dX11_translate_23 rfl rfl ?_
      refine r_iload_n (x := a3) dX11_translate_24 rfl rfl ?_
      refine r_icmp_ne (tgt := 38) dX11_translate_25 (by decide) ?_ ?_
      · refine r_aload_n (x := a0) dX11_translate_38 rfl rfl ?_
        refine r_cgetR (c := 14) (kk := 1) hc_X11 rfl (by decide) inU_X11 (by decide) uf_X11_20 rfl (by decide) dX11_translate_39 (fun z5 => ?_)
        refine r_iload_n (x := a1) dX11_translate_42 rfl rfl ?_
        refine r_dref (fun p6 hp6 => ?_)
        subst hp6
        refine r_caald (t := 102) rfl (by decide) (by decide) dX11_translate_43 (fun z7 => ?_)
        refine r_astoreq (lo2 := [(5, va_rf z7), (4, va_rf r4), (0, .ref a0), (1, wi a1), (2, wi a2), (3, wi a3)]) dX11_translate_44 (by decide) (by cases r4 <;> rfl) ?_
        refine r_aloadq (x := z7) dX11_translate_46 rfl ?_
        refine r_dref (fun p8 hp8 => ?_)
        subst hp8
        refine r_cgetRN (c := 12) (kk := 1) hc_X9 rfl (by decide) inU_X9 (by decide) hG uf_X11_220 rfl (by decide) dX11_translate_48 (fun z9 => ?_)
        refine r_iload_n (x := a2) dX11_translate_51 rfl rfl ?_
        refine r_dref (fun p10 hp10 => ?_)
        subst hp10
        refine r_ciald dX11_translate_52 ?_
        refine r_nm (fun x6_53 => ?_)
        refine r_istore (lo2 := [(6, wi x6_53), (5, .ref p8), (4, va_rf r4), (0, .ref a0), (1, wi a1), (2, wi a2), (3, wi a3)]) dX11_translate_53 (by decide) rfl ?_
        refine r_aload (x := p8) dX11_translate_55 rfl ?_
        refine r_cgetRN (c := 12) (kk := 1) hc_X9 rfl (by decide) inU_X9 (by decide) hG uf_X11_220 rfl (by decide) dX11_translate_57 (fun z11 => ?_)
        refine r_iload_n (x := a2) dX11_translate_60 rfl rfl ?_
        refine r_iload_n (x := a3) dX11_translate_61 rfl rfl ?_
        refine r_dref (fun p12 hp12 => ?_)
        subst hp12
        refine r_ciast dX11_translate_62 (fun C13 _ _ => ?_)
        refine r_aload (x := p8) dX11_translate_63 rfl ?_
        refine r_cgetRN (c := 12) (kk := 2) hc_X9 rfl (by decide) inU_X9 (by decide) hG uf_X11_223 rfl (by decide) dX11_translate_65 (fun z14 => ?_)
        refine r_iload_n (x := a2) dX11_translate_68 rfl rfl ?_
        refine r_aloadq (x := r4) dX11_translate_69 rfl ?_
        refine r_dref (fun p15 hp15 => ?_)
        subst hp15
        refine r_cgetRN (c := 6) (kk := 1) hc_X3 rfl (by decide) inU_X3 (by decide) hG uf_X11_148 rfl (by decide) dX11_translate_71 (fun z16 => ?_)
        refine r_dref (fun p17 hp17 => ?_)
        subst hp17
        refine r_cgetIN (c := 13) (kk := 0) hc_X10 rfl (by decide) inU_X10 (by decide) hG uf_X11_226 rfl (by decide) dX11_translate_74 ?_
        refine r_dref (fun p18 hp18 => ?_)
        subst hp18
        refine r_ciast dX11_translate_77 (fun C19 _ _ => ?_)
        refine r_iload (x := x6_53) dX11_translate_78 rfl ?_
        exact r_iretX rfl dX11_translate_80
      · refine r_lo [] (lo2 := []) rfl ?_
        exact hJ28  C3
