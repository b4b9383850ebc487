def k_X12_putSection : Kd := (yX12_putSection, cX12_putSection, 5, none, [])
theorem kv_X12_putSection : KV k_X12_putSection 4 := ⟨uw_mem 2154 (by decide +kernel) rfl, uw_mem 170 (by decide +kernel) rfl, uw_mem 2153 (by decide +kernel) rfl, uw_mem 145 (by decide +kernel) rfl, ⟨by decide +kernel, by decide +kernel⟩, by decide +kernel, by decide +kernel⟩
set_option maxHeartbeats 4000000 in
set_option maxRecDepth 100000 in
theorem c_X12_putSection {l : Launch} {Γ : Cx} {K0 : Cd} {mo : Nat} {ma : Nat → Nat} (h : mOn Γ mo ma) (a1 : Nat) (a2 : Int) (a3 : Int) (a4 : Int) (hA1 : a1 ∈ mAs) (M : Md) : Ct l Γ k_X12_putSection 2 encV (emM K0) [.ref mo, .ref (ma a1), wi a2, wi a3, wi a4] M (fX12_putSection a1 a2 a3 a4 M) := by
  refine ct_of (by decide +kernel) rfl (Nat.le_of_ble_eq_true rfl) ?_
  refine r_lo [0, 1, 2, 3, 4] (lo2 := [(0, .ref mo), (1, .ref (ma a1)), (2, wi a2), (3, wi a3), (4, wi a4)]) rfl ?_
  unfold fX12_putSection
  refine r_aload_n (x := mo) dX12_putSection_0 rfl rfl ?_
  refine r_aload_n (x := ma a1) dX12_putSection_1 rfl rfl ?_
  refine r_iload_n (x := a2) dX12_putSection_2 rfl rfl ?_
  refine r_aload_n (x := ma a1) dX12_putSection_3 rfl rfl ?_
  refine r_iload_n (x := a2) dX12_putSection_4 rfl rfl ?_
  refine r_iload_n (x := a3) dX12_putSection_5 rfl rfl ?_
  refine r_iload (x := a4) dX12_putSection_6 rfl ?_
  refine r_callSi (k2 := k_X12_sectionFrom) (n := 4) (rest := [wi a2, .ref (ma a1), .ref mo]) rfl kv_X12_sectionFrom (c_X12_sectionFrom h _ _ _ _ hA1 _) (by decide) um_416 rfl (Nat.le_of_ble_eq_true rfl) dX12_putSection_8 rfl (fun r2 M1 => ?_)
  refine r_iadd dX12_putSection_11 ?_
  refine r_iload_n (x := a2) dX12_putSection_12 rfl rfl ?_
  refine r_aload_n (x := ma a1) dX12_putSection_13 rfl rfl ?_
  refine r_iload_n (x := a2) dX12_putSection_14 rfl rfl ?_
  refine r_iload_n (x := a3) dX12_putSection_15 rfl rfl ?_
  refine r_iload (x := a4) dX12_putSection_16 rfl ?_
  refine ro_iconst (v := 1) dX12_putSection_18 rfl ?_
  refine r_iadd dX12_putSection_19 ?_
  refine r_callSi (k2 := k_X12_sectionFrom) (n := 4) (rest := [wi a2, wi (a2 + r2), .ref (ma a1), .ref mo]) rfl kv_X12_sectionFrom (c_X12_sectionFrom h _ _ _ _ hA1 _) (by decide) um_416 rfl (Nat.le_of_ble_eq_true rfl) dX12_putSection_20 rfl (fun r4 M3 => ?_)
  refine r_iadd dX12_putSection_23 ?_
  refine r_callVv (k2 := k_X12_putResult) (n := 3) (rest := []) rfl kv_X12_putResult (c_X12_putResult h _ _ _ hA1 _) (by decide) um_412 rfl (Nat.le_of_ble_eq_true rfl) dX12_putSection_24 (m_rec h) rfl (fun r6 M5 => ?_)
  exact r_vret rfl dX12_putSection_27
def k_X12_merges : Kd := (yX12_merges, cX12_merges, 8, some .boolean, [])
theorem kv_X12_merges : KV k_X12_merges 2 := ⟨uw_mem 2147 (by decide +kernel) rfl, uw_mem 170 (by decide +kernel) rfl, uw_mem 2146 (by decide +kernel) rfl, uw_mem 144 (by decide +kernel) rfl, ⟨by decide +kernel, by decide +kernel⟩, by decide +kernel, by decide +kernel⟩
set_option maxHeartbeats 4000000 in
set_option maxRecDepth 100000 in
theorem c_X12_merges {l : Launch} {Γ : Cx} {K0 : Cd} {mo : Nat} {ma : Nat → Nat} (h : mOn Γ mo ma) (a1 : Int) (a2 : Int) (M : Md) : Ct l Γ k_X12_merges 3 encI (emM K0) [.ref mo, wi a1, wi a2] M (fX12_merges a1 a2 M) := by
  refine ct_of (by decide +kernel) rfl (Nat.le_of_ble_eq_true rfl) ?_
  refine r_lo [0, 1, 2] (lo2 := [(0, .ref mo), (1, wi a1), (2, wi a2)]) rfl ?_
  unfold fX12_merges
  refine r_bipush (v := 30) dX12_merges_0 rfl ?_
  refine r_iload_n (x := a1) dX12_merges_2 rfl rfl ?_
  refine r_imul dX12_merges_3 ?_
  refine r_nm (fun x3_4 => ?_)
  refine r_istore_n (lo2 := [(3, wi x3_4), (0, .ref mo), (1, wi a1), (2, wi a2)]) dX12_merges_4 rfl (by decide) rfl ?_
  refine r_bipush (v := 30) dX12_merges_5 rfl ?_
  refine r_iload_n (x := a2) dX12_merges_7 rfl rfl ?_
  refine r_imul dX12_merges_8 ?_
  refine r_nm (fun x4_9 => ?_)
  refine r_istore (lo2 := [(4, wi x4_9), (3, wi x3_4), (0, .ref mo), (1, wi a1), (2, wi a2)]) dX12_merges_9 (by decide) rfl ?_
  refine r_aload_n (x := mo) dX12_merges_11 rfl rfl ?_
  refine r_mgetA (kk := 74) h inU12 rfl (by decide) uf_171 rfl rfl dX12_merges_12 ?_
  refine ro_iconst (v := 0) dX12_merges_15 rfl ?_
  refine r_aload_n (x := mo) dX12_merges_16 rfl rfl ?_
  refine r_mget (kk := 75) h inU12 rfl (by decide) uf_420 rfl rfl dX12_merges_17 ?_
  refine r_callSi (k2 := k_X12_sectionMany) (n := 3) (rest := []) rfl kv_X12_sectionMany (c_X12_sectionMany h _ _ _ (by decide) _) (by decide) um_423 rfl (Nat.le_of_ble_eq_true rfl) dX12_merges_20 rfl (fun r2 M1 => ?_)
  refine r_istore (lo2 := [(5, wi r2), (4, wi x4_9), (3, wi x3_4), (0, .ref mo), (1, wi a1), (2, wi a2)]) dX12_merges_23 (by decide) rfl ?_
  refine r_iload (x := r2) dX12_merges_25 rfl ?_
  refine r_aload_n (x := mo) dX12_merges_27 rfl rfl ?_
  refine r_iload_n (x := a1) dX12_merges_28 rfl rfl ?_
  refine r_callVi (k2 := k_X12_sectionsOf) (n := 1) (rest := [wi r2]) rfl kv_X12_sectionsOf (c_X12_sectionsOf h _ _) (by decide) um_427 rfl (Nat.le_of_ble_eq_true rfl) dX12_merges_29 (m_rec h) rfl (fun r4 M3 => ?_)
  refine r_join (P := fun (J : Int → Md → Option (Int × Md)) => ∀ (t0_50 : Int) (M_50 : Md), RunO l Γ k_X12_merges 3 encI (emM K0) 50 [(0, .ref mo), (1, wi a1), (2, wi a2), (3, wi x3_4), (4, wi x4_9), (5, wi r2)] [wi t0_50] M_50 (J t0_50 M_50)) ?_ (fun J50 hJ50 => ?_)
  · intro t0_50 M_50
    refine r_istore (lo2 := [(6, wi t0_50), (0, .ref mo), (1, wi a1), (2, wi a2), (3, wi x3_4), (4, wi x4_9), (5, wi r2)]) dX12_merges_50 (by decide) rfl ?_
    refine r_aload_n (x := mo) dX12_merges_52 rfl rfl ?_
    refine ro_iconst (v := 0) dX12_merges_53 rfl ?_
    refine r_mput (kk := 77) h inU12 rfl (by decide) uf_409 rfl rfl rfl rfl dX12_merges_54 (fun M5 => ?_)
    refine ro_iconst (v := 0) dX12_merges_57 rfl ?_
    refine r_istore (lo2 := [(7, wi 0), (6, wi t0_50), (0, .ref mo), (1, wi a1), (2, wi a2), (3, wi x3_4), (4, wi x4_9), (5, wi r2)]) dX12_merges_58 (by decide) rfl ?_
    refine r_loop (P := fun (J : Int → Int → Md → Option (Int × Md)) => ∀ (v6_60 : Int) (v7_60 : Int) (M_60 : Md), RunO l Γ k_X12_merges 3 encI (emM K0) 60 [(0, .ref mo), (1, wi a1), (2, wi a2), (3, wi x3_4), (4, wi x4_9), (5, wi r2), (6, wi v6_60), (7, wi v7_60)] [] M_60 (J v6_60 v7_60 M_60)) ?_ (fun L60 hL60 => ?_) (fun J60 hJ60 => ?_)
    · intros; exact ro_none
    · intro v6_60 v7_60 M_60
      refine r_iload (x := v7_60) dX12_merges_60 rfl ?_
      refine r_iload (x := r2) dX12_merges_62 rfl ?_
      refine r_join (P := fun (J : Md → Option (Int × Md)) => ∀ (M_209 : Md), RunO l Γ k_X12_merges 3 encI (emM K0) 209 [(6, wi v6_60)] [] M_209 (J M_209)) ?_ (fun J209 hJ209 => ?_)
      · intro M_209
        refine r_iload (x := v6_60) dX12_merges_209 rfl ?_
        exact r_zret rfl dX12_merges_211
      refine r_icmp_ge (tgt := 209) dX12_merges_64 (by decide) ?_ ?_
      · refine r_lo [6] (lo2 := [(6, wi v6_60)]) rfl ?_
        exact hJ209 _
      · refine r_iload (x := v6_60) dX12_merges_67 rfl ?_
        refine r_if_eq (tgt := 209) dX12_merges_69 (by decide) ?_ ?_
        · refine r_lo [6] (lo2 := [(6, wi v6_60)]) rfl ?_
          exact hJ209 _
        · refine r_aload_n (x := mo) dX12_merges_72 rfl rfl ?_
          refine r_mgetA (kk := 74) h inU12 rfl (by decide) uf_171 rfl rfl dX12_merges_73 ?_
          refine ro_iconst (v := 0) dX12_merges_76 rfl ?_
          refine r_aload_n (x := mo) dX12_merges_77 rfl rfl ?_
          refine r_mget (kk := 75) h inU12 rfl (by decide) uf_420 rfl rfl dX12_merges_78 ?_
          refine r_aload_n (x := mo) dX12_merges_81 rfl rfl ?_
          refine r_mgetA (kk := 9) h inU12 rfl (by decide) uf_22 rfl rfl dX12_merges_82 ?_
          refine r_iload_n (x := x3_4) dX12_merges_85 rfl rfl ?_
          refine r_aload_n (x := mo) dX12_merges_86 rfl rfl ?_
          refine r_mgetA (kk := 10) h inU12 rfl (by decide) uf_25 rfl rfl dX12_merges_87 ?_
          refine r_iload_n (x := a1) dX12_merges_90 rfl rfl ?_
          refine r_miald h (by decide) dX12_merges_91 ?_
          refine r_iload (x := v7_60) dX12_merges_92 rfl ?_
          refine r_callSi (k2 := k_X12_areAlike) (n := 7) (rest := []) rfl kv_X12_areAlike (c_X12_areAlike h _ _ _ _ _ _ _ (by decide) (by decide) _) (by decide) um_430 rfl (Nat.le_of_ble_eq_true rfl) dX12_merges_94 rfl (fun r7 M6 => ?_)
          refine r_join (P := fun (J : Int → Md → Option (Int × Md)) => ∀ (v6_203 : Int) (M_203 : Md), RunO l Γ k_X12_merges 3 encI (emM K0) 203 [(0, .ref mo), (1, wi a1), (2, wi a2), (3, wi x3_4), (4, wi x4_9), (5, wi r2), (6, wi v6_203), (7, wi v7_60)] [] M_203 (J v6_203 M_203)) ?_ (fun J203 hJ203 => ?_)
          · intro v6_203 M_203
            refine r_iinc (x := v7_60) (lo2 := [(7, wi (v7_60 + 1)), (0, .ref mo), (1, wi a1), (2, wi a2), (3, wi x3_4), (4, wi x4_9), (5, wi r2), (6, wi v6_203)]) dX12_merges_203 rfl (by decide) rfl ?_
            refine r_goto (tgt := 60) dX12_merges_206 (by decide) ?_
            refine r_lo [1, 2, 3, 4, 5, 6, 7, 0] (lo2 := [(0, .ref mo), (1, wi a1), (2, wi a2), (3, wi x3_4), (4, wi x4_9), (5, wi r2), (6, wi v6_203), (7, wi (v7_60 + 1))]) rfl ?_
            exact hL60 _ _ _
          refine r_if_eq (tgt := 121) dX12_merges_97 (by decide) ?_ ?_
          · refine r_aload_n (x := mo) dX12_merges_121 rfl rfl ?_
            refine r_mgetA (kk := 9) h inU12 rfl (by decide) uf_22 rfl rfl dX12_merges_122 ?_
            refine r_iload (x := x4_9) dX12_merges_125 rfl ?_
            refine r_aload_n (x := mo) dX12_merges_127 rfl rfl ?_
            refine r_mgetA (kk := 10) h inU12 rfl (by decide) uf_25 rfl rfl dX12_merges_128 ?_
            refine r_iload_n (x := a2) dX12_merges_131 rfl rfl ?_
            refine r_miald h (by decide) dX12_merges_132 ?_
            refine r_aload_n (x := mo) dX12_merges_133 rfl rfl ?_
            refine r_mgetA (kk := 9) h inU12 rfl (by decide) uf_22 rfl rfl dX12_merges_134 ?_
            refine r_iload_n (x := x3_4) dX12_merges_137 rfl rfl ?_
            refine r_aload_n (x := mo) dX12_merges_138 rfl rfl ?_
            refine r_mgetA (kk := 10) h inU12 rfl (by decide) uf_25 rfl rfl dX12_merges_139 ?_
            refine r_iload_n (x := a1) dX12_merges_142 rfl rfl ?_
            refine r_miald h (by decide) dX12_merges_143 ?_
            refine r_iload (x := v7_60) dX12_merges_144 rfl ?_
            refine r_callSi (k2 := k_X12_areAlike) (n := 7) (rest := []) rfl kv_X12_areAlike (c_X12_areAlike h _ _ _ _ _ _ _ (by decide) (by decide) _) (by decide) um_430 rfl (Nat.le_of_ble_eq_true rfl) dX12_merges_146 rfl (fun r9 M8 => ?_)
            refine r_join (P := fun (J : Int → Md → Option (Int × Md)) => ∀ (t0_186 : Int) (M_186 : Md), RunO l Γ k_X12_merges 3 encI (emM K0) 186 [(0, .ref mo), (1, wi a1), (2, wi a2), (3, wi x3_4), (4, wi x4_9), (5, wi r2), (7, wi v7_60)] [wi t0_186] M_186 (J t0_186 M_186)) ?_ (fun J186 hJ186 => ?_)
            · intro t0_186 M_186
              refine r_istore (lo2 := [(6, wi t0_186), (0, .ref mo), (1, wi a1), (2, wi a2), (3, wi x3_4), (4, wi x4_9), (5, wi r2), (7, wi v7_60)]) dX12_merges_186 (by decide) rfl ?_
              refine r_aload_n (x := mo) dX12_merges_188 rfl rfl ?_
              refine r_aload_n (x := mo) dX12_merges_189 rfl rfl ?_
              refine r_mgetA (kk := 74) h inU12 rfl (by decide) uf_171 rfl rfl dX12_merges_190 ?_
              refine ro_iconst (v := 0) dX12_merges_193 rfl ?_
              refine r_aload_n (x := mo) dX12_merges_194 rfl rfl ?_
              refine r_mget (kk := 75) h inU12 rfl (by decide) uf_420 rfl rfl dX12_merges_195 ?_
              refine r_iload (x := v7_60) dX12_merges_198 rfl ?_
              refine r_callVv (k2 := k_X12_putSection) (n := 4) (rest := []) rfl kv_X12_putSection (c_X12_putSection h _ _ _ _ (by decide) _) (by decide) um_434 rfl (Nat.le_of_ble_eq_true rfl) dX12_merges_200 (m_rec h) rfl (fun r11 M10 => ?_)
              refine r_lo [1, 2, 3, 4, 5, 6, 0, 7] (lo2 := [(0, .ref mo), (1, wi a1), (2, wi a2), (3, wi x3_4), (4, wi x4_9), (5, wi r2), (6, wi t0_186), (7, wi v7_60)]) rfl ?_
              exact hJ203 _ _
            refine r_join (P := fun (J : Md → Option (Int × Md)) => ∀ (M_181 : Md), RunO l Γ k_X12_merges 3 encI (emM K0) 181 [(0, .ref mo), (1, wi a1), (2, wi a2), (3, wi x3_4), (4, wi x4_9), (5, wi r2), (7, wi v7_60)] [] M_181 (J M_181)) ?_ (fun J181 hJ181 => ?_)
            · intro M_181
              refine ro_iconst (v := 1) dX12_merges_181 rfl ?_
              refine r_goto (tgt := 186) dX12_merges_182 (by decide) ?_
              exact hJ186 _ _
            refine r_if_ne (tgt := 181) dX12_merges_149 (by decide) ?_ ?_
            · refine r_lo [0, 1, 2, 3, 4, 5, 7] (lo2 := [(0, .ref mo), (1, wi a1), (2, wi a2), (3, wi x3_4), (4, wi x4_9), (5, wi r2), (7, wi v7_60)]) rfl ?_
              exact hJ181 _
            · refine r_aload_n (x := mo) dX12_merges_152 rfl rfl ?_
              refine r_mgetA (kk := 9) h inU12 rfl (by decide) uf_22 rfl rfl dX12_merges_153 ?_
              refine r_iload (x := x4_9) dX12_merges_156 rfl ?_
              refine r_aload_n (x := mo) dX12_merges_158 rfl rfl ?_
              refine r_mgetA (kk := 10) h inU12 rfl (by decide) uf_25 rfl rfl dX12_merges_159 ?_
              refine r_iload_n (x := a2) dX12_merges_162 rfl rfl ?_
              refine r_miald h (by decide) dX12_merges_163 ?_
              refine r_aload_n (x := mo) dX12_merges_164 rfl rfl ?_
              refine r_mgetA (kk := 74) h inU12 rfl (by decide) uf_171 rfl rfl dX12_merges_165 ?_
              refine ro_iconst (v := 0) dX12_merges_168 rfl ?_
              refine r_aload_n (x := mo) dX12_merges_169 rfl rfl ?_
              refine r_mget (kk := 75) h inU12 rfl (by decide) uf_420 rfl rfl dX12_merges_170 ?_
              refine r_iload (x := v7_60) dX12_merges_173 rfl ?_
              refine r_callSi (k2 := k_X12_areAlike) (n := 7) (rest := []) rfl kv_X12_areAlike (c_X12_areAlike h _ _ _ _ _ _ _ (by decide) (by decide) _) (by decide) um_430 rfl (Nat.le_of_ble_eq_true rfl) dX12_merges_175 rfl (fun r13 M12 => ?_)
              refine r_if_eq (tgt := 185) dX12_merges_178 (by decide) ?_ ?_
              · refine ro_iconst (v := 0) dX12_merges_185 rfl ?_
                refine r_lo [0, 1, 2, 3, 4, 5, 7] (lo2 := [(0, .ref mo), (1, wi a1), (2, wi a2), (3, wi x3_4), (4, wi x4_9), (5, wi r2), (7, wi v7_60)]) rfl ?_
                exact hJ186 _ _
              · refine r_lo [0, 1, 2, 3, 4, 5, 7] (lo2 := [(0, .ref mo), (1, wi a1), (2, wi a2), (3, wi x3_4), (4, wi x4_9), (5, wi r2), (7, wi v7_60)]) rfl ?_
                exact hJ181 _
          · refine r_aload_n (x := mo) dX12_merges_100 rfl rfl ?_
            refine r_aload_n (x := mo) dX12_merges_101 rfl rfl ?_
            refine r_mgetA (kk := 9) h inU12 rfl (by decide) uf_22 rfl rfl dX12_merges_102 ?_
            refine r_iload (x := x4_9) dX12_merges_105 rfl ?_
            refine r_aload_n (x := mo) dX12_merges_107 rfl rfl ?_
            refine r_mgetA (kk := 10) h inU12 rfl (by decide) uf_25 rfl rfl dX12_merges_108 ?_
            refine r_iload_n (x := a2) dX12_merges_111 rfl rfl ?_
            refine r_miald h (by decide) dX12_merges_112 ?_
            refine r_iload (x := v7_60) dX12_merges_113 rfl ?_
            refine r_callVv (k2 := k_X12_putSection) (n := 4) (rest := []) rfl kv_X12_putSection (c_X12_putSection h _ _ _ _ (by decide) _) (by decide) um_434 rfl (Nat.le_of_ble_eq_true rfl) dX12_merges_115 (m_rec h) rfl (fun r15 M14 => ?_)
            refine r_goto (tgt := 203) dX12_merges_118 (by decide) ?_
            exact hJ203 _ _
    refine r_lo [2, 3, 4, 5, 6, 7, 1, 0] (lo2 := [(0, .ref mo), (1, wi a1), (2, wi a2), (3, wi x3_4), (4, wi x4_9), (5, wi r2), (6, wi t0_50), (7, wi 0)]) rfl ?_
    exact hJ60 _ _ _
  refine r_join (P := fun (J : Md → Option (Int × Md)) => ∀ (M_49 : Md), RunO l Γ k_X12_merges 3 encI (emM K0) 49 [(0, .ref mo), (1, wi a1), (2, wi a2), (3, wi x3_4), (4, wi x4_9), (5, wi r2)] [] M_49 (J M_49)) ?_ (fun J49 hJ49 => ?_)
  · intro M_49
    refine ro_iconst (v := 0) dX12_merges_49 rfl ?_
    exact hJ50 _ _
  refine r_icmp_ne (tgt := 49) dX12_merges_32 (by decide) ?_ ?_
  · refine r_lo [3, 4, 5, 2, 1, 0] (lo2 := [(0, .ref mo), (1, wi a1), (2, wi a2), (3, wi x3_4), (4, wi x4_9), (5, wi r2)]) rfl ?_
    exact hJ49 _
  · refine r_iload (x := r2) dX12_merges_35 rfl ?_
    refine r_aload_n (x := mo) dX12_merges_37 rfl rfl ?_
    refine r_iload_n (x := a2) dX12_merges_38 rfl rfl ?_
    refine r_callVi (k2 := k_X12_sectionsOf) (n := 1) (rest := [wi r2]) rfl kv_X12_sectionsOf (c_X12_sectionsOf h _ _) (by decide) um_427 rfl (Nat.le_of_ble_eq_true rfl) dX12_merges_39 (m_rec h) rfl (fun r17 M16 => ?_)
    refine r_icmp_ne (tgt := 49) dX12_merges_42 (by decide) ?_ ?_
    · refine r_lo [3, 4, 5, 2, 1, 0] (lo2 := [(0, .ref mo), (1, wi a1), (2, wi a2), (3, wi x3_4), (4, wi x4_9), (5, wi r2)]) rfl ?_
      exact hJ49 _
    · refine ro_iconst (v := 1) dX12_merges_45 rfl ?_
      refine r_goto (tgt := 50) dX12_merges_46 (by decide) ?_
      refine r_lo [3, 4, 5, 2, 1, 0] (lo2 := [(0, .ref mo), (1, wi a1), (2, wi a2), (3, wi x3_4), (4, wi x4_9), (5, wi r2)]) rfl ?_
      exact hJ50 _ _
def k_X12_isNew : Kd := (yX12_isNew, cX12_isNew, 4, some .boolean, [])
theorem kv_X12_isNew : KV k_X12_isNew 1 := ⟨uw_mem 2158 (by decide +kernel) rfl, uw_mem 170 (by decide +kernel) rfl, uw_mem 2157 (by decide +kernel) rfl, uw_mem 146 (by decide +kernel) rfl, ⟨by decide +kernel, by decide +kernel⟩, by decide +kernel, by decide +kernel⟩
set_option maxHeartbeats 4000000 in
set_option maxRecDepth 100000 in
theorem c_X12_isNew {l : Launch} {Γ : Cx} {K0 : Cd} {mo : Nat} {ma : Nat → Nat} (h : mOn Γ mo ma) (a1 : Int) (M : Md) : Ct l Γ k_X12_isNew 3 encI (emM K0) [.ref mo, wi a1] M (fX12_isNew a1 M) := by
  refine ct_of (by decide +kernel) rfl (Nat.le_of_ble_eq_true rfl) ?_
  refine r_lo [0, 1] (lo2 := [(0, .ref mo), (1, wi a1)]) rfl ?_
  unfold fX12_isNew
  refine r_aload_n (x := mo) dX12_isNew_0 rfl rfl ?_
  refine r_mget (kk := 77) h inU12 rfl (by decide) uf_409 rfl rfl dX12_isNew_1 ?_
  refine r_aload_n (x := mo) dX12_isNew_4 rfl rfl ?_
  refine r_mgetA (kk := 10) h inU12 rfl (by decide) uf_25 rfl rfl dX12_isNew_5 ?_
  refine r_iload_n (x := a1) dX12_isNew_8 rfl rfl ?_
  refine r_miald h (by decide) dX12_isNew_9 ?_
  refine r_join (P := fun (J : Int → Md → Option (Int × Md)) => ∀ (t0_18 : Int) (M_18 : Md), RunO l Γ k_X12_isNew 3 encI (emM K0) 18 [(0, .ref mo), (1, wi a1)] [wi t0_18] M_18 (J t0_18 M_18)) ?_ (fun J18 hJ18 => ?_)
  · intro t0_18 M_18
    refine r_istore_n (lo2 := [(2, wi t0_18), (0, .ref mo), (1, wi a1)]) dX12_isNew_18 rfl (by decide) rfl ?_
    refine ro_iconst (v := 0) dX12_isNew_19 rfl ?_
    refine r_istore_n (lo2 := [(3, wi 0), (2, wi t0_18), (0, .ref mo), (1, wi a1)]) dX12_isNew_20 rfl (by decide) rfl ?_
    refine r_loop (P := fun (J : Int → Int → Md → Option (Int × Md)) => ∀ (v2_21 : Int) (v3_21 : Int) (M_21 : Md), RunO l Γ k_X12_isNew 3 encI (emM K0) 21 [(0, .ref mo), (1, wi a1), (2, wi v2_21), (3, wi v3_21)] [] M_21 (J v2_21 v3_21 M_21)) ?_ (fun L21 hL21 => ?_) (fun J21 hJ21 => ?_)
    · intros; exact ro_none
    · intro v2_21 v3_21 M_21
      refine r_iload_n (x := v3_21) dX12_isNew_21 rfl rfl ?_
      refine r_aload_n (x := mo) dX12_isNew_22 rfl rfl ?_
      refine r_mget (kk := 77) h inU12 rfl (by decide) uf_409 rfl rfl dX12_isNew_23 ?_
      refine r_join (P := fun (J : Md → Option (Int × Md)) => ∀ (M_65 : Md), RunO l Γ k_X12_isNew 3 encI (emM K0) 65 [(0, .ref mo), (2, wi v2_21)] [] M_65 (J M_65)) ?_ (fun J65 hJ65 => ?_)
      · intro M_65
        refine r_iload_n (x := v2_21) dX12_isNew_65 rfl rfl ?_
        refine r_join (P := fun (J : Int → Md → Option (Int × Md)) => ∀ (t0_99 : Int) (M_99 : Md), RunO l Γ k_X12_isNew 3 encI (emM K0) 99 [] [wi t0_99] M_99 (J t0_99 M_99)) ?_ (fun J99 hJ99 => ?_)
        · intro t0_99 M_99
          exact r_zret rfl dX12_isNew_99
        refine r_join (P := fun (J : Md → Option (Int × Md)) => ∀ (M_98 : Md), RunO l Γ k_X12_isNew 3 encI (emM K0) 98 [] [] M_98 (J M_98)) ?_ (fun J98 hJ98 => ?_)
        · intro M_98
          refine ro_iconst (v := 0) dX12_isNew_98 rfl ?_
          exact hJ99 _ _
        refine r_if_eq (tgt := 98) dX12_isNew_66 (by decide) ?_ ?_
        · refine r_lo [] (lo2 := []) rfl ?_
          exact hJ98 _
        · refine r_aload_n (x := mo) dX12_isNew_69 rfl rfl ?_
          refine r_aload_n (x := mo) dX12_isNew_70 rfl rfl ?_
          refine r_mgetA (kk := 76) h inU12 rfl (by decide) uf_174 rfl rfl dX12_isNew_71 ?_
          refine ro_iconst (v := 0) dX12_isNew_74 rfl ?_
          refine r_aload_n (x := mo) dX12_isNew_75 rfl rfl ?_
          refine r_mget (kk := 77) h inU12 rfl (by decide) uf_409 rfl rfl dX12_isNew_76 ?_
          refine r_callVi (k2 := k_X12_isText) (n := 3) (rest := []) rfl kv_X12_isText (c_X12_isText h _ _ _ (by decide) _) (by decide) um_399 rfl (Nat.le_of_ble_eq_true rfl) dX12_isNew_79 (m_rec h) rfl (fun r2 M1 => ?_)
          refine r_if_eq (tgt := 98) dX12_isNew_82 (by decide) ?_ ?_
          · refine r_lo [] (lo2 := []) rfl ?_
            exact hJ98 _
          · refine r_aload_n (x := mo) dX12_isNew_85 rfl rfl ?_
            refine r_mget (kk := 8) h inU12 rfl (by decide) uf_192 rfl rfl dX12_isNew_86 ?_
            refine r_bipush (v := 120) dX12_isNew_89 rfl ?_
            refine r_icmp_ge (tgt := 98) dX12_isNew_91 (by decide) ?_ ?_
            · refine r_lo [] (lo2 := []) rfl ?_
              exact hJ98 _
            · refine ro_iconst (v := 1) dX12_isNew_94 rfl ?_
              refine r_goto (tgt := 99) dX12_isNew_95 (by decide) ?_
              refine r_lo [] (lo2 := []) rfl ?_
              exact hJ99 _ _
      refine r_icmp_ge (tgt := 65) dX12_isNew_26 (by decide) ?_ ?_
      · refine r_lo [0, 2] (lo2 := [(0, .ref mo), (2, wi v2_21)]) rfl ?_
        exact hJ65 _
      · refine r_iload_n (x := v2_21) dX12_isNew_29 rfl rfl ?_
        refine r_if_ne (tgt := 65) dX12_isNew_30 (by decide) ?_ ?_
        · refine r_lo [0, 2] (lo2 := [(0, .ref mo), (2, wi v2_21)]) rfl ?_
          exact hJ65 _
        · refine r_aload_n (x := mo) dX12_isNew_33 rfl rfl ?_
          refine r_mgetA (kk := 76) h inU12 rfl (by decide) uf_174 rfl rfl dX12_isNew_34 ?_
          refine r_iload_n (x := v3_21) dX12_isNew_37 rfl rfl ?_
          refine r_miald h (by decide) dX12_isNew_38 ?_
          refine r_aload_n (x := mo) dX12_isNew_39 rfl rfl ?_
          refine r_mgetA (kk := 9) h inU12 rfl (by decide) uf_22 rfl rfl dX12_isNew_40 ?_
          refine r_bipush (v := 30) dX12_isNew_43 rfl ?_
          refine r_iload_n (x := a1) dX12_isNew_45 rfl rfl ?_
          refine r_imul dX12_isNew_46 ?_
          refine r_iload_n (x := v3_21) dX12_isNew_47 rfl rfl ?_
          refine r_iadd dX12_isNew_48 ?_
          refine r_miald h (by decide) dX12_isNew_49 ?_
          refine r_join (P := fun (J : Int → Md → Option (Int × Md)) => ∀ (t0_58 : Int) (M_58 : Md), RunO l Γ k_X12_isNew 3 encI (emM K0) 58 [(0, .ref mo), (1, wi a1), (3, wi v3_21)] [wi t0_58] M_58 (J t0_58 M_58)) ?_ (fun J58 hJ58 => ?_)
          · intro t0_58 M_58
            refine r_istore_n (lo2 := [(2, wi t0_58), (0, .ref mo), (1, wi a1), (3, wi v3_21)]) dX12_isNew_58 rfl (by decide) rfl ?_
            refine r_iinc (x := v3_21) (lo2 := [(3, wi (v3_21 + 1)), (2, wi t0_58), (0, .ref mo), (1, wi a1)]) dX12_isNew_59 rfl (by decide) rfl ?_
            refine r_goto (tgt := 21) dX12_isNew_62 (by decide) ?_
            refine r_lo [2, 3, 1, 0] (lo2 := [(0, .ref mo), (1, wi a1), (2, wi t0_58), (3, wi (v3_21 + 1))]) rfl ?_
            exact hL21 _ _ _
          refine r_icmp_eq (tgt := 57) dX12_isNew_50 (by decide) ?_ ?_
          · refine ro_iconst (v := 0) dX12_isNew_57 rfl ?_
            refine r_lo [0, 1, 3] (lo2 := [(0, .ref mo), (1, wi a1), (3, wi v3_21)]) rfl ?_
            exact hJ58 _ _
          · refine ro_iconst (v := 1) dX12_isNew_53 rfl ?_
            refine r_goto (tgt := 58) dX12_isNew_54 (by decide) ?_
            refine r_lo [0, 1, 3] (lo2 := [(0, .ref mo), (1, wi a1), (3, wi v3_21)]) rfl ?_
            exact hJ58 _ _
    refine r_lo [2, 3, 1, 0] (lo2 := [(0, .ref mo), (1, wi a1), (2, wi t0_18), (3, wi 0)]) rfl ?_
    exact hJ21 _ _ _
  refine r_icmp_eq (tgt := 17) dX12_isNew_10 (by decide) ?_ ?_
  · refine ro_iconst (v := 0) dX12_isNew_17 rfl ?_
    exact hJ18 _ _
  · refine ro_iconst (v := 1) dX12_isNew_13 rfl ?_
    refine r_goto (tgt := 18) dX12_isNew_14 (by decide) ?_
    exact hJ18 _ _
def k_X12_newVersionNow : Kd := (yX12_newVersionNow, cX12_newVersionNow, 5, some .int, [])
theorem kv_X12_newVersionNow : KV k_X12_newVersionNow 4 := ⟨uw_mem 2162 (by decide +kernel) rfl, uw_mem 170 (by decide +kernel) rfl, uw_mem 2161 (by decide +kernel) rfl, uw_mem 147 (by decide +kernel) rfl, ⟨by decide +kernel, by decide +kernel⟩, by decide +kernel, by decide +kernel⟩
set_option maxHeartbeats 4000000 in
set_option maxRecDepth 100000 in
theorem c_X12_newVersionNow {l : Launch} {Γ : Cx} {K0 : Cd} {mo : Nat} {ma : Nat → Nat} (h : mOn Γ mo ma) (a1 : Int) (a2 : Nat) (a3 : Int) (a4 : Int) (hA2 : a2 ∈ mAs) (M : Md) : Ct l Γ k_X12_newVersionNow 2 encI (emM K0) [.ref mo, wi a1, .ref (ma a2), wi a3, wi a4] M (fX12_newVersionNow a1 a2 a3 a4 M) := by
  refine ct_of (by decide +kernel) rfl (Nat.le_of_ble_eq_true rfl) ?_
  refine r_lo [0, 1, 2, 3, 4] (lo2 := [(0, .ref mo), (1, wi a1), (2, .ref (ma a2)), (3, wi a3), (4, wi a4)]) rfl ?_
  unfold fX12_newVersionNow
  refine r_aload_n (x := mo) dX12_newVersionNow_0 rfl rfl ?_
  refine r_dup dX12_newVersionNow_1 rfl ?_
  refine r_mget (kk := 5) h inU12 rfl (by decide) uf_215 rfl rfl dX12_newVersionNow_2 ?_
  refine ro_iconst (v := 1) dX12_newVersionNow_5 rfl ?_
  refine r_iadd dX12_newVersionNow_6 ?_
  refine r_mput (kk := 5) h inU12 rfl (by decide) uf_215 rfl rfl rfl rfl dX12_newVersionNow_7 (fun M1 => ?_)
  refine r_aload_n (x := mo) dX12_newVersionNow_10 rfl rfl ?_
  refine r_iload_n (x := a1) dX12_newVersionNow_11 rfl rfl ?_
  refine r_aload_n (x := mo) dX12_newVersionNow_12 rfl rfl ?_
  refine r_mget (kk := 5) h inU12 rfl (by decide) uf_215 rfl rfl dX12_newVersionNow_13 ?_
  refine r_aload_n (x := ma a2) dX12_newVersionNow_16 rfl rfl ?_
  refine r_iload_n (x := a3) dX12_newVersionNow_17 rfl rfl ?_
  refine r_iload (x := a4) dX12_newVersionNow_18 rfl ?_
  refine r_callVi (k2 := k_X12_newVersion) (n := 5) (rest := []) rfl kv_X12_newVersion (c_X12_newVersion h _ _ _ _ _ hA2 _) (by decide) um_218 rfl (Nat.le_of_ble_eq_true rfl) dX12_newVersionNow_20 (m_rec h) rfl (fun r3 M2 => ?_)
  exact r_iret rfl dX12_newVersionNow_23
def k_X12_edit : Kd := (yX12_edit, cX12_edit, 8, some .int, [])
theorem kv_X12_edit : KV k_X12_edit 3 := ⟨uw_mem 2121 (by decide +kernel) rfl, uw_mem 170 (by decide +kernel) rfl, uw_mem 2119 (by decide +kernel) rfl, uw_mem 2120 (by decide +kernel) rfl, ⟨by decide +kernel, by decide +kernel⟩, by decide +kernel, by decide +kernel⟩
set_option maxHeartbeats 4000000 in
set_option maxRecDepth 100000 in
theorem c_X12_edit {l : Launch} {Γ : Cx} {K0 : Cd} {mo : Nat} {ma : Nat → Nat} (h : mOn Γ mo ma) (a1 : Int) (a2 : Int) (a3 : Int) (M : Md) : Ct l Γ k_X12_edit 5 encI (emM K0) [.ref mo, wi a1, wi a2, wi a3] M (fX12_edit a1 a2 a3 M) := by
  refine ct_of (by decide +kernel) rfl (Nat.le_of_ble_eq_true rfl) ?_
  refine r_lo [0, 1, 2, 3] (lo2 := [(0, .ref mo), (1, wi a1), (2, wi a2), (3, wi a3)]) rfl ?_
  unfold fX12_edit
  refine r_aload_n (x := mo) dX12_edit_0 rfl rfl ?_
  refine r_iload_n (x := a1) dX12_edit_1 rfl rfl ?_
  refine r_iload_n (x := a2) dX12_edit_2 rfl rfl ?_
  refine r_callVi (k2 := k_X12_isVersionAt) (n := 2) (rest := []) rfl kv_X12_isVersionAt (c_X12_isVersionAt h _ _ _) (by decide) um_438 rfl (Nat.le_of_ble_eq_true rfl) dX12_edit_3 (m_rec h) rfl (fun r2 M1 => ?_)
  refine r_istore (lo2 := [(4, wi r2), (0, .ref mo), (1, wi a1), (2, wi a2), (3, wi a3)]) dX12_edit_6 (by decide) rfl ?_
  refine r_aload_n (x := mo) dX12_edit_8 rfl rfl ?_
  refine r_iload (x := r2) dX12_edit_9 rfl ?_
  refine r_join (P := fun (J : Int → Md → Option (Int × Md)) => ∀ (t0_39 : Int) (M_39 : Md), RunO l Γ k_X12_edit 5 encI (emM K0) 39 [(0, .ref mo), (1, wi a1), (2, wi a2), (3, wi a3)] [wi t0_39, .ref mo] M_39 (J t0_39 M_39)) ?_ (fun J39 hJ39 => ?_)
  · intro t0_39 M_39
    refine r_mput (kk := 36) h inU12 rfl (by decide) uf_180 rfl rfl rfl rfl dX12_edit_39 (fun M3 => ?_)
    refine r_aload_n (x := mo) dX12_edit_42 rfl rfl ?_
    refine r_mget (kk := 36) h inU12 rfl (by decide) uf_180 rfl rfl dX12_edit_43 ?_
    refine r_if_le (tgt := 51) dX12_edit_46 (by decide) ?_ ?_
    · refine r_aload_n (x := mo) dX12_edit_51 rfl rfl ?_
      refine r_iload_n (x := a1) dX12_edit_52 rfl rfl ?_
      refine r_callVi (k2 := k_X12_presentAt) (n := 1) (rest := []) rfl kv_X12_presentAt (c_X12_presentAt h _ _) (by decide) um_209 rfl (Nat.le_of_ble_eq_true rfl) dX12_edit_53 (m_rec h) rfl (fun r5 M4 => ?_)
      refine r_istore (lo2 := [(5, wi r5), (0, .ref mo), (1, wi a1), (2, wi a2), (3, wi a3)]) dX12_edit_56 (by decide) rfl ?_
      refine r_aload_n (x := mo) dX12_edit_58 rfl rfl ?_
      refine r_iload_n (x := a2) dX12_edit_59 rfl rfl ?_
      refine r_iload_n (x := a3) dX12_edit_60 rfl rfl ?_
      refine r_callVv (k2 := k_X12_layMeant) (n := 2) (rest := []) rfl kv_X12_layMeant (c_X12_layMeant h _ _ _) (by decide) um_441 rfl (Nat.le_of_ble_eq_true rfl) dX12_edit_61 (m_rec h) rfl (fun r7 M6 => ?_)
      refine r_aload_n (x := mo) dX12_edit_64 rfl rfl ?_
      refine r_iload_n (x := a1) dX12_edit_65 rfl rfl ?_
      refine r_callVi (k2 := k_X12_mayAt) (n := 1) (rest := []) rfl kv_X12_mayAt (c_X12_mayAt h _ _) (by decide) um_393 rfl (Nat.le_of_ble_eq_true rfl) dX12_edit_66 (m_rec h) rfl (fun r9 M8 => ?_)
      refine r_join (P := fun (J : Int → Md → Option (Int × Md)) => ∀ (t0_93 : Int) (M_93 : Md), RunO l Γ k_X12_edit 5 encI (emM K0) 93 [(0, .ref mo), (1, wi a1), (5, wi r5)] [wi t0_93] M_93 (J t0_93 M_93)) ?_ (fun J93 hJ93 => ?_)
      · intro t0_93 M_93
        refine r_istore (lo2 := [(6, wi t0_93), (0, .ref mo), (1, wi a1), (5, wi r5)]) dX12_edit_93 (by decide) rfl ?_
        refine r_aload_n (x := mo) dX12_edit_95 rfl rfl ?_
        refine r_iload (x := t0_93) dX12_edit_96 rfl ?_
        refine r_join (P := fun (J : Int → Md → Option (Int × Md)) => ∀ (t0_115 : Int) (M_115 : Md), RunO l Γ k_X12_edit 5 encI (emM K0) 115 [(0, .ref mo), (1, wi a1)] [wi t0_115, .ref mo] M_115 (J t0_115 M_115)) ?_ (fun J115 hJ115 => ?_)
        · intro t0_115 M_115
          refine r_mput (kk := 36) h inU12 rfl (by decide) uf_180 rfl rfl rfl rfl dX12_edit_115 (fun M10 => ?_)
          refine r_aload_n (x := mo) dX12_edit_118 rfl rfl ?_
          refine r_mget (kk := 36) h inU12 rfl (by decide) uf_180 rfl rfl dX12_edit_119 ?_
          refine r_if_le (tgt := 127) dX12_edit_122 (by decide) ?_ ?_
          · refine r_aload_n (x := mo) dX12_edit_127 rfl rfl ?_
            refine ro_iconst (v := 0) dX12_edit_128 rfl ?_
            refine r_mput (kk := 1) h inU12 rfl (by decide) uf_387 rfl rfl rfl rfl dX12_edit_129 (fun M11 => ?_)
            refine r_aload_n (x := mo) dX12_edit_132 rfl rfl ?_
            refine r_aload_n (x := mo) dX12_edit_133 rfl rfl ?_
            refine r_mgetA (kk := 6) h inU12 rfl (by decide) uf_19 rfl rfl dX12_edit_134 ?_
            refine r_iload_n (x := a1) dX12_edit_137 rfl rfl ?_
            refine r_miald h (by decide) dX12_edit_138 ?_
            refine r_aload_n (x := mo) dX12_edit_139 rfl rfl ?_
            refine r_mgetA (kk := 76) h inU12 rfl (by decide) uf_174 rfl rfl dX12_edit_140 ?_
            refine ro_iconst (v := 0) dX12_edit_143 rfl ?_
            refine r_aload_n (x := mo) dX12_edit_144 rfl rfl ?_
            refine r_mget (kk := 77) h inU12 rfl (by decide) uf_409 rfl rfl dX12_edit_145 ?_
            refine r_callVi (k2 := k_X12_newVersionNow) (n := 4) (rest := []) rfl kv_X12_newVersionNow (c_X12_newVersionNow h _ _ _ _ (by decide) _) (by decide) um_450 rfl (Nat.le_of_ble_eq_true rfl) dX12_edit_148 (m_rec h) rfl (fun r13 M12 => ?_)
            refine r_istore (lo2 := [(7, wi r13), (0, .ref mo), (1, wi a1)]) dX12_edit_151 (by decide) rfl ?_
            refine r_aload_n (x := mo) dX12_edit_153 rfl rfl ?_
            refine r_callVv (k2 := k_X12_settleTitles) (n := 0) (rest := []) rfl kv_X12_settleTitles (c_X12_settleTitles h _) (by decide) um_396 rfl (Nat.le_of_ble_eq_true rfl) dX12_edit_154 (m_rec h) rfl (fun r15 M14 => ?_)
            refine r_iload (x := r13) dX12_edit_157 rfl ?_
            exact r_iret rfl dX12_edit_159
          · refine ro_iconst (v := 0) dX12_edit_125 rfl ?_
            exact r_iret rfl dX12_edit_126
        refine r_join (P := fun (J : Md → Option (Int × Md)) => ∀ (M_114 : Md), RunO l Γ k_X12_edit 5 encI (emM K0) 114 [(0, .ref mo), (1, wi a1)] [.ref mo] M_114 (J M_114)) ?_ (fun J114 hJ114 => ?_)
        · intro M_114
          refine ro_iconst (v := 2) dX12_edit_114 rfl ?_
          exact hJ115 _ _
        refine r_if_eq (tgt := 114) dX12_edit_98 (by decide) ?_ ?_
        · refine r_lo [1, 2] (lo2 := [(0, .ref mo), (1, wi a1)]) rfl ?_
          exact hJ114 _
        · refine r_aload_n (x := mo) dX12_edit_101 rfl rfl ?_
          refine r_iload (x := r5) dX12_edit_102 rfl ?_
          refine r_callVi (k2 := k_X12_isNew) (n := 1) (rest := [.ref mo]) rfl kv_X12_isNew (c_X12_isNew h _ _) (by decide) um_447 rfl (Nat.le_of_ble_eq_true rfl) dX12_edit_104 (m_rec h) rfl (fun r17 M16 => ?_)
          refine r_if_eq (tgt := 114) dX12_edit_107 (by decide) ?_ ?_
          · refine r_lo [1, 2] (lo2 := [(0, .ref mo), (1, wi a1)]) rfl ?_
            exact hJ114 _
          · refine ro_iconst (v := 0) dX12_edit_110 rfl ?_
            refine r_goto (tgt := 115) dX12_edit_111 (by decide) ?_
            refine r_lo [1, 2] (lo2 := [(0, .ref mo), (1, wi a1)]) rfl ?_
            exact hJ115 _ _
      refine r_join (P := fun (J : Md → Option (Int × Md)) => ∀ (M_92 : Md), RunO l Γ k_X12_edit 5 encI (emM K0) 92 [(0, .ref mo), (1, wi a1), (5, wi r5)] [] M_92 (J M_92)) ?_ (fun J92 hJ92 => ?_)
      · intro M_92
        refine ro_iconst (v := 0) dX12_edit_92 rfl ?_
        exact hJ93 _ _
      refine r_if_eq (tgt := 92) dX12_edit_69 (by decide) ?_ ?_
      · refine r_lo [1, 2, 0] (lo2 := [(0, .ref mo), (1, wi a1), (5, wi r5)]) rfl ?_
        exact hJ92 _
      · refine r_iload_n (x := a2) dX12_edit_72 rfl rfl ?_
        refine r_iload (x := r5) dX12_edit_73 rfl ?_
        refine r_join (P := fun (J : Md → Option (Int × Md)) => ∀ (M_88 : Md), RunO l Γ k_X12_edit 5 encI (emM K0) 88 [(0, .ref mo), (1, wi a1), (5, wi r5)] [] M_88 (J M_88)) ?_ (fun J88 hJ88 => ?_)
        · intro M_88
          refine ro_iconst (v := 1) dX12_edit_88 rfl ?_
          refine r_goto (tgt := 93) dX12_edit_89 (by decide) ?_
          exact hJ93 _ _
        refine r_icmp_eq (tgt := 88) dX12_edit_75 (by decide) ?_ ?_
        · refine r_lo [1, 2, 0] (lo2 := [(0, .ref mo), (1, wi a1), (5, wi r5)]) rfl ?_
          exact hJ88 _
        · refine r_aload_n (x := mo) dX12_edit_78 rfl rfl ?_
          refine r_iload_n (x := a2) dX12_edit_79 rfl rfl ?_
          refine r_iload (x := r5) dX12_edit_80 rfl ?_
          refine r_callVi (k2 := k_X12_merges) (n := 2) (rest := []) rfl kv_X12_merges (c_X12_merges h _ _ _) (by decide) um_444 rfl (Nat.le_of_ble_eq_true rfl) dX12_edit_82 (m_rec h) rfl (fun r19 M18 => ?_)
          refine r_if_eq (tgt := 92) dX12_edit_85 (by decide) ?_ ?_
          · refine r_lo [1, 2, 0] (lo2 := [(0, .ref mo), (1, wi a1), (5, wi r5)]) rfl ?_
            exact hJ92 _
          · refine r_lo [1, 2, 0] (lo2 := [(0, .ref mo), (1, wi a1), (5, wi r5)]) rfl ?_
            exact hJ88 _
    · refine ro_iconst (v := 0) dX12_edit_49 rfl ?_
      exact r_iret rfl dX12_edit_50
  refine r_join (P := fun (J : Md → Option (Int × Md)) => ∀ (M_34 : Md), RunO l Γ k_X12_edit 5 encI (emM K0) 34 [(0, .ref mo), (1, wi a1), (2, wi a2), (3, wi a3)] [.ref mo] M_34 (J M_34)) ?_ (fun J34 hJ34 => ?_)
  · intro M_34
    refine ro_iconst (v := 1) dX12_edit_34 rfl ?_
    refine r_goto (tgt := 39) dX12_edit_35 (by decide) ?_
    exact hJ39 _ _
  refine r_if_eq (tgt := 34) dX12_edit_11 (by decide) ?_ ?_
  · refine r_lo [1, 2, 3, 4] (lo2 := [(0, .ref mo), (1, wi a1), (2, wi a2), (3, wi a3)]) rfl ?_
    exact hJ34 _
  · refine r_iload_n (x := a3) dX12_edit_14 rfl rfl ?_
    refine ro_iconst (v := (-1)) dX12_edit_15 rfl ?_
    refine r_join (P := fun (J : Md → Option (Int × Md)) => ∀ (M_38 : Md), RunO l Γ k_X12_edit 5 encI (emM K0) 38 [(0, .ref mo), (1, wi a1), (2, wi a2), (3, wi a3)] [.ref mo] M_38 (J M_38)) ?_ (fun J38 hJ38 => ?_)
    · intro M_38
      refine ro_iconst (v := 0) dX12_edit_38 rfl ?_
      exact hJ39 _ _
    refine r_icmp_eq (tgt := 38) dX12_edit_16 (by decide) ?_ ?_
    · refine r_lo [1, 2, 3, 4] (lo2 := [(0, .ref mo), (1, wi a1), (2, wi a2), (3, wi a3)]) rfl ?_
      exact hJ38 _
    · refine r_iload_n (x := a3) dX12_edit_19 rfl rfl ?_
      refine ro_iconst (v := 0) dX12_edit_20 rfl ?_
      refine r_aload_n (x := mo) dX12_edit_21 rfl rfl ?_
      refine r_iload_n (x := a2) dX12_edit_22 rfl rfl ?_
      refine r_callVi (k2 := k_X12_sectionsOf) (n := 1) (rest := [wi 0, wi a3, .ref mo]) rfl kv_X12_sectionsOf (c_X12_sectionsOf h _ _) (by decide) um_427 rfl (Nat.le_of_ble_eq_true rfl) dX12_edit_23 (m_rec h) rfl (fun r21 M20 => ?_)
      refine ro_iconst (v := 1) dX12_edit_26 rfl ?_
      refine r_isub dX12_edit_27 ?_
      refine r_callSi (k2 := k_X12_in) (n := 3) (rest := [.ref mo]) rfl kv_X12_in (c_X12_in h _ _ _ _) (by decide) um_184 rfl (Nat.le_of_ble_eq_true rfl) dX12_edit_28 rfl (fun r23 M22 => ?_)
      refine r_if_ne (tgt := 38) dX12_edit_31 (by decide) ?_ ?_
      · refine r_lo [1, 2, 3, 4] (lo2 := [(0, .ref mo), (1, wi a1), (2, wi a2), (3, wi a3)]) rfl ?_
        exact hJ38 _
      · refine r_lo [1, 2, 3, 4] (lo2 := [(0, .ref mo), (1, wi a1), (2, wi a2), (3, wi a3)]) rfl ?_
        exact hJ34 _
def k_X12_empty : Kd := (yX12_empty, cX12_empty, 3, some .int, [])
theorem kv_X12_empty : KV k_X12_empty 1 := ⟨uw_mem 2217 (by decide +kernel) rfl, uw_mem 170 (by decide +kernel) rfl, uw_mem 2215 (by decide +kernel) rfl, uw_mem 2216 (by decide +kernel) rfl, ⟨by decide +kernel, by decide +kernel⟩, by decide +kernel, by decide +kernel⟩
set_option maxHeartbeats 4000000 in
set_option maxRecDepth 100000 in
theorem c_X12_empty {l : Launch} {Γ : Cx} {K0 : Cd} {mo : Nat} {ma : Nat → Nat} (h : mOn Γ mo ma) (a1 : Int) (M : Md) : Ct l Γ k_X12_empty 2 encI (emM K0) [.ref mo, wi a1] M (fX12_empty a1 M) := by
  refine ct_of (by decide +kernel) rfl (Nat.le_of_ble_eq_true rfl) ?_
  refine r_lo [0, 1] (lo2 := [(0, .ref mo), (1, wi a1)]) rfl ?_
  unfold fX12_empty
  refine r_aload_n (x := mo) dX12_empty_0 rfl rfl ?_
  refine r_iload_n (x := a1) dX12_empty_1 rfl rfl ?_
  refine ro_iconst (v := 0) dX12_empty_2 rfl ?_
  refine ro_iconst (v := 3) dX12_empty_3 rfl ?_
  refine r_callSi (k2 := k_X12_in) (n := 3) (rest := [.ref mo]) rfl kv_X12_in (c_X12_in h _ _ _ _) (by decide) um_184 rfl (Nat.le_of_ble_eq_true rfl) dX12_empty_4 rfl (fun r2 M1 => ?_)
  refine r_join (P := fun (J : Int → Md → Option (Int × Md)) => ∀ (t0_15 : Int) (M_15 : Md), RunO l Γ k_X12_empty 2 encI (emM K0) 15 [(0, .ref mo), (1, wi a1)] [wi t0_15, .ref mo] M_15 (J t0_15 M_15)) ?_ (fun J15 hJ15 => ?_)
  · intro t0_15 M_15
    refine r_mput (kk := 36) h inU12 rfl (by decide) uf_180 rfl rfl rfl rfl dX12_empty_15 (fun M3 => ?_)
    refine r_aload_n (x := mo) dX12_empty_18 rfl rfl ?_
    refine r_mget (kk := 36) h inU12 rfl (by decide) uf_180 rfl rfl dX12_empty_19 ?_
    refine r_if_le (tgt := 27) dX12_empty_22 (by decide) ?_ ?_
    · refine r_aload_n (x := mo) dX12_empty_27 rfl rfl ?_
      refine r_mgetA (kk := 21) h inU12 rfl (by decide) uf_55 rfl rfl dX12_empty_28 ?_
      refine r_iload_n (x := a1) dX12_empty_31 rfl rfl ?_
      refine r_miald h (by decide) dX12_empty_32 ?_
      refine r_nm (fun x2_33 => ?_)
      refine r_istore_n (lo2 := [(2, wi x2_33), (0, .ref mo), (1, wi a1)]) dX12_empty_33 rfl (by decide) rfl ?_
      refine r_aload_n (x := mo) dX12_empty_34 rfl rfl ?_
      refine r_mgetA (kk := 21) h inU12 rfl (by decide) uf_55 rfl rfl dX12_empty_35 ?_
      refine r_iload_n (x := a1) dX12_empty_38 rfl rfl ?_
      refine ro_iconst (v := 0) dX12_empty_39 rfl ?_
      refine r_miast h (by decide) dX12_empty_40 (fun M4 => ?_)
      refine r_iload_n (x := x2_33) dX12_empty_41 rfl rfl ?_
      refine r_join (P := fun (J : Md → Option (Int × Md)) => ∀ (M_65 : Md), RunO l Γ k_X12_empty 2 encI (emM K0) 65 [(2, wi x2_33)] [] M_65 (J M_65)) ?_ (fun J65 hJ65 => ?_)
      · intro M_65
        refine r_iload_n (x := x2_33) dX12_empty_65 rfl rfl ?_
        exact r_iret rfl dX12_empty_66
      refine r_if_le (tgt := 65) dX12_empty_42 (by decide) ?_ ?_
      · refine r_lo [0] (lo2 := [(2, wi x2_33)]) rfl ?_
        exact hJ65 _
      · refine r_aload_n (x := mo) dX12_empty_45 rfl rfl ?_
        refine r_dup dX12_empty_46 rfl ?_
        refine r_mget (kk := 22) h inU12 rfl (by decide) uf_212 rfl rfl dX12_empty_47 ?_
        refine ro_iconst (v := 1) dX12_empty_50 rfl ?_
        refine r_iadd dX12_empty_51 ?_
        refine r_mput (kk := 22) h inU12 rfl (by decide) uf_212 rfl rfl rfl rfl dX12_empty_52 (fun M5 => ?_)
        refine r_aload_n (x := mo) dX12_empty_55 rfl rfl ?_
        refine r_mgetA (kk := 25) h inU12 rfl (by decide) uf_64 rfl rfl dX12_empty_56 ?_
        refine r_iload_n (x := a1) dX12_empty_59 rfl rfl ?_
        refine r_aload_n (x := mo) dX12_empty_60 rfl rfl ?_
        refine r_mget (kk := 22) h inU12 rfl (by decide) uf_212 rfl rfl dX12_empty_61 ?_
        refine r_miast h (by decide) dX12_empty_64 (fun M6 => ?_)
        refine r_lo [0] (lo2 := [(2, wi x2_33)]) rfl ?_
        exact hJ65 _
    · refine ro_iconst (v := 0) dX12_empty_25 rfl ?_
      exact r_iret rfl dX12_empty_26
  refine r_if_eq (tgt := 14) dX12_empty_7 (by decide) ?_ ?_
  · refine ro_iconst (v := 1) dX12_empty_14 rfl ?_
    exact hJ15 _ _
  · refine ro_iconst (v := 0) dX12_empty_10 rfl ?_
    refine r_goto (tgt := 15) dX12_empty_11 (by decide) ?_
    exact hJ15 _ _
def k_X12_translated : Kd := (yX12_translated, cX12_translated, 4, some .int, [])
theorem kv_X12_translated : KV k_X12_translated 2 := ⟨uw_mem 2305 (by decide +kernel) rfl, uw_mem 170 (by decide +kernel) rfl, uw_mem 2304 (by decide +kernel) rfl, uw_mem 159 (by decide +kernel) rfl, ⟨by decide +kernel, by decide +kernel⟩, by decide +kernel, by decide +kernel⟩
set_option maxHeartbeats 4000000 in
set_option maxRecDepth 100000 in
theorem c_X12_translated {l : Launch} {Γ : Cx} {K0 : Cd} {mo : Nat} {ma : Nat → Nat} (h : mOn Γ mo ma) (a1 : Int) (a2 : Int) (M : Md) : Ct l Γ k_X12_translated 1 encI (emM K0) [.ref mo, wi a1, wi a2] M (fX12_translated a1 a2 M) := by
  refine ct_of (by decide +kernel) rfl (Nat.le_of_ble_eq_true rfl) ?_
  refine r_lo [0, 1, 2] (lo2 := [(0, .ref mo), (1, wi a1), (2, wi a2)]) rfl ?_
  unfold fX12_translated
  refine r_aload_n (x := mo) dX12_translated_0 rfl rfl ?_
  refine r_mgetA (kk := 17) h inU12 rfl (by decide) uf_43 rfl rfl dX12_translated_1 ?_
  refine r_bipush (v := 24) dX12_translated_4 rfl ?_
  refine r_iload_n (x := a2) dX12_translated_6 rfl rfl ?_
  refine ro_iconst (v := 1) dX12_translated_7 rfl ?_
  refine r_isub dX12_translated_8 ?_
  refine r_imul dX12_translated_9 ?_
  refine r_iload_n (x := a1) dX12_translated_10 rfl rfl ?_
  refine r_iadd dX12_translated_11 ?_
  refine r_miald h (by decide) dX12_translated_12 ?_
  refine r_nm (fun x3_13 => ?_)
  refine r_istore_n (lo2 := [(3, wi x3_13), (0, .ref mo), (1, wi a1), (2, wi a2)]) dX12_translated_13 rfl (by decide) rfl ?_
  refine r_iload_n (x := x3_13) dX12_translated_14 rfl rfl ?_
  refine ro_iconst (v := (-1)) dX12_translated_15 rfl ?_
  refine r_join (P := fun (J : Int → Md → Option (Int × Md)) => ∀ (t0_34 : Int) (M_34 : Md), RunO l Γ k_X12_translated 1 encI (emM K0) 34 [] [wi t0_34] M_34 (J t0_34 M_34)) ?_ (fun J34 hJ34 => ?_)
  · intro t0_34 M_34
    exact r_iret rfl dX12_translated_34
  refine r_join (P := fun (J : Md → Option (Int × Md)) => ∀ (M_33 : Md), RunO l Γ k_X12_translated 1 encI (emM K0) 33 [] [] M_33 (J M_33)) ?_ (fun J33 hJ33 => ?_)
  · intro M_33
    refine ro_iconst (v := (-1)) dX12_translated_33 rfl ?_
    exact hJ34 _ _
  refine r_icmp_eq (tgt := 33) dX12_translated_16 (by decide) ?_ ?_
  · refine r_lo [] (lo2 := []) rfl ?_
    exact hJ33 _
  · refine r_aload_n (x := mo) dX12_translated_19 rfl rfl ?_
    refine r_mgetA (kk := 6) h inU12 rfl (by decide) uf_19 rfl rfl dX12_translated_20 ?_
    refine r_iload_n (x := x3_13) dX12_translated_23 rfl rfl ?_
    refine r_miald h (by decide) dX12_translated_24 ?_
    refine ro_iconst (v := (-1)) dX12_translated_25 rfl ?_
    refine r_icmp_eq (tgt := 33) dX12_translated_26 (by decide) ?_ ?_
    · refine r_lo [] (lo2 := []) rfl ?_
      exact hJ33 _
    · refine r_iload_n (x := x3_13) dX12_translated_29 rfl rfl ?_
      refine r_goto (tgt := 34) dX12_translated_30 (by decide) ?_
      refine r_lo [] (lo2 := []) rfl ?_
      exact hJ34 _ _
def k_X12_inLanguage : Kd := (yX12_inLanguage, cX12_inLanguage, 4, some .int, [])
theorem kv_X12_inLanguage : KV k_X12_inLanguage 2 := ⟨uw_mem 2297 (by decide +kernel) rfl, uw_mem 170 (by decide +kernel) rfl, uw_mem 2295 (by decide +kernel) rfl, uw_mem 2296 (by decide +kernel) rfl, ⟨by decide +kernel, by decide +kernel⟩, by decide +kernel, by decide +kernel⟩
set_option maxHeartbeats 4000000 in
set_option maxRecDepth 100000 in
theorem c_X12_inLanguage {l : Launch} {Γ : Cx} {K0 : Cd} {mo : Nat} {ma : Nat → Nat} (h : mOn Γ mo ma) (a1 : Int) (a2 : Int) (M : Md) : Ct l Γ k_X12_inLanguage 4 encI (emM K0) [.ref mo, wi a1, wi a2] M (fX12_inLanguage a1 a2 M) := by
  refine ct_of (by decide +kernel) rfl (Nat.le_of_ble_eq_true rfl) ?_
  refine r_lo [0, 1, 2] (lo2 := [(0, .ref mo), (1, wi a1), (2, wi a2)]) rfl ?_
  unfold fX12_inLanguage
  refine r_aload_n (x := mo) dX12_inLanguage_0 rfl rfl ?_
  refine r_iload_n (x := a1) dX12_inLanguage_1 rfl rfl ?_
  refine r_iload_n (x := a2) dX12_inLanguage_2 rfl rfl ?_
  refine r_callVi (k2 := k_X12_asksIn) (n := 2) (rest := []) rfl kv_X12_asksIn (c_X12_asksIn h _ _ _) (by decide) um_485 rfl (Nat.le_of_ble_eq_true rfl) dX12_inLanguage_3 (m_rec h) rfl (fun r2 M1 => ?_)
  refine r_if_ne (tgt := 11) dX12_inLanguage_6 (by decide) ?_ ?_
  · refine r_aload_n (x := mo) dX12_inLanguage_11 rfl rfl ?_
    refine r_iload_n (x := a1) dX12_inLanguage_12 rfl rfl ?_
    refine r_iload_n (x := a2) dX12_inLanguage_13 rfl rfl ?_
    refine r_callVi (k2 := k_X12_translated) (n := 2) (rest := []) rfl kv_X12_translated (c_X12_translated h _ _ _) (by decide) um_488 rfl (Nat.le_of_ble_eq_true rfl) dX12_inLanguage_14 (m_rec h) rfl (fun r4 M3 => ?_)
    refine r_istore_n (lo2 := [(3, wi r4), (0, .ref mo), (1, wi a1), (2, wi a2)]) dX12_inLanguage_17 rfl (by decide) rfl ?_
    refine r_iload_n (x := r4) dX12_inLanguage_18 rfl rfl ?_
    refine ro_iconst (v := (-1)) dX12_inLanguage_19 rfl ?_
    refine r_join (P := fun (J : Int → Md → Option (Int × Md)) => ∀ (t0_38 : Int) (M_38 : Md), RunO l Γ k_X12_inLanguage 4 encI (emM K0) 38 [(1, wi a1)] [wi t0_38] M_38 (J t0_38 M_38)) ?_ (fun J38 hJ38 => ?_)
    · intro t0_38 M_38
      refine r_istore_n (lo2 := [(3, wi t0_38), (1, wi a1)]) dX12_inLanguage_38 rfl (by decide) rfl ?_
      refine r_iload_n (x := t0_38) dX12_inLanguage_39 rfl rfl ?_
      refine ro_iconst (v := (-1)) dX12_inLanguage_40 rfl ?_
      refine r_join (P := fun (J : Int → Md → Option (Int × Md)) => ∀ (t0_49 : Int) (M_49 : Md), RunO l Γ k_X12_inLanguage 4 encI (emM K0) 49 [] [wi t0_49] M_49 (J t0_49 M_49)) ?_ (fun J49 hJ49 => ?_)
      · intro t0_49 M_49
        exact r_iret rfl dX12_inLanguage_49
      refine r_icmp_ne (tgt := 48) dX12_inLanguage_41 (by decide) ?_ ?_
      · refine r_iload_n (x := t0_38) dX12_inLanguage_48 rfl rfl ?_
        refine r_lo [] (lo2 := []) rfl ?_
        exact hJ49 _ _
      · refine r_iload_n (x := a1) dX12_inLanguage_44 rfl rfl ?_
        refine r_goto (tgt := 49) dX12_inLanguage_45 (by decide) ?_
        refine r_lo [] (lo2 := []) rfl ?_
        exact hJ49 _ _
    refine r_join (P := fun (J : Md → Option (Int × Md)) => ∀ (M_37 : Md), RunO l Γ k_X12_inLanguage 4 encI (emM K0) 37 [(1, wi a1), (3, wi r4)] [] M_37 (J M_37)) ?_ (fun J37 hJ37 => ?_)
    · intro M_37
      refine r_iload_n (x := r4) dX12_inLanguage_37 rfl rfl ?_
      refine r_lo [0] (lo2 := [(1, wi a1)]) rfl ?_
      exact hJ38 _ _
    refine r_icmp_ne (tgt := 37) dX12_inLanguage_20 (by decide) ?_ ?_
    · refine r_lo [2, 0] (lo2 := [(1, wi a1), (3, wi r4)]) rfl ?_
      exact hJ37 _
    · refine r_iload_n (x := a2) dX12_inLanguage_23 rfl rfl ?_
      refine ro_iconst (v := 2) dX12_inLanguage_24 rfl ?_
      refine r_icmp_ne (tgt := 37) dX12_inLanguage_25 (by decide) ?_ ?_
      · refine r_lo [2, 0] (lo2 := [(1, wi a1), (3, wi r4)]) rfl ?_
        exact hJ37 _
      · refine r_aload_n (x := mo) dX12_inLanguage_28 rfl rfl ?_
        refine r_iload_n (x := a1) dX12_inLanguage_29 rfl rfl ?_
        refine ro_iconst (v := 1) dX12_inLanguage_30 rfl ?_
        refine r_callVi (k2 := k_X12_translated) (n := 2) (rest := []) rfl kv_X12_translated (c_X12_translated h _ _ _) (by decide) um_488 rfl (Nat.le_of_ble_eq_true rfl) dX12_inLanguage_31 (m_rec h) rfl (fun r6 M5 => ?_)
        refine r_goto (tgt := 38) dX12_inLanguage_34 (by decide) ?_
        refine r_lo [2] (lo2 := [(1, wi a1)]) rfl ?_
        exact hJ38 _ _
  · refine ro_iconst (v := 0) dX12_inLanguage_9 rfl ?_
    exact r_iret rfl dX12_inLanguage_10
def k_X12_instruct : Kd := (yX12_instruct, cX12_instruct, 5, some .int, [])
theorem kv_X12_instruct : KV k_X12_instruct 3 := ⟨uw_mem 2213 (by decide +kernel) rfl, uw_mem 170 (by decide +kernel) rfl, uw_mem 2211 (by decide +kernel) rfl, uw_mem 2212 (by decide +kernel) rfl, ⟨by decide +kernel, by decide +kernel⟩, by decide +kernel, by decide +kernel⟩
set_option maxHeartbeats 4000000 in
set_option maxRecDepth 100000 in
theorem c_X12_instruct {l : Launch} {Γ : Cx} {K0 : Cd} {mo : Nat} {ma : Nat → Nat} (h : mOn Γ mo ma) (a1 : Int) (a2 : Int) (a3 : Int) (M : Md) : Ct l Γ k_X12_instruct 2 encI (emM K0) [.ref mo, wi a1, wi a2, wi a3] M (fX12_instruct a1 a2 a3 M) := by
  refine ct_of (by decide +kernel) rfl (Nat.le_of_ble_eq_true rfl) ?_
  refine r_lo [0, 1, 2, 3] (lo2 := [(0, .ref mo), (1, wi a1), (2, wi a2), (3, wi a3)]) rfl ?_
  unfold fX12_instruct
  refine r_iload_n (x := a2) dX12_instruct_0 rfl rfl ?_
  refine r_join (P := fun (J : Int → Md → Option (Int × Md)) => ∀ (t0_38 : Int) (M_38 : Md), RunO l Γ k_X12_instruct 2 encI (emM K0) 38 [(0, .ref mo), (1, wi a1), (2, wi a2), (3, wi a3)] [wi t0_38] M_38 (J t0_38 M_38)) ?_ (fun J38 hJ38 => ?_)
  · intro t0_38 M_38
    refine r_istore (lo2 := [(4, wi t0_38), (0, .ref mo), (1, wi a1), (2, wi a2), (3, wi a3)]) dX12_instruct_38 (by decide) rfl ?_
    refine r_aload_n (x := mo) dX12_instruct_40 rfl rfl ?_
    refine r_iload_n (x := a1) dX12_instruct_41 rfl rfl ?_
    refine ro_iconst (v := 0) dX12_instruct_42 rfl ?_
    refine ro_iconst (v := 3) dX12_instruct_43 rfl ?_
    refine r_callSi (k2 := k_X12_in) (n := 3) (rest := [.ref mo]) rfl kv_X12_in (c_X12_in h _ _ _ _) (by decide) um_184 rfl (Nat.le_of_ble_eq_true rfl) dX12_instruct_44 rfl (fun r2 M1 => ?_)
    refine r_join (P := fun (J : Int → Md → Option (Int × Md)) => ∀ (t0_94 : Int) (M_94 : Md), RunO l Γ k_X12_instruct 2 encI (emM K0) 94 [(0, .ref mo), (1, wi a1), (2, wi a2), (3, wi a3)] [wi t0_94, .ref mo] M_94 (J t0_94 M_94)) ?_ (fun J94 hJ94 => ?_)
    · intro t0_94 M_94
      refine r_mput (kk := 36) h inU12 rfl (by decide) uf_180 rfl rfl rfl rfl dX12_instruct_94 (fun M3 => ?_)
      refine r_aload_n (x := mo) dX12_instruct_97 rfl rfl ?_
      refine r_mget (kk := 36) h inU12 rfl (by decide) uf_180 rfl rfl dX12_instruct_98 ?_
      refine r_if_le (tgt := 106) dX12_instruct_101 (by decide) ?_ ?_
      · refine r_aload_n (x := mo) dX12_instruct_106 rfl rfl ?_
        refine r_mgetA (kk := 19) h inU12 rfl (by decide) uf_49 rfl rfl dX12_instruct_107 ?_
        refine r_bipush (v := 16) dX12_instruct_110 rfl ?_
        refine r_iload_n (x := a1) dX12_instruct_112 rfl rfl ?_
        refine r_imul dX12_instruct_113 ?_
        refine r_aload_n (x := mo) dX12_instruct_114 rfl rfl ?_
        refine r_mgetA (kk := 21) h inU12 rfl (by decide) uf_55 rfl rfl dX12_instruct_115 ?_
        refine r_iload_n (x := a1) dX12_instruct_118 rfl rfl ?_
        refine r_miald h (by decide) dX12_instruct_119 ?_
        refine r_iadd dX12_instruct_120 ?_
        refine r_iload_n (x := a2) dX12_instruct_121 rfl rfl ?_
        refine r_miast h (by decide) dX12_instruct_122 (fun M4 => ?_)
        refine r_aload_n (x := mo) dX12_instruct_123 rfl rfl ?_
        refine r_mgetA (kk := 20) h inU12 rfl (by decide) uf_52 rfl rfl dX12_instruct_124 ?_
        refine r_bipush (v := 16) dX12_instruct_127 rfl ?_
        refine r_iload_n (x := a1) dX12_instruct_129 rfl rfl ?_
        refine r_imul dX12_instruct_130 ?_
        refine r_aload_n (x := mo) dX12_instruct_131 rfl rfl ?_
        refine r_mgetA (kk := 21) h inU12 rfl (by decide) uf_55 rfl rfl dX12_instruct_132 ?_
        refine r_iload_n (x := a1) dX12_instruct_135 rfl rfl ?_
        refine r_miald h (by decide) dX12_instruct_136 ?_
        refine r_iadd dX12_instruct_137 ?_
        refine r_iload_n (x := a3) dX12_instruct_138 rfl rfl ?_
        refine r_miast h (by decide) dX12_instruct_139 (fun M5 => ?_)
        refine r_aload_n (x := mo) dX12_instruct_140 rfl rfl ?_
        refine r_mgetA (kk := 21) h inU12 rfl (by decide) uf_55 rfl rfl dX12_instruct_141 ?_
        refine r_iload_n (x := a1) dX12_instruct_144 rfl rfl ?_
        refine r_dup2 dX12_instruct_145 rfl rfl ?_
        refine r_miald h (by decide) dX12_instruct_146 ?_
        refine ro_iconst (v := 1) dX12_instruct_147 rfl ?_
        refine r_iadd dX12_instruct_148 ?_
        refine r_miast h (by decide) dX12_instruct_149 (fun M6 => ?_)
        refine r_aload_n (x := mo) dX12_instruct_150 rfl rfl ?_
        refine r_dup dX12_instruct_151 rfl ?_
        refine r_mget (kk := 22) h inU12 rfl (by decide) uf_212 rfl rfl dX12_instruct_152 ?_
        refine ro_iconst (v := 1) dX12_instruct_155 rfl ?_
        refine r_iadd dX12_instruct_156 ?_
        refine r_mput (kk := 22) h inU12 rfl (by decide) uf_212 rfl rfl rfl rfl dX12_instruct_157 (fun M7 => ?_)
        refine r_aload_n (x := mo) dX12_instruct_160 rfl rfl ?_
        refine r_mgetA (kk := 25) h inU12 rfl (by decide) uf_64 rfl rfl dX12_instruct_161 ?_
        refine r_iload_n (x := a1) dX12_instruct_164 rfl rfl ?_
        refine r_aload_n (x := mo) dX12_instruct_165 rfl rfl ?_
        refine r_mget (kk := 22) h inU12 rfl (by decide) uf_212 rfl rfl dX12_instruct_166 ?_
        refine r_miast h (by decide) dX12_instruct_169 (fun M8 => ?_)
        refine r_aload_n (x := mo) dX12_instruct_170 rfl rfl ?_
        refine r_mgetA (kk := 21) h inU12 rfl (by decide) uf_55 rfl rfl dX12_instruct_171 ?_
        refine r_iload_n (x := a1) dX12_instruct_174 rfl rfl ?_
        refine r_miald h (by decide) dX12_instruct_175 ?_
        exact r_iret rfl dX12_instruct_176
      · refine ro_iconst (v := 0) dX12_instruct_104 rfl ?_
        exact r_iret rfl dX12_instruct_105
    refine r_if_ne (tgt := 54) dX12_instruct_47 (by decide) ?_ ?_
    · refine r_iload_n (x := a2) dX12_instruct_54 rfl rfl ?_
      refine ro_iconst (v := 0) dX12_instruct_55 rfl ?_
      refine r_bipush (v := 8) dX12_instruct_56 rfl ?_
      refine r_callSi (k2 := k_X12_in) (n := 3) (rest := [.ref mo]) rfl kv_X12_in (c_X12_in h _ _ _ _) (by decide) um_184 rfl (Nat.le_of_ble_eq_true rfl) dX12_instruct_58 rfl (fun r10 M9 => ?_)
      refine r_join (P := fun (J : Md → Option (Int × Md)) => ∀ (M_74 : Md), RunO l Γ k_X12_instruct 2 encI (emM K0) 74 [(0, .ref mo), (1, wi a1), (2, wi a2), (3, wi a3)] [.ref mo] M_74 (J M_74)) ?_ (fun J74 hJ74 => ?_)
      · intro M_74
        refine ro_iconst (v := 2) dX12_instruct_74 rfl ?_
        refine r_goto (tgt := 94) dX12_instruct_75 (by decide) ?_
        exact hJ94 _ _
      refine r_if_eq (tgt := 74) dX12_instruct_61 (by decide) ?_ ?_
      · refine r_lo [1, 2, 3, 4] (lo2 := [(0, .ref mo), (1, wi a1), (2, wi a2), (3, wi a3)]) rfl ?_
        exact hJ74 _
      · refine r_iload_n (x := a3) dX12_instruct_64 rfl rfl ?_
        refine ro_iconst (v := 0) dX12_instruct_65 rfl ?_
        refine r_iload (x := t0_38) dX12_instruct_66 rfl ?_
        refine r_callSi (k2 := k_X12_in) (n := 3) (rest := [.ref mo]) rfl kv_X12_in (c_X12_in h _ _ _ _) (by decide) um_184 rfl (Nat.le_of_ble_eq_true rfl) dX12_instruct_68 rfl (fun r12 M11 => ?_)
        refine r_if_ne (tgt := 78) dX12_instruct_71 (by decide) ?_ ?_
        · refine r_aload_n (x := mo) dX12_instruct_78 rfl rfl ?_
          refine r_mgetA (kk := 21) h inU12 rfl (by decide) uf_55 rfl rfl dX12_instruct_79 ?_
          refine r_iload_n (x := a1) dX12_instruct_82 rfl rfl ?_
          refine r_miald h (by decide) dX12_instruct_83 ?_
          refine r_bipush (v := 16) dX12_instruct_84 rfl ?_
          refine r_icmp_ne (tgt := 93) dX12_instruct_86 (by decide) ?_ ?_
          · refine ro_iconst (v := 0) dX12_instruct_93 rfl ?_
            refine r_lo [1, 2, 3, 4] (lo2 := [(0, .ref mo), (1, wi a1), (2, wi a2), (3, wi a3)]) rfl ?_
            exact hJ94 _ _
          · refine ro_iconst (v := 3) dX12_instruct_89 rfl ?_
            refine r_goto (tgt := 94) dX12_instruct_90 (by decide) ?_
            refine r_lo [1, 2, 3, 4] (lo2 := [(0, .ref mo), (1, wi a1), (2, wi a2), (3, wi a3)]) rfl ?_
            exact hJ94 _ _
        · refine r_lo [1, 2, 3, 4] (lo2 := [(0, .ref mo), (1, wi a1), (2, wi a2), (3, wi a3)]) rfl ?_
          exact hJ74 _
    · refine ro_iconst (v := 1) dX12_instruct_50 rfl ?_
      refine r_goto (tgt := 94) dX12_instruct_51 (by decide) ?_
      refine r_lo [1, 2, 3, 4] (lo2 := [(0, .ref mo), (1, wi a1), (2, wi a2), (3, wi a3)]) rfl ?_
      exact hJ94 _ _
  refine r_if_ne (tgt := 10) dX12_instruct_1 (by decide) ?_ ?_
  · refine r_iload_n (x := a2) dX12_instruct_10 rfl rfl ?_
    refine ro_iconst (v := 1) dX12_instruct_11 rfl ?_
    refine r_icmp_ne (tgt := 20) dX12_instruct_12 (by decide) ?_ ?_
    · refine r_iload_n (x := a2) dX12_instruct_20 rfl rfl ?_
      refine r_bipush (v := 6) dX12_instruct_21 rfl ?_
      refine r_join (P := fun (J : Md → Option (Int × Md)) => ∀ (M_32 : Md), RunO l Γ k_X12_instruct 2 encI (emM K0) 32 [(0, .ref mo), (1, wi a1), (2, wi a2), (3, wi a3)] [] M_32 (J M_32)) ?_ (fun J32 hJ32 => ?_)
      · intro M_32
        refine r_bipush (v := 15) dX12_instruct_32 rfl ?_
        refine r_goto (tgt := 38) dX12_instruct_34 (by decide) ?_
        exact hJ38 _ _
      refine r_icmp_eq (tgt := 32) dX12_instruct_23 (by decide) ?_ ?_
      · exact hJ32 _
      · refine r_iload_n (x := a2) dX12_instruct_26 rfl rfl ?_
        refine r_bipush (v := 7) dX12_instruct_27 rfl ?_
        refine r_icmp_ne (tgt := 37) dX12_instruct_29 (by decide) ?_ ?_
        · refine ro_iconst (v := 0) dX12_instruct_37 rfl ?_
          exact hJ38 _ _
        · exact hJ32 _
    · refine r_bipush (v := 8) dX12_instruct_15 rfl ?_
      refine r_goto (tgt := 38) dX12_instruct_17 (by decide) ?_
      exact hJ38 _ _
  · refine r_sipush (v := 999) dX12_instruct_4 rfl ?_
    refine r_goto (tgt := 38) dX12_instruct_7 (by decide) ?_
    exact hJ38 _ _
def k_X12_leadsTo : Kd := (yX12_leadsTo, cX12_leadsTo, 2, some .int, [])
theorem kv_X12_leadsTo : KV k_X12_leadsTo 1 := ⟨uw_mem 2257 (by decide +kernel) rfl, uw_mem 170 (by decide +kernel) rfl, uw_mem 2256 (by decide +kernel) rfl, uw_mem 156 (by decide +kernel) rfl, ⟨by decide +kernel, by decide +kernel⟩, by decide +kernel, by decide +kernel⟩
set_option maxHeartbeats 4000000 in
set_option maxRecDepth 100000 in
theorem c_X12_leadsTo {l : Launch} {Γ : Cx} {K0 : Cd} {mo : Nat} {ma : Nat → Nat} (h : mOn Γ mo ma) (a1 : Int) (M : Md) : Ct l Γ k_X12_leadsTo 6 encI (emM K0) [.ref mo, wi a1] M (fX12_leadsTo a1 M) := by
  refine ct_of (by decide +kernel) rfl (Nat.le_of_ble_eq_true rfl) ?_
  refine r_lo [0, 1] (lo2 := [(0, .ref mo), (1, wi a1)]) rfl ?_
  unfold fX12_leadsTo
  refine r_aload_n (x := mo) dX12_leadsTo_0 rfl rfl ?_
  refine ro_iconst (v := (-1)) dX12_leadsTo_1 rfl ?_
  refine r_mput (kk := 39) h inU12 rfl (by decide) uf_232 rfl rfl rfl rfl dX12_leadsTo_2 (fun M1 => ?_)
  refine r_aload_n (x := mo) dX12_leadsTo_5 rfl rfl ?_
  refine r_iload_n (x := a1) dX12_leadsTo_6 rfl rfl ?_
  refine r_callVi (k2 := k_X12_wayOf) (n := 1) (rest := []) rfl kv_X12_wayOf (c_X12_wayOf h _ _) (by decide) um_273 rfl (Nat.le_of_ble_eq_true rfl) dX12_leadsTo_7 (m_rec h) rfl (fun r3 M2 => ?_)
  exact r_iret rfl dX12_leadsTo_10
def k_X12_isLinked : Kd := (yX12_isLinked, cX12_isLinked, 5, some .boolean, [])
theorem kv_X12_isLinked : KV k_X12_isLinked 1 := ⟨uw_mem 2293 (by decide +kernel) rfl, uw_mem 170 (by decide +kernel) rfl, uw_mem 2292 (by decide +kernel) rfl, uw_mem 157 (by decide +kernel) rfl, ⟨by decide +kernel, by decide +kernel⟩, by decide +kernel, by decide +kernel⟩
set_option maxHeartbeats 4000000 in
set_option maxRecDepth 100000 in
theorem c_X12_isLinked {l : Launch} {Γ : Cx} {K0 : Cd} {mo : Nat} {ma : Nat → Nat} (h : mOn Γ mo ma) (a1 : Int) (M : Md) : Ct l Γ k_X12_isLinked 7 encI (emM K0) [.ref mo, wi a1] M (fX12_isLinked a1 M) := by
  refine ct_of (by decide +kernel) rfl (Nat.le_of_ble_eq_true rfl) ?_
  refine r_lo [0, 1] (lo2 := [(0, .ref mo), (1, wi a1)]) rfl ?_
  unfold fX12_isLinked
  refine ro_iconst (v := 0) dX12_isLinked_0 rfl ?_
  refine r_istore_n (lo2 := [(2, wi 0), (0, .ref mo), (1, wi a1)]) dX12_isLinked_1 rfl (by decide) rfl ?_
  refine ro_iconst (v := 0) dX12_isLinked_2 rfl ?_
  refine r_istore_n (lo2 := [(3, wi 0), (2, wi 0), (0, .ref mo), (1, wi a1)]) dX12_isLinked_3 rfl (by decide) rfl ?_
  refine r_loop (P := fun (J : Int → Int → Md → Option (Int × Md)) => ∀ (v2_4 : Int) (v3_4 : Int) (M_4 : Md), RunO l Γ k_X12_isLinked 7 encI (emM K0) 4 [(0, .ref mo), (1, wi a1), (2, wi v2_4), (3, wi v3_4)] [] M_4 (J v2_4 v3_4 M_4)) ?_ (fun L4 hL4 => ?_) (fun J4 hJ4 => ?_)
  · intros; exact ro_none
  · intro v2_4 v3_4 M_4
    refine r_iload_n (x := v3_4) dX12_isLinked_4 rfl rfl ?_
    refine r_bipush (v := 24) dX12_isLinked_5 rfl ?_
    refine r_icmp_ge (tgt := 81) dX12_isLinked_7 (by decide) ?_ ?_
    · refine r_iload_n (x := v2_4) dX12_isLinked_81 rfl rfl ?_
      exact r_zret rfl dX12_isLinked_82
    · refine ro_iconst (v := 0) dX12_isLinked_10 rfl ?_
      refine r_istore (lo2 := [(4, wi 0), (0, .ref mo), (1, wi a1), (2, wi v2_4), (3, wi v3_4)]) dX12_isLinked_11 (by decide) rfl ?_
      refine r_loop (P := fun (J : Int → Int → Md → Option (Int × Md)) => ∀ (v2_13 : Int) (v4_13 : Int) (M_13 : Md), RunO l Γ k_X12_isLinked 7 encI (emM K0) 13 [(0, .ref mo), (1, wi a1), (2, wi v2_13), (3, wi v3_4), (4, wi v4_13)] [] M_13 (J v2_13 v4_13 M_13)) ?_ (fun L13 hL13 => ?_) (fun J13 hJ13 => ?_)
      · intros; exact ro_none
      · intro v2_13 v4_13 M_13
        refine r_iload (x := v4_13) dX12_isLinked_13 rfl ?_
        refine r_bipush (v := 24) dX12_isLinked_15 rfl ?_
        refine r_join (P := fun (J : Md → Option (Int × Md)) => ∀ (M_75 : Md), RunO l Γ k_X12_isLinked 7 encI (emM K0) 75 [(0, .ref mo), (1, wi a1), (2, wi v2_13), (3, wi v3_4)] [] M_75 (J M_75)) ?_ (fun J75 hJ75 => ?_)
        · intro M_75
          refine r_iinc (x := v3_4) (lo2 := [(3, wi (v3_4 + 1)), (0, .ref mo), (1, wi a1), (2, wi v2_13)]) dX12_isLinked_75 rfl (by decide) rfl ?_
          refine r_goto (tgt := 4) dX12_isLinked_78 (by decide) ?_
          refine r_lo [1, 2, 3, 0] (lo2 := [(0, .ref mo), (1, wi a1), (2, wi v2_13), (3, wi (v3_4 + 1))]) rfl ?_
          exact hL4 _ _ _
        refine r_icmp_ge (tgt := 75) dX12_isLinked_17 (by decide) ?_ ?_
        · refine r_lo [0, 1, 2, 3] (lo2 := [(0, .ref mo), (1, wi a1), (2, wi v2_13), (3, wi v3_4)]) rfl ?_
          exact hJ75 _
        · refine r_iload_n (x := v3_4) dX12_isLinked_20 rfl rfl ?_
          refine r_iload_n (x := a1) dX12_isLinked_21 rfl rfl ?_
          refine r_icmp_eq (tgt := 75) dX12_isLinked_22 (by decide) ?_ ?_
          · refine r_lo [0, 1, 2, 3] (lo2 := [(0, .ref mo), (1, wi a1), (2, wi v2_13), (3, wi v3_4)]) rfl ?_
            exact hJ75 _
          · refine r_aload_n (x := mo) dX12_isLinked_25 rfl rfl ?_
            refine r_mgetA (kk := 27) h inU12 rfl (by decide) uf_70 rfl rfl dX12_isLinked_26 ?_
            refine r_iload_n (x := v3_4) dX12_isLinked_29 rfl rfl ?_
            refine r_mzald h dX12_isLinked_30 ?_
            refine r_if_eq (tgt := 75) dX12_isLinked_31 (by decide) ?_ ?_
            · refine r_lo [0, 1, 2, 3] (lo2 := [(0, .ref mo), (1, wi a1), (2, wi v2_13), (3, wi v3_4)]) rfl ?_
              exact hJ75 _
            · refine r_iload_n (x := v2_13) dX12_isLinked_34 rfl rfl ?_
              refine r_join (P := fun (J : Int → Md → Option (Int × Md)) => ∀ (t0_68 : Int) (M_68 : Md), RunO l Γ k_X12_isLinked 7 encI (emM K0) 68 [(0, .ref mo), (1, wi a1), (3, wi v3_4), (4, wi v4_13)] [wi t0_68] M_68 (J t0_68 M_68)) ?_ (fun J68 hJ68 => ?_)
              · intro t0_68 M_68
                refine r_istore_n (lo2 := [(2, wi t0_68), (0, .ref mo), (1, wi a1), (3, wi v3_4), (4, wi v4_13)]) dX12_isLinked_68 rfl (by decide) rfl ?_
                refine r_iinc (x := v4_13) (lo2 := [(4, wi (v4_13 + 1)), (2, wi t0_68), (0, .ref mo), (1, wi a1), (3, wi v3_4)]) dX12_isLinked_69 rfl (by decide) rfl ?_
                refine r_goto (tgt := 13) dX12_isLinked_72 (by decide) ?_
                refine r_lo [2, 3, 1, 4, 0] (lo2 := [(0, .ref mo), (1, wi a1), (2, wi t0_68), (3, wi v3_4), (4, wi (v4_13 + 1))]) rfl ?_
                exact hL13 _ _ _
              refine r_join (P := fun (J : Md → Option (Int × Md)) => ∀ (M_63 : Md), RunO l Γ k_X12_isLinked 7 encI (emM K0) 63 [(0, .ref mo), (1, wi a1), (3, wi v3_4), (4, wi v4_13)] [] M_63 (J M_63)) ?_ (fun J63 hJ63 => ?_)
              · intro M_63
                refine ro_iconst (v := 1) dX12_isLinked_63 rfl ?_
                refine r_goto (tgt := 68) dX12_isLinked_64 (by decide) ?_
                exact hJ68 _ _
              refine r_if_ne (tgt := 63) dX12_isLinked_35 (by decide) ?_ ?_
              · refine r_lo [0, 1, 3, 4] (lo2 := [(0, .ref mo), (1, wi a1), (3, wi v3_4), (4, wi v4_13)]) rfl ?_
                exact hJ63 _
              · refine r_aload_n (x := mo) dX12_isLinked_38 rfl rfl ?_
                refine r_mgetA (kk := 31) h inU12 rfl (by decide) uf_83 rfl rfl dX12_isLinked_39 ?_
                refine r_iload_n (x := v3_4) dX12_isLinked_42 rfl rfl ?_
                refine r_miald h (by decide) dX12_isLinked_43 ?_
                refine r_iload (x := v4_13) dX12_isLinked_44 rfl ?_
                refine r_ishr dX12_isLinked_46 ?_
                refine ro_iconst (v := 1) dX12_isLinked_47 rfl ?_
                refine r_iand dX12_isLinked_48 ?_
                refine ro_iconst (v := 1) dX12_isLinked_49 rfl ?_
                refine r_join (P := fun (J : Md → Option (Int × Md)) => ∀ (M_67 : Md), RunO l Γ k_X12_isLinked 7 encI (emM K0) 67 [(0, .ref mo), (1, wi a1), (3, wi v3_4), (4, wi v4_13)] [] M_67 (J M_67)) ?_ (fun J67 hJ67 => ?_)
                · intro M_67
                  refine ro_iconst (v := 0) dX12_isLinked_67 rfl ?_
                  exact hJ68 _ _
                refine r_icmp_ne (tgt := 67) dX12_isLinked_50 (by decide) ?_ ?_
                · refine r_lo [0, 1, 3, 4] (lo2 := [(0, .ref mo), (1, wi a1), (3, wi v3_4), (4, wi v4_13)]) rfl ?_
                  exact hJ67 _
                · refine r_aload_n (x := mo) dX12_isLinked_53 rfl rfl ?_
                  refine r_iload (x := v4_13) dX12_isLinked_54 rfl ?_
                  refine r_callVi (k2 := k_X12_leadsTo) (n := 1) (rest := []) rfl kv_X12_leadsTo (c_X12_leadsTo h _ _) (by decide) um_479 rfl (Nat.le_of_ble_eq_true rfl) dX12_isLinked_56 (m_rec h) rfl (fun r2 M1 => ?_)
                  refine r_iload_n (x := a1) dX12_isLinked_59 rfl rfl ?_
                  refine r_icmp_ne (tgt := 67) dX12_isLinked_60 (by decide) ?_ ?_
                  · refine r_lo [0, 1, 3, 4] (lo2 := [(0, .ref mo), (1, wi a1), (3, wi v3_4), (4, wi v4_13)]) rfl ?_
                    exact hJ67 _
                  · refine r_lo [0, 1, 3, 4] (lo2 := [(0, .ref mo), (1, wi a1), (3, wi v3_4), (4, wi v4_13)]) rfl ?_
                    exact hJ63 _
      refine r_lo [1, 2, 3, 4, 0] (lo2 := [(0, .ref mo), (1, wi a1), (2, wi v2_4), (3, wi v3_4), (4, wi 0)]) rfl ?_
      exact hJ13 _ _ _
  refine r_lo [2, 3, 1, 0] (lo2 := [(0, .ref mo), (1, wi a1), (2, wi 0), (3, wi 0)]) rfl ?_
  exact hJ4 _ _ _
def k_X12_isOld : Kd := (yX12_isOld, cX12_isOld, 4, some .boolean, [])
theorem kv_X12_isOld : KV k_X12_isOld 1 := ⟨uw_mem 1913 (by decide +kernel) rfl, uw_mem 170 (by decide +kernel) rfl, uw_mem 1912 (by decide +kernel) rfl, uw_mem 97 (by decide +kernel) rfl, ⟨by decide +kernel, by decide +kernel⟩, by decide +kernel, by decide +kernel⟩
set_option maxHeartbeats 4000000 in
set_option maxRecDepth 100000 in
theorem c_X12_isOld {l : Launch} {Γ : Cx} {K0 : Cd} {mo : Nat} {ma : Nat → Nat} (h : mOn Γ mo ma) (a1 : Int) (M : Md) : Ct l Γ k_X12_isOld 1 encI (emM K0) [.ref mo, wi a1] M (fX12_isOld a1 M) := by
  refine ct_of (by decide +kernel) rfl (Nat.le_of_ble_eq_true rfl) ?_
  refine r_lo [0, 1] (lo2 := [(0, .ref mo), (1, wi a1)]) rfl ?_
  unfold fX12_isOld
  refine r_aload_n (x := mo) dX12_isOld_0 rfl rfl ?_
  refine r_mgetA (kk := 27) h inU12 rfl (by decide) uf_70 rfl rfl dX12_isOld_1 ?_
  refine r_iload_n (x := a1) dX12_isOld_4 rfl rfl ?_
  refine r_mzald h dX12_isOld_5 ?_
  refine r_join (P := fun (J : Int → Md → Option (Int × Md)) => ∀ (t0_29 : Int) (M_29 : Md), RunO l Γ k_X12_isOld 1 encI (emM K0) 29 [(0, .ref mo), (1, wi a1)] [wi t0_29] M_29 (J t0_29 M_29)) ?_ (fun J29 hJ29 => ?_)
  · intro t0_29 M_29
    refine r_istore_n (lo2 := [(2, wi t0_29), (0, .ref mo), (1, wi a1)]) dX12_isOld_29 rfl (by decide) rfl ?_
    refine ro_iconst (v := 0) dX12_isOld_30 rfl ?_
    refine r_istore_n (lo2 := [(3, wi 0), (2, wi t0_29), (0, .ref mo), (1, wi a1)]) dX12_isOld_31 rfl (by decide) rfl ?_
    refine r_loop (P := fun (J : Int → Int → Md → Option (Int × Md)) => ∀ (v2_32 : Int) (v3_32 : Int) (M_32 : Md), RunO l Γ k_X12_isOld 1 encI (emM K0) 32 [(0, .ref mo), (1, wi a1), (2, wi v2_32), (3, wi v3_32)] [] M_32 (J v2_32 v3_32 M_32)) ?_ (fun L32 hL32 => ?_) (fun J32 hJ32 => ?_)
    · intros; exact ro_none
    · intro v2_32 v3_32 M_32
      refine r_iload_n (x := v3_32) dX12_isOld_32 rfl rfl ?_
      refine r_bipush (v := 24) dX12_isOld_33 rfl ?_
      refine r_join (P := fun (J : Md → Option (Int × Md)) => ∀ (M_172 : Md), RunO l Γ k_X12_isOld 1 encI (emM K0) 172 [(2, wi v2_32)] [] M_172 (J M_172)) ?_ (fun J172 hJ172 => ?_)
      · intro M_172
        refine r_iload_n (x := v2_32) dX12_isOld_172 rfl rfl ?_
        exact r_zret rfl dX12_isOld_173
      refine r_icmp_ge (tgt := 172) dX12_isOld_35 (by decide) ?_ ?_
      · refine r_lo [2] (lo2 := [(2, wi v2_32)]) rfl ?_
        exact hJ172 _
      · refine r_iload_n (x := v2_32) dX12_isOld_38 rfl rfl ?_
        refine r_if_ne (tgt := 172) dX12_isOld_39 (by decide) ?_ ?_
        · refine r_lo [2] (lo2 := [(2, wi v2_32)]) rfl ?_
          exact hJ172 _
        · refine r_aload_n (x := mo) dX12_isOld_42 rfl rfl ?_
          refine r_mgetA (kk := 33) h inU12 rfl (by decide) uf_89 rfl rfl dX12_isOld_43 ?_
          refine r_iload_n (x := a1) dX12_isOld_46 rfl rfl ?_
          refine r_miald h (by decide) dX12_isOld_47 ?_
          refine r_iload_n (x := v3_32) dX12_isOld_48 rfl rfl ?_
          refine r_ishr dX12_isOld_49 ?_
          refine ro_iconst (v := 1) dX12_isOld_50 rfl ?_
          refine r_iand dX12_isOld_51 ?_
          refine ro_iconst (v := 1) dX12_isOld_52 rfl ?_
          refine r_join (P := fun (J : Int → Md → Option (Int × Md)) => ∀ (t0_76 : Int) (M_76 : Md), RunO l Γ k_X12_isOld 1 encI (emM K0) 76 [(0, .ref mo), (1, wi a1), (3, wi v3_32)] [wi t0_76] M_76 (J t0_76 M_76)) ?_ (fun J76 hJ76 => ?_)
          · intro t0_76 M_76
            refine r_istore_n (lo2 := [(2, wi t0_76), (0, .ref mo), (1, wi a1), (3, wi v3_32)]) dX12_isOld_76 rfl (by decide) rfl ?_
            refine r_iload_n (x := t0_76) dX12_isOld_77 rfl rfl ?_
            refine r_join (P := fun (J : Int → Md → Option (Int × Md)) => ∀ (t0_121 : Int) (M_121 : Md), RunO l Γ k_X12_isOld 1 encI (emM K0) 121 [(0, .ref mo), (1, wi a1), (3, wi v3_32)] [wi t0_121] M_121 (J t0_121 M_121)) ?_ (fun J121 hJ121 => ?_)
            · intro t0_121 M_121
              refine r_istore_n (lo2 := [(2, wi t0_121), (0, .ref mo), (1, wi a1), (3, wi v3_32)]) dX12_isOld_121 rfl (by decide) rfl ?_
              refine r_iload_n (x := t0_121) dX12_isOld_122 rfl rfl ?_
              refine r_join (P := fun (J : Int → Md → Option (Int × Md)) => ∀ (t0_165 : Int) (M_165 : Md), RunO l Γ k_X12_isOld 1 encI (emM K0) 165 [(0, .ref mo), (1, wi a1), (3, wi v3_32)] [wi t0_165] M_165 (J t0_165 M_165)) ?_ (fun J165 hJ165 => ?_)
              · intro t0_165 M_165
                refine r_istore_n (lo2 := [(2, wi t0_165), (0, .ref mo), (1, wi a1), (3, wi v3_32)]) dX12_isOld_165 rfl (by decide) rfl ?_
                refine r_iinc (x := v3_32) (lo2 := [(3, wi (v3_32 + 1)), (2, wi t0_165), (0, .ref mo), (1, wi a1)]) dX12_isOld_166 rfl (by decide) rfl ?_
                refine r_goto (tgt := 32) dX12_isOld_169 (by decide) ?_
                refine r_lo [2, 3, 1, 0] (lo2 := [(0, .ref mo), (1, wi a1), (2, wi t0_165), (3, wi (v3_32 + 1))]) rfl ?_
                exact hL32 _ _ _
              refine r_join (P := fun (J : Md → Option (Int × Md)) => ∀ (M_160 : Md), RunO l Γ k_X12_isOld 1 encI (emM K0) 160 [(0, .ref mo), (1, wi a1), (3, wi v3_32)] [] M_160 (J M_160)) ?_ (fun J160 hJ160 => ?_)
              · intro M_160
                refine ro_iconst (v := 1) dX12_isOld_160 rfl ?_
                refine r_goto (tgt := 165) dX12_isOld_161 (by decide) ?_
                exact hJ165 _ _
              refine r_if_ne (tgt := 160) dX12_isOld_123 (by decide) ?_ ?_
              · refine r_lo [1, 2, 3] (lo2 := [(0, .ref mo), (1, wi a1), (3, wi v3_32)]) rfl ?_
                exact hJ160 _
              · refine r_iload_n (x := v3_32) dX12_isOld_126 rfl rfl ?_
                refine ro_iconst (v := 4) dX12_isOld_127 rfl ?_
                refine r_join (P := fun (J : Md → Option (Int × Md)) => ∀ (M_164 : Md), RunO l Γ k_X12_isOld 1 encI (emM K0) 164 [(0, .ref mo), (1, wi a1), (3, wi v3_32)] [] M_164 (J M_164)) ?_ (fun J164 hJ164 => ?_)
                · intro M_164
                  refine ro_iconst (v := 0) dX12_isOld_164 rfl ?_
                  exact hJ165 _ _
                refine r_icmp_ge (tgt := 164) dX12_isOld_128 (by decide) ?_ ?_
                · refine r_lo [1, 2, 3] (lo2 := [(0, .ref mo), (1, wi a1), (3, wi v3_32)]) rfl ?_
                  exact hJ164 _
                · refine r_aload_n (x := mo) dX12_isOld_131 rfl rfl ?_
                  refine r_mgetA (kk := 35) h inU12 rfl (by decide) uf_95 rfl rfl dX12_isOld_132 ?_
                  refine r_iload_n (x := a1) dX12_isOld_135 rfl rfl ?_
                  refine r_miald h (by decide) dX12_isOld_136 ?_
                  refine r_iload_n (x := v3_32) dX12_isOld_137 rfl rfl ?_
                  refine r_ishr dX12_isOld_138 ?_
                  refine ro_iconst (v := 1) dX12_isOld_139 rfl ?_
                  refine r_iand dX12_isOld_140 ?_
                  refine ro_iconst (v := 1) dX12_isOld_141 rfl ?_
                  refine r_icmp_ne (tgt := 164) dX12_isOld_142 (by decide) ?_ ?_
                  · refine r_lo [1, 2, 3] (lo2 := [(0, .ref mo), (1, wi a1), (3, wi v3_32)]) rfl ?_
                    exact hJ164 _
                  · refine r_aload_n (x := mo) dX12_isOld_145 rfl rfl ?_
                    refine r_mgetA (kk := 25) h inU12 rfl (by decide) uf_64 rfl rfl dX12_isOld_146 ?_
                    refine r_iload_n (x := v3_32) dX12_isOld_149 rfl rfl ?_
                    refine r_miald h (by decide) dX12_isOld_150 ?_
                    refine r_aload_n (x := mo) dX12_isOld_151 rfl rfl ?_
                    refine r_mgetA (kk := 28) h inU12 rfl (by decide) uf_74 rfl rfl dX12_isOld_152 ?_
                    refine r_iload_n (x := a1) dX12_isOld_155 rfl rfl ?_
                    refine r_miald h (by decide) dX12_isOld_156 ?_
                    refine r_icmp_le (tgt := 164) dX12_isOld_157 (by decide) ?_ ?_
                    · refine r_lo [1, 2, 3] (lo2 := [(0, .ref mo), (1, wi a1), (3, wi v3_32)]) rfl ?_
                      exact hJ164 _
                    · refine r_lo [1, 2, 3] (lo2 := [(0, .ref mo), (1, wi a1), (3, wi v3_32)]) rfl ?_
                      exact hJ160 _
            refine r_join (P := fun (J : Md → Option (Int × Md)) => ∀ (M_116 : Md), RunO l Γ k_X12_isOld 1 encI (emM K0) 116 [(0, .ref mo), (1, wi a1), (3, wi v3_32)] [] M_116 (J M_116)) ?_ (fun J116 hJ116 => ?_)
            · intro M_116
              refine ro_iconst (v := 1) dX12_isOld_116 rfl ?_
              refine r_goto (tgt := 121) dX12_isOld_117 (by decide) ?_
              exact hJ121 _ _
            refine r_if_ne (tgt := 116) dX12_isOld_78 (by decide) ?_ ?_
            · refine r_lo [1, 2, 3] (lo2 := [(0, .ref mo), (1, wi a1), (3, wi v3_32)]) rfl ?_
              exact hJ116 _
            · refine r_iload_n (x := v3_32) dX12_isOld_81 rfl rfl ?_
              refine r_bipush (v := 8) dX12_isOld_82 rfl ?_
              refine r_join (P := fun (J : Md → Option (Int × Md)) => ∀ (M_120 : Md), RunO l Γ k_X12_isOld 1 encI (emM K0) 120 [(0, .ref mo), (1, wi a1), (3, wi v3_32)] [] M_120 (J M_120)) ?_ (fun J120 hJ120 => ?_)
              · intro M_120
                refine ro_iconst (v := 0) dX12_isOld_120 rfl ?_
                exact hJ121 _ _
              refine r_icmp_ge (tgt := 120) dX12_isOld_84 (by decide) ?_ ?_
              · refine r_lo [1, 2, 3] (lo2 := [(0, .ref mo), (1, wi a1), (3, wi v3_32)]) rfl ?_
                exact hJ120 _
              · refine r_aload_n (x := mo) dX12_isOld_87 rfl rfl ?_
                refine r_mgetA (kk := 34) h inU12 rfl (by decide) uf_92 rfl rfl dX12_isOld_88 ?_
                refine r_iload_n (x := a1) dX12_isOld_91 rfl rfl ?_
                refine r_miald h (by decide) dX12_isOld_92 ?_
                refine r_iload_n (x := v3_32) dX12_isOld_93 rfl rfl ?_
                refine r_ishr dX12_isOld_94 ?_
                refine ro_iconst (v := 1) dX12_isOld_95 rfl ?_
                refine r_iand dX12_isOld_96 ?_
                refine ro_iconst (v := 1) dX12_isOld_97 rfl ?_
                refine r_icmp_ne (tgt := 120) dX12_isOld_98 (by decide) ?_ ?_
                · refine r_lo [1, 2, 3] (lo2 := [(0, .ref mo), (1, wi a1), (3, wi v3_32)]) rfl ?_
                  exact hJ120 _
                · refine r_aload_n (x := mo) dX12_isOld_101 rfl rfl ?_
                  refine r_mgetA (kk := 24) h inU12 rfl (by decide) uf_61 rfl rfl dX12_isOld_102 ?_
                  refine r_iload_n (x := v3_32) dX12_isOld_105 rfl rfl ?_
                  refine r_miald h (by decide) dX12_isOld_106 ?_
                  refine r_aload_n (x := mo) dX12_isOld_107 rfl rfl ?_
                  refine r_mgetA (kk := 28) h inU12 rfl (by decide) uf_74 rfl rfl dX12_isOld_108 ?_
                  refine r_iload_n (x := a1) dX12_isOld_111 rfl rfl ?_
                  refine r_miald h (by decide) dX12_isOld_112 ?_
                  refine r_icmp_le (tgt := 120) dX12_isOld_113 (by decide) ?_ ?_
                  · refine r_lo [1, 2, 3] (lo2 := [(0, .ref mo), (1, wi a1), (3, wi v3_32)]) rfl ?_
                    exact hJ120 _
                  · refine r_lo [1, 2, 3] (lo2 := [(0, .ref mo), (1, wi a1), (3, wi v3_32)]) rfl ?_
                    exact hJ116 _
          refine r_join (P := fun (J : Md → Option (Int × Md)) => ∀ (M_75 : Md), RunO l Γ k_X12_isOld 1 encI (emM K0) 75 [(0, .ref mo), (1, wi a1), (3, wi v3_32)] [] M_75 (J M_75)) ?_ (fun J75 hJ75 => ?_)
          · intro M_75
            refine ro_iconst (v := 0) dX12_isOld_75 rfl ?_
            exact hJ76 _ _
          refine r_icmp_ne (tgt := 75) dX12_isOld_53 (by decide) ?_ ?_
          · refine r_lo [0, 1, 3] (lo2 := [(0, .ref mo), (1, wi a1), (3, wi v3_32)]) rfl ?_
            exact hJ75 _
          · refine r_aload_n (x := mo) dX12_isOld_56 rfl rfl ?_
            refine r_mgetA (kk := 23) h inU12 rfl (by decide) uf_58 rfl rfl dX12_isOld_57 ?_
            refine r_iload_n (x := v3_32) dX12_isOld_60 rfl rfl ?_
            refine r_miald h (by decide) dX12_isOld_61 ?_
            refine r_aload_n (x := mo) dX12_isOld_62 rfl rfl ?_
            refine r_mgetA (kk := 28) h inU12 rfl (by decide) uf_74 rfl rfl dX12_isOld_63 ?_
            refine r_iload_n (x := a1) dX12_isOld_66 rfl rfl ?_
            refine r_miald h (by decide) dX12_isOld_67 ?_
            refine r_icmp_le (tgt := 75) dX12_isOld_68 (by decide) ?_ ?_
            · refine r_lo [0, 1, 3] (lo2 := [(0, .ref mo), (1, wi a1), (3, wi v3_32)]) rfl ?_
              exact hJ75 _
            · refine ro_iconst (v := 1) dX12_isOld_71 rfl ?_
              refine r_goto (tgt := 76) dX12_isOld_72 (by decide) ?_
              refine r_lo [0, 1, 3] (lo2 := [(0, .ref mo), (1, wi a1), (3, wi v3_32)]) rfl ?_
              exact hJ76 _ _
    refine r_lo [2, 3, 1, 0] (lo2 := [(0, .ref mo), (1, wi a1), (2, wi t0_29), (3, wi 0)]) rfl ?_
    exact hJ32 _ _ _
  refine r_join (P := fun (J : Md → Option (Int × Md)) => ∀ (M_24 : Md), RunO l Γ k_X12_isOld 1 encI (emM K0) 24 [(0, .ref mo), (1, wi a1)] [] M_24 (J M_24)) ?_ (fun J24 hJ24 => ?_)
  · intro M_24
    refine ro_iconst (v := 1) dX12_isOld_24 rfl ?_
    refine r_goto (tgt := 29) dX12_isOld_25 (by decide) ?_
    exact hJ29 _ _
  refine r_if_eq (tgt := 24) dX12_isOld_6 (by decide) ?_ ?_
  · exact hJ24 _
  · refine r_aload_n (x := mo) dX12_isOld_9 rfl rfl ?_
    refine r_mgetA (kk := 23) h inU12 rfl (by decide) uf_58 rfl rfl dX12_isOld_10 ?_
    refine r_iload_n (x := a1) dX12_isOld_13 rfl rfl ?_
    refine r_miald h (by decide) dX12_isOld_14 ?_
    refine r_aload_n (x := mo) dX12_isOld_15 rfl rfl ?_
    refine r_mgetA (kk := 28) h inU12 rfl (by decide) uf_74 rfl rfl dX12_isOld_16 ?_
    refine r_iload_n (x := a1) dX12_isOld_19 rfl rfl ?_
    refine r_miald h (by decide) dX12_isOld_20 ?_
    refine r_icmp_le (tgt := 28) dX12_isOld_21 (by decide) ?_ ?_
    · refine ro_iconst (v := 0) dX12_isOld_28 rfl ?_
      exact hJ29 _ _
    · exact hJ24 _
def k_X12_isOutdated : Kd := (yX12_isOutdated, cX12_isOutdated, 4, some .boolean, [])
theorem kv_X12_isOutdated : KV k_X12_isOutdated 2 := ⟨uw_mem 2309 (by decide +kernel) rfl, uw_mem 170 (by decide +kernel) rfl, uw_mem 2307 (by decide +kernel) rfl, uw_mem 2308 (by decide +kernel) rfl, ⟨by decide +kernel, by decide +kernel⟩, by decide +kernel, by decide +kernel⟩
set_option maxHeartbeats 4000000 in
set_option maxRecDepth 100000 in
theorem c_X12_isOutdated {l : Launch} {Γ : Cx} {K0 : Cd} {mo : Nat} {ma : Nat → Nat} (h : mOn Γ mo ma) (a1 : Int) (a2 : Int) (M : Md) : Ct l Γ k_X12_isOutdated 4 encI (emM K0) [.ref mo, wi a1, wi a2] M (fX12_isOutdated a1 a2 M) := by
  refine ct_of (by decide +kernel) rfl (Nat.le_of_ble_eq_true rfl) ?_
  refine r_lo [0, 1, 2] (lo2 := [(0, .ref mo), (1, wi a1), (2, wi a2)]) rfl ?_
  unfold fX12_isOutdated
  refine r_aload_n (x := mo) dX12_isOutdated_0 rfl rfl ?_
  refine r_iload_n (x := a1) dX12_isOutdated_1 rfl rfl ?_
  refine r_iload_n (x := a2) dX12_isOutdated_2 rfl rfl ?_
  refine r_callVi (k2 := k_X12_asksIn) (n := 2) (rest := []) rfl kv_X12_asksIn (c_X12_asksIn h _ _ _) (by decide) um_485 rfl (Nat.le_of_ble_eq_true rfl) dX12_isOutdated_3 (m_rec h) rfl (fun r2 M1 => ?_)
  refine r_if_ne (tgt := 11) dX12_isOutdated_6 (by decide) ?_ ?_
  · refine r_bipush (v := 24) dX12_isOutdated_11 rfl ?_
    refine r_iload_n (x := a2) dX12_isOutdated_13 rfl rfl ?_
    refine ro_iconst (v := 1) dX12_isOutdated_14 rfl ?_
    refine r_isub dX12_isOutdated_15 ?_
    refine r_imul dX12_isOutdated_16 ?_
    refine r_iload_n (x := a1) dX12_isOutdated_17 rfl rfl ?_
    refine r_iadd dX12_isOutdated_18 ?_
    refine r_nm (fun x3_19 => ?_)
    refine r_istore_n (lo2 := [(3, wi x3_19), (0, .ref mo), (1, wi a1), (2, wi a2)]) dX12_isOutdated_19 rfl (by decide) rfl ?_
    refine r_aload_n (x := mo) dX12_isOutdated_20 rfl rfl ?_
    refine r_mgetA (kk := 17) h inU12 rfl (by decide) uf_43 rfl rfl dX12_isOutdated_21 ?_
    refine r_iload_n (x := x3_19) dX12_isOutdated_24 rfl rfl ?_
    refine r_miald h (by decide) dX12_isOutdated_25 ?_
    refine ro_iconst (v := (-1)) dX12_isOutdated_26 rfl ?_
    refine r_join (P := fun (J : Int → Md → Option (Int × Md)) => ∀ (t0_59 : Int) (M_59 : Md), RunO l Γ k_X12_isOutdated 4 encI (emM K0) 59 [] [wi t0_59] M_59 (J t0_59 M_59)) ?_ (fun J59 hJ59 => ?_)
    · intro t0_59 M_59
      exact r_zret rfl dX12_isOutdated_59
    refine r_join (P := fun (J : Md → Option (Int × Md)) => ∀ (M_58 : Md), RunO l Γ k_X12_isOutdated 4 encI (emM K0) 58 [] [] M_58 (J M_58)) ?_ (fun J58 hJ58 => ?_)
    · intro M_58
      refine ro_iconst (v := 0) dX12_isOutdated_58 rfl ?_
      exact hJ59 _ _
    refine r_icmp_eq (tgt := 58) dX12_isOutdated_27 (by decide) ?_ ?_
    · refine r_lo [] (lo2 := []) rfl ?_
      exact hJ58 _
    · refine r_aload_n (x := mo) dX12_isOutdated_30 rfl rfl ?_
      refine r_mgetA (kk := 6) h inU12 rfl (by decide) uf_19 rfl rfl dX12_isOutdated_31 ?_
      refine r_iload_n (x := a1) dX12_isOutdated_34 rfl rfl ?_
      refine r_miald h (by decide) dX12_isOutdated_35 ?_
      refine ro_iconst (v := (-1)) dX12_isOutdated_36 rfl ?_
      refine r_join (P := fun (J : Md → Option (Int × Md)) => ∀ (M_54 : Md), RunO l Γ k_X12_isOutdated 4 encI (emM K0) 54 [] [] M_54 (J M_54)) ?_ (fun J54 hJ54 => ?_)
      · intro M_54
        refine ro_iconst (v := 1) dX12_isOutdated_54 rfl ?_
        refine r_goto (tgt := 59) dX12_isOutdated_55 (by decide) ?_
        exact hJ59 _ _
      refine r_icmp_eq (tgt := 54) dX12_isOutdated_37 (by decide) ?_ ?_
      · refine r_lo [] (lo2 := []) rfl ?_
        exact hJ54 _
      · refine r_aload_n (x := mo) dX12_isOutdated_40 rfl rfl ?_
        refine r_iload_n (x := a1) dX12_isOutdated_41 rfl rfl ?_
        refine r_callVi (k2 := k_X12_presentAt) (n := 1) (rest := []) rfl kv_X12_presentAt (c_X12_presentAt h _ _) (by decide) um_209 rfl (Nat.le_of_ble_eq_true rfl) dX12_isOutdated_42 (m_rec h) rfl (fun r4 M3 => ?_)
        refine r_aload_n (x := mo) dX12_isOutdated_45 rfl rfl ?_
        refine r_mgetA (kk := 18) h inU12 rfl (by decide) uf_46 rfl rfl dX12_isOutdated_46 ?_
        refine r_iload_n (x := x3_19) dX12_isOutdated_49 rfl rfl ?_
        refine r_miald h (by decide) dX12_isOutdated_50 ?_
        refine r_icmp_eq (tgt := 58) dX12_isOutdated_51 (by decide) ?_ ?_
        · refine r_lo [] (lo2 := []) rfl ?_
          exact hJ58 _
        · refine r_lo [] (lo2 := []) rfl ?_
          exact hJ54 _
  · refine ro_iconst (v := 0) dX12_isOutdated_9 rfl ?_
    exact r_zret0 (by first | exact Or.inl rfl | exact Or.inr rfl) rfl dX12_isOutdated_10
