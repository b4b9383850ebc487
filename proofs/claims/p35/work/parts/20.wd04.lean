set_option maxHeartbeats 8000000 in
set_option maxRecDepth 100000 in
theorem b_L_isMoved_186 {l : Launch} {Γ : Cx} {ma : Nat → Nat} (h : wOn Γ) (hm : ∀ k, k ≤ 10 → ma k ≠ 0) (hG : GK Γ l) (hX : XN Γ) (a0 : Nat) (a9 : Int) (v10_9 : Int) (t0_88 : Int) (L186 : Int → Int → Rw → Cd → (Nat → Nat) → Option (Int × S3)) (hL186 : ∀ (v13_186 : Int) (v14_186 : Int) (E_186 : Rw) (C_186 : Cd) (q_186 : (Nat → Nat)), RunO l Γ k_L_isMoved 14 encI (em3 ma) 186 [(0, .ref a0), (1, .ref (ma 0)), (2, .ref (ma 1)), (3, .ref (ma 2)), (4, .ref (ma 3)), (9, wi a9), (10, wi v10_9), (12, wi t0_88), (13, wi v13_186), (14, wi v14_186)] [] (E_186, C_186, q_186) (L186 v13_186 v14_186 E_186 C_186 q_186)) : ∀ (v13_186 : Int) (v14_186 : Int) (E_186 : Rw) (C_186 : Cd) (q_186 : (Nat → Nat)), RunO l Γ k_L_isMoved 14 encI (em3 ma) 186 [(0, .ref a0), (1, .ref (ma 0)), (2, .ref (ma 1)), (3, .ref (ma 2)), (4, .ref (ma 3)), (9, wi a9), (10, wi v10_9), (12, wi t0_88), (13, wi v13_186), (14, wi v14_186)] [] (E_186, C_186, q_186) (fW_isMoved_186 a0 a9 v10_9 t0_88 L186 v13_186 v14_186 E_186 C_186 q_186) := by
  intro v13_186 v14_186 E_186 C_186 q_186
  unfold fW_isMoved_186
  refine r_iload (x := v14_186) dL_isMoved_186 rfl ?_
  refine r_bipush (v := 8) dL_isMoved_188 rfl ?_
  refine r_join (P := fun (J : Rw → Cd → (Nat → Nat) → Option (Int × S3)) => ∀ (E_405 : Rw) (C_405 : Cd) (q_405 : (Nat → Nat)), RunO l Γ k_L_isMoved 14 encI (em3 ma) 405 [(0, .ref a0), (9, wi a9), (12, wi t0_88), (13, wi v13_186)] [] (E_405, C_405, q_405) (J E_405 C_405 q_405)) ?_ (fun J405 hJ405 => ?_)
  · exact b_L_isMoved_405 h hm hG hX a0 a9 t0_88 v13_186
  refine r_icmp_ge (tgt := 405) dL_isMoved_190 (by decide) ?_ ?_
  · refine r_lo [0, 5, 7, 8] (lo2 := [(0, .ref a0), (9, wi a9), (12, wi t0_88), (13, wi v13_186)]) rfl ?_
    exact hJ405 E_186 C_186 q_186
  · refine r_iload (x := t0_88) dL_isMoved_193 rfl ?_
    refine r_if_eq (tgt := 405) dL_isMoved_195 (by decide) ?_ ?_
    · refine r_lo [0, 5, 7, 8] (lo2 := [(0, .ref a0), (9, wi a9), (12, wi t0_88), (13, wi v13_186)]) rfl ?_
      exact hJ405 E_186 C_186 q_186
    · refine r_aload_n (x := ma 0) dL_isMoved_198 rfl rfl ?_
      refine r_aload_n (x := ma 1) dL_isMoved_199 rfl rfl ?_
      refine r_aload_n (x := ma 2) dL_isMoved_200 rfl rfl ?_
      refine r_iload (x := v14_186) dL_isMoved_201 rfl ?_
      refine r_csi (J := fun (E_ : Rw) => (E_, C_186, q_186)) (k2 := k_L_present) (n := 4) (rest := []) (fun _ => rfl) rfl kv_L_present (c_L_present (ad := adq ma q_186) (K0 := C_186) h (adq_hm hm) v14_186 _) (by decide) um_L_15 rfl (Nat.le_of_ble_eq_true rfl) dL_isMoved_203 rfl (fun r5 E6 => ?_)
      show RunO l Γ k_L_isMoved 14 encI (em3 ma) 206 [(0, .ref a0), (1, .ref (ma 0)), (2, .ref (ma 1)), (3, .ref (ma 2)), (4, .ref (ma 3)), (9, wi a9), (10, wi v10_9), (12, wi t0_88), (13, wi v13_186), (14, wi v14_186)] [wi r5] (E6, C_186, q_186) _
      refine r_istore (lo2 := [(15, wi r5), (0, .ref a0), (1, .ref (ma 0)), (2, .ref (ma 1)), (3, .ref (ma 2)), (4, .ref (ma 3)), (9, wi a9), (10, wi v10_9), (12, wi t0_88), (13, wi v13_186), (14, wi v14_186)]) dL_isMoved_206 (by decide) rfl ?_
      refine r_lconst (x := 1) dL_isMoved_208 rfl ?_
      refine r_lstore (lo2 := [(16, vl 1), (15, wi r5), (0, .ref a0), (1, .ref (ma 0)), (2, .ref (ma 1)), (3, .ref (ma 2)), (4, .ref (ma 3)), (9, wi a9), (10, wi v10_9), (12, wi t0_88), (13, wi v13_186), (14, wi v14_186)]) dL_isMoved_209 (by decide) rfl ?_
      refine ro_iconst (v := 0) dL_isMoved_211 rfl ?_
      refine r_istore (lo2 := [(18, wi 0), (16, vl 1), (15, wi r5), (0, .ref a0), (1, .ref (ma 0)), (2, .ref (ma 1)), (3, .ref (ma 2)), (4, .ref (ma 3)), (9, wi a9), (10, wi v10_9), (12, wi t0_88), (13, wi v13_186), (14, wi v14_186)]) dL_isMoved_212 (by decide) rfl ?_
      refine r_loop (P := fun (J : Int → Int → Rw → Cd → (Nat → Nat) → Option (Int × S3)) => ∀ (v16_214 : Int) (v18_214 : Int) (E_214 : Rw) (C_214 : Cd) (q_214 : (Nat → Nat)), RunO l Γ k_L_isMoved 14 encI (em3 ma) 214 [(0, .ref a0), (1, .ref (ma 0)), (2, .ref (ma 1)), (3, .ref (ma 2)), (4, .ref (ma 3)), (9, wi a9), (10, wi v10_9), (12, wi t0_88), (13, wi v13_186), (14, wi v14_186), (15, wi r5), (16, vl v16_214), (18, wi v18_214)] [] (E_214, C_214, q_214) (J v16_214 v18_214 E_214 C_214 q_214)) ?_ (fun L214 hL214 => ?_) (fun J214 hJ214 => ?_)
      · intros; exact ro_none
      · exact b_L_isMoved_214 h hm hG hX a0 a9 v10_9 t0_88 v13_186 v14_186 r5 L186 hL186 L214 hL214
      refine r_lo [3, 4, 5, 6, 7, 8, 9, 10, 11, 12, 2, 1, 0] (lo2 := [(0, .ref a0), (1, .ref (ma 0)), (2, .ref (ma 1)), (3, .ref (ma 2)), (4, .ref (ma 3)), (9, wi a9), (10, wi v10_9), (12, wi t0_88), (13, wi v13_186), (14, wi v14_186), (15, wi r5), (16, vl 1), (18, wi 0)]) rfl ?_
      exact hJ214 1 0 E6 C_186 q_186
set_option maxHeartbeats 8000000 in
set_option maxRecDepth 100000 in
theorem b_L_isMoved_170 {l : Launch} {Γ : Cx} {ma : Nat → Nat} (h : wOn Γ) (hm : ∀ k, k ≤ 10 → ma k ≠ 0) (hG : GK Γ l) (hX : XN Γ) (a0 : Nat) (a9 : Int) (v10_9 : Int) (t0_88 : Int) : ∀ (E_170 : Rw) (C_170 : Cd) (q_170 : (Nat → Nat)), RunO l Γ k_L_isMoved 14 encI (em3 ma) 170 [(0, .ref a0), (1, .ref (ma 0)), (2, .ref (ma 1)), (3, .ref (ma 2)), (4, .ref (ma 3)), (5, .ref (ma 4)), (6, .ref (ma 5)), (9, wi a9), (10, wi v10_9), (12, wi t0_88)] [] (E_170, C_170, q_170) (fW_isMoved_170 a0 a9 v10_9 t0_88 E_170 C_170 q_170) := by
  intro E_170 C_170 q_170
  unfold fW_isMoved_170
  refine r_aload_n (x := ma 0) dL_isMoved_170 rfl rfl ?_
  refine r_aload_n (x := ma 1) dL_isMoved_171 rfl rfl ?_
  refine r_aload_n (x := ma 2) dL_isMoved_172 rfl rfl ?_
  refine r_aload (x := ma 4) dL_isMoved_173 rfl ?_
  refine r_aload (x := ma 5) dL_isMoved_175 rfl ?_
  refine r_csv (J := fun (E_ : Rw) => (E_, C_170, q_170)) (k2 := k_L_settles) (n := 5) (rest := []) (fun _ => rfl) rfl kv_L_settles (c_L_settles (ad := adq ma q_170) (K0 := C_170) h (adq_hm hm)  _) (by decide) um_L_231 rfl (Nat.le_of_ble_eq_true rfl) dL_isMoved_177 rfl (fun r1 E2 => ?_)
  show RunO l Γ k_L_isMoved 14 encI (em3 ma) 180 [(0, .ref a0), (1, .ref (ma 0)), (2, .ref (ma 1)), (3, .ref (ma 2)), (4, .ref (ma 3)), (5, .ref (ma 4)), (6, .ref (ma 5)), (9, wi a9), (10, wi v10_9), (12, wi t0_88)] [] (E2, C_170, q_170) _
  refine ro_iconst (v := 0) dL_isMoved_180 rfl ?_
  refine r_istore (lo2 := [(13, wi 0), (0, .ref a0), (1, .ref (ma 0)), (2, .ref (ma 1)), (3, .ref (ma 2)), (4, .ref (ma 3)), (5, .ref (ma 4)), (6, .ref (ma 5)), (9, wi a9), (10, wi v10_9), (12, wi t0_88)]) dL_isMoved_181 (by decide) rfl ?_
  refine ro_iconst (v := 0) dL_isMoved_183 rfl ?_
  refine r_istore (lo2 := [(14, wi 0), (13, wi 0), (0, .ref a0), (1, .ref (ma 0)), (2, .ref (ma 1)), (3, .ref (ma 2)), (4, .ref (ma 3)), (5, .ref (ma 4)), (6, .ref (ma 5)), (9, wi a9), (10, wi v10_9), (12, wi t0_88)]) dL_isMoved_184 (by decide) rfl ?_
  refine r_loop (P := fun (J : Int → Int → Rw → Cd → (Nat → Nat) → Option (Int × S3)) => ∀ (v13_186 : Int) (v14_186 : Int) (E_186 : Rw) (C_186 : Cd) (q_186 : (Nat → Nat)), RunO l Γ k_L_isMoved 14 encI (em3 ma) 186 [(0, .ref a0), (1, .ref (ma 0)), (2, .ref (ma 1)), (3, .ref (ma 2)), (4, .ref (ma 3)), (9, wi a9), (10, wi v10_9), (12, wi t0_88), (13, wi v13_186), (14, wi v14_186)] [] (E_186, C_186, q_186) (J v13_186 v14_186 E_186 C_186 q_186)) ?_ (fun L186 hL186 => ?_) (fun J186 hJ186 => ?_)
  · intros; exact ro_none
  · exact b_L_isMoved_186 h hm hG hX a0 a9 v10_9 t0_88 L186 hL186
  refine r_lo [2, 3, 4, 5, 6, 9, 10, 11, 1, 0] (lo2 := [(0, .ref a0), (1, .ref (ma 0)), (2, .ref (ma 1)), (3, .ref (ma 2)), (4, .ref (ma 3)), (9, wi a9), (10, wi v10_9), (12, wi t0_88), (13, wi 0), (14, wi 0)]) rfl ?_
  exact hJ186 0 0 E2 C_170 q_170
set_option maxHeartbeats 8000000 in
set_option maxRecDepth 100000 in
theorem b_L_isMoved_93 {l : Launch} {Γ : Cx} {ma : Nat → Nat} (h : wOn Γ) (hm : ∀ k, k ≤ 10 → ma k ≠ 0) (hG : GK Γ l) (hX : XN Γ) (a0 : Nat) (a9 : Int) (v10_9 : Int) (t0_88 : Int) (L93 : Int → Rw → Cd → (Nat → Nat) → Option (Int × S3)) (hL93 : ∀ (v13_93 : Int) (E_93 : Rw) (C_93 : Cd) (q_93 : (Nat → Nat)), RunO l Γ k_L_isMoved 14 encI (em3 ma) 93 [(0, .ref a0), (1, .ref (ma 0)), (2, .ref (ma 1)), (3, .ref (ma 2)), (4, .ref (ma 3)), (5, .ref (ma 4)), (6, .ref (ma 5)), (7, .ref (ma 6)), (8, .ref (ma 8)), (9, wi a9), (10, wi v10_9), (12, wi t0_88), (13, wi v13_93)] [] (E_93, C_93, q_93) (L93 v13_93 E_93 C_93 q_93)) : ∀ (v13_93 : Int) (E_93 : Rw) (C_93 : Cd) (q_93 : (Nat → Nat)), RunO l Γ k_L_isMoved 14 encI (em3 ma) 93 [(0, .ref a0), (1, .ref (ma 0)), (2, .ref (ma 1)), (3, .ref (ma 2)), (4, .ref (ma 3)), (5, .ref (ma 4)), (6, .ref (ma 5)), (7, .ref (ma 6)), (8, .ref (ma 8)), (9, wi a9), (10, wi v10_9), (12, wi t0_88), (13, wi v13_93)] [] (E_93, C_93, q_93) (fW_isMoved_93 a0 a9 v10_9 t0_88 L93 v13_93 E_93 C_93 q_93) := by
  intro v13_93 E_93 C_93 q_93
  unfold fW_isMoved_93
  refine r_iload (x := v13_93) dL_isMoved_93 rfl ?_
  refine ro_iconst (v := 4) dL_isMoved_95 rfl ?_
  refine r_join (P := fun (J : Rw → Cd → (Nat → Nat) → Option (Int × S3)) => ∀ (E_170 : Rw) (C_170 : Cd) (q_170 : (Nat → Nat)), RunO l Γ k_L_isMoved 14 encI (em3 ma) 170 [(0, .ref a0), (1, .ref (ma 0)), (2, .ref (ma 1)), (3, .ref (ma 2)), (4, .ref (ma 3)), (5, .ref (ma 4)), (6, .ref (ma 5)), (9, wi a9), (10, wi v10_9), (12, wi t0_88)] [] (E_170, C_170, q_170) (J E_170 C_170 q_170)) ?_ (fun J170 hJ170 => ?_)
  · exact b_L_isMoved_170 h hm hG hX a0 a9 v10_9 t0_88
  refine r_icmp_ge (tgt := 170) dL_isMoved_96 (by decide) ?_ ?_
  · refine r_lo [0, 1, 2, 3, 4, 5, 6, 9, 10, 11] (lo2 := [(0, .ref a0), (1, .ref (ma 0)), (2, .ref (ma 1)), (3, .ref (ma 2)), (4, .ref (ma 3)), (5, .ref (ma 4)), (6, .ref (ma 5)), (9, wi a9), (10, wi v10_9), (12, wi t0_88)]) rfl ?_
    exact hJ170 E_93 C_93 q_93
  · refine r_iload (x := t0_88) dL_isMoved_99 rfl ?_
    refine r_if_eq (tgt := 170) dL_isMoved_101 (by decide) ?_ ?_
    · refine r_lo [0, 1, 2, 3, 4, 5, 6, 9, 10, 11] (lo2 := [(0, .ref a0), (1, .ref (ma 0)), (2, .ref (ma 1)), (3, .ref (ma 2)), (4, .ref (ma 3)), (5, .ref (ma 4)), (6, .ref (ma 5)), (9, wi a9), (10, wi v10_9), (12, wi t0_88)]) rfl ?_
      exact hJ170 E_93 C_93 q_93
    · refine r_aload_n (x := ma 0) dL_isMoved_104 rfl rfl ?_
      refine r_aload (x := ma 6) dL_isMoved_105 rfl ?_
      refine r_aload (x := ma 8) dL_isMoved_107 rfl ?_
      refine ro_iconst (v := 4) dL_isMoved_109 rfl ?_
      refine r_iload (x := a9) dL_isMoved_110 rfl ?_
      refine r_imul dL_isMoved_112 ?_
      refine r_iload (x := v13_93) dL_isMoved_113 rfl ?_
      refine r_iadd dL_isMoved_115 ?_
      refine ro_iconst (v := 0) dL_isMoved_116 rfl ?_
      refine r_csv (J := fun (E_ : Rw) => (E_, C_93, q_93)) (k2 := k_L_sets) (n := 5) (rest := []) (fun _ => rfl) rfl kv_L_sets (c_L_sets (ad := adq ma q_93) (K0 := C_93) h (adq_hm hm) ((4 * a9) + v13_93) 0 _) (by decide) um_L_51 rfl (Nat.le_of_ble_eq_true rfl) dL_isMoved_117 rfl (fun r12 E13 => ?_)
      show RunO l Γ k_L_isMoved 14 encI (em3 ma) 120 [(0, .ref a0), (1, .ref (ma 0)), (2, .ref (ma 1)), (3, .ref (ma 2)), (4, .ref (ma 3)), (5, .ref (ma 4)), (6, .ref (ma 5)), (7, .ref (ma 6)), (8, .ref (ma 8)), (9, wi a9), (10, wi v10_9), (12, wi t0_88), (13, wi v13_93)] [] (E13, C_93, q_93) _
      refine r_aload (x := ma 6) dL_isMoved_120 rfl ?_
      refine r_bipush (v := 7) dL_isMoved_122 rfl ?_
      refine ro_iconst (v := 4) dL_isMoved_124 rfl ?_
      refine r_iload (x := a9) dL_isMoved_125 rfl ?_
      refine r_imul dL_isMoved_127 ?_
      refine r_iload (x := v13_93) dL_isMoved_128 rfl ?_
      refine r_iadd dL_isMoved_130 ?_
      refine r_imul dL_isMoved_131 ?_
      refine ro_iconst (v := 0) dL_isMoved_132 rfl ?_
      refine r_wiast3 h (by decide) (by decide) (hm 6 (by decide)) dL_isMoved_133 (fun E14 => ?_)
      refine r_aload_n (x := ma 1) dL_isMoved_134 rfl rfl ?_
      refine ro_iconst (v := 4) dL_isMoved_135 rfl ?_
      refine ro_iconst (v := 4) dL_isMoved_136 rfl ?_
      refine r_iload (x := a9) dL_isMoved_137 rfl ?_
      refine r_imul dL_isMoved_139 ?_
      refine r_isub dL_isMoved_140 ?_
      refine r_iload (x := v13_93) dL_isMoved_141 rfl ?_
      refine r_iadd dL_isMoved_143 ?_
      refine r_aload_n (x := ma 1) dL_isMoved_144 rfl rfl ?_
      refine ro_iconst (v := 4) dL_isMoved_145 rfl ?_
      refine r_iload (x := a9) dL_isMoved_146 rfl ?_
      refine r_imul dL_isMoved_148 ?_
      refine r_iload (x := v13_93) dL_isMoved_149 rfl ?_
      refine r_iadd dL_isMoved_151 ?_
      refine r_wiald3 h (by decide) (by decide) (hm 1 (by decide)) dL_isMoved_152 ?_
      refine r_wiast3 h (by decide) (by decide) (hm 1 (by decide)) dL_isMoved_153 (fun E15 => ?_)
      refine r_aload_n (x := ma 1) dL_isMoved_154 rfl rfl ?_
      refine ro_iconst (v := 4) dL_isMoved_155 rfl ?_
      refine r_iload (x := a9) dL_isMoved_156 rfl ?_
      refine r_imul dL_isMoved_158 ?_
      refine r_iload (x := v13_93) dL_isMoved_159 rfl ?_
      refine r_iadd dL_isMoved_161 ?_
      refine ro_iconst (v := 0) dL_isMoved_162 rfl ?_
      refine r_wiast3 h (by decide) (by decide) (hm 1 (by decide)) dL_isMoved_163 (fun E16 => ?_)
      refine r_iinc (x := v13_93) (lo2 := [(13, wi (v13_93 + 1)), (0, .ref a0), (1, .ref (ma 0)), (2, .ref (ma 1)), (3, .ref (ma 2)), (4, .ref (ma 3)), (5, .ref (ma 4)), (6, .ref (ma 5)), (7, .ref (ma 6)), (8, .ref (ma 8)), (9, wi a9), (10, wi v10_9), (12, wi t0_88)]) dL_isMoved_164 rfl (by decide) rfl ?_
      refine r_goto (tgt := 93) dL_isMoved_167 (by decide) ?_
      refine r_lo [1, 2, 3, 4, 5, 6, 7, 8, 9, 10, 11, 12, 0] (lo2 := [(0, .ref a0), (1, .ref (ma 0)), (2, .ref (ma 1)), (3, .ref (ma 2)), (4, .ref (ma 3)), (5, .ref (ma 4)), (6, .ref (ma 5)), (7, .ref (ma 6)), (8, .ref (ma 8)), (9, wi a9), (10, wi v10_9), (12, wi t0_88), (13, wi (v13_93 + 1))]) rfl ?_
      exact hL93 (v13_93 + 1) E16 C_93 q_93
set_option maxHeartbeats 8000000 in
set_option maxRecDepth 100000 in
theorem b_L_isMoved_88 {l : Launch} {Γ : Cx} {ma : Nat → Nat} (h : wOn Γ) (hm : ∀ k, k ≤ 10 → ma k ≠ 0) (hG : GK Γ l) (hX : XN Γ) (a0 : Nat) (a9 : Int) (v10_9 : Int) : ∀ (t0_88 : Int) (E_88 : Rw) (C_88 : Cd) (q_88 : (Nat → Nat)), RunO l Γ k_L_isMoved 14 encI (em3 ma) 88 [(0, .ref a0), (1, .ref (ma 0)), (2, .ref (ma 1)), (3, .ref (ma 2)), (4, .ref (ma 3)), (5, .ref (ma 4)), (6, .ref (ma 5)), (7, .ref (ma 6)), (8, .ref (ma 8)), (9, wi a9), (10, wi v10_9)] [wi t0_88] (E_88, C_88, q_88) (fW_isMoved_88 a0 a9 v10_9 t0_88 E_88 C_88 q_88) := by
  intro t0_88 E_88 C_88 q_88
  unfold fW_isMoved_88
  refine r_istore (lo2 := [(12, wi t0_88), (0, .ref a0), (1, .ref (ma 0)), (2, .ref (ma 1)), (3, .ref (ma 2)), (4, .ref (ma 3)), (5, .ref (ma 4)), (6, .ref (ma 5)), (7, .ref (ma 6)), (8, .ref (ma 8)), (9, wi a9), (10, wi v10_9)]) dL_isMoved_88 (by decide) rfl ?_
  refine ro_iconst (v := 0) dL_isMoved_90 rfl ?_
  refine r_istore (lo2 := [(13, wi 0), (12, wi t0_88), (0, .ref a0), (1, .ref (ma 0)), (2, .ref (ma 1)), (3, .ref (ma 2)), (4, .ref (ma 3)), (5, .ref (ma 4)), (6, .ref (ma 5)), (7, .ref (ma 6)), (8, .ref (ma 8)), (9, wi a9), (10, wi v10_9)]) dL_isMoved_91 (by decide) rfl ?_
  refine r_loop (P := fun (J : Int → Rw → Cd → (Nat → Nat) → Option (Int × S3)) => ∀ (v13_93 : Int) (E_93 : Rw) (C_93 : Cd) (q_93 : (Nat → Nat)), RunO l Γ k_L_isMoved 14 encI (em3 ma) 93 [(0, .ref a0), (1, .ref (ma 0)), (2, .ref (ma 1)), (3, .ref (ma 2)), (4, .ref (ma 3)), (5, .ref (ma 4)), (6, .ref (ma 5)), (7, .ref (ma 6)), (8, .ref (ma 8)), (9, wi a9), (10, wi v10_9), (12, wi t0_88), (13, wi v13_93)] [] (E_93, C_93, q_93) (J v13_93 E_93 C_93 q_93)) ?_ (fun L93 hL93 => ?_) (fun J93 hJ93 => ?_)
  · intros; exact ro_none
  · exact b_L_isMoved_93 h hm hG hX a0 a9 v10_9 t0_88 L93 hL93
  refine r_lo [2, 3, 4, 5, 6, 7, 8, 9, 10, 11, 12, 1, 0] (lo2 := [(0, .ref a0), (1, .ref (ma 0)), (2, .ref (ma 1)), (3, .ref (ma 2)), (4, .ref (ma 3)), (5, .ref (ma 4)), (6, .ref (ma 5)), (7, .ref (ma 6)), (8, .ref (ma 8)), (9, wi a9), (10, wi v10_9), (12, wi t0_88), (13, wi 0)]) rfl ?_
  exact hJ93 0 E_88 C_88 q_88
set_option maxHeartbeats 8000000 in
set_option maxRecDepth 100000 in
theorem b_L_isMoved_87 {l : Launch} {Γ : Cx} {ma : Nat → Nat} (h : wOn Γ) (hm : ∀ k, k ≤ 10 → ma k ≠ 0) (hG : GK Γ l) (hX : XN Γ) (a0 : Nat) (a9 : Int) (v10_9 : Int) (J88 : Int → Rw → Cd → (Nat → Nat) → Option (Int × S3)) (hJ88 : ∀ (t0_88 : Int) (E_88 : Rw) (C_88 : Cd) (q_88 : (Nat → Nat)), RunO l Γ k_L_isMoved 14 encI (em3 ma) 88 [(0, .ref a0), (1, .ref (ma 0)), (2, .ref (ma 1)), (3, .ref (ma 2)), (4, .ref (ma 3)), (5, .ref (ma 4)), (6, .ref (ma 5)), (7, .ref (ma 6)), (8, .ref (ma 8)), (9, wi a9), (10, wi v10_9)] [wi t0_88] (E_88, C_88, q_88) (J88 t0_88 E_88 C_88 q_88)) : ∀ (E_87 : Rw) (C_87 : Cd) (q_87 : (Nat → Nat)), RunO l Γ k_L_isMoved 14 encI (em3 ma) 87 [(0, .ref a0), (1, .ref (ma 0)), (2, .ref (ma 1)), (3, .ref (ma 2)), (4, .ref (ma 3)), (5, .ref (ma 4)), (6, .ref (ma 5)), (7, .ref (ma 6)), (8, .ref (ma 8)), (9, wi a9), (10, wi v10_9)] [] (E_87, C_87, q_87) (fW_isMoved_87 J88 E_87 C_87 q_87) := by
  intro E_87 C_87 q_87
  unfold fW_isMoved_87
  refine ro_iconst (v := 0) dL_isMoved_87 rfl ?_
  exact hJ88 0 E_87 C_87 q_87
set_option maxHeartbeats 8000000 in
set_option maxRecDepth 100000 in
theorem b_L_isMoved_64 {l : Launch} {Γ : Cx} {ma : Nat → Nat} (h : wOn Γ) (hm : ∀ k, k ≤ 10 → ma k ≠ 0) (hG : GK Γ l) (hX : XN Γ) (a0 : Nat) (a9 : Int) (v11_9 : Int) (v12_9 : Int) (x10_38 : Int) (L9 : Int → Int → Int → Rw → Cd → (Nat → Nat) → Option (Int × S3)) (hL9 : ∀ (v10_9 : Int) (v11_9 : Int) (v12_9 : Int) (E_9 : Rw) (C_9 : Cd) (q_9 : (Nat → Nat)), RunO l Γ k_L_isMoved 14 encI (em3 ma) 9 [(0, .ref a0), (1, .ref (ma 0)), (2, .ref (ma 1)), (3, .ref (ma 2)), (4, .ref (ma 3)), (5, .ref (ma 4)), (6, .ref (ma 5)), (7, .ref (ma 6)), (8, .ref (ma 8)), (9, wi a9), (10, wi v10_9), (11, wi v11_9), (12, wi v12_9)] [] (E_9, C_9, q_9) (L9 v10_9 v11_9 v12_9 E_9 C_9 q_9)) : ∀ (t0_64 : Int) (E_64 : Rw) (C_64 : Cd) (q_64 : (Nat → Nat)), RunO l Γ k_L_isMoved 14 encI (em3 ma) 64 [(0, .ref a0), (1, .ref (ma 0)), (2, .ref (ma 1)), (3, .ref (ma 2)), (4, .ref (ma 3)), (5, .ref (ma 4)), (6, .ref (ma 5)), (7, .ref (ma 6)), (8, .ref (ma 8)), (9, wi a9), (10, wi x10_38), (12, wi v12_9)] [wi t0_64, wi v11_9] (E_64, C_64, q_64) (fW_isMoved_64 L9 v11_9 v12_9 x10_38 t0_64 E_64 C_64 q_64) := by
  intro t0_64 E_64 C_64 q_64
  unfold fW_isMoved_64
  refine r_ior dL_isMoved_64 ?_
  refine r_nm (fun x11_65 => ?_)
  refine r_istore (lo2 := [(11, wi x11_65), (0, .ref a0), (1, .ref (ma 0)), (2, .ref (ma 1)), (3, .ref (ma 2)), (4, .ref (ma 3)), (5, .ref (ma 4)), (6, .ref (ma 5)), (7, .ref (ma 6)), (8, .ref (ma 8)), (9, wi a9), (10, wi x10_38), (12, wi v12_9)]) dL_isMoved_65 (by decide) rfl ?_
  refine r_iinc (x := v12_9) (lo2 := [(12, wi (v12_9 + 1)), (11, wi x11_65), (0, .ref a0), (1, .ref (ma 0)), (2, .ref (ma 1)), (3, .ref (ma 2)), (4, .ref (ma 3)), (5, .ref (ma 4)), (6, .ref (ma 5)), (7, .ref (ma 6)), (8, .ref (ma 8)), (9, wi a9), (10, wi x10_38)]) dL_isMoved_67 rfl (by decide) rfl ?_
  refine r_goto (tgt := 9) dL_isMoved_70 (by decide) ?_
  refine r_lo [2, 3, 4, 5, 6, 7, 8, 9, 10, 11, 12, 1, 0] (lo2 := [(0, .ref a0), (1, .ref (ma 0)), (2, .ref (ma 1)), (3, .ref (ma 2)), (4, .ref (ma 3)), (5, .ref (ma 4)), (6, .ref (ma 5)), (7, .ref (ma 6)), (8, .ref (ma 8)), (9, wi a9), (10, wi x10_38), (11, wi x11_65), (12, wi (v12_9 + 1))]) rfl ?_
  exact hL9 x10_38 x11_65 (v12_9 + 1) E_64 C_64 q_64
set_option maxHeartbeats 8000000 in
set_option maxRecDepth 100000 in
theorem b_L_isMoved_37 {l : Launch} {Γ : Cx} {ma : Nat → Nat} (h : wOn Γ) (hm : ∀ k, k ≤ 10 → ma k ≠ 0) (hG : GK Γ l) (hX : XN Γ) (a0 : Nat) (a9 : Int) (v10_9 : Int) (v11_9 : Int) (v12_9 : Int) (L9 : Int → Int → Int → Rw → Cd → (Nat → Nat) → Option (Int × S3)) (hL9 : ∀ (v10_9 : Int) (v11_9 : Int) (v12_9 : Int) (E_9 : Rw) (C_9 : Cd) (q_9 : (Nat → Nat)), RunO l Γ k_L_isMoved 14 encI (em3 ma) 9 [(0, .ref a0), (1, .ref (ma 0)), (2, .ref (ma 1)), (3, .ref (ma 2)), (4, .ref (ma 3)), (5, .ref (ma 4)), (6, .ref (ma 5)), (7, .ref (ma 6)), (8, .ref (ma 8)), (9, wi a9), (10, wi v10_9), (11, wi v11_9), (12, wi v12_9)] [] (E_9, C_9, q_9) (L9 v10_9 v11_9 v12_9 E_9 C_9 q_9)) : ∀ (t0_37 : Int) (E_37 : Rw) (C_37 : Cd) (q_37 : (Nat → Nat)), RunO l Γ k_L_isMoved 14 encI (em3 ma) 37 [(0, .ref a0), (1, .ref (ma 0)), (2, .ref (ma 1)), (3, .ref (ma 2)), (4, .ref (ma 3)), (5, .ref (ma 4)), (6, .ref (ma 5)), (7, .ref (ma 6)), (8, .ref (ma 8)), (9, wi a9), (11, wi v11_9), (12, wi v12_9)] [wi t0_37, wi v10_9] (E_37, C_37, q_37) (fW_isMoved_37 a9 L9 v10_9 v11_9 v12_9 t0_37 E_37 C_37 q_37) := by
  intro t0_37 E_37 C_37 q_37
  unfold fW_isMoved_37
  refine r_ior dL_isMoved_37 ?_
  refine r_nm (fun x10_38 => ?_)
  refine r_istore (lo2 := [(10, wi x10_38), (0, .ref a0), (1, .ref (ma 0)), (2, .ref (ma 1)), (3, .ref (ma 2)), (4, .ref (ma 3)), (5, .ref (ma 4)), (6, .ref (ma 5)), (7, .ref (ma 6)), (8, .ref (ma 8)), (9, wi a9), (11, wi v11_9), (12, wi v12_9)]) dL_isMoved_38 (by decide) rfl ?_
  refine r_iload (x := v11_9) dL_isMoved_40 rfl ?_
  refine r_aload_n (x := ma 1) dL_isMoved_42 rfl rfl ?_
  refine ro_iconst (v := 4) dL_isMoved_43 rfl ?_
  refine ro_iconst (v := 4) dL_isMoved_44 rfl ?_
  refine r_iload (x := a9) dL_isMoved_45 rfl ?_
  refine r_imul dL_isMoved_47 ?_
  refine r_isub dL_isMoved_48 ?_
  refine r_iload (x := v12_9) dL_isMoved_49 rfl ?_
  refine r_iadd dL_isMoved_51 ?_
  refine r_wiald3 h (by decide) (by decide) (hm 1 (by decide)) dL_isMoved_52 ?_
  refine r_join (P := fun (J : Int → Rw → Cd → (Nat → Nat) → Option (Int × S3)) => ∀ (t0_64 : Int) (E_64 : Rw) (C_64 : Cd) (q_64 : (Nat → Nat)), RunO l Γ k_L_isMoved 14 encI (em3 ma) 64 [(0, .ref a0), (1, .ref (ma 0)), (2, .ref (ma 1)), (3, .ref (ma 2)), (4, .ref (ma 3)), (5, .ref (ma 4)), (6, .ref (ma 5)), (7, .ref (ma 6)), (8, .ref (ma 8)), (9, wi a9), (10, wi x10_38), (12, wi v12_9)] [wi t0_64, wi v11_9] (E_64, C_64, q_64) (J t0_64 E_64 C_64 q_64)) ?_ (fun J64 hJ64 => ?_)
  · exact b_L_isMoved_64 h hm hG hX a0 a9 v11_9 v12_9 x10_38 L9 hL9
  refine r_if_le (tgt := 63) dL_isMoved_53 (by decide) ?_ ?_
  · refine ro_iconst (v := 0) dL_isMoved_63 rfl ?_
    refine r_lo [1, 2, 3, 4, 5, 6, 7, 8, 9, 10, 0, 12] (lo2 := [(0, .ref a0), (1, .ref (ma 0)), (2, .ref (ma 1)), (3, .ref (ma 2)), (4, .ref (ma 3)), (5, .ref (ma 4)), (6, .ref (ma 5)), (7, .ref (ma 6)), (8, .ref (ma 8)), (9, wi a9), (10, wi x10_38), (12, wi v12_9)]) rfl ?_
    exact hJ64 0 E_37 C_37 q_37
  · refine ro_iconst (v := 1) dL_isMoved_56 rfl ?_
    refine r_iload (x := v12_9) dL_isMoved_57 rfl ?_
    refine r_ishl dL_isMoved_59 ?_
    refine r_goto (tgt := 64) dL_isMoved_60 (by decide) ?_
    refine r_lo [1, 2, 3, 4, 5, 6, 7, 8, 9, 10, 0, 12] (lo2 := [(0, .ref a0), (1, .ref (ma 0)), (2, .ref (ma 1)), (3, .ref (ma 2)), (4, .ref (ma 3)), (5, .ref (ma 4)), (6, .ref (ma 5)), (7, .ref (ma 6)), (8, .ref (ma 8)), (9, wi a9), (10, wi x10_38), (12, wi v12_9)]) rfl ?_
    exact hJ64 (shlI 1 v12_9) E_37 C_37 q_37
set_option maxHeartbeats 8000000 in
set_option maxRecDepth 100000 in
theorem b_L_isMoved_9 {l : Launch} {Γ : Cx} {ma : Nat → Nat} (h : wOn Γ) (hm : ∀ k, k ≤ 10 → ma k ≠ 0) (hG : GK Γ l) (hX : XN Γ) (a0 : Nat) (a9 : Int) (L9 : Int → Int → Int → Rw → Cd → (Nat → Nat) → Option (Int × S3)) (hL9 : ∀ (v10_9 : Int) (v11_9 : Int) (v12_9 : Int) (E_9 : Rw) (C_9 : Cd) (q_9 : (Nat → Nat)), RunO l Γ k_L_isMoved 14 encI (em3 ma) 9 [(0, .ref a0), (1, .ref (ma 0)), (2, .ref (ma 1)), (3, .ref (ma 2)), (4, .ref (ma 3)), (5, .ref (ma 4)), (6, .ref (ma 5)), (7, .ref (ma 6)), (8, .ref (ma 8)), (9, wi a9), (10, wi v10_9), (11, wi v11_9), (12, wi v12_9)] [] (E_9, C_9, q_9) (L9 v10_9 v11_9 v12_9 E_9 C_9 q_9)) : ∀ (v10_9 : Int) (v11_9 : Int) (v12_9 : Int) (E_9 : Rw) (C_9 : Cd) (q_9 : (Nat → Nat)), RunO l Γ k_L_isMoved 14 encI (em3 ma) 9 [(0, .ref a0), (1, .ref (ma 0)), (2, .ref (ma 1)), (3, .ref (ma 2)), (4, .ref (ma 3)), (5, .ref (ma 4)), (6, .ref (ma 5)), (7, .ref (ma 6)), (8, .ref (ma 8)), (9, wi a9), (10, wi v10_9), (11, wi v11_9), (12, wi v12_9)] [] (E_9, C_9, q_9) (fW_isMoved_9 a0 a9 L9 v10_9 v11_9 v12_9 E_9 C_9 q_9) := by
  intro v10_9 v11_9 v12_9 E_9 C_9 q_9
  unfold fW_isMoved_9
  refine r_iload (x := v12_9) dL_isMoved_9 rfl ?_
  refine ro_iconst (v := 4) dL_isMoved_11 rfl ?_
  refine r_icmp_ge (tgt := 73) dL_isMoved_12 (by decide) ?_ ?_
  · refine r_iload (x := v10_9) dL_isMoved_73 rfl ?_
    refine r_join (P := fun (J : Int → Rw → Cd → (Nat → Nat) → Option (Int × S3)) => ∀ (t0_88 : Int) (E_88 : Rw) (C_88 : Cd) (q_88 : (Nat → Nat)), RunO l Γ k_L_isMoved 14 encI (em3 ma) 88 [(0, .ref a0), (1, .ref (ma 0)), (2, .ref (ma 1)), (3, .ref (ma 2)), (4, .ref (ma 3)), (5, .ref (ma 4)), (6, .ref (ma 5)), (7, .ref (ma 6)), (8, .ref (ma 8)), (9, wi a9), (10, wi v10_9)] [wi t0_88] (E_88, C_88, q_88) (J t0_88 E_88 C_88 q_88)) ?_ (fun J88 hJ88 => ?_)
    · exact b_L_isMoved_88 h hm hG hX a0 a9 v10_9
    refine r_join (P := fun (J : Rw → Cd → (Nat → Nat) → Option (Int × S3)) => ∀ (E_87 : Rw) (C_87 : Cd) (q_87 : (Nat → Nat)), RunO l Γ k_L_isMoved 14 encI (em3 ma) 87 [(0, .ref a0), (1, .ref (ma 0)), (2, .ref (ma 1)), (3, .ref (ma 2)), (4, .ref (ma 3)), (5, .ref (ma 4)), (6, .ref (ma 5)), (7, .ref (ma 6)), (8, .ref (ma 8)), (9, wi a9), (10, wi v10_9)] [] (E_87, C_87, q_87) (J E_87 C_87 q_87)) ?_ (fun J87 hJ87 => ?_)
    · exact b_L_isMoved_87 h hm hG hX a0 a9 v10_9 J88 hJ88
    refine r_if_le (tgt := 87) dL_isMoved_75 (by decide) ?_ ?_
    · refine r_lo [0, 1, 2, 3, 4, 5, 6, 7, 8, 9, 10] (lo2 := [(0, .ref a0), (1, .ref (ma 0)), (2, .ref (ma 1)), (3, .ref (ma 2)), (4, .ref (ma 3)), (5, .ref (ma 4)), (6, .ref (ma 5)), (7, .ref (ma 6)), (8, .ref (ma 8)), (9, wi a9), (10, wi v10_9)]) rfl ?_
      exact hJ87 E_9 C_9 q_9
    · refine r_iload (x := v11_9) dL_isMoved_78 rfl ?_
      refine r_if_ne (tgt := 87) dL_isMoved_80 (by decide) ?_ ?_
      · refine r_lo [0, 1, 2, 3, 4, 5, 6, 7, 8, 9, 10] (lo2 := [(0, .ref a0), (1, .ref (ma 0)), (2, .ref (ma 1)), (3, .ref (ma 2)), (4, .ref (ma 3)), (5, .ref (ma 4)), (6, .ref (ma 5)), (7, .ref (ma 6)), (8, .ref (ma 8)), (9, wi a9), (10, wi v10_9)]) rfl ?_
        exact hJ87 E_9 C_9 q_9
      · refine ro_iconst (v := 1) dL_isMoved_83 rfl ?_
        refine r_goto (tgt := 88) dL_isMoved_84 (by decide) ?_
        refine r_lo [0, 1, 2, 3, 4, 5, 6, 7, 8, 9, 10] (lo2 := [(0, .ref a0), (1, .ref (ma 0)), (2, .ref (ma 1)), (3, .ref (ma 2)), (4, .ref (ma 3)), (5, .ref (ma 4)), (6, .ref (ma 5)), (7, .ref (ma 6)), (8, .ref (ma 8)), (9, wi a9), (10, wi v10_9)]) rfl ?_
        exact hJ88 1 E_9 C_9 q_9
  · refine r_iload (x := v10_9) dL_isMoved_15 rfl ?_
    refine r_aload_n (x := ma 1) dL_isMoved_17 rfl rfl ?_
    refine ro_iconst (v := 4) dL_isMoved_18 rfl ?_
    refine r_iload (x := a9) dL_isMoved_19 rfl ?_
    refine r_imul dL_isMoved_21 ?_
    refine r_iload (x := v12_9) dL_isMoved_22 rfl ?_
    refine r_iadd dL_isMoved_24 ?_
    refine r_wiald3 h (by decide) (by decide) (hm 1 (by decide)) dL_isMoved_25 ?_
    refine r_join (P := fun (J : Int → Rw → Cd → (Nat → Nat) → Option (Int × S3)) => ∀ (t0_37 : Int) (E_37 : Rw) (C_37 : Cd) (q_37 : (Nat → Nat)), RunO l Γ k_L_isMoved 14 encI (em3 ma) 37 [(0, .ref a0), (1, .ref (ma 0)), (2, .ref (ma 1)), (3, .ref (ma 2)), (4, .ref (ma 3)), (5, .ref (ma 4)), (6, .ref (ma 5)), (7, .ref (ma 6)), (8, .ref (ma 8)), (9, wi a9), (11, wi v11_9), (12, wi v12_9)] [wi t0_37, wi v10_9] (E_37, C_37, q_37) (J t0_37 E_37 C_37 q_37)) ?_ (fun J37 hJ37 => ?_)
    · exact b_L_isMoved_37 h hm hG hX a0 a9 v10_9 v11_9 v12_9 L9 hL9
    refine r_if_le (tgt := 36) dL_isMoved_26 (by decide) ?_ ?_
    · refine ro_iconst (v := 0) dL_isMoved_36 rfl ?_
      refine r_lo [0, 1, 2, 3, 4, 5, 6, 7, 8, 9, 11, 12] (lo2 := [(0, .ref a0), (1, .ref (ma 0)), (2, .ref (ma 1)), (3, .ref (ma 2)), (4, .ref (ma 3)), (5, .ref (ma 4)), (6, .ref (ma 5)), (7, .ref (ma 6)), (8, .ref (ma 8)), (9, wi a9), (11, wi v11_9), (12, wi v12_9)]) rfl ?_
      exact hJ37 0 E_9 C_9 q_9
    · refine ro_iconst (v := 1) dL_isMoved_29 rfl ?_
      refine r_iload (x := v12_9) dL_isMoved_30 rfl ?_
      refine r_ishl dL_isMoved_32 ?_
      refine r_goto (tgt := 37) dL_isMoved_33 (by decide) ?_
      refine r_lo [0, 1, 2, 3, 4, 5, 6, 7, 8, 9, 11, 12] (lo2 := [(0, .ref a0), (1, .ref (ma 0)), (2, .ref (ma 1)), (3, .ref (ma 2)), (4, .ref (ma 3)), (5, .ref (ma 4)), (6, .ref (ma 5)), (7, .ref (ma 6)), (8, .ref (ma 8)), (9, wi a9), (11, wi v11_9), (12, wi v12_9)]) rfl ?_
      exact hJ37 (shlI 1 v12_9) E_9 C_9 q_9
set_option maxHeartbeats 8000000 in
set_option maxRecDepth 100000 in
theorem c_L_isMoved {l : Launch} {Γ : Cx} {ma : Nat → Nat} (h : wOn Γ) (hm : ∀ k, k ≤ 10 → ma k ≠ 0) (hG : GK Γ l) (hX : XN Γ) (a0 : Nat) (a9 : Int) (E : Rw) (C : Cd) (q : (Nat → Nat)) : Ct l Γ k_L_isMoved 14 encI (em3 ma) [.ref a0, .ref (ma 0), .ref (ma 1), .ref (ma 2), .ref (ma 3), .ref (ma 4), .ref (ma 5), .ref (ma 6), .ref (ma 8), wi a9] (E, C, q) (fW_isMoved a0 a9 E C q) := by
  refine ct_of (by decide +kernel) rfl (Nat.le_of_ble_eq_true rfl) ?_
  refine r_lo [0, 1, 2, 3, 4, 5, 6, 7, 8, 9] (lo2 := [(0, .ref a0), (1, .ref (ma 0)), (2, .ref (ma 1)), (3, .ref (ma 2)), (4, .ref (ma 3)), (5, .ref (ma 4)), (6, .ref (ma 5)), (7, .ref (ma 6)), (8, .ref (ma 8)), (9, wi a9)]) rfl ?_
  unfold fW_isMoved
  refine ro_iconst (v := 0) dL_isMoved_0 rfl ?_
  refine r_istore (lo2 := [(10, wi 0), (0, .ref a0), (1, .ref (ma 0)), (2, .ref (ma 1)), (3, .ref (ma 2)), (4, .ref (ma 3)), (5, .ref (ma 4)), (6, .ref (ma 5)), (7, .ref (ma 6)), (8, .ref (ma 8)), (9, wi a9)]) dL_isMoved_1 (by decide) rfl ?_
  refine ro_iconst (v := 0) dL_isMoved_3 rfl ?_
  refine r_istore (lo2 := [(11, wi 0), (10, wi 0), (0, .ref a0), (1, .ref (ma 0)), (2, .ref (ma 1)), (3, .ref (ma 2)), (4, .ref (ma 3)), (5, .ref (ma 4)), (6, .ref (ma 5)), (7, .ref (ma 6)), (8, .ref (ma 8)), (9, wi a9)]) dL_isMoved_4 (by decide) rfl ?_
  refine ro_iconst (v := 0) dL_isMoved_6 rfl ?_
  refine r_istore (lo2 := [(12, wi 0), (11, wi 0), (10, wi 0), (0, .ref a0), (1, .ref (ma 0)), (2, .ref (ma 1)), (3, .ref (ma 2)), (4, .ref (ma 3)), (5, .ref (ma 4)), (6, .ref (ma 5)), (7, .ref (ma 6)), (8, .ref (ma 8)), (9, wi a9)]) dL_isMoved_7 (by decide) rfl ?_
  refine r_loop (P := fun (J : Int → Int → Int → Rw → Cd → (Nat → Nat) → Option (Int × S3)) => ∀ (v10_9 : Int) (v11_9 : Int) (v12_9 : Int) (E_9 : Rw) (C_9 : Cd) (q_9 : (Nat → Nat)), RunO l Γ k_L_isMoved 14 encI (em3 ma) 9 [(0, .ref a0), (1, .ref (ma 0)), (2, .ref (ma 1)), (3, .ref (ma 2)), (4, .ref (ma 3)), (5, .ref (ma 4)), (6, .ref (ma 5)), (7, .ref (ma 6)), (8, .ref (ma 8)), (9, wi a9), (10, wi v10_9), (11, wi v11_9), (12, wi v12_9)] [] (E_9, C_9, q_9) (J v10_9 v11_9 v12_9 E_9 C_9 q_9)) ?_ (fun L9 hL9 => ?_) (fun J9 hJ9 => ?_)
  · intros; exact ro_none
  · exact b_L_isMoved_9 h hm hG hX a0 a9 L9 hL9
  refine r_lo [3, 4, 5, 6, 7, 8, 9, 10, 11, 12, 2, 1, 0] (lo2 := [(0, .ref a0), (1, .ref (ma 0)), (2, .ref (ma 1)), (3, .ref (ma 2)), (4, .ref (ma 3)), (5, .ref (ma 4)), (6, .ref (ma 5)), (7, .ref (ma 6)), (8, .ref (ma 8)), (9, wi a9), (10, wi 0), (11, wi 0), (12, wi 0)]) rfl ?_
  exact hJ9 0 0 0 E C q
def k_L_isStale : Kd := (yL_isStale, cL_isStale, 8, some .boolean, [])
theorem kv_L_isStale : KS k_L_isStale 5 := ⟨uw_mem 770 (by decide +kernel) rfl, uw_mem 93 (by decide +kernel) rfl, uw_mem 769 (by decide +kernel) rfl, ⟨by decide +kernel, by decide +kernel⟩, by decide +kernel, by decide +kernel⟩
set_option maxHeartbeats 8000000 in
set_option maxRecDepth 100000 in
theorem c_L_isStale {l : Launch} {Γ : Cx} {ad : Nat → Nat} {K0 : Cd} (h : wOn Γ) (hm : ∀ k, k ≤ 10 → ad k ≠ 0) (a4 : Int) (E : Rw) : Ct l Γ k_L_isStale 1 encI (emW ad K0) [.ref (ad 1), .ref (ad 4), .ref (ad 6), .ref (ad 8), wi a4] E (fW_isStale a4 E) := by
  refine ct_of (by decide +kernel) rfl (Nat.le_of_ble_eq_true rfl) ?_
  refine r_lo [0, 1, 2, 3, 4] (lo2 := [(0, .ref (ad 1)), (1, .ref (ad 4)), (2, .ref (ad 6)), (3, .ref (ad 8)), (4, wi a4)]) rfl ?_
  unfold fW_isStale
  refine r_aload_n (x := ad 6) dL_isStale_0 rfl rfl ?_
  refine r_bipush (v := 7) dL_isStale_1 rfl ?_
  refine r_iload (x := a4) dL_isStale_3 rfl ?_
  refine r_imul dL_isStale_5 ?_
  refine r_wiald h (by decide) (hm 6 (by decide)) dL_isStale_6 ?_
  refine ro_iconst (v := 1) dL_isStale_7 rfl ?_
  refine r_isub dL_isStale_8 ?_
  refine r_nm (fun x5_9 => ?_)
  refine r_istore (lo2 := [(5, wi x5_9), (0, .ref (ad 1)), (1, .ref (ad 4)), (2, .ref (ad 6)), (3, .ref (ad 8)), (4, wi a4)]) dL_isStale_9 (by decide) rfl ?_
  refine r_iload (x := x5_9) dL_isStale_11 rfl ?_
  refine r_join (P := fun (J : Int → Rw → Option (Int × Rw)) => ∀ (t0_30 : Int) (E_30 : Rw), RunO l Γ k_L_isStale 1 encI (emW ad K0) 30 [(0, .ref (ad 1)), (1, .ref (ad 4)), (2, .ref (ad 6)), (3, .ref (ad 8)), (4, wi a4), (5, wi x5_9)] [wi t0_30] E_30 (J t0_30 E_30)) ?_ (fun J30 hJ30 => ?_)
  · intro t0_30 E_30
    refine r_istore (lo2 := [(6, wi t0_30), (0, .ref (ad 1)), (1, .ref (ad 4)), (2, .ref (ad 6)), (3, .ref (ad 8)), (4, wi a4), (5, wi x5_9)]) dL_isStale_30 (by decide) rfl ?_
    refine ro_iconst (v := 0) dL_isStale_32 rfl ?_
    refine r_istore (lo2 := [(7, wi 0), (6, wi t0_30), (0, .ref (ad 1)), (1, .ref (ad 4)), (2, .ref (ad 6)), (3, .ref (ad 8)), (4, wi a4), (5, wi x5_9)]) dL_isStale_33 (by decide) rfl ?_
    refine r_loop (P := fun (J : Int → Int → Rw → Option (Int × Rw)) => ∀ (v6_35 : Int) (v7_35 : Int) (E_35 : Rw), RunO l Γ k_L_isStale 1 encI (emW ad K0) 35 [(0, .ref (ad 1)), (1, .ref (ad 4)), (2, .ref (ad 6)), (3, .ref (ad 8)), (4, wi a4), (5, wi x5_9), (6, wi v6_35), (7, wi v7_35)] [] E_35 (J v6_35 v7_35 E_35)) ?_ (fun L35 hL35 => ?_) (fun J35 hJ35 => ?_)
    · intros; exact ro_none
    · intro v6_35 v7_35 E_35
      refine r_iload (x := v7_35) dL_isStale_35 rfl ?_
      refine r_bipush (v := 8) dL_isStale_37 rfl ?_
      refine r_icmp_ge (tgt := 114) dL_isStale_39 (by decide) ?_ ?_
      · refine r_iload (x := v6_35) dL_isStale_114 rfl ?_
        refine r_join (P := fun (J : Int → Rw → Option (Int × Rw)) => ∀ (t0_131 : Int) (E_131 : Rw), RunO l Γ k_L_isStale 1 encI (emW ad K0) 131 [] [wi t0_131] E_131 (J t0_131 E_131)) ?_ (fun J131 hJ131 => ?_)
        · intro t0_131 E_131
          exact r_zret rfl dL_isStale_131
        refine r_join (P := fun (J : Rw → Option (Int × Rw)) => ∀ (E_130 : Rw), RunO l Γ k_L_isStale 1 encI (emW ad K0) 130 [] [] E_130 (J E_130)) ?_ (fun J130 hJ130 => ?_)
        · intro E_130
          refine ro_iconst (v := 0) dL_isStale_130 rfl ?_
          exact hJ131 0 E_130
        refine r_if_eq (tgt := 130) dL_isStale_116 (by decide) ?_ ?_
        · refine r_lo [] (lo2 := []) rfl ?_
          exact hJ130 E_35
        · refine r_aload_n (x := ad 1) dL_isStale_119 rfl rfl ?_
          refine r_iload (x := a4) dL_isStale_120 rfl ?_
          refine r_wiald h (by decide) (hm 1 (by decide)) dL_isStale_122 ?_
          refine r_if_le (tgt := 130) dL_isStale_123 (by decide) ?_ ?_
          · refine r_lo [] (lo2 := []) rfl ?_
            exact hJ130 E_35
          · refine ro_iconst (v := 1) dL_isStale_126 rfl ?_
            refine r_goto (tgt := 131) dL_isStale_127 (by decide) ?_
            refine r_lo [] (lo2 := []) rfl ?_
            exact hJ131 1 E_35
      · refine r_iload (x := v6_35) dL_isStale_42 rfl ?_
        refine r_join (P := fun (J : Int → Rw → Option (Int × Rw)) => ∀ (t0_106 : Int) (E_106 : Rw), RunO l Γ k_L_isStale 1 encI (emW ad K0) 106 [(0, .ref (ad 1)), (1, .ref (ad 4)), (2, .ref (ad 6)), (3, .ref (ad 8)), (4, wi a4), (5, wi x5_9), (7, wi v7_35)] [wi t0_106] E_106 (J t0_106 E_106)) ?_ (fun J106 hJ106 => ?_)
        · intro t0_106 E_106
          refine r_istore (lo2 := [(6, wi t0_106), (0, .ref (ad 1)), (1, .ref (ad 4)), (2, .ref (ad 6)), (3, .ref (ad 8)), (4, wi a4), (5, wi x5_9), (7, wi v7_35)]) dL_isStale_106 (by decide) rfl ?_
          refine r_iinc (x := v7_35) (lo2 := [(7, wi (v7_35 + 1)), (6, wi t0_106), (0, .ref (ad 1)), (1, .ref (ad 4)), (2, .ref (ad 6)), (3, .ref (ad 8)), (4, wi a4), (5, wi x5_9)]) dL_isStale_108 rfl (by decide) rfl ?_
          refine r_goto (tgt := 35) dL_isStale_111 (by decide) ?_
          refine r_lo [2, 3, 4, 5, 6, 7, 1, 0] (lo2 := [(0, .ref (ad 1)), (1, .ref (ad 4)), (2, .ref (ad 6)), (3, .ref (ad 8)), (4, wi a4), (5, wi x5_9), (6, wi t0_106), (7, wi (v7_35 + 1))]) rfl ?_
          exact hL35 t0_106 (v7_35 + 1) E_106
        refine r_join (P := fun (J : Rw → Option (Int × Rw)) => ∀ (E_101 : Rw), RunO l Γ k_L_isStale 1 encI (emW ad K0) 101 [(0, .ref (ad 1)), (1, .ref (ad 4)), (2, .ref (ad 6)), (3, .ref (ad 8)), (4, wi a4), (5, wi x5_9), (7, wi v7_35)] [] E_101 (J E_101)) ?_ (fun J101 hJ101 => ?_)
        · intro E_101
          refine ro_iconst (v := 1) dL_isStale_101 rfl ?_
          refine r_goto (tgt := 106) dL_isStale_102 (by decide) ?_
          exact hJ106 1 E_101
        refine r_if_ne (tgt := 101) dL_isStale_44 (by decide) ?_ ?_
        · refine r_lo [0, 1, 2, 3, 4, 5, 7] (lo2 := [(0, .ref (ad 1)), (1, .ref (ad 4)), (2, .ref (ad 6)), (3, .ref (ad 8)), (4, wi a4), (5, wi x5_9), (7, wi v7_35)]) rfl ?_
          exact hJ101 E_35
        · refine r_aload_n (x := ad 6) dL_isStale_47 rfl rfl ?_
          refine r_bipush (v := 7) dL_isStale_48 rfl ?_
          refine r_iload (x := a4) dL_isStale_50 rfl ?_
          refine r_imul dL_isStale_52 ?_
          refine ro_iconst (v := 3) dL_isStale_53 rfl ?_
          refine r_iadd dL_isStale_54 ?_
          refine r_wiald h (by decide) (hm 6 (by decide)) dL_isStale_55 ?_
          refine r_iload (x := v7_35) dL_isStale_56 rfl ?_
          refine r_ishr dL_isStale_58 ?_
          refine ro_iconst (v := 1) dL_isStale_59 rfl ?_
          refine r_iand dL_isStale_60 ?_
          refine ro_iconst (v := 1) dL_isStale_61 rfl ?_
          refine r_join (P := fun (J : Rw → Option (Int × Rw)) => ∀ (E_74 : Rw), RunO l Γ k_L_isStale 1 encI (emW ad K0) 74 [(0, .ref (ad 1)), (1, .ref (ad 4)), (2, .ref (ad 6)), (3, .ref (ad 8)), (4, wi a4), (5, wi x5_9), (7, wi v7_35)] [] E_74 (J E_74)) ?_ (fun J74 hJ74 => ?_)
          · intro E_74
            refine r_aload_n (x := ad 6) dL_isStale_74 rfl rfl ?_
            refine r_bipush (v := 7) dL_isStale_75 rfl ?_
            refine r_iload (x := a4) dL_isStale_77 rfl ?_
            refine r_imul dL_isStale_79 ?_
            refine ro_iconst (v := 5) dL_isStale_80 rfl ?_
            refine r_iadd dL_isStale_81 ?_
            refine r_wiald h (by decide) (hm 6 (by decide)) dL_isStale_82 ?_
            refine r_iload (x := v7_35) dL_isStale_83 rfl ?_
            refine r_ishr dL_isStale_85 ?_
            refine ro_iconst (v := 1) dL_isStale_86 rfl ?_
            refine r_iand dL_isStale_87 ?_
            refine ro_iconst (v := 1) dL_isStale_88 rfl ?_
            refine r_join (P := fun (J : Rw → Option (Int × Rw)) => ∀ (E_105 : Rw), RunO l Γ k_L_isStale 1 encI (emW ad K0) 105 [(0, .ref (ad 1)), (1, .ref (ad 4)), (2, .ref (ad 6)), (3, .ref (ad 8)), (4, wi a4), (5, wi x5_9), (7, wi v7_35)] [] E_105 (J E_105)) ?_ (fun J105 hJ105 => ?_)
            · intro E_105
              refine ro_iconst (v := 0) dL_isStale_105 rfl ?_
              exact hJ106 0 E_105
            refine r_icmp_ne (tgt := 105) dL_isStale_89 (by decide) ?_ ?_
            · exact hJ105 E_74
            · refine r_aload_n (x := ad 8) dL_isStale_92 rfl rfl ?_
              refine r_iload (x := v7_35) dL_isStale_93 rfl ?_
              refine r_wiald h (by decide) (hm 8 (by decide)) dL_isStale_95 ?_
              refine r_iload (x := x5_9) dL_isStale_96 rfl ?_
              refine r_icmp_le (tgt := 105) dL_isStale_98 (by decide) ?_ ?_
              · exact hJ105 E_74
              · exact hJ101 E_74
          refine r_icmp_ne (tgt := 74) dL_isStale_62 (by decide) ?_ ?_
          · refine r_lo [0, 1, 2, 3, 4, 5, 7] (lo2 := [(0, .ref (ad 1)), (1, .ref (ad 4)), (2, .ref (ad 6)), (3, .ref (ad 8)), (4, wi a4), (5, wi x5_9), (7, wi v7_35)]) rfl ?_
            exact hJ74 E_35
          · refine r_aload_n (x := ad 4) dL_isStale_65 rfl rfl ?_
            refine r_iload (x := v7_35) dL_isStale_66 rfl ?_
            refine r_wiald h (by decide) (hm 4 (by decide)) dL_isStale_68 ?_
            refine r_iload (x := x5_9) dL_isStale_69 rfl ?_
            refine r_icmp_gt (tgt := 101) dL_isStale_71 (by decide) ?_ ?_
            · refine r_lo [0, 1, 2, 3, 4, 5, 7] (lo2 := [(0, .ref (ad 1)), (1, .ref (ad 4)), (2, .ref (ad 6)), (3, .ref (ad 8)), (4, wi a4), (5, wi x5_9), (7, wi v7_35)]) rfl ?_
              exact hJ101 E_35
            · refine r_lo [0, 1, 2, 3, 4, 5, 7] (lo2 := [(0, .ref (ad 1)), (1, .ref (ad 4)), (2, .ref (ad 6)), (3, .ref (ad 8)), (4, wi a4), (5, wi x5_9), (7, wi v7_35)]) rfl ?_
              exact hJ74 E_35
    refine r_lo [2, 3, 4, 5, 6, 7, 1, 0] (lo2 := [(0, .ref (ad 1)), (1, .ref (ad 4)), (2, .ref (ad 6)), (3, .ref (ad 8)), (4, wi a4), (5, wi x5_9), (6, wi t0_30), (7, wi 0)]) rfl ?_
    exact hJ35 t0_30 0 E_30
  refine r_join (P := fun (J : Rw → Option (Int × Rw)) => ∀ (E_25 : Rw), RunO l Γ k_L_isStale 1 encI (emW ad K0) 25 [(0, .ref (ad 1)), (1, .ref (ad 4)), (2, .ref (ad 6)), (3, .ref (ad 8)), (4, wi a4), (5, wi x5_9)] [] E_25 (J E_25)) ?_ (fun J25 hJ25 => ?_)
  · intro E_25
    refine ro_iconst (v := 1) dL_isStale_25 rfl ?_
    refine r_goto (tgt := 30) dL_isStale_26 (by decide) ?_
    exact hJ30 1 E_25
  refine r_if_lt (tgt := 25) dL_isStale_13 (by decide) ?_ ?_
  · refine r_lo [1, 2, 3, 4, 5, 0] (lo2 := [(0, .ref (ad 1)), (1, .ref (ad 4)), (2, .ref (ad 6)), (3, .ref (ad 8)), (4, wi a4), (5, wi x5_9)]) rfl ?_
    exact hJ25 E
  · refine r_aload_n (x := ad 4) dL_isStale_16 rfl rfl ?_
    refine r_iload (x := a4) dL_isStale_17 rfl ?_
    refine r_wiald h (by decide) (hm 4 (by decide)) dL_isStale_19 ?_
    refine r_iload (x := x5_9) dL_isStale_20 rfl ?_
    refine r_icmp_le (tgt := 29) dL_isStale_22 (by decide) ?_ ?_
    · refine ro_iconst (v := 0) dL_isStale_29 rfl ?_
      refine r_lo [1, 2, 3, 4, 5, 0] (lo2 := [(0, .ref (ad 1)), (1, .ref (ad 4)), (2, .ref (ad 6)), (3, .ref (ad 8)), (4, wi a4), (5, wi x5_9)]) rfl ?_
      exact hJ30 0 E
    · refine r_lo [1, 2, 3, 4, 5, 0] (lo2 := [(0, .ref (ad 1)), (1, .ref (ad 4)), (2, .ref (ad 6)), (3, .ref (ad 8)), (4, wi a4), (5, wi x5_9)]) rfl ?_
      exact hJ25 E
def k_L_isText : Kd := (yL_isText, cL_isText, 4, some .boolean, [])
theorem kv_L_isText : KS k_L_isText 1 := ⟨uw_mem 1451 (by decide +kernel) rfl, uw_mem 93 (by decide +kernel) rfl, uw_mem 1450 (by decide +kernel) rfl, ⟨by decide +kernel, by decide +kernel⟩, by decide +kernel, by decide +kernel⟩
set_option maxHeartbeats 8000000 in
set_option maxRecDepth 100000 in
theorem c_L_isText {l : Launch} {Γ : Cx} {σ0 : St} (a0 : Int)  : Ct l Γ k_L_isText 3 encI (emU σ0) [vl a0] () (fW_isText a0) := by
  refine ct_of (by decide +kernel) rfl (Nat.le_of_ble_eq_true rfl) ?_
  refine r_lo [0] (lo2 := [(0, vl a0)]) rfl ?_
  unfold fW_isText
  refine r_lload_n (x := a0) dL_isText_0 rfl rfl ?_
  refine r_csi (J := fun (_ : Unit) => ()) (k2 := k_L_macros) (n := 1) (rest := []) (fun _ => rfl) rfl kv_L_macros (c_L_macros (σ0 := _) a0) (by decide) um_L_7 rfl (Nat.le_of_ble_eq_true rfl) dL_isText_1 rfl (fun r1 _ => ?_)
  show RunO l Γ k_L_isText 3 encI (emU σ0) 4 [(0, vl a0)] [wi r1] () _
  refine r_join (P := fun (J : Int → Option (Int × Unit)) => ∀ (t0_21 : Int), RunO l Γ k_L_isText 3 encI (emU σ0) 21 [(0, vl a0)] [wi t0_21] () (J t0_21)) ?_ (fun J21 hJ21 => ?_)
  · intro t0_21
    refine r_istore_n (lo2 := [(2, wi t0_21), (0, vl a0)]) dL_isText_21 rfl (by decide) rfl ?_
    refine ro_iconst (v := 0) dL_isText_22 rfl ?_
    refine r_istore_n (lo2 := [(3, wi 0), (2, wi t0_21), (0, vl a0)]) dL_isText_23 rfl (by decide) rfl ?_
    refine r_loop (P := fun (J : Int → Int → Option (Int × Unit)) => ∀ (v2_24 : Int) (v3_24 : Int), RunO l Γ k_L_isText 3 encI (emU σ0) 24 [(0, vl a0), (2, wi v2_24), (3, wi v3_24)] [] () (J v2_24 v3_24)) ?_ (fun L24 hL24 => ?_) (fun J24 hJ24 => ?_)
    · intros; exact ro_none
    · intro v2_24 v3_24
      refine r_iload_n (x := v3_24) dL_isText_24 rfl rfl ?_
      refine r_lload_n (x := a0) dL_isText_25 rfl rfl ?_
      refine r_csi (J := fun (_ : Unit) => ()) (k2 := k_L_macros) (n := 1) (rest := [wi v3_24]) (fun _ => rfl) rfl kv_L_macros (c_L_macros (σ0 := _) a0) (by decide) um_L_7 rfl (Nat.le_of_ble_eq_true rfl) dL_isText_26 rfl (fun r2 _ => ?_)
      show RunO l Γ k_L_isText 3 encI (emU σ0) 29 [(0, vl a0), (2, wi v2_24), (3, wi v3_24)] [wi r2, wi v3_24] () _
      refine r_join (P := fun (J : Option (Int × Unit)) => RunO l Γ k_L_isText 3 encI (emU σ0) 69 [(2, wi v2_24)] [] () J) ?_ (fun J69 hJ69 => ?_)
      · skip
        refine r_iload_n (x := v2_24) dL_isText_69 rfl rfl ?_
        exact r_zret rfl dL_isText_70
      refine r_icmp_ge (tgt := 69) dL_isText_29 (by decide) ?_ ?_
      · refine r_lo [1] (lo2 := [(2, wi v2_24)]) rfl ?_
        exact hJ69
      · refine r_lload_n (x := a0) dL_isText_32 rfl rfl ?_
        refine r_csi (J := fun (_ : Unit) => ()) (k2 := k_L_macros) (n := 1) (rest := []) (fun _ => rfl) rfl kv_L_macros (c_L_macros (σ0 := _) a0) (by decide) um_L_7 rfl (Nat.le_of_ble_eq_true rfl) dL_isText_33 rfl (fun r3 _ => ?_)
        show RunO l Γ k_L_isText 3 encI (emU σ0) 36 [(0, vl a0), (2, wi v2_24), (3, wi v3_24)] [wi r3] () _
        refine ro_iconst (v := 1) dL_isText_36 rfl ?_
        refine r_icmp_le (tgt := 69) dL_isText_37 (by decide) ?_ ?_
        · refine r_lo [1] (lo2 := [(2, wi v2_24)]) rfl ?_
          exact hJ69
        · refine r_iload_n (x := v2_24) dL_isText_40 rfl rfl ?_
          refine r_join (P := fun (J : Int → Option (Int × Unit)) => ∀ (t0_62 : Int), RunO l Γ k_L_isText 3 encI (emU σ0) 62 [(0, vl a0), (3, wi v3_24)] [wi t0_62] () (J t0_62)) ?_ (fun J62 hJ62 => ?_)
          · intro t0_62
            refine r_istore_n (lo2 := [(2, wi t0_62), (0, vl a0), (3, wi v3_24)]) dL_isText_62 rfl (by decide) rfl ?_
            refine r_iinc (x := v3_24) (lo2 := [(3, wi (v3_24 + 1)), (2, wi t0_62), (0, vl a0)]) dL_isText_63 rfl (by decide) rfl ?_
            refine r_goto (tgt := 24) dL_isText_66 (by decide) ?_
            refine r_lo [2, 1, 0] (lo2 := [(0, vl a0), (2, wi t0_62), (3, wi (v3_24 + 1))]) rfl ?_
            exact hL24 t0_62 (v3_24 + 1)
          refine r_join (P := fun (J : Option (Int × Unit)) => RunO l Γ k_L_isText 3 encI (emU σ0) 61 [(0, vl a0), (3, wi v3_24)] [] () J) ?_ (fun J61 hJ61 => ?_)
          · skip
            refine ro_iconst (v := 0) dL_isText_61 rfl ?_
            exact hJ62 0
          refine r_if_eq (tgt := 61) dL_isText_41 (by decide) ?_ ?_
          · refine r_lo [0, 2] (lo2 := [(0, vl a0), (3, wi v3_24)]) rfl ?_
            exact hJ61
          · refine r_lload_n (x := a0) dL_isText_44 rfl rfl ?_
            refine r_iload_n (x := v3_24) dL_isText_45 rfl rfl ?_
            refine r_csi (J := fun (_ : Unit) => ()) (k2 := k_L_macro) (n := 2) (rest := []) (fun _ => rfl) rfl kv_L_macro (c_L_macro (σ0 := _) a0 v3_24) (by decide) um_L_19 rfl (Nat.le_of_ble_eq_true rfl) dL_isText_46 rfl (fun r4 _ => ?_)
            show RunO l Γ k_L_isText 3 encI (emU σ0) 49 [(0, vl a0), (2, wi v2_24), (3, wi v3_24)] [wi r4] () _
            refine r_bipush (v := 16) dL_isText_49 rfl ?_
            refine r_irem dL_isText_51 (by decide) ?_
            refine r_bipush (v := 10) dL_isText_52 rfl ?_
            refine r_icmp_eq (tgt := 61) dL_isText_54 (by decide) ?_ ?_
            · refine r_lo [0, 2] (lo2 := [(0, vl a0), (3, wi v3_24)]) rfl ?_
              exact hJ61
            · refine ro_iconst (v := 1) dL_isText_57 rfl ?_
              refine r_goto (tgt := 62) dL_isText_58 (by decide) ?_
              refine r_lo [0, 2] (lo2 := [(0, vl a0), (3, wi v3_24)]) rfl ?_
              exact hJ62 1
    refine r_lo [2, 1, 0] (lo2 := [(0, vl a0), (2, wi t0_21), (3, wi 0)]) rfl ?_
    exact hJ24 t0_21 0
  refine r_join (P := fun (J : Option (Int × Unit)) => RunO l Γ k_L_isText 3 encI (emU σ0) 20 [(0, vl a0)] [] () J) ?_ (fun J20 hJ20 => ?_)
  · skip
    refine ro_iconst (v := 0) dL_isText_20 rfl ?_
    exact hJ21 0
  refine r_if_le (tgt := 20) dL_isText_4 (by decide) ?_ ?_
  · exact hJ20
  · refine r_lload_n (x := a0) dL_isText_7 rfl rfl ?_
    refine r_csi (J := fun (_ : Unit) => ()) (k2 := k_L_macros) (n := 1) (rest := []) (fun _ => rfl) rfl kv_L_macros (c_L_macros (σ0 := _) a0) (by decide) um_L_7 rfl (Nat.le_of_ble_eq_true rfl) dL_isText_8 rfl (fun r5 _ => ?_)
    show RunO l Γ k_L_isText 3 encI (emU σ0) 11 [(0, vl a0)] [wi r5] () _
    refine r_bipush (v := 6) dL_isText_11 rfl ?_
    refine r_icmp_ge (tgt := 20) dL_isText_13 (by decide) ?_ ?_
    · exact hJ20
    · refine ro_iconst (v := 1) dL_isText_16 rfl ?_
      refine r_goto (tgt := 21) dL_isText_17 (by decide) ?_
      exact hJ21 1
def k_L_versionOf : Kd := (yL_versionOf, cL_versionOf, 8, some .int, [])
theorem kv_L_versionOf : KS k_L_versionOf 5 := ⟨uw_mem 1476 (by decide +kernel) rfl, uw_mem 93 (by decide +kernel) rfl, uw_mem 1475 (by decide +kernel) rfl, ⟨by decide +kernel, by decide +kernel⟩, by decide +kernel, by decide +kernel⟩
set_option maxHeartbeats 8000000 in
set_option maxRecDepth 100000 in
theorem c_L_versionOf {l : Launch} {Γ : Cx} {ad : Nat → Nat} {K0 : Cd} (h : wOn Γ) (hm : ∀ k, k ≤ 10 → ad k ≠ 0) (a3 : Int) (a4 : Int) (E : Rw) : Ct l Γ k_L_versionOf 1 encI (emW ad K0) [.ref (ad 0), .ref (ad 1), .ref (ad 2), wi a3, wi a4] E (fW_versionOf a3 a4 E) := by
  refine ct_of (by decide +kernel) rfl (Nat.le_of_ble_eq_true rfl) ?_
  refine r_lo [0, 1, 2, 3, 4] (lo2 := [(0, .ref (ad 0)), (1, .ref (ad 1)), (2, .ref (ad 2)), (3, wi a3), (4, wi a4)]) rfl ?_
  unfold fW_versionOf
  refine r_iload (x := a4) dL_versionOf_0 rfl ?_
  refine r_istore (lo2 := [(5, wi a4), (0, .ref (ad 0)), (1, .ref (ad 1)), (2, .ref (ad 2)), (3, wi a3), (4, wi a4)]) dL_versionOf_2 (by decide) rfl ?_
  refine ro_iconst (v := 1) dL_versionOf_4 rfl ?_
  refine r_istore (lo2 := [(6, wi 1), (5, wi a4), (0, .ref (ad 0)), (1, .ref (ad 1)), (2, .ref (ad 2)), (3, wi a3), (4, wi a4)]) dL_versionOf_5 (by decide) rfl ?_
  refine r_loop (P := fun (J : Int → Int → Rw → Option (Int × Rw)) => ∀ (v5_7 : Int) (v6_7 : Int) (E_7 : Rw), RunO l Γ k_L_versionOf 1 encI (emW ad K0) 7 [(0, .ref (ad 0)), (1, .ref (ad 1)), (2, .ref (ad 2)), (3, wi a3), (5, wi v5_7), (6, wi v6_7)] [] E_7 (J v5_7 v6_7 E_7)) ?_ (fun L7 hL7 => ?_) (fun J7 hJ7 => ?_)
  · intros; exact ro_none
  · intro v5_7 v6_7 E_7
    refine r_iload (x := v6_7) dL_versionOf_7 rfl ?_
    refine r_aload_n (x := ad 0) dL_versionOf_9 rfl rfl ?_
    refine ro_iconst (v := 2) dL_versionOf_10 rfl ?_
    refine r_wiald h (by decide) (hm 0 (by decide)) dL_versionOf_11 ?_
    refine r_icmp_gt (tgt := 82) dL_versionOf_12 (by decide) ?_ ?_
    · refine ro_iconst (v := (-1)) dL_versionOf_82 rfl ?_
      exact r_iret rfl dL_versionOf_83
    · refine ro_iconst (v := 0) dL_versionOf_15 rfl ?_
      refine r_istore (lo2 := [(7, wi 0), (0, .ref (ad 0)), (1, .ref (ad 1)), (2, .ref (ad 2)), (3, wi a3), (5, wi v5_7), (6, wi v6_7)]) dL_versionOf_16 (by decide) rfl ?_
      refine r_loop (P := fun (J : Int → Int → Rw → Option (Int × Rw)) => ∀ (v5_18 : Int) (v7_18 : Int) (E_18 : Rw), RunO l Γ k_L_versionOf 1 encI (emW ad K0) 18 [(0, .ref (ad 0)), (1, .ref (ad 1)), (2, .ref (ad 2)), (3, wi a3), (5, wi v5_18), (6, wi v6_7), (7, wi v7_18)] [] E_18 (J v5_18 v7_18 E_18)) ?_ (fun L18 hL18 => ?_) (fun J18 hJ18 => ?_)
      · intros; exact ro_none
      · intro v5_18 v7_18 E_18
        refine r_iload (x := v7_18) dL_versionOf_18 rfl ?_
        refine r_aload_n (x := ad 0) dL_versionOf_20 rfl rfl ?_
        refine ro_iconst (v := 0) dL_versionOf_21 rfl ?_
        refine r_wiald h (by decide) (hm 0 (by decide)) dL_versionOf_22 ?_
        refine r_icmp_ge (tgt := 76) dL_versionOf_23 (by decide) ?_ ?_
        · refine r_iinc (x := v6_7) (lo2 := [(6, wi (v6_7 + 1)), (0, .ref (ad 0)), (1, .ref (ad 1)), (2, .ref (ad 2)), (3, wi a3), (5, wi v5_18), (7, wi v7_18)]) dL_versionOf_76 rfl (by decide) rfl ?_
          refine r_goto (tgt := 7) dL_versionOf_79 (by decide) ?_
          refine r_lo [1, 2, 3, 4, 5, 0] (lo2 := [(0, .ref (ad 0)), (1, .ref (ad 1)), (2, .ref (ad 2)), (3, wi a3), (5, wi v5_18), (6, wi (v6_7 + 1))]) rfl ?_
          exact hL7 v5_18 (v6_7 + 1) E_18
        · refine r_aload_n (x := ad 1) dL_versionOf_26 rfl rfl ?_
          refine r_iload_n (x := a3) dL_versionOf_27 rfl rfl ?_
          refine r_wiald h (by decide) (hm 1 (by decide)) dL_versionOf_28 ?_
          refine r_join (P := fun (J : Int → Rw → Option (Int × Rw)) => ∀ (v5_70 : Int) (E_70 : Rw), RunO l Γ k_L_versionOf 1 encI (emW ad K0) 70 [(0, .ref (ad 0)), (1, .ref (ad 1)), (2, .ref (ad 2)), (3, wi a3), (5, wi v5_70), (6, wi v6_7), (7, wi v7_18)] [] E_70 (J v5_70 E_70)) ?_ (fun J70 hJ70 => ?_)
          · intro v5_70 E_70
            refine r_iinc (x := v7_18) (lo2 := [(7, wi (v7_18 + 1)), (0, .ref (ad 0)), (1, .ref (ad 1)), (2, .ref (ad 2)), (3, wi a3), (5, wi v5_70), (6, wi v6_7)]) dL_versionOf_70 rfl (by decide) rfl ?_
            refine r_goto (tgt := 18) dL_versionOf_73 (by decide) ?_
            refine r_lo [1, 2, 3, 4, 5, 6, 0] (lo2 := [(0, .ref (ad 0)), (1, .ref (ad 1)), (2, .ref (ad 2)), (3, wi a3), (5, wi v5_70), (6, wi v6_7), (7, wi (v7_18 + 1))]) rfl ?_
            exact hL18 v5_70 (v7_18 + 1) E_70
          refine r_if_le (tgt := 70) dL_versionOf_29 (by decide) ?_ ?_
          · exact hJ70 v5_18 E_18
          · refine r_aload_n (x := ad 2) dL_versionOf_32 rfl rfl ?_
            refine ro_iconst (v := 2) dL_versionOf_33 rfl ?_
            refine r_iload (x := v7_18) dL_versionOf_34 rfl ?_
            refine r_imul dL_versionOf_36 ?_
            refine r_wiald h (by decide) (hm 2 (by decide)) dL_versionOf_37 ?_
            refine r_aload_n (x := ad 1) dL_versionOf_38 rfl rfl ?_
            refine r_iload_n (x := a3) dL_versionOf_39 rfl rfl ?_
            refine r_wiald h (by decide) (hm 1 (by decide)) dL_versionOf_40 ?_
            refine ro_iconst (v := 1) dL_versionOf_41 rfl ?_
            refine r_isub dL_versionOf_42 ?_
            refine r_icmp_ne (tgt := 70) dL_versionOf_43 (by decide) ?_ ?_
            · exact hJ70 v5_18 E_18
            · refine r_aload_n (x := ad 2) dL_versionOf_46 rfl rfl ?_
              refine ro_iconst (v := 2) dL_versionOf_47 rfl ?_
              refine r_iload (x := v7_18) dL_versionOf_48 rfl ?_
              refine r_imul dL_versionOf_50 ?_
              refine ro_iconst (v := 1) dL_versionOf_51 rfl ?_
              refine r_iadd dL_versionOf_52 ?_
              refine r_wiald h (by decide) (hm 2 (by decide)) dL_versionOf_53 ?_
              refine r_iload (x := v6_7) dL_versionOf_54 rfl ?_
              refine r_icmp_ne (tgt := 70) dL_versionOf_56 (by decide) ?_ ?_
              · exact hJ70 v5_18 E_18
              · refine r_iload (x := v5_18) dL_versionOf_59 rfl ?_
                refine r_if_ne (tgt := 67) dL_versionOf_61 (by decide) ?_ ?_
                · refine r_iinc (x := v5_18) (lo2 := [(5, wi (v5_18 + (-1))), (0, .ref (ad 0)), (1, .ref (ad 1)), (2, .ref (ad 2)), (3, wi a3), (6, wi v6_7), (7, wi v7_18)]) dL_versionOf_67 rfl (by decide) rfl ?_
                  refine r_lo [1, 2, 3, 4, 0, 5, 6] (lo2 := [(0, .ref (ad 0)), (1, .ref (ad 1)), (2, .ref (ad 2)), (3, wi a3), (5, wi (v5_18 + (-1))), (6, wi v6_7), (7, wi v7_18)]) rfl ?_
                  exact hJ70 (v5_18 + (-1)) E_18
                · refine r_iload (x := v7_18) dL_versionOf_64 rfl ?_
                  exact r_iret rfl dL_versionOf_66
      refine r_lo [1, 2, 3, 4, 5, 6, 0] (lo2 := [(0, .ref (ad 0)), (1, .ref (ad 1)), (2, .ref (ad 2)), (3, wi a3), (5, wi v5_7), (6, wi v6_7), (7, wi 0)]) rfl ?_
      exact hJ18 v5_7 0 E_7
  refine r_lo [2, 3, 4, 5, 1, 0] (lo2 := [(0, .ref (ad 0)), (1, .ref (ad 1)), (2, .ref (ad 2)), (3, wi a3), (5, wi a4), (6, wi 1)]) rfl ?_
  exact hJ7 a4 1 E
def k_L_isWiki : Kd := (yL_isWiki, cL_isWiki, 24, some .boolean, [])
theorem kv_L_isWiki : KS k_L_isWiki 11 := ⟨uw_code 1479 (by decide +kernel), uw_mem 93 (by decide +kernel) rfl, uw_mem 1478 (by decide +kernel) rfl, ⟨by decide +kernel, by decide +kernel⟩, by decide +kernel, by decide +kernel⟩
set_option maxHeartbeats 8000000 in
set_option maxRecDepth 100000 in
theorem b_L_isWiki_723 {l : Launch} {Γ : Cx} {ma : Nat → Nat} (h : wOn Γ) (hm : ∀ k, k ≤ 10 → ma k ≠ 0) (hG : GK Γ l) (hX : XN Γ) : ∀ (t0_723 : Int) (E_723 : Rw) (C_723 : Cd) (q_723 : (Nat → Nat)), RunO l Γ k_L_isWiki 15 encI (em3 ma) 723 [] [wi t0_723] (E_723, C_723, q_723) (fW_isWiki_723 t0_723 E_723 C_723 q_723) := by
  intro t0_723 E_723 C_723 q_723
  unfold fW_isWiki_723
  exact r_zret rfl dL_isWiki_723
set_option maxHeartbeats 8000000 in
set_option maxRecDepth 100000 in
theorem b_L_isWiki_722 {l : Launch} {Γ : Cx} {ma : Nat → Nat} (h : wOn Γ) (hm : ∀ k, k ≤ 10 → ma k ≠ 0) (hG : GK Γ l) (hX : XN Γ) (J723 : Int → Rw → Cd → (Nat → Nat) → Option (Int × S3)) (hJ723 : ∀ (t0_723 : Int) (E_723 : Rw) (C_723 : Cd) (q_723 : (Nat → Nat)), RunO l Γ k_L_isWiki 15 encI (em3 ma) 723 [] [wi t0_723] (E_723, C_723, q_723) (J723 t0_723 E_723 C_723 q_723)) : ∀ (E_722 : Rw) (C_722 : Cd) (q_722 : (Nat → Nat)), RunO l Γ k_L_isWiki 15 encI (em3 ma) 722 [] [] (E_722, C_722, q_722) (fW_isWiki_722 J723 E_722 C_722 q_722) := by
  intro E_722 C_722 q_722
  unfold fW_isWiki_722
  refine ro_iconst (v := 0) dL_isWiki_722 rfl ?_
  exact hJ723 0 E_722 C_722 q_722
