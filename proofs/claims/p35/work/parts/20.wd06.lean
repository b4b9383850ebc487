set_option maxHeartbeats 8000000 in
set_option maxRecDepth 100000 in
theorem b_L_isWiki_229 {l : Launch} {Γ : Cx} {ma : Nat → Nat} (h : wOn Γ) (hm : ∀ k, k ≤ 10 → ma k ≠ 0) (hG : GK Γ l) (hX : XN Γ) (a0 : Nat) (a10 : Int) (y4 : Nat) (v14_32 : Int) (v15_32 : Int) (r15 : Int) (r19 : Int) (t0_106 : Int) (x13_121 : Int) (r48 : Int) (J266 : Int → Rw → Cd → (Nat → Nat) → Option (Int × S3)) (hJ266 : ∀ (t0_266 : Int) (E_266 : Rw) (C_266 : Cd) (q_266 : (Nat → Nat)), RunO l Γ k_L_isWiki 15 encI (em3 ma) 266 [(0, .ref a0), (1, .ref (ma 0)), (2, .ref (ma 1)), (3, .ref (ma 2)), (4, .ref (ma 3)), (5, .ref (ma 4)), (6, .ref (ma 6)), (7, .ref (ma 7)), (8, .ref (ma 8)), (9, .ref (ma 9)), (10, wi a10), (11, .ref y4), (13, wi x13_121), (14, wi v14_32), (15, wi v15_32), (16, wi r15), (18, wi r19), (19, wi t0_106)] [wi t0_266] (E_266, C_266, q_266) (J266 t0_266 E_266 C_266 q_266)) (J265 : Rw → Cd → (Nat → Nat) → Option (Int × S3)) (hJ265 : ∀ (E_265 : Rw) (C_265 : Cd) (q_265 : (Nat → Nat)), RunO l Γ k_L_isWiki 15 encI (em3 ma) 265 [(0, .ref a0), (1, .ref (ma 0)), (2, .ref (ma 1)), (3, .ref (ma 2)), (4, .ref (ma 3)), (5, .ref (ma 4)), (6, .ref (ma 6)), (7, .ref (ma 7)), (8, .ref (ma 8)), (9, .ref (ma 9)), (10, wi a10), (11, .ref y4), (13, wi x13_121), (14, wi v14_32), (15, wi v15_32), (16, wi r15), (18, wi r19), (19, wi t0_106)] [] (E_265, C_265, q_265) (J265 E_265 C_265 q_265)) : ∀ (t0_229 : Int) (E_229 : Rw) (C_229 : Cd) (q_229 : (Nat → Nat)), RunO l Γ k_L_isWiki 15 encI (em3 ma) 229 [(0, .ref a0), (1, .ref (ma 0)), (2, .ref (ma 1)), (3, .ref (ma 2)), (4, .ref (ma 3)), (5, .ref (ma 4)), (6, .ref (ma 6)), (7, .ref (ma 7)), (8, .ref (ma 8)), (9, .ref (ma 9)), (10, wi a10), (11, .ref y4), (13, wi x13_121), (14, wi v14_32), (15, wi v15_32), (16, wi r15), (18, wi r19), (19, wi t0_106)] [wi t0_229, wi r48] (E_229, C_229, q_229) (fW_isWiki_229 a0 v15_32 t0_106 J266 J265 r48 t0_229 E_229 C_229 q_229) := by
  intro t0_229 E_229 C_229 q_229
  unfold fW_isWiki_229
  refine r_icmp_ne (tgt := 265) dL_isWiki_229 (by decide) ?_ ?_
  · exact hJ265 E_229 C_229 q_229
  · refine r_aload_n (x := a0) dL_isWiki_232 rfl rfl ?_
    refine r_iload (x := v15_32) dL_isWiki_233 rfl ?_
    refine ro_iconst (v := 2) dL_isWiki_235 rfl ?_
    refine r_cx1 (M0 := (fun k => (adq ma q_229 k : Int), E_229)) (J := fun (C_ : Cd) => (E_229, C_, q_229)) (k2 := k_X11_linked) (c := 14) (T := TX11) (N := 10) (n := 2) (rest := []) (fun _ => rfl) rfl um_L_149 kv_X11_linked hc_X11 (by decide) (c_X11_linked hG _ _ _ _) (by decide) rfl (Nat.le_of_ble_eq_true rfl) dL_isWiki_236 rfl (fun r50 C51 => ?_)
    show RunO l Γ k_L_isWiki 15 encI (em3 ma) 239 [(0, .ref a0), (1, .ref (ma 0)), (2, .ref (ma 1)), (3, .ref (ma 2)), (4, .ref (ma 3)), (5, .ref (ma 4)), (6, .ref (ma 6)), (7, .ref (ma 7)), (8, .ref (ma 8)), (9, .ref (ma 9)), (10, wi a10), (11, .ref y4), (13, wi x13_121), (14, wi v14_32), (15, wi v15_32), (16, wi r15), (18, wi r19), (19, wi t0_106)] [wi r50] (E_229, C51, q_229) _
    refine r_iload (x := t0_106) dL_isWiki_239 rfl ?_
    refine r_join (P := fun (J : Int → Rw → Cd → (Nat → Nat) → Option (Int × S3)) => ∀ (t0_258 : Int) (E_258 : Rw) (C_258 : Cd) (q_258 : (Nat → Nat)), RunO l Γ k_L_isWiki 15 encI (em3 ma) 258 [(0, .ref a0), (1, .ref (ma 0)), (2, .ref (ma 1)), (3, .ref (ma 2)), (4, .ref (ma 3)), (5, .ref (ma 4)), (6, .ref (ma 6)), (7, .ref (ma 7)), (8, .ref (ma 8)), (9, .ref (ma 9)), (10, wi a10), (11, .ref y4), (13, wi x13_121), (14, wi v14_32), (15, wi v15_32), (16, wi r15), (18, wi r19), (19, wi t0_106)] [wi t0_258, wi r50] (E_258, C_258, q_258) (J t0_258 E_258 C_258 q_258)) ?_ (fun J258 hJ258 => ?_)
    · exact b_L_isWiki_258 h hm hG hX a0 a10 y4 v14_32 v15_32 r15 r19 t0_106 x13_121 r50 J266 hJ266 J265 hJ265
    refine r_if_eq (tgt := 257) dL_isWiki_241 (by decide) ?_ ?_
    · refine ro_iconst (v := 0) dL_isWiki_257 rfl ?_
      exact hJ258 0 E_229 C51 q_229
    · refine r_aload (x := ma 6) dL_isWiki_244 rfl ?_
      refine r_bipush (v := 7) dL_isWiki_246 rfl ?_
      refine r_iload (x := v15_32) dL_isWiki_248 rfl ?_
      refine r_imul dL_isWiki_250 ?_
      refine ro_iconst (v := 3) dL_isWiki_251 rfl ?_
      refine r_iadd dL_isWiki_252 ?_
      refine r_wiald3 h (by decide) (by decide) (hm 6 (by decide)) dL_isWiki_253 ?_
      refine r_goto (tgt := 258) dL_isWiki_254 (by decide) ?_
      exact hJ258 (E_229 6 (ix ((7 * v15_32) + 3))) E_229 C51 q_229
set_option maxHeartbeats 8000000 in
set_option maxRecDepth 100000 in
theorem b_L_isWiki_166 {l : Launch} {Γ : Cx} {ma : Nat → Nat} (h : wOn Γ) (hm : ∀ k, k ≤ 10 → ma k ≠ 0) (hG : GK Γ l) (hX : XN Γ) (a0 : Nat) (a10 : Int) (y4 : Nat) (v14_32 : Int) (v15_32 : Int) (r15 : Int) (v17_57 : Int) (r19 : Int) (t0_106 : Int) (x13_121 : Int) (J266 : Int → Rw → Cd → (Nat → Nat) → Option (Int × S3)) (hJ266 : ∀ (t0_266 : Int) (E_266 : Rw) (C_266 : Cd) (q_266 : (Nat → Nat)), RunO l Γ k_L_isWiki 15 encI (em3 ma) 266 [(0, .ref a0), (1, .ref (ma 0)), (2, .ref (ma 1)), (3, .ref (ma 2)), (4, .ref (ma 3)), (5, .ref (ma 4)), (6, .ref (ma 6)), (7, .ref (ma 7)), (8, .ref (ma 8)), (9, .ref (ma 9)), (10, wi a10), (11, .ref y4), (13, wi x13_121), (14, wi v14_32), (15, wi v15_32), (16, wi r15), (18, wi r19), (19, wi t0_106)] [wi t0_266] (E_266, C_266, q_266) (J266 t0_266 E_266 C_266 q_266)) (J265 : Rw → Cd → (Nat → Nat) → Option (Int × S3)) (hJ265 : ∀ (E_265 : Rw) (C_265 : Cd) (q_265 : (Nat → Nat)), RunO l Γ k_L_isWiki 15 encI (em3 ma) 265 [(0, .ref a0), (1, .ref (ma 0)), (2, .ref (ma 1)), (3, .ref (ma 2)), (4, .ref (ma 3)), (5, .ref (ma 4)), (6, .ref (ma 6)), (7, .ref (ma 7)), (8, .ref (ma 8)), (9, .ref (ma 9)), (10, wi a10), (11, .ref y4), (13, wi x13_121), (14, wi v14_32), (15, wi v15_32), (16, wi r15), (18, wi r19), (19, wi t0_106)] [] (E_265, C_265, q_265) (J265 E_265 C_265 q_265)) : ∀ (E_166 : Rw) (C_166 : Cd) (q_166 : (Nat → Nat)), RunO l Γ k_L_isWiki 15 encI (em3 ma) 166 [(0, .ref a0), (1, .ref (ma 0)), (2, .ref (ma 1)), (3, .ref (ma 2)), (4, .ref (ma 3)), (5, .ref (ma 4)), (6, .ref (ma 6)), (7, .ref (ma 7)), (8, .ref (ma 8)), (9, .ref (ma 9)), (10, wi a10), (11, .ref y4), (13, wi x13_121), (14, wi v14_32), (15, wi v15_32), (16, wi r15), (17, wi v17_57), (18, wi r19), (19, wi t0_106)] [] (E_166, C_166, q_166) (fW_isWiki_166 a0 y4 v15_32 v17_57 t0_106 J266 J265 E_166 C_166 q_166) := by
  intro E_166 C_166 q_166
  unfold fW_isWiki_166
  refine r_aload_n (x := a0) dL_isWiki_166 rfl rfl ?_
  refine r_bipush (v := 12) dL_isWiki_167 rfl ?_
  refine r_iload (x := v15_32) dL_isWiki_169 rfl ?_
  refine r_iload (x := v17_57) dL_isWiki_171 rfl ?_
  refine ro_iconst (v := 0) dL_isWiki_173 rfl ?_
  refine r_csHi (J := fun (C_ : Cd) => (E_166, C_, q_166)) (k2 := k_L_does) (n := 5) (rest := []) (fun _ => rfl) kv_L_does (c_L_does (M0 := (fun k => (adq ma q_166 k : Int), E_166)) hG hX a0 12 v15_32 v17_57 0 _) (by decide) um_L_132 rfl (Nat.le_of_ble_eq_true rfl) dL_isWiki_174 rfl (fun r41 C42 => ?_)
  show RunO l Γ k_L_isWiki 15 encI (em3 ma) 177 [(0, .ref a0), (1, .ref (ma 0)), (2, .ref (ma 1)), (3, .ref (ma 2)), (4, .ref (ma 3)), (5, .ref (ma 4)), (6, .ref (ma 6)), (7, .ref (ma 7)), (8, .ref (ma 8)), (9, .ref (ma 9)), (10, wi a10), (11, .ref y4), (13, wi x13_121), (14, wi v14_32), (15, wi v15_32), (16, wi r15), (17, wi v17_57), (18, wi r19), (19, wi t0_106)] [wi r41] (E_166, C42, q_166) _
  refine r_bipush (v := (-11)) dL_isWiki_177 rfl ?_
  refine r_icmp_ne (tgt := 265) dL_isWiki_179 (by decide) ?_ ?_
  · refine r_lo [0, 1, 2, 3, 4, 5, 6, 7, 8, 9, 10, 11, 12, 13, 14, 15, 17, 18] (lo2 := [(0, .ref a0), (1, .ref (ma 0)), (2, .ref (ma 1)), (3, .ref (ma 2)), (4, .ref (ma 3)), (5, .ref (ma 4)), (6, .ref (ma 6)), (7, .ref (ma 7)), (8, .ref (ma 8)), (9, .ref (ma 9)), (10, wi a10), (11, .ref y4), (13, wi x13_121), (14, wi v14_32), (15, wi v15_32), (16, wi r15), (18, wi r19), (19, wi t0_106)]) rfl ?_
    exact hJ265 E_166 C42 q_166
  · refine r_aload_n (x := a0) dL_isWiki_182 rfl rfl ?_
    refine r_iload (x := v15_32) dL_isWiki_183 rfl ?_
    refine r_cx1 (M0 := (fun k => (adq ma q_166 k : Int), E_166)) (J := fun (C_ : Cd) => (E_166, C_, q_166)) (k2 := k_X11_leads) (c := 14) (T := TX11) (N := 10) (n := 1) (rest := []) (fun _ => rfl) rfl um_L_146 kv_X11_leads hc_X11 (by decide) (c_X11_leads hG _ _ _) (by decide) rfl (Nat.le_of_ble_eq_true rfl) dL_isWiki_185 rfl (fun r43 C44 => ?_)
    show RunO l Γ k_L_isWiki 15 encI (em3 ma) 188 [(0, .ref a0), (1, .ref (ma 0)), (2, .ref (ma 1)), (3, .ref (ma 2)), (4, .ref (ma 3)), (5, .ref (ma 4)), (6, .ref (ma 6)), (7, .ref (ma 7)), (8, .ref (ma 8)), (9, .ref (ma 9)), (10, wi a10), (11, .ref y4), (13, wi x13_121), (14, wi v14_32), (15, wi v15_32), (16, wi r15), (17, wi v17_57), (18, wi r19), (19, wi t0_106)] [wi r43] (E_166, C44, q_166) _
    refine r_aload_n (x := ma 0) dL_isWiki_188 rfl rfl ?_
    refine r_aload_n (x := ma 1) dL_isWiki_189 rfl rfl ?_
    refine r_aload_n (x := ma 2) dL_isWiki_190 rfl rfl ?_
    refine r_aload (x := ma 3) dL_isWiki_191 rfl ?_
    refine r_aload (x := y4) dL_isWiki_193 rfl ?_
    refine r_iload (x := v15_32) dL_isWiki_195 rfl ?_
    refine ro_if (fun hy46 => ?_) (fun _ => ro_none)
    refine r_csi (J := fun (E_ : Rw) => (E_, C44, q_166)) (k2 := k_L_way) (n := 6) (rest := [wi r43]) (fun _ => rfl) rfl kv_L_way (c_L_way (ad := adq ma q_166) (K0 := C44) h (adq_hm hm) 11 v15_32 (Or.inr rfl) hy46.2 _) (by decide) um_L_43 rfl (Nat.le_of_ble_eq_true rfl) dL_isWiki_197 (by obtain ⟨e_, _⟩ := hy46; rw [← e_]; rfl) (fun r45 E47 => ?_)
    show RunO l Γ k_L_isWiki 15 encI (em3 ma) 200 [(0, .ref a0), (1, .ref (ma 0)), (2, .ref (ma 1)), (3, .ref (ma 2)), (4, .ref (ma 3)), (5, .ref (ma 4)), (6, .ref (ma 6)), (7, .ref (ma 7)), (8, .ref (ma 8)), (9, .ref (ma 9)), (10, wi a10), (11, .ref y4), (13, wi x13_121), (14, wi v14_32), (15, wi v15_32), (16, wi r15), (17, wi v17_57), (18, wi r19), (19, wi t0_106)] [wi r45, wi r43] (E47, C44, q_166) _
    refine r_icmp_ne (tgt := 265) dL_isWiki_200 (by decide) ?_ ?_
    · refine r_lo [0, 1, 2, 3, 4, 5, 6, 7, 8, 9, 10, 11, 12, 13, 14, 15, 17, 18] (lo2 := [(0, .ref a0), (1, .ref (ma 0)), (2, .ref (ma 1)), (3, .ref (ma 2)), (4, .ref (ma 3)), (5, .ref (ma 4)), (6, .ref (ma 6)), (7, .ref (ma 7)), (8, .ref (ma 8)), (9, .ref (ma 9)), (10, wi a10), (11, .ref y4), (13, wi x13_121), (14, wi v14_32), (15, wi v15_32), (16, wi r15), (18, wi r19), (19, wi t0_106)]) rfl ?_
      exact hJ265 E47 C44 q_166
    · refine r_aload_n (x := a0) dL_isWiki_203 rfl rfl ?_
      refine r_iload (x := v15_32) dL_isWiki_204 rfl ?_
      refine ro_iconst (v := 0) dL_isWiki_206 rfl ?_
      refine r_cx1 (M0 := (fun k => (adq ma q_166 k : Int), E47)) (J := fun (C_ : Cd) => (E47, C_, q_166)) (k2 := k_X11_linked) (c := 14) (T := TX11) (N := 10) (n := 2) (rest := []) (fun _ => rfl) rfl um_L_149 kv_X11_linked hc_X11 (by decide) (c_X11_linked hG _ _ _ _) (by decide) rfl (Nat.le_of_ble_eq_true rfl) dL_isWiki_207 rfl (fun r48 C49 => ?_)
      show RunO l Γ k_L_isWiki 15 encI (em3 ma) 210 [(0, .ref a0), (1, .ref (ma 0)), (2, .ref (ma 1)), (3, .ref (ma 2)), (4, .ref (ma 3)), (5, .ref (ma 4)), (6, .ref (ma 6)), (7, .ref (ma 7)), (8, .ref (ma 8)), (9, .ref (ma 9)), (10, wi a10), (11, .ref y4), (13, wi x13_121), (14, wi v14_32), (15, wi v15_32), (16, wi r15), (17, wi v17_57), (18, wi r19), (19, wi t0_106)] [wi r48] (E47, C49, q_166) _
      refine r_iload (x := t0_106) dL_isWiki_210 rfl ?_
      refine r_join (P := fun (J : Int → Rw → Cd → (Nat → Nat) → Option (Int × S3)) => ∀ (t0_229 : Int) (E_229 : Rw) (C_229 : Cd) (q_229 : (Nat → Nat)), RunO l Γ k_L_isWiki 15 encI (em3 ma) 229 [(0, .ref a0), (1, .ref (ma 0)), (2, .ref (ma 1)), (3, .ref (ma 2)), (4, .ref (ma 3)), (5, .ref (ma 4)), (6, .ref (ma 6)), (7, .ref (ma 7)), (8, .ref (ma 8)), (9, .ref (ma 9)), (10, wi a10), (11, .ref y4), (13, wi x13_121), (14, wi v14_32), (15, wi v15_32), (16, wi r15), (18, wi r19), (19, wi t0_106)] [wi t0_229, wi r48] (E_229, C_229, q_229) (J t0_229 E_229 C_229 q_229)) ?_ (fun J229 hJ229 => ?_)
      · exact b_L_isWiki_229 h hm hG hX a0 a10 y4 v14_32 v15_32 r15 r19 t0_106 x13_121 r48 J266 hJ266 J265 hJ265
      refine r_if_eq (tgt := 228) dL_isWiki_212 (by decide) ?_ ?_
      · refine ro_iconst (v := 0) dL_isWiki_228 rfl ?_
        refine r_lo [0, 1, 2, 3, 4, 5, 6, 7, 8, 9, 10, 11, 12, 13, 14, 15, 17, 18] (lo2 := [(0, .ref a0), (1, .ref (ma 0)), (2, .ref (ma 1)), (3, .ref (ma 2)), (4, .ref (ma 3)), (5, .ref (ma 4)), (6, .ref (ma 6)), (7, .ref (ma 7)), (8, .ref (ma 8)), (9, .ref (ma 9)), (10, wi a10), (11, .ref y4), (13, wi x13_121), (14, wi v14_32), (15, wi v15_32), (16, wi r15), (18, wi r19), (19, wi t0_106)]) rfl ?_
        exact hJ229 0 E47 C49 q_166
      · refine r_aload (x := ma 6) dL_isWiki_215 rfl ?_
        refine r_bipush (v := 7) dL_isWiki_217 rfl ?_
        refine r_iload (x := v15_32) dL_isWiki_219 rfl ?_
        refine r_imul dL_isWiki_221 ?_
        refine ro_iconst (v := 2) dL_isWiki_222 rfl ?_
        refine r_iadd dL_isWiki_223 ?_
        refine r_wiald3 h (by decide) (by decide) (hm 6 (by decide)) dL_isWiki_224 ?_
        refine r_goto (tgt := 229) dL_isWiki_225 (by decide) ?_
        refine r_lo [0, 1, 2, 3, 4, 5, 6, 7, 8, 9, 10, 11, 12, 13, 14, 15, 17, 18] (lo2 := [(0, .ref a0), (1, .ref (ma 0)), (2, .ref (ma 1)), (3, .ref (ma 2)), (4, .ref (ma 3)), (5, .ref (ma 4)), (6, .ref (ma 6)), (7, .ref (ma 7)), (8, .ref (ma 8)), (9, .ref (ma 9)), (10, wi a10), (11, .ref y4), (13, wi x13_121), (14, wi v14_32), (15, wi v15_32), (16, wi r15), (18, wi r19), (19, wi t0_106)]) rfl ?_
        exact hJ229 (E47 6 (ix ((7 * v15_32) + 2))) E47 C49 q_166
set_option maxHeartbeats 8000000 in
set_option maxRecDepth 100000 in
theorem b_L_isWiki_120 {l : Launch} {Γ : Cx} {ma : Nat → Nat} (h : wOn Γ) (hm : ∀ k, k ≤ 10 → ma k ≠ 0) (hG : GK Γ l) (hX : XN Γ) (a0 : Nat) (a10 : Int) (y4 : Nat) (v13_32 : Int) (v14_32 : Int) (v15_32 : Int) (r15 : Int) (v17_57 : Int) (r19 : Int) (t0_106 : Int) (L32 : Int → Int → Int → Int → Rw → Cd → (Nat → Nat) → Option (Int × S3)) (hL32 : ∀ (v12_32 : Int) (v13_32 : Int) (v14_32 : Int) (v15_32 : Int) (E_32 : Rw) (C_32 : Cd) (q_32 : (Nat → Nat)), RunO l Γ k_L_isWiki 15 encI (em3 ma) 32 [(0, .ref a0), (1, .ref (ma 0)), (2, .ref (ma 1)), (3, .ref (ma 2)), (4, .ref (ma 3)), (5, .ref (ma 4)), (6, .ref (ma 6)), (7, .ref (ma 7)), (8, .ref (ma 8)), (9, .ref (ma 9)), (10, wi a10), (11, .ref y4), (12, wi v12_32), (13, wi v13_32), (14, wi v14_32), (15, wi v15_32)] [] (E_32, C_32, q_32) (L32 v12_32 v13_32 v14_32 v15_32 E_32 C_32 q_32)) : ∀ (t0_120 : Int) (E_120 : Rw) (C_120 : Cd) (q_120 : (Nat → Nat)), RunO l Γ k_L_isWiki 15 encI (em3 ma) 120 [(0, .ref a0), (1, .ref (ma 0)), (2, .ref (ma 1)), (3, .ref (ma 2)), (4, .ref (ma 3)), (5, .ref (ma 4)), (6, .ref (ma 6)), (7, .ref (ma 7)), (8, .ref (ma 8)), (9, .ref (ma 9)), (10, wi a10), (11, .ref y4), (14, wi v14_32), (15, wi v15_32), (16, wi r15), (17, wi v17_57), (18, wi r19), (19, wi t0_106)] [wi t0_120, wi v13_32] (E_120, C_120, q_120) (fW_isWiki_120 a0 a10 y4 L32 v13_32 v14_32 v15_32 r15 v17_57 r19 t0_106 t0_120 E_120 C_120 q_120) := by
  intro t0_120 E_120 C_120 q_120
  unfold fW_isWiki_120
  refine r_iadd dL_isWiki_120 ?_
  refine r_nm (fun x13_121 => ?_)
  refine r_istore (lo2 := [(13, wi x13_121), (0, .ref a0), (1, .ref (ma 0)), (2, .ref (ma 1)), (3, .ref (ma 2)), (4, .ref (ma 3)), (5, .ref (ma 4)), (6, .ref (ma 6)), (7, .ref (ma 7)), (8, .ref (ma 8)), (9, .ref (ma 9)), (10, wi a10), (11, .ref y4), (14, wi v14_32), (15, wi v15_32), (16, wi r15), (17, wi v17_57), (18, wi r19), (19, wi t0_106)]) dL_isWiki_121 (by decide) rfl ?_
  refine r_aload_n (x := a0) dL_isWiki_123 rfl rfl ?_
  refine r_iload (x := v15_32) dL_isWiki_124 rfl ?_
  refine r_cx1 (M0 := (fun k => (adq ma q_120 k : Int), E_120)) (J := fun (C_ : Cd) => (E_120, C_, q_120)) (k2 := k_X11_versions) (c := 14) (T := TX11) (N := 10) (n := 1) (rest := []) (fun _ => rfl) rfl um_L_143 kv_X11_versions hc_X11 (by decide) (c_X11_versions hG _ _ _) (by decide) rfl (Nat.le_of_ble_eq_true rfl) dL_isWiki_126 rfl (fun r21 C22 => ?_)
  show RunO l Γ k_L_isWiki 15 encI (em3 ma) 129 [(13, wi x13_121), (0, .ref a0), (1, .ref (ma 0)), (2, .ref (ma 1)), (3, .ref (ma 2)), (4, .ref (ma 3)), (5, .ref (ma 4)), (6, .ref (ma 6)), (7, .ref (ma 7)), (8, .ref (ma 8)), (9, .ref (ma 9)), (10, wi a10), (11, .ref y4), (14, wi v14_32), (15, wi v15_32), (16, wi r15), (17, wi v17_57), (18, wi r19), (19, wi t0_106)] [wi r21] (E_120, C22, q_120) _
  refine r_iload (x := v17_57) dL_isWiki_129 rfl ?_
  refine r_join (P := fun (J : Int → Rw → Cd → (Nat → Nat) → Option (Int × S3)) => ∀ (t0_266 : Int) (E_266 : Rw) (C_266 : Cd) (q_266 : (Nat → Nat)), RunO l Γ k_L_isWiki 15 encI (em3 ma) 266 [(0, .ref a0), (1, .ref (ma 0)), (2, .ref (ma 1)), (3, .ref (ma 2)), (4, .ref (ma 3)), (5, .ref (ma 4)), (6, .ref (ma 6)), (7, .ref (ma 7)), (8, .ref (ma 8)), (9, .ref (ma 9)), (10, wi a10), (11, .ref y4), (13, wi x13_121), (14, wi v14_32), (15, wi v15_32), (16, wi r15), (18, wi r19), (19, wi t0_106)] [wi t0_266] (E_266, C_266, q_266) (J t0_266 E_266 C_266 q_266)) ?_ (fun J266 hJ266 => ?_)
  · exact b_L_isWiki_266 h hm hG hX a0 a10 y4 v14_32 v15_32 r15 r19 t0_106 x13_121 L32 hL32
  refine r_join (P := fun (J : Rw → Cd → (Nat → Nat) → Option (Int × S3)) => ∀ (E_265 : Rw) (C_265 : Cd) (q_265 : (Nat → Nat)), RunO l Γ k_L_isWiki 15 encI (em3 ma) 265 [(0, .ref a0), (1, .ref (ma 0)), (2, .ref (ma 1)), (3, .ref (ma 2)), (4, .ref (ma 3)), (5, .ref (ma 4)), (6, .ref (ma 6)), (7, .ref (ma 7)), (8, .ref (ma 8)), (9, .ref (ma 9)), (10, wi a10), (11, .ref y4), (13, wi x13_121), (14, wi v14_32), (15, wi v15_32), (16, wi r15), (18, wi r19), (19, wi t0_106)] [] (E_265, C_265, q_265) (J E_265 C_265 q_265)) ?_ (fun J265 hJ265 => ?_)
  · exact b_L_isWiki_265 h hm hG hX a0 a10 y4 v14_32 v15_32 r15 r19 t0_106 x13_121 J266 hJ266
  refine r_icmp_ne (tgt := 265) dL_isWiki_131 (by decide) ?_ ?_
  · refine r_lo [1, 2, 3, 4, 5, 6, 7, 8, 9, 10, 11, 12, 0, 13, 14, 15, 17, 18] (lo2 := [(0, .ref a0), (1, .ref (ma 0)), (2, .ref (ma 1)), (3, .ref (ma 2)), (4, .ref (ma 3)), (5, .ref (ma 4)), (6, .ref (ma 6)), (7, .ref (ma 7)), (8, .ref (ma 8)), (9, .ref (ma 9)), (10, wi a10), (11, .ref y4), (13, wi x13_121), (14, wi v14_32), (15, wi v15_32), (16, wi r15), (18, wi r19), (19, wi t0_106)]) rfl ?_
    exact hJ265 E_120 C22 q_120
  · refine r_iload (x := v17_57) dL_isWiki_134 rfl ?_
    refine r_join (P := fun (J : Rw → Cd → (Nat → Nat) → Option (Int × S3)) => ∀ (E_166 : Rw) (C_166 : Cd) (q_166 : (Nat → Nat)), RunO l Γ k_L_isWiki 15 encI (em3 ma) 166 [(0, .ref a0), (1, .ref (ma 0)), (2, .ref (ma 1)), (3, .ref (ma 2)), (4, .ref (ma 3)), (5, .ref (ma 4)), (6, .ref (ma 6)), (7, .ref (ma 7)), (8, .ref (ma 8)), (9, .ref (ma 9)), (10, wi a10), (11, .ref y4), (13, wi x13_121), (14, wi v14_32), (15, wi v15_32), (16, wi r15), (17, wi v17_57), (18, wi r19), (19, wi t0_106)] [] (E_166, C_166, q_166) (J E_166 C_166 q_166)) ?_ (fun J166 hJ166 => ?_)
    · exact b_L_isWiki_166 h hm hG hX a0 a10 y4 v14_32 v15_32 r15 v17_57 r19 t0_106 x13_121 J266 hJ266 J265 hJ265
    refine r_if_eq (tgt := 166) dL_isWiki_136 (by decide) ?_ ?_
    · refine r_lo [1, 2, 3, 4, 5, 6, 7, 8, 9, 10, 11, 12, 0, 13, 14, 15, 16, 17, 18] (lo2 := [(0, .ref a0), (1, .ref (ma 0)), (2, .ref (ma 1)), (3, .ref (ma 2)), (4, .ref (ma 3)), (5, .ref (ma 4)), (6, .ref (ma 6)), (7, .ref (ma 7)), (8, .ref (ma 8)), (9, .ref (ma 9)), (10, wi a10), (11, .ref y4), (13, wi x13_121), (14, wi v14_32), (15, wi v15_32), (16, wi r15), (17, wi v17_57), (18, wi r19), (19, wi t0_106)]) rfl ?_
      exact hJ166 E_120 C22 q_120
    · refine r_aload_n (x := a0) dL_isWiki_139 rfl rfl ?_
      refine r_iload (x := v15_32) dL_isWiki_140 rfl ?_
      refine r_iload (x := a10) dL_isWiki_142 rfl ?_
      refine r_iload (x := v17_57) dL_isWiki_144 rfl ?_
      refine r_iremT dL_isWiki_146 ?_
      refine r_cx1 (M0 := (fun k => (adq ma q_120 k : Int), E_120)) (J := fun (C_ : Cd) => (E_120, C_, q_120)) (k2 := k_X11_versionAt) (c := 14) (T := TX11) (N := 10) (n := 2) (rest := []) (fun _ => rfl) rfl um_L_100 kv_X11_versionAt hc_X11 (by decide) (c_X11_versionAt hG _ _ _ _) (by decide) rfl (Nat.le_of_ble_eq_true rfl) dL_isWiki_147 rfl (fun r52 C53 => ?_)
      show RunO l Γ k_L_isWiki 15 encI (em3 ma) 150 [(13, wi x13_121), (0, .ref a0), (1, .ref (ma 0)), (2, .ref (ma 1)), (3, .ref (ma 2)), (4, .ref (ma 3)), (5, .ref (ma 4)), (6, .ref (ma 6)), (7, .ref (ma 7)), (8, .ref (ma 8)), (9, .ref (ma 9)), (10, wi a10), (11, .ref y4), (14, wi v14_32), (15, wi v15_32), (16, wi r15), (17, wi v17_57), (18, wi r19), (19, wi t0_106)] [wi r52] (E_120, C53, q_120) _
      refine r_aload_n (x := ma 0) dL_isWiki_150 rfl rfl ?_
      refine r_aload_n (x := ma 1) dL_isWiki_151 rfl rfl ?_
      refine r_aload_n (x := ma 2) dL_isWiki_152 rfl rfl ?_
      refine r_iload (x := v15_32) dL_isWiki_153 rfl ?_
      refine r_iload (x := a10) dL_isWiki_155 rfl ?_
      refine r_iload (x := v17_57) dL_isWiki_157 rfl ?_
      refine r_iremT dL_isWiki_159 ?_
      refine r_csi (J := fun (E_ : Rw) => (E_, C53, q_120)) (k2 := k_L_versionOf) (n := 5) (rest := [wi r52]) (fun _ => rfl) rfl kv_L_versionOf (c_L_versionOf (ad := adq ma q_120) (K0 := C53) h (adq_hm hm) v15_32 (remI a10 v17_57) _) (by decide) um_L_139 rfl (Nat.le_of_ble_eq_true rfl) dL_isWiki_160 rfl (fun r54 E55 => ?_)
      show RunO l Γ k_L_isWiki 15 encI (em3 ma) 163 [(13, wi x13_121), (0, .ref a0), (1, .ref (ma 0)), (2, .ref (ma 1)), (3, .ref (ma 2)), (4, .ref (ma 3)), (5, .ref (ma 4)), (6, .ref (ma 6)), (7, .ref (ma 7)), (8, .ref (ma 8)), (9, .ref (ma 9)), (10, wi a10), (11, .ref y4), (14, wi v14_32), (15, wi v15_32), (16, wi r15), (17, wi v17_57), (18, wi r19), (19, wi t0_106)] [wi r54, wi r52] (E55, C53, q_120) _
      refine r_icmp_ne (tgt := 265) dL_isWiki_163 (by decide) ?_ ?_
      · refine r_lo [1, 2, 3, 4, 5, 6, 7, 8, 9, 10, 11, 12, 0, 13, 14, 15, 17, 18] (lo2 := [(0, .ref a0), (1, .ref (ma 0)), (2, .ref (ma 1)), (3, .ref (ma 2)), (4, .ref (ma 3)), (5, .ref (ma 4)), (6, .ref (ma 6)), (7, .ref (ma 7)), (8, .ref (ma 8)), (9, .ref (ma 9)), (10, wi a10), (11, .ref y4), (13, wi x13_121), (14, wi v14_32), (15, wi v15_32), (16, wi r15), (18, wi r19), (19, wi t0_106)]) rfl ?_
        exact hJ265 E55 C53 q_120
      · refine r_lo [1, 2, 3, 4, 5, 6, 7, 8, 9, 10, 11, 12, 0, 13, 14, 15, 16, 17, 18] (lo2 := [(0, .ref a0), (1, .ref (ma 0)), (2, .ref (ma 1)), (3, .ref (ma 2)), (4, .ref (ma 3)), (5, .ref (ma 4)), (6, .ref (ma 6)), (7, .ref (ma 7)), (8, .ref (ma 8)), (9, .ref (ma 9)), (10, wi a10), (11, .ref y4), (13, wi x13_121), (14, wi v14_32), (15, wi v15_32), (16, wi r15), (17, wi v17_57), (18, wi r19), (19, wi t0_106)]) rfl ?_
        exact hJ166 E55 C53 q_120
set_option maxHeartbeats 8000000 in
set_option maxRecDepth 100000 in
theorem b_L_isWiki_106 {l : Launch} {Γ : Cx} {ma : Nat → Nat} (h : wOn Γ) (hm : ∀ k, k ≤ 10 → ma k ≠ 0) (hG : GK Γ l) (hX : XN Γ) (a0 : Nat) (a10 : Int) (y4 : Nat) (v13_32 : Int) (v14_32 : Int) (v15_32 : Int) (r15 : Int) (v17_57 : Int) (r19 : Int) (L32 : Int → Int → Int → Int → Rw → Cd → (Nat → Nat) → Option (Int × S3)) (hL32 : ∀ (v12_32 : Int) (v13_32 : Int) (v14_32 : Int) (v15_32 : Int) (E_32 : Rw) (C_32 : Cd) (q_32 : (Nat → Nat)), RunO l Γ k_L_isWiki 15 encI (em3 ma) 32 [(0, .ref a0), (1, .ref (ma 0)), (2, .ref (ma 1)), (3, .ref (ma 2)), (4, .ref (ma 3)), (5, .ref (ma 4)), (6, .ref (ma 6)), (7, .ref (ma 7)), (8, .ref (ma 8)), (9, .ref (ma 9)), (10, wi a10), (11, .ref y4), (12, wi v12_32), (13, wi v13_32), (14, wi v14_32), (15, wi v15_32)] [] (E_32, C_32, q_32) (L32 v12_32 v13_32 v14_32 v15_32 E_32 C_32 q_32)) : ∀ (t0_106 : Int) (E_106 : Rw) (C_106 : Cd) (q_106 : (Nat → Nat)), RunO l Γ k_L_isWiki 15 encI (em3 ma) 106 [(0, .ref a0), (1, .ref (ma 0)), (2, .ref (ma 1)), (3, .ref (ma 2)), (4, .ref (ma 3)), (5, .ref (ma 4)), (6, .ref (ma 6)), (7, .ref (ma 7)), (8, .ref (ma 8)), (9, .ref (ma 9)), (10, wi a10), (11, .ref y4), (13, wi v13_32), (14, wi v14_32), (15, wi v15_32), (16, wi r15), (17, wi v17_57), (18, wi r19)] [wi t0_106] (E_106, C_106, q_106) (fW_isWiki_106 a0 a10 y4 L32 v13_32 v14_32 v15_32 r15 v17_57 r19 t0_106 E_106 C_106 q_106) := by
  intro t0_106 E_106 C_106 q_106
  unfold fW_isWiki_106
  refine r_istore (lo2 := [(19, wi t0_106), (0, .ref a0), (1, .ref (ma 0)), (2, .ref (ma 1)), (3, .ref (ma 2)), (4, .ref (ma 3)), (5, .ref (ma 4)), (6, .ref (ma 6)), (7, .ref (ma 7)), (8, .ref (ma 8)), (9, .ref (ma 9)), (10, wi a10), (11, .ref y4), (13, wi v13_32), (14, wi v14_32), (15, wi v15_32), (16, wi r15), (17, wi v17_57), (18, wi r19)]) dL_isWiki_106 (by decide) rfl ?_
  refine r_iload (x := v13_32) dL_isWiki_108 rfl ?_
  refine r_iload (x := r19) dL_isWiki_110 rfl ?_
  refine r_join (P := fun (J : Int → Rw → Cd → (Nat → Nat) → Option (Int × S3)) => ∀ (t0_120 : Int) (E_120 : Rw) (C_120 : Cd) (q_120 : (Nat → Nat)), RunO l Γ k_L_isWiki 15 encI (em3 ma) 120 [(0, .ref a0), (1, .ref (ma 0)), (2, .ref (ma 1)), (3, .ref (ma 2)), (4, .ref (ma 3)), (5, .ref (ma 4)), (6, .ref (ma 6)), (7, .ref (ma 7)), (8, .ref (ma 8)), (9, .ref (ma 9)), (10, wi a10), (11, .ref y4), (14, wi v14_32), (15, wi v15_32), (16, wi r15), (17, wi v17_57), (18, wi r19), (19, wi t0_106)] [wi t0_120, wi v13_32] (E_120, C_120, q_120) (J t0_120 E_120 C_120 q_120)) ?_ (fun J120 hJ120 => ?_)
  · exact b_L_isWiki_120 h hm hG hX a0 a10 y4 v13_32 v14_32 v15_32 r15 v17_57 r19 t0_106 L32 hL32
  refine r_if_eq (tgt := 119) dL_isWiki_112 (by decide) ?_ ?_
  · refine ro_iconst (v := 0) dL_isWiki_119 rfl ?_
    refine r_lo [1, 2, 3, 4, 5, 6, 7, 8, 9, 10, 11, 12, 14, 15, 16, 17, 18, 0] (lo2 := [(0, .ref a0), (1, .ref (ma 0)), (2, .ref (ma 1)), (3, .ref (ma 2)), (4, .ref (ma 3)), (5, .ref (ma 4)), (6, .ref (ma 6)), (7, .ref (ma 7)), (8, .ref (ma 8)), (9, .ref (ma 9)), (10, wi a10), (11, .ref y4), (14, wi v14_32), (15, wi v15_32), (16, wi r15), (17, wi v17_57), (18, wi r19), (19, wi t0_106)]) rfl ?_
    exact hJ120 0 E_106 C_106 q_106
  · refine ro_iconst (v := 1) dL_isWiki_115 rfl ?_
    refine r_goto (tgt := 120) dL_isWiki_116 (by decide) ?_
    refine r_lo [1, 2, 3, 4, 5, 6, 7, 8, 9, 10, 11, 12, 14, 15, 16, 17, 18, 0] (lo2 := [(0, .ref a0), (1, .ref (ma 0)), (2, .ref (ma 1)), (3, .ref (ma 2)), (4, .ref (ma 3)), (5, .ref (ma 4)), (6, .ref (ma 6)), (7, .ref (ma 7)), (8, .ref (ma 8)), (9, .ref (ma 9)), (10, wi a10), (11, .ref y4), (14, wi v14_32), (15, wi v15_32), (16, wi r15), (17, wi v17_57), (18, wi r19), (19, wi t0_106)]) rfl ?_
    exact hJ120 1 E_106 C_106 q_106
set_option maxHeartbeats 8000000 in
set_option maxRecDepth 100000 in
theorem b_L_isWiki_57 {l : Launch} {Γ : Cx} {ma : Nat → Nat} (h : wOn Γ) (hm : ∀ k, k ≤ 10 → ma k ≠ 0) (hG : GK Γ l) (hX : XN Γ) (a0 : Nat) (a10 : Int) (y4 : Nat) (v13_32 : Int) (v14_32 : Int) (v15_32 : Int) (r15 : Int) (L32 : Int → Int → Int → Int → Rw → Cd → (Nat → Nat) → Option (Int × S3)) (hL32 : ∀ (v12_32 : Int) (v13_32 : Int) (v14_32 : Int) (v15_32 : Int) (E_32 : Rw) (C_32 : Cd) (q_32 : (Nat → Nat)), RunO l Γ k_L_isWiki 15 encI (em3 ma) 32 [(0, .ref a0), (1, .ref (ma 0)), (2, .ref (ma 1)), (3, .ref (ma 2)), (4, .ref (ma 3)), (5, .ref (ma 4)), (6, .ref (ma 6)), (7, .ref (ma 7)), (8, .ref (ma 8)), (9, .ref (ma 9)), (10, wi a10), (11, .ref y4), (12, wi v12_32), (13, wi v13_32), (14, wi v14_32), (15, wi v15_32)] [] (E_32, C_32, q_32) (L32 v12_32 v13_32 v14_32 v15_32 E_32 C_32 q_32)) (L57 : Int → Rw → Cd → (Nat → Nat) → Option (Int × S3)) (hL57 : ∀ (v17_57 : Int) (E_57 : Rw) (C_57 : Cd) (q_57 : (Nat → Nat)), RunO l Γ k_L_isWiki 15 encI (em3 ma) 57 [(0, .ref a0), (1, .ref (ma 0)), (2, .ref (ma 1)), (3, .ref (ma 2)), (4, .ref (ma 3)), (5, .ref (ma 4)), (6, .ref (ma 6)), (7, .ref (ma 7)), (8, .ref (ma 8)), (9, .ref (ma 9)), (10, wi a10), (11, .ref y4), (13, wi v13_32), (14, wi v14_32), (15, wi v15_32), (16, wi r15), (17, wi v17_57)] [] (E_57, C_57, q_57) (L57 v17_57 E_57 C_57 q_57)) : ∀ (v17_57 : Int) (E_57 : Rw) (C_57 : Cd) (q_57 : (Nat → Nat)), RunO l Γ k_L_isWiki 15 encI (em3 ma) 57 [(0, .ref a0), (1, .ref (ma 0)), (2, .ref (ma 1)), (3, .ref (ma 2)), (4, .ref (ma 3)), (5, .ref (ma 4)), (6, .ref (ma 6)), (7, .ref (ma 7)), (8, .ref (ma 8)), (9, .ref (ma 9)), (10, wi a10), (11, .ref y4), (13, wi v13_32), (14, wi v14_32), (15, wi v15_32), (16, wi r15), (17, wi v17_57)] [] (E_57, C_57, q_57) (fW_isWiki_57 a0 a10 y4 L32 v13_32 v14_32 v15_32 r15 L57 v17_57 E_57 C_57 q_57) := by
  intro v17_57 E_57 C_57 q_57
  unfold fW_isWiki_57
  refine r_aload_n (x := ma 0) dL_isWiki_57 rfl rfl ?_
  refine r_aload_n (x := ma 1) dL_isWiki_58 rfl rfl ?_
  refine r_aload_n (x := ma 2) dL_isWiki_59 rfl rfl ?_
  refine r_iload (x := v15_32) dL_isWiki_60 rfl ?_
  refine r_iload (x := v17_57) dL_isWiki_62 rfl ?_
  refine r_csi (J := fun (E_ : Rw) => (E_, C_57, q_57)) (k2 := k_L_versionOf) (n := 5) (rest := []) (fun _ => rfl) rfl kv_L_versionOf (c_L_versionOf (ad := adq ma q_57) (K0 := C_57) h (adq_hm hm) v15_32 v17_57 _) (by decide) um_L_139 rfl (Nat.le_of_ble_eq_true rfl) dL_isWiki_64 rfl (fun r17 E18 => ?_)
  show RunO l Γ k_L_isWiki 15 encI (em3 ma) 67 [(0, .ref a0), (1, .ref (ma 0)), (2, .ref (ma 1)), (3, .ref (ma 2)), (4, .ref (ma 3)), (5, .ref (ma 4)), (6, .ref (ma 6)), (7, .ref (ma 7)), (8, .ref (ma 8)), (9, .ref (ma 9)), (10, wi a10), (11, .ref y4), (13, wi v13_32), (14, wi v14_32), (15, wi v15_32), (16, wi r15), (17, wi v17_57)] [wi r17] (E18, C_57, q_57) _
  refine r_if_lt (tgt := 76) dL_isWiki_67 (by decide) ?_ ?_
  · refine r_aload_n (x := ma 1) dL_isWiki_76 rfl rfl ?_
    refine r_aload (x := ma 4) dL_isWiki_77 rfl ?_
    refine r_aload (x := ma 6) dL_isWiki_79 rfl ?_
    refine r_aload (x := ma 8) dL_isWiki_81 rfl ?_
    refine r_iload (x := v15_32) dL_isWiki_83 rfl ?_
    refine r_csi (J := fun (E_ : Rw) => (E_, C_57, q_57)) (k2 := k_L_isStale) (n := 5) (rest := []) (fun _ => rfl) rfl kv_L_isStale (c_L_isStale (ad := adq ma q_57) (K0 := C_57) h (adq_hm hm) v15_32 _) (by decide) um_L_55 rfl (Nat.le_of_ble_eq_true rfl) dL_isWiki_85 rfl (fun r19 E20 => ?_)
    show RunO l Γ k_L_isWiki 15 encI (em3 ma) 88 [(0, .ref a0), (1, .ref (ma 0)), (2, .ref (ma 1)), (3, .ref (ma 2)), (4, .ref (ma 3)), (5, .ref (ma 4)), (6, .ref (ma 6)), (7, .ref (ma 7)), (8, .ref (ma 8)), (9, .ref (ma 9)), (10, wi a10), (11, .ref y4), (13, wi v13_32), (14, wi v14_32), (15, wi v15_32), (16, wi r15), (17, wi v17_57)] [wi r19] (E20, C_57, q_57) _
    refine r_istore (lo2 := [(18, wi r19), (0, .ref a0), (1, .ref (ma 0)), (2, .ref (ma 1)), (3, .ref (ma 2)), (4, .ref (ma 3)), (5, .ref (ma 4)), (6, .ref (ma 6)), (7, .ref (ma 7)), (8, .ref (ma 8)), (9, .ref (ma 9)), (10, wi a10), (11, .ref y4), (13, wi v13_32), (14, wi v14_32), (15, wi v15_32), (16, wi r15), (17, wi v17_57)]) dL_isWiki_88 (by decide) rfl ?_
    refine r_aload (x := ma 6) dL_isWiki_90 rfl ?_
    refine r_bipush (v := 7) dL_isWiki_92 rfl ?_
    refine r_iload (x := v15_32) dL_isWiki_94 rfl ?_
    refine r_imul dL_isWiki_96 ?_
    refine r_wiald3 h (by decide) (by decide) (hm 6 (by decide)) dL_isWiki_97 ?_
    refine r_join (P := fun (J : Int → Rw → Cd → (Nat → Nat) → Option (Int × S3)) => ∀ (t0_106 : Int) (E_106 : Rw) (C_106 : Cd) (q_106 : (Nat → Nat)), RunO l Γ k_L_isWiki 15 encI (em3 ma) 106 [(0, .ref a0), (1, .ref (ma 0)), (2, .ref (ma 1)), (3, .ref (ma 2)), (4, .ref (ma 3)), (5, .ref (ma 4)), (6, .ref (ma 6)), (7, .ref (ma 7)), (8, .ref (ma 8)), (9, .ref (ma 9)), (10, wi a10), (11, .ref y4), (13, wi v13_32), (14, wi v14_32), (15, wi v15_32), (16, wi r15), (17, wi v17_57), (18, wi r19)] [wi t0_106] (E_106, C_106, q_106) (J t0_106 E_106 C_106 q_106)) ?_ (fun J106 hJ106 => ?_)
    · exact b_L_isWiki_106 h hm hG hX a0 a10 y4 v13_32 v14_32 v15_32 r15 v17_57 r19 L32 hL32
    refine r_if_le (tgt := 105) dL_isWiki_98 (by decide) ?_ ?_
    · refine ro_iconst (v := 0) dL_isWiki_105 rfl ?_
      refine r_lo [1, 2, 3, 4, 5, 6, 7, 8, 9, 10, 11, 12, 13, 14, 15, 16, 17, 0] (lo2 := [(0, .ref a0), (1, .ref (ma 0)), (2, .ref (ma 1)), (3, .ref (ma 2)), (4, .ref (ma 3)), (5, .ref (ma 4)), (6, .ref (ma 6)), (7, .ref (ma 7)), (8, .ref (ma 8)), (9, .ref (ma 9)), (10, wi a10), (11, .ref y4), (13, wi v13_32), (14, wi v14_32), (15, wi v15_32), (16, wi r15), (17, wi v17_57), (18, wi r19)]) rfl ?_
      exact hJ106 0 E20 C_57 q_57
    · refine ro_iconst (v := 1) dL_isWiki_101 rfl ?_
      refine r_goto (tgt := 106) dL_isWiki_102 (by decide) ?_
      refine r_lo [1, 2, 3, 4, 5, 6, 7, 8, 9, 10, 11, 12, 13, 14, 15, 16, 17, 0] (lo2 := [(0, .ref a0), (1, .ref (ma 0)), (2, .ref (ma 1)), (3, .ref (ma 2)), (4, .ref (ma 3)), (5, .ref (ma 4)), (6, .ref (ma 6)), (7, .ref (ma 7)), (8, .ref (ma 8)), (9, .ref (ma 9)), (10, wi a10), (11, .ref y4), (13, wi v13_32), (14, wi v14_32), (15, wi v15_32), (16, wi r15), (17, wi v17_57), (18, wi r19)]) rfl ?_
      exact hJ106 1 E20 C_57 q_57
  · refine r_iinc (x := v17_57) (lo2 := [(17, wi (v17_57 + 1)), (0, .ref a0), (1, .ref (ma 0)), (2, .ref (ma 1)), (3, .ref (ma 2)), (4, .ref (ma 3)), (5, .ref (ma 4)), (6, .ref (ma 6)), (7, .ref (ma 7)), (8, .ref (ma 8)), (9, .ref (ma 9)), (10, wi a10), (11, .ref y4), (13, wi v13_32), (14, wi v14_32), (15, wi v15_32), (16, wi r15)]) dL_isWiki_70 rfl (by decide) rfl ?_
    refine r_goto (tgt := 57) dL_isWiki_73 (by decide) ?_
    refine r_lo [1, 2, 3, 4, 5, 6, 7, 8, 9, 10, 11, 12, 13, 14, 15, 16, 0] (lo2 := [(0, .ref a0), (1, .ref (ma 0)), (2, .ref (ma 1)), (3, .ref (ma 2)), (4, .ref (ma 3)), (5, .ref (ma 4)), (6, .ref (ma 6)), (7, .ref (ma 7)), (8, .ref (ma 8)), (9, .ref (ma 9)), (10, wi a10), (11, .ref y4), (13, wi v13_32), (14, wi v14_32), (15, wi v15_32), (16, wi r15), (17, wi (v17_57 + 1))]) rfl ?_
    exact hL57 (v17_57 + 1) E18 C_57 q_57
set_option maxHeartbeats 8000000 in
set_option maxRecDepth 100000 in
theorem b_L_isWiki_32 {l : Launch} {Γ : Cx} {ma : Nat → Nat} (h : wOn Γ) (hm : ∀ k, k ≤ 10 → ma k ≠ 0) (hG : GK Γ l) (hX : XN Γ) (a0 : Nat) (a10 : Int) (y4 : Nat) (L32 : Int → Int → Int → Int → Rw → Cd → (Nat → Nat) → Option (Int × S3)) (hL32 : ∀ (v12_32 : Int) (v13_32 : Int) (v14_32 : Int) (v15_32 : Int) (E_32 : Rw) (C_32 : Cd) (q_32 : (Nat → Nat)), RunO l Γ k_L_isWiki 15 encI (em3 ma) 32 [(0, .ref a0), (1, .ref (ma 0)), (2, .ref (ma 1)), (3, .ref (ma 2)), (4, .ref (ma 3)), (5, .ref (ma 4)), (6, .ref (ma 6)), (7, .ref (ma 7)), (8, .ref (ma 8)), (9, .ref (ma 9)), (10, wi a10), (11, .ref y4), (12, wi v12_32), (13, wi v13_32), (14, wi v14_32), (15, wi v15_32)] [] (E_32, C_32, q_32) (L32 v12_32 v13_32 v14_32 v15_32 E_32 C_32 q_32)) : ∀ (v12_32 : Int) (v13_32 : Int) (v14_32 : Int) (v15_32 : Int) (E_32 : Rw) (C_32 : Cd) (q_32 : (Nat → Nat)), RunO l Γ k_L_isWiki 15 encI (em3 ma) 32 [(0, .ref a0), (1, .ref (ma 0)), (2, .ref (ma 1)), (3, .ref (ma 2)), (4, .ref (ma 3)), (5, .ref (ma 4)), (6, .ref (ma 6)), (7, .ref (ma 7)), (8, .ref (ma 8)), (9, .ref (ma 9)), (10, wi a10), (11, .ref y4), (12, wi v12_32), (13, wi v13_32), (14, wi v14_32), (15, wi v15_32)] [] (E_32, C_32, q_32) (fW_isWiki_32 a0 a10 y4 L32 v12_32 v13_32 v14_32 v15_32 E_32 C_32 q_32) := by
  intro v12_32 v13_32 v14_32 v15_32 E_32 C_32 q_32
  unfold fW_isWiki_32
  refine r_iload (x := v15_32) dL_isWiki_32 rfl ?_
  refine r_bipush (v := 8) dL_isWiki_34 rfl ?_
  refine r_join (P := fun (J : Rw → Cd → (Nat → Nat) → Option (Int × S3)) => ∀ (E_650 : Rw) (C_650 : Cd) (q_650 : (Nat → Nat)), RunO l Γ k_L_isWiki 15 encI (em3 ma) 650 [(0, .ref a0), (6, .ref (ma 6)), (12, wi v12_32), (13, wi v13_32), (14, wi v14_32)] [] (E_650, C_650, q_650) (J E_650 C_650 q_650)) ?_ (fun J650 hJ650 => ?_)
  · exact b_L_isWiki_650 h hm hG hX a0 v12_32 v13_32 v14_32
  refine r_icmp_ge (tgt := 650) dL_isWiki_36 (by decide) ?_ ?_
  · refine r_lo [0, 6, 12, 13, 14] (lo2 := [(0, .ref a0), (6, .ref (ma 6)), (12, wi v12_32), (13, wi v13_32), (14, wi v14_32)]) rfl ?_
    exact hJ650 E_32 C_32 q_32
  · refine r_iload (x := v12_32) dL_isWiki_39 rfl ?_
    refine r_if_eq (tgt := 650) dL_isWiki_41 (by decide) ?_ ?_
    · refine r_lo [0, 6, 12, 13, 14] (lo2 := [(0, .ref a0), (6, .ref (ma 6)), (12, wi v12_32), (13, wi v13_32), (14, wi v14_32)]) rfl ?_
      exact hJ650 E_32 C_32 q_32
    · refine r_aload_n (x := ma 0) dL_isWiki_44 rfl rfl ?_
      refine r_aload_n (x := ma 1) dL_isWiki_45 rfl rfl ?_
      refine r_aload_n (x := ma 2) dL_isWiki_46 rfl rfl ?_
      refine r_iload (x := v15_32) dL_isWiki_47 rfl ?_
      refine r_csi (J := fun (E_ : Rw) => (E_, C_32, q_32)) (k2 := k_L_present) (n := 4) (rest := []) (fun _ => rfl) rfl kv_L_present (c_L_present (ad := adq ma q_32) (K0 := C_32) h (adq_hm hm) v15_32 _) (by decide) um_L_15 rfl (Nat.le_of_ble_eq_true rfl) dL_isWiki_49 rfl (fun r15 E16 => ?_)
      show RunO l Γ k_L_isWiki 15 encI (em3 ma) 52 [(0, .ref a0), (1, .ref (ma 0)), (2, .ref (ma 1)), (3, .ref (ma 2)), (4, .ref (ma 3)), (5, .ref (ma 4)), (6, .ref (ma 6)), (7, .ref (ma 7)), (8, .ref (ma 8)), (9, .ref (ma 9)), (10, wi a10), (11, .ref y4), (12, wi v12_32), (13, wi v13_32), (14, wi v14_32), (15, wi v15_32)] [wi r15] (E16, C_32, q_32) _
      refine r_istore (lo2 := [(16, wi r15), (0, .ref a0), (1, .ref (ma 0)), (2, .ref (ma 1)), (3, .ref (ma 2)), (4, .ref (ma 3)), (5, .ref (ma 4)), (6, .ref (ma 6)), (7, .ref (ma 7)), (8, .ref (ma 8)), (9, .ref (ma 9)), (10, wi a10), (11, .ref y4), (12, wi v12_32), (13, wi v13_32), (14, wi v14_32), (15, wi v15_32)]) dL_isWiki_52 (by decide) rfl ?_
      refine ro_iconst (v := 0) dL_isWiki_54 rfl ?_
      refine r_istore (lo2 := [(17, wi 0), (16, wi r15), (0, .ref a0), (1, .ref (ma 0)), (2, .ref (ma 1)), (3, .ref (ma 2)), (4, .ref (ma 3)), (5, .ref (ma 4)), (6, .ref (ma 6)), (7, .ref (ma 7)), (8, .ref (ma 8)), (9, .ref (ma 9)), (10, wi a10), (11, .ref y4), (12, wi v12_32), (13, wi v13_32), (14, wi v14_32), (15, wi v15_32)]) dL_isWiki_55 (by decide) rfl ?_
      refine r_loop (P := fun (J : Int → Rw → Cd → (Nat → Nat) → Option (Int × S3)) => ∀ (v17_57 : Int) (E_57 : Rw) (C_57 : Cd) (q_57 : (Nat → Nat)), RunO l Γ k_L_isWiki 15 encI (em3 ma) 57 [(0, .ref a0), (1, .ref (ma 0)), (2, .ref (ma 1)), (3, .ref (ma 2)), (4, .ref (ma 3)), (5, .ref (ma 4)), (6, .ref (ma 6)), (7, .ref (ma 7)), (8, .ref (ma 8)), (9, .ref (ma 9)), (10, wi a10), (11, .ref y4), (13, wi v13_32), (14, wi v14_32), (15, wi v15_32), (16, wi r15), (17, wi v17_57)] [] (E_57, C_57, q_57) (J v17_57 E_57 C_57 q_57)) ?_ (fun L57 hL57 => ?_) (fun J57 hJ57 => ?_)
      · intros; exact ro_none
      · exact b_L_isWiki_57 h hm hG hX a0 a10 y4 v13_32 v14_32 v15_32 r15 L32 hL32 L57 hL57
      refine r_lo [2, 3, 4, 5, 6, 7, 8, 9, 10, 11, 12, 13, 15, 16, 17, 1, 0] (lo2 := [(0, .ref a0), (1, .ref (ma 0)), (2, .ref (ma 1)), (3, .ref (ma 2)), (4, .ref (ma 3)), (5, .ref (ma 4)), (6, .ref (ma 6)), (7, .ref (ma 7)), (8, .ref (ma 8)), (9, .ref (ma 9)), (10, wi a10), (11, .ref y4), (13, wi v13_32), (14, wi v14_32), (15, wi v15_32), (16, wi r15), (17, wi 0)]) rfl ?_
      exact hJ57 0 E16 C_32 q_32
set_option maxHeartbeats 8000000 in
set_option maxRecDepth 100000 in
theorem b_L_isWiki_21 {l : Launch} {Γ : Cx} {ma : Nat → Nat} (h : wOn Γ) (hm : ∀ k, k ≤ 10 → ma k ≠ 0) (hG : GK Γ l) (hX : XN Γ) (a0 : Nat) (a10 : Int) (y4 : Nat) : ∀ (t0_21 : Int) (E_21 : Rw) (C_21 : Cd) (q_21 : (Nat → Nat)), RunO l Γ k_L_isWiki 15 encI (em3 ma) 21 [(0, .ref a0), (1, .ref (ma 0)), (2, .ref (ma 1)), (3, .ref (ma 2)), (4, .ref (ma 3)), (5, .ref (ma 4)), (6, .ref (ma 6)), (7, .ref (ma 7)), (8, .ref (ma 8)), (9, .ref (ma 9)), (10, wi a10), (11, .ref y4)] [wi t0_21] (E_21, C_21, q_21) (fW_isWiki_21 a0 a10 y4 t0_21 E_21 C_21 q_21) := by
  intro t0_21 E_21 C_21 q_21
  unfold fW_isWiki_21
  refine r_istore (lo2 := [(12, wi t0_21), (0, .ref a0), (1, .ref (ma 0)), (2, .ref (ma 1)), (3, .ref (ma 2)), (4, .ref (ma 3)), (5, .ref (ma 4)), (6, .ref (ma 6)), (7, .ref (ma 7)), (8, .ref (ma 8)), (9, .ref (ma 9)), (10, wi a10), (11, .ref y4)]) dL_isWiki_21 (by decide) rfl ?_
  refine ro_iconst (v := 0) dL_isWiki_23 rfl ?_
  refine r_istore (lo2 := [(13, wi 0), (12, wi t0_21), (0, .ref a0), (1, .ref (ma 0)), (2, .ref (ma 1)), (3, .ref (ma 2)), (4, .ref (ma 3)), (5, .ref (ma 4)), (6, .ref (ma 6)), (7, .ref (ma 7)), (8, .ref (ma 8)), (9, .ref (ma 9)), (10, wi a10), (11, .ref y4)]) dL_isWiki_24 (by decide) rfl ?_
  refine ro_iconst (v := 0) dL_isWiki_26 rfl ?_
  refine r_istore (lo2 := [(14, wi 0), (13, wi 0), (12, wi t0_21), (0, .ref a0), (1, .ref (ma 0)), (2, .ref (ma 1)), (3, .ref (ma 2)), (4, .ref (ma 3)), (5, .ref (ma 4)), (6, .ref (ma 6)), (7, .ref (ma 7)), (8, .ref (ma 8)), (9, .ref (ma 9)), (10, wi a10), (11, .ref y4)]) dL_isWiki_27 (by decide) rfl ?_
  refine ro_iconst (v := 0) dL_isWiki_29 rfl ?_
  refine r_istore (lo2 := [(15, wi 0), (14, wi 0), (13, wi 0), (12, wi t0_21), (0, .ref a0), (1, .ref (ma 0)), (2, .ref (ma 1)), (3, .ref (ma 2)), (4, .ref (ma 3)), (5, .ref (ma 4)), (6, .ref (ma 6)), (7, .ref (ma 7)), (8, .ref (ma 8)), (9, .ref (ma 9)), (10, wi a10), (11, .ref y4)]) dL_isWiki_30 (by decide) rfl ?_
  refine r_loop (P := fun (J : Int → Int → Int → Int → Rw → Cd → (Nat → Nat) → Option (Int × S3)) => ∀ (v12_32 : Int) (v13_32 : Int) (v14_32 : Int) (v15_32 : Int) (E_32 : Rw) (C_32 : Cd) (q_32 : (Nat → Nat)), RunO l Γ k_L_isWiki 15 encI (em3 ma) 32 [(0, .ref a0), (1, .ref (ma 0)), (2, .ref (ma 1)), (3, .ref (ma 2)), (4, .ref (ma 3)), (5, .ref (ma 4)), (6, .ref (ma 6)), (7, .ref (ma 7)), (8, .ref (ma 8)), (9, .ref (ma 9)), (10, wi a10), (11, .ref y4), (12, wi v12_32), (13, wi v13_32), (14, wi v14_32), (15, wi v15_32)] [] (E_32, C_32, q_32) (J v12_32 v13_32 v14_32 v15_32 E_32 C_32 q_32)) ?_ (fun L32 hL32 => ?_) (fun J32 hJ32 => ?_)
  · intros; exact ro_none
  · exact b_L_isWiki_32 h hm hG hX a0 a10 y4 L32 hL32
  refine r_lo [4, 5, 6, 7, 8, 9, 10, 11, 12, 13, 14, 15, 3, 2, 1, 0] (lo2 := [(0, .ref a0), (1, .ref (ma 0)), (2, .ref (ma 1)), (3, .ref (ma 2)), (4, .ref (ma 3)), (5, .ref (ma 4)), (6, .ref (ma 6)), (7, .ref (ma 7)), (8, .ref (ma 8)), (9, .ref (ma 9)), (10, wi a10), (11, .ref y4), (12, wi t0_21), (13, wi 0), (14, wi 0), (15, wi 0)]) rfl ?_
  exact hJ32 t0_21 0 0 0 E_21 C_21 q_21
set_option maxHeartbeats 8000000 in
set_option maxRecDepth 100000 in
theorem c_L_isWiki {l : Launch} {Γ : Cx} {ma : Nat → Nat} (h : wOn Γ) (hm : ∀ k, k ≤ 10 → ma k ≠ 0) (hG : GK Γ l) (hX : XN Γ) (a0 : Nat) (a10 : Int) (E : Rw) (C : Cd) (q : (Nat → Nat)) : Ct l Γ k_L_isWiki 15 encI (em3 ma) [.ref a0, .ref (ma 0), .ref (ma 1), .ref (ma 2), .ref (ma 3), .ref (ma 4), .ref (ma 6), .ref (ma 7), .ref (ma 8), .ref (ma 9), wi a10] (E, C, q) (fW_isWiki a0 a10 E C q) := by
  refine ct_of (by decide +kernel) rfl (Nat.le_of_ble_eq_true rfl) ?_
  refine r_lo [0, 1, 2, 3, 4, 5, 6, 7, 8, 9, 10] (lo2 := [(0, .ref a0), (1, .ref (ma 0)), (2, .ref (ma 1)), (3, .ref (ma 2)), (4, .ref (ma 3)), (5, .ref (ma 4)), (6, .ref (ma 6)), (7, .ref (ma 7)), (8, .ref (ma 8)), (9, .ref (ma 9)), (10, wi a10)]) rfl ?_
  unfold fW_isWiki
  refine r_bipush (v := 8) dL_isWiki_0 rfl ?_
  refine r_new3 (kk := 11) (n := 8) h (by decide) (by decide) rfl (by decide) rfl ua_I dL_isWiki_2 ?_
  refine r_nm4 (fun E1 C2 q3 y4 => ?_)
  refine r_astore (lo2 := [(11, .ref y4), (0, .ref a0), (1, .ref (ma 0)), (2, .ref (ma 1)), (3, .ref (ma 2)), (4, .ref (ma 3)), (5, .ref (ma 4)), (6, .ref (ma 6)), (7, .ref (ma 7)), (8, .ref (ma 8)), (9, .ref (ma 9)), (10, wi a10)]) dL_isWiki_4 (by decide) rfl ?_
  refine r_aload_n (x := a0) dL_isWiki_6 rfl rfl ?_
  refine r_cc1 (M0 := (fun k => (adq ma q3 k : Int), E1)) (J := fun (C_ : Cd) => (E1, C_, q3)) (k2 := k_X11_clock) (c := 14) (T := TX11) (N := 10) (n := 0) (rest := []) (fun _ => rfl) rfl um_L_136 kv_X11_clock hc_X11 (by decide) (c_X11_clock hG _ _) (by decide) rfl (Nat.le_of_ble_eq_true rfl) dL_isWiki_7 rfl (fun r5 C6 => ?_)
  show RunO l Γ k_L_isWiki 15 encI (em3 ma) 10 [(11, .ref y4), (0, .ref a0), (1, .ref (ma 0)), (2, .ref (ma 1)), (3, .ref (ma 2)), (4, .ref (ma 3)), (5, .ref (ma 4)), (6, .ref (ma 6)), (7, .ref (ma 7)), (8, .ref (ma 8)), (9, .ref (ma 9)), (10, wi a10)] [wi r5] (E1, C6, q3) _
  refine r_aload_n (x := ma 0) dL_isWiki_10 rfl rfl ?_
  refine ro_iconst (v := 2) dL_isWiki_11 rfl ?_
  refine r_wiald3 h (by decide) (by decide) (hm 0 (by decide)) dL_isWiki_12 ?_
  refine r_join (P := fun (J : Int → Rw → Cd → (Nat → Nat) → Option (Int × S3)) => ∀ (t0_21 : Int) (E_21 : Rw) (C_21 : Cd) (q_21 : (Nat → Nat)), RunO l Γ k_L_isWiki 15 encI (em3 ma) 21 [(0, .ref a0), (1, .ref (ma 0)), (2, .ref (ma 1)), (3, .ref (ma 2)), (4, .ref (ma 3)), (5, .ref (ma 4)), (6, .ref (ma 6)), (7, .ref (ma 7)), (8, .ref (ma 8)), (9, .ref (ma 9)), (10, wi a10), (11, .ref y4)] [wi t0_21] (E_21, C_21, q_21) (J t0_21 E_21 C_21 q_21)) ?_ (fun J21 hJ21 => ?_)
  · exact b_L_isWiki_21 h hm hG hX a0 a10 y4
  refine r_icmp_ne (tgt := 20) dL_isWiki_13 (by decide) ?_ ?_
  · refine ro_iconst (v := 0) dL_isWiki_20 rfl ?_
    refine r_lo [1, 2, 3, 4, 5, 6, 7, 8, 9, 10, 11, 0] (lo2 := [(0, .ref a0), (1, .ref (ma 0)), (2, .ref (ma 1)), (3, .ref (ma 2)), (4, .ref (ma 3)), (5, .ref (ma 4)), (6, .ref (ma 6)), (7, .ref (ma 7)), (8, .ref (ma 8)), (9, .ref (ma 9)), (10, wi a10), (11, .ref y4)]) rfl ?_
    exact hJ21 0 E1 C6 q3
  · refine ro_iconst (v := 1) dL_isWiki_16 rfl ?_
    refine r_goto (tgt := 21) dL_isWiki_17 (by decide) ?_
    refine r_lo [1, 2, 3, 4, 5, 6, 7, 8, 9, 10, 11, 0] (lo2 := [(0, .ref a0), (1, .ref (ma 0)), (2, .ref (ma 1)), (3, .ref (ma 2)), (4, .ref (ma 3)), (5, .ref (ma 4)), (6, .ref (ma 6)), (7, .ref (ma 7)), (8, .ref (ma 8)), (9, .ref (ma 9)), (10, wi a10), (11, .ref y4)]) rfl ?_
    exact hJ21 1 E1 C6 q3
def k_L_sections : Kd := (yL_sections, cL_sections, 4, some .int, [])
theorem kv_L_sections : KS k_L_sections 1 := ⟨uw_mem 1454 (by decide +kernel) rfl, uw_mem 93 (by decide +kernel) rfl, uw_mem 1453 (by decide +kernel) rfl, ⟨by decide +kernel, by decide +kernel⟩, by decide +kernel, by decide +kernel⟩
set_option maxHeartbeats 8000000 in
set_option maxRecDepth 100000 in
theorem c_L_sections {l : Launch} {Γ : Cx} {σ0 : St} (a0 : Int)  : Ct l Γ k_L_sections 3 encI (emU σ0) [vl a0] () (fW_sections a0) := by
  refine ct_of (by decide +kernel) rfl (Nat.le_of_ble_eq_true rfl) ?_
  refine r_lo [0] (lo2 := [(0, vl a0)]) rfl ?_
  unfold fW_sections
  refine ro_iconst (v := 1) dL_sections_0 rfl ?_
  refine r_istore_n (lo2 := [(2, wi 1), (0, vl a0)]) dL_sections_1 rfl (by decide) rfl ?_
  refine ro_iconst (v := 0) dL_sections_2 rfl ?_
  refine r_istore_n (lo2 := [(3, wi 0), (2, wi 1), (0, vl a0)]) dL_sections_3 rfl (by decide) rfl ?_
  refine r_loop (P := fun (J : Int → Int → Option (Int × Unit)) => ∀ (v2_4 : Int) (v3_4 : Int), RunO l Γ k_L_sections 3 encI (emU σ0) 4 [(0, vl a0), (2, wi v2_4), (3, wi v3_4)] [] () (J v2_4 v3_4)) ?_ (fun L4 hL4 => ?_) (fun J4 hJ4 => ?_)
  · intros; exact ro_none
  · intro v2_4 v3_4
    refine r_iload_n (x := v3_4) dL_sections_4 rfl rfl ?_
    refine r_lload_n (x := a0) dL_sections_5 rfl rfl ?_
    refine r_csi (J := fun (_ : Unit) => ()) (k2 := k_L_macros) (n := 1) (rest := [wi v3_4]) (fun _ => rfl) rfl kv_L_macros (c_L_macros (σ0 := _) a0) (by decide) um_L_7 rfl (Nat.le_of_ble_eq_true rfl) dL_sections_6 rfl (fun r1 _ => ?_)
    show RunO l Γ k_L_sections 3 encI (emU σ0) 9 [(0, vl a0), (2, wi v2_4), (3, wi v3_4)] [wi r1, wi v3_4] () _
    refine r_icmp_ge (tgt := 38) dL_sections_9 (by decide) ?_ ?_
    · refine r_iload_n (x := v2_4) dL_sections_38 rfl rfl ?_
      exact r_iret rfl dL_sections_39
    · refine r_iload_n (x := v2_4) dL_sections_12 rfl rfl ?_
      refine r_lload_n (x := a0) dL_sections_13 rfl rfl ?_
      refine r_iload_n (x := v3_4) dL_sections_14 rfl rfl ?_
      refine r_csi (J := fun (_ : Unit) => ()) (k2 := k_L_macro) (n := 2) (rest := [wi v2_4]) (fun _ => rfl) rfl kv_L_macro (c_L_macro (σ0 := _) a0 v3_4) (by decide) um_L_19 rfl (Nat.le_of_ble_eq_true rfl) dL_sections_15 rfl (fun r2 _ => ?_)
      show RunO l Γ k_L_sections 3 encI (emU σ0) 18 [(0, vl a0), (2, wi v2_4), (3, wi v3_4)] [wi r2, wi v2_4] () _
      refine r_bipush (v := 16) dL_sections_18 rfl ?_
      refine r_irem dL_sections_20 (by decide) ?_
      refine ro_iconst (v := 4) dL_sections_21 rfl ?_
      refine r_join (P := fun (J : Int → Option (Int × Unit)) => ∀ (t0_30 : Int), RunO l Γ k_L_sections 3 encI (emU σ0) 30 [(0, vl a0), (3, wi v3_4)] [wi t0_30, wi v2_4] () (J t0_30)) ?_ (fun J30 hJ30 => ?_)
      · intro t0_30
        refine r_iadd dL_sections_30 ?_
        refine r_nm (fun x2_31 => ?_)
        refine r_istore_n (lo2 := [(2, wi x2_31), (0, vl a0), (3, wi v3_4)]) dL_sections_31 rfl (by decide) rfl ?_
        refine r_iinc (x := v3_4) (lo2 := [(3, wi (v3_4 + 1)), (2, wi x2_31), (0, vl a0)]) dL_sections_32 rfl (by decide) rfl ?_
        refine r_goto (tgt := 4) dL_sections_35 (by decide) ?_
        refine r_lo [2, 1, 0] (lo2 := [(0, vl a0), (2, wi x2_31), (3, wi (v3_4 + 1))]) rfl ?_
        exact hL4 x2_31 (v3_4 + 1)
      refine r_icmp_ne (tgt := 29) dL_sections_22 (by decide) ?_ ?_
      · refine ro_iconst (v := 0) dL_sections_29 rfl ?_
        refine r_lo [0, 2] (lo2 := [(0, vl a0), (3, wi v3_4)]) rfl ?_
        exact hJ30 0
      · refine ro_iconst (v := 1) dL_sections_25 rfl ?_
        refine r_goto (tgt := 30) dL_sections_26 (by decide) ?_
        refine r_lo [0, 2] (lo2 := [(0, vl a0), (3, wi v3_4)]) rfl ?_
        exact hJ30 1
  refine r_lo [2, 1, 0] (lo2 := [(0, vl a0), (2, wi 1), (3, wi 0)]) rfl ?_
  exact hJ4 1 0
def k_L_section : Kd := (yL_section, cL_section, 7, some .long, [])
theorem kv_L_section : KS k_L_section 2 := ⟨uw_mem 1460 (by decide +kernel) rfl, uw_mem 93 (by decide +kernel) rfl, uw_mem 1459 (by decide +kernel) rfl, ⟨by decide +kernel, by decide +kernel⟩, by decide +kernel, by decide +kernel⟩
set_option maxHeartbeats 8000000 in
set_option maxRecDepth 100000 in
theorem c_L_section {l : Launch} {Γ : Cx} {σ0 : St} (a0 : Int) (a2 : Int)  : Ct l Γ k_L_section 3 encJ (emU σ0) [vl a0, wi a2] () (fW_section a0 a2) := by
  refine ct_of (by decide +kernel) rfl (Nat.le_of_ble_eq_true rfl) ?_
  refine r_lo [0, 1] (lo2 := [(0, vl a0), (2, wi a2)]) rfl ?_
  unfold fW_section
  refine r_lconst (x := 1) dL_section_0 rfl ?_
  refine r_lstore_n (lo2 := [(3, vl 1), (0, vl a0), (2, wi a2)]) dL_section_1 rfl (by decide) rfl ?_
  refine ro_iconst (v := 0) dL_section_2 rfl ?_
  refine r_istore (lo2 := [(5, wi 0), (3, vl 1), (0, vl a0), (2, wi a2)]) dL_section_3 (by decide) rfl ?_
  refine ro_iconst (v := 0) dL_section_5 rfl ?_
  refine r_istore (lo2 := [(6, wi 0), (5, wi 0), (3, vl 1), (0, vl a0), (2, wi a2)]) dL_section_6 (by decide) rfl ?_
  refine r_loop (P := fun (J : Int → Int → Int → Option (Int × Unit)) => ∀ (v3_8 : Int) (v5_8 : Int) (v6_8 : Int), RunO l Γ k_L_section 3 encJ (emU σ0) 8 [(0, vl a0), (2, wi a2), (3, vl v3_8), (5, wi v5_8), (6, wi v6_8)] [] () (J v3_8 v5_8 v6_8)) ?_ (fun L8 hL8 => ?_) (fun J8 hJ8 => ?_)
  · intros; exact ro_none
  · intro v3_8 v5_8 v6_8
    refine r_iload (x := v6_8) dL_section_8 rfl ?_
    refine r_lload_n (x := a0) dL_section_10 rfl rfl ?_
    refine r_csi (J := fun (_ : Unit) => ()) (k2 := k_L_macros) (n := 1) (rest := [wi v6_8]) (fun _ => rfl) rfl kv_L_macros (c_L_macros (σ0 := _) a0) (by decide) um_L_7 rfl (Nat.le_of_ble_eq_true rfl) dL_section_11 rfl (fun r1 _ => ?_)
    show RunO l Γ k_L_section 3 encJ (emU σ0) 14 [(0, vl a0), (2, wi a2), (3, vl v3_8), (5, wi v5_8), (6, wi v6_8)] [wi r1, wi v6_8] () _
    refine r_icmp_ge (tgt := 69) dL_section_14 (by decide) ?_ ?_
    · refine r_lload_n (x := v3_8) dL_section_69 rfl rfl ?_
      exact r_lret rfl dL_section_70
    · refine r_iload (x := v5_8) dL_section_17 rfl ?_
      refine r_lload_n (x := a0) dL_section_19 rfl rfl ?_
      refine r_iload (x := v6_8) dL_section_20 rfl ?_
      refine r_csi (J := fun (_ : Unit) => ()) (k2 := k_L_macro) (n := 2) (rest := [wi v5_8]) (fun _ => rfl) rfl kv_L_macro (c_L_macro (σ0 := _) a0 v6_8) (by decide) um_L_19 rfl (Nat.le_of_ble_eq_true rfl) dL_section_22 rfl (fun r2 _ => ?_)
      show RunO l Γ k_L_section 3 encJ (emU σ0) 25 [(0, vl a0), (2, wi a2), (3, vl v3_8), (5, wi v5_8), (6, wi v6_8)] [wi r2, wi v5_8] () _
      refine r_bipush (v := 16) dL_section_25 rfl ?_
      refine r_irem dL_section_27 (by decide) ?_
      refine ro_iconst (v := 4) dL_section_28 rfl ?_
      refine r_join (P := fun (J : Int → Option (Int × Unit)) => ∀ (t0_37 : Int), RunO l Γ k_L_section 3 encJ (emU σ0) 37 [(0, vl a0), (2, wi a2), (3, vl v3_8), (6, wi v6_8)] [wi t0_37, wi v5_8] () (J t0_37)) ?_ (fun J37 hJ37 => ?_)
      · intro t0_37
        refine r_iadd dL_section_37 ?_
        refine r_nm (fun x5_38 => ?_)
        refine r_istore (lo2 := [(5, wi x5_38), (0, vl a0), (2, wi a2), (3, vl v3_8), (6, wi v6_8)]) dL_section_38 (by decide) rfl ?_
        refine r_iload (x := x5_38) dL_section_40 rfl ?_
        refine r_iload_n (x := a2) dL_section_42 rfl rfl ?_
        refine r_join (P := fun (J : Int → Option (Int × Unit)) => ∀ (t0_62 : Int), RunO l Γ k_L_section 3 encJ (emU σ0) 62 [(0, vl a0), (2, wi a2), (5, wi x5_38), (6, wi v6_8)] [vl t0_62] () (J t0_62)) ?_ (fun J62 hJ62 => ?_)
        · intro t0_62
          refine r_lstore_n (lo2 := [(3, vl t0_62), (0, vl a0), (2, wi a2), (5, wi x5_38), (6, wi v6_8)]) dL_section_62 rfl (by decide) rfl ?_
          refine r_iinc (x := v6_8) (lo2 := [(6, wi (v6_8 + 1)), (3, vl t0_62), (0, vl a0), (2, wi a2), (5, wi x5_38)]) dL_section_63 rfl (by decide) rfl ?_
          refine r_goto (tgt := 8) dL_section_66 (by decide) ?_
          refine r_lo [2, 3, 1, 4, 0] (lo2 := [(0, vl a0), (2, wi a2), (3, vl t0_62), (5, wi x5_38), (6, wi (v6_8 + 1))]) rfl ?_
          exact hL8 t0_62 x5_38 (v6_8 + 1)
        refine r_icmp_ne (tgt := 61) dL_section_43 (by decide) ?_ ?_
        · refine r_lload_n (x := v3_8) dL_section_61 rfl rfl ?_
          refine r_lo [1, 2, 0, 4] (lo2 := [(0, vl a0), (2, wi a2), (5, wi x5_38), (6, wi v6_8)]) rfl ?_
          exact hJ62 v3_8
        · refine r_lload_n (x := v3_8) dL_section_46 rfl rfl ?_
          refine r_bipush (v := 10) dL_section_47 rfl ?_
          refine r_lshl dL_section_49 ?_
          refine r_lload_n (x := a0) dL_section_50 rfl rfl ?_
          refine r_iload (x := v6_8) dL_section_51 rfl ?_
          refine r_csi (J := fun (_ : Unit) => ()) (k2 := k_L_macro) (n := 2) (rest := [vl (lshlI v3_8 10)]) (fun _ => rfl) rfl kv_L_macro (c_L_macro (σ0 := _) a0 v6_8) (by decide) um_L_19 rfl (Nat.le_of_ble_eq_true rfl) dL_section_53 rfl (fun r3 _ => ?_)
          show RunO l Γ k_L_section 3 encJ (emU σ0) 56 [(5, wi x5_38), (0, vl a0), (2, wi a2), (3, vl v3_8), (6, wi v6_8)] [wi r3, vl (lshlI v3_8 10)] () _
          refine r_i2l dL_section_56 ?_
          refine r_lor dL_section_57 ?_
          refine r_goto (tgt := 62) dL_section_58 (by decide) ?_
          refine r_lo [1, 2, 0, 4] (lo2 := [(0, vl a0), (2, wi a2), (5, wi x5_38), (6, wi v6_8)]) rfl ?_
          exact hJ62 (lorI (lshlI v3_8 10) (w32 r3))
      refine r_icmp_ne (tgt := 36) dL_section_29 (by decide) ?_ ?_
      · refine ro_iconst (v := 0) dL_section_36 rfl ?_
        refine r_lo [0, 1, 2, 4] (lo2 := [(0, vl a0), (2, wi a2), (3, vl v3_8), (6, wi v6_8)]) rfl ?_
        exact hJ37 0
      · refine ro_iconst (v := 1) dL_section_32 rfl ?_
        refine r_goto (tgt := 37) dL_section_33 (by decide) ?_
        refine r_lo [0, 1, 2, 4] (lo2 := [(0, vl a0), (2, wi a2), (3, vl v3_8), (6, wi v6_8)]) rfl ?_
        exact hJ37 1
  refine r_lo [3, 4, 2, 1, 0] (lo2 := [(0, vl a0), (2, wi a2), (3, vl 1), (5, wi 0), (6, wi 0)]) rfl ?_
  exact hJ8 1 0 0
def k_L_with : Kd := (yL_with, cL_with, 8, some .long, [])
theorem kv_L_with : KS k_L_with 3 := ⟨uw_mem 1457 (by decide +kernel) rfl, uw_mem 93 (by decide +kernel) rfl, uw_mem 1456 (by decide +kernel) rfl, ⟨by decide +kernel, by decide +kernel⟩, by decide +kernel, by decide +kernel⟩
set_option maxHeartbeats 8000000 in
set_option maxRecDepth 100000 in
theorem c_L_with {l : Launch} {Γ : Cx} {σ0 : St} (a0 : Int) (a2 : Int) (a3 : Int)  : Ct l Γ k_L_with 4 encJ (emU σ0) [vl a0, wi a2, vl a3] () (fW_with a0 a2 a3) := by
  refine ct_of (by decide +kernel) rfl (Nat.le_of_ble_eq_true rfl) ?_
  refine r_lo [0, 1, 2] (lo2 := [(0, vl a0), (2, wi a2), (3, vl a3)]) rfl ?_
  unfold fW_with
  refine r_lconst (x := 1) dL_with_0 rfl ?_
  refine r_lstore (lo2 := [(5, vl 1), (0, vl a0), (2, wi a2), (3, vl a3)]) dL_with_1 (by decide) rfl ?_
  refine ro_iconst (v := 0) dL_with_3 rfl ?_
  refine r_istore (lo2 := [(7, wi 0), (5, vl 1), (0, vl a0), (2, wi a2), (3, vl a3)]) dL_with_4 (by decide) rfl ?_
  refine r_loop (P := fun (J : Int → Int → Option (Int × Unit)) => ∀ (v5_6 : Int) (v7_6 : Int), RunO l Γ k_L_with 4 encJ (emU σ0) 6 [(0, vl a0), (2, wi a2), (3, vl a3), (5, vl v5_6), (7, wi v7_6)] [] () (J v5_6 v7_6)) ?_ (fun L6 hL6 => ?_) (fun J6 hJ6 => ?_)
  · intros; exact ro_none
  · intro v5_6 v7_6
    refine r_iload (x := v7_6) dL_with_6 rfl ?_
    refine r_lload_n (x := a0) dL_with_8 rfl rfl ?_
    refine r_csi (J := fun (_ : Unit) => ()) (k2 := k_L_sections) (n := 1) (rest := [wi v7_6]) (fun _ => rfl) rfl kv_L_sections (c_L_sections (σ0 := _) a0) (by decide) um_L_119 rfl (Nat.le_of_ble_eq_true rfl) dL_with_9 rfl (fun r1 _ => ?_)
    show RunO l Γ k_L_with 4 encJ (emU σ0) 12 [(0, vl a0), (2, wi a2), (3, vl a3), (5, vl v5_6), (7, wi v7_6)] [wi r1, wi v7_6] () _
    refine r_icmp_ge (tgt := 44) dL_with_12 (by decide) ?_ ?_
    · refine r_lload (x := v5_6) dL_with_44 rfl ?_
      exact r_lret rfl dL_with_46
    · refine r_lload (x := v5_6) dL_with_15 rfl ?_
      refine r_iload (x := v7_6) dL_with_17 rfl ?_
      refine r_iload_n (x := a2) dL_with_19 rfl rfl ?_
      refine r_join (P := fun (J : Int → Option (Int × Unit)) => ∀ (t0_33 : Int), RunO l Γ k_L_with 4 encJ (emU σ0) 33 [(0, vl a0), (2, wi a2), (3, vl a3), (7, wi v7_6)] [vl t0_33, vl v5_6] () (J t0_33)) ?_ (fun J33 hJ33 => ?_)
      · intro t0_33
        refine r_csj (J := fun (_ : Unit) => ()) (k2 := k_L_behind) (n := 2) (rest := []) (fun _ => rfl) rfl kv_L_behind (c_L_behind (σ0 := _) v5_6 t0_33) (by decide) um_L_126 rfl (Nat.le_of_ble_eq_true rfl) dL_with_33 rfl (fun r2 _ => ?_)
        show RunO l Γ k_L_with 4 encJ (emU σ0) 36 [(0, vl a0), (2, wi a2), (3, vl a3), (7, wi v7_6)] [vl r2] () _
        refine r_lstore (lo2 := [(5, vl r2), (0, vl a0), (2, wi a2), (3, vl a3), (7, wi v7_6)]) dL_with_36 (by decide) rfl ?_
        refine r_iinc (x := v7_6) (lo2 := [(7, wi (v7_6 + 1)), (5, vl r2), (0, vl a0), (2, wi a2), (3, vl a3)]) dL_with_38 rfl (by decide) rfl ?_
        refine r_goto (tgt := 6) dL_with_41 (by decide) ?_
        refine r_lo [2, 3, 4, 1, 0] (lo2 := [(0, vl a0), (2, wi a2), (3, vl a3), (5, vl r2), (7, wi (v7_6 + 1))]) rfl ?_
        exact hL6 r2 (v7_6 + 1)
      refine r_icmp_ne (tgt := 27) dL_with_20 (by decide) ?_ ?_
      · refine r_lload_n (x := a0) dL_with_27 rfl rfl ?_
        refine r_iload (x := v7_6) dL_with_28 rfl ?_
        refine r_csj (J := fun (_ : Unit) => ()) (k2 := k_L_section) (n := 2) (rest := [vl v5_6]) (fun _ => rfl) rfl kv_L_section (c_L_section (σ0 := _) a0 v7_6) (by decide) um_L_122 rfl (Nat.le_of_ble_eq_true rfl) dL_with_30 rfl (fun r3 _ => ?_)
        show RunO l Γ k_L_with 4 encJ (emU σ0) 33 [(0, vl a0), (2, wi a2), (3, vl a3), (5, vl v5_6), (7, wi v7_6)] [vl r3, vl v5_6] () _
        refine r_lo [0, 1, 2, 4] (lo2 := [(0, vl a0), (2, wi a2), (3, vl a3), (7, wi v7_6)]) rfl ?_
        exact hJ33 r3
      · refine r_lload_n (x := a3) dL_with_23 rfl rfl ?_
        refine r_goto (tgt := 33) dL_with_24 (by decide) ?_
        refine r_lo [0, 1, 2, 4] (lo2 := [(0, vl a0), (2, wi a2), (3, vl a3), (7, wi v7_6)]) rfl ?_
        exact hJ33 a3
  refine r_lo [2, 3, 4, 1, 0] (lo2 := [(0, vl a0), (2, wi a2), (3, vl a3), (5, vl 1), (7, wi 0)]) rfl ?_
  exact hJ6 1 0
def k_L_merged : Kd := (yL_merged, cL_merged, 15, some .long, [])
theorem kv_L_merged : KS k_L_merged 3 := ⟨uw_mem 1466 (by decide +kernel) rfl, uw_mem 93 (by decide +kernel) rfl, uw_mem 1465 (by decide +kernel) rfl, ⟨by decide +kernel, by decide +kernel⟩, by decide +kernel, by decide +kernel⟩
set_option maxHeartbeats 8000000 in
set_option maxRecDepth 100000 in
theorem b_L_merged_26 {l : Launch} {Γ : Cx} {σ0 : St} : RunO l Γ k_L_merged 4 encJ (emU σ0) 26 [] [] () fW_merged_26 := by
  unfold fW_merged_26
  refine r_lconst (x := 0) dL_merged_26 rfl ?_
  exact r_lret rfl dL_merged_27
set_option maxHeartbeats 8000000 in
set_option maxRecDepth 100000 in
theorem b_L_merged_108 {l : Launch} {Γ : Cx} {σ0 : St} (a0 : Int) (a2 : Int) (a4 : Int) (v6_31 : Int) (v8_31 : Int) (L31 : Int → Int → Option (Int × Unit)) (hL31 : ∀ (v6_31 : Int) (v8_31 : Int), RunO l Γ k_L_merged 4 encJ (emU σ0) 31 [(0, vl a0), (2, vl a2), (4, vl a4), (6, vl v6_31), (8, wi v8_31)] [] () (L31 v6_31 v8_31)) : ∀ (t0_108 : Int), RunO l Γ k_L_merged 4 encJ (emU σ0) 108 [(0, vl a0), (2, vl a2), (4, vl a4), (8, wi v8_31)] [vl t0_108, vl v6_31] () (fW_merged_108 L31 v6_31 v8_31 t0_108) := by
  intro t0_108
  unfold fW_merged_108
  refine r_csj (J := fun (_ : Unit) => ()) (k2 := k_L_behind) (n := 2) (rest := []) (fun _ => rfl) rfl kv_L_behind (c_L_behind (σ0 := _) v6_31 t0_108) (by decide) um_L_126 rfl (Nat.le_of_ble_eq_true rfl) dL_merged_108 rfl (fun r9 _ => ?_)
  show RunO l Γ k_L_merged 4 encJ (emU σ0) 111 [(0, vl a0), (2, vl a2), (4, vl a4), (8, wi v8_31)] [vl r9] () _
  refine r_lstore (lo2 := [(6, vl r9), (0, vl a0), (2, vl a2), (4, vl a4), (8, wi v8_31)]) dL_merged_111 (by decide) rfl ?_
  refine r_iinc (x := v8_31) (lo2 := [(8, wi (v8_31 + 1)), (6, vl r9), (0, vl a0), (2, vl a2), (4, vl a4)]) dL_merged_113 rfl (by decide) rfl ?_
  refine r_goto (tgt := 31) dL_merged_116 (by decide) ?_
  refine r_lo [2, 3, 4, 1, 0] (lo2 := [(0, vl a0), (2, vl a2), (4, vl a4), (6, vl r9), (8, wi (v8_31 + 1))]) rfl ?_
  exact hL31 r9 (v8_31 + 1)
set_option maxHeartbeats 8000000 in
set_option maxRecDepth 100000 in
theorem b_L_merged_91 {l : Launch} {Γ : Cx} {σ0 : St} (a0 : Int) (a2 : Int) (a4 : Int) (v6_31 : Int) (v8_31 : Int) (r6 : Int) (r7 : Int) (r8 : Int) (L31 : Int → Int → Option (Int × Unit)) (hL31 : ∀ (v6_31 : Int) (v8_31 : Int), RunO l Γ k_L_merged 4 encJ (emU σ0) 31 [(0, vl a0), (2, vl a2), (4, vl a4), (6, vl v6_31), (8, wi v8_31)] [] () (L31 v6_31 v8_31)) : RunO l Γ k_L_merged 4 encJ (emU σ0) 91 [(0, vl a0), (2, vl a2), (4, vl a4), (6, vl v6_31), (8, wi v8_31), (9, vl r6), (11, vl r7), (13, vl r8)] [] () (fW_merged_91 L31 v6_31 v8_31 r6 r7 r8) := by
  unfold fW_merged_91
  refine r_lload (x := v6_31) dL_merged_91 rfl ?_
  refine r_lload (x := r6) dL_merged_93 rfl ?_
  refine r_lload (x := r7) dL_merged_95 rfl ?_
  refine r_lcmp dL_merged_97 ?_
  refine r_join (P := fun (J : Int → Option (Int × Unit)) => ∀ (t0_108 : Int), RunO l Γ k_L_merged 4 encJ (emU σ0) 108 [(0, vl a0), (2, vl a2), (4, vl a4), (8, wi v8_31)] [vl t0_108, vl v6_31] () (J t0_108)) ?_ (fun J108 hJ108 => ?_)
  · exact b_L_merged_108 a0 a2 a4 v6_31 v8_31 L31 hL31
  refine r_if_ne (tgt := 106) dL_merged_98 (by decide) ?_ ?_
  · refine r_lload (x := r6) dL_merged_106 rfl ?_
    refine r_lo [0, 1, 2, 4] (lo2 := [(0, vl a0), (2, vl a2), (4, vl a4), (8, wi v8_31)]) rfl ?_
    exact hJ108 r6
  · refine r_lload (x := r8) dL_merged_101 rfl ?_
    refine r_goto (tgt := 108) dL_merged_103 (by decide) ?_
    refine r_lo [0, 1, 2, 4] (lo2 := [(0, vl a0), (2, vl a2), (4, vl a4), (8, wi v8_31)]) rfl ?_
    exact hJ108 r8
set_option maxHeartbeats 8000000 in
set_option maxRecDepth 100000 in
theorem b_L_merged_31 {l : Launch} {Γ : Cx} {σ0 : St} (a0 : Int) (a2 : Int) (a4 : Int) (L31 : Int → Int → Option (Int × Unit)) (hL31 : ∀ (v6_31 : Int) (v8_31 : Int), RunO l Γ k_L_merged 4 encJ (emU σ0) 31 [(0, vl a0), (2, vl a2), (4, vl a4), (6, vl v6_31), (8, wi v8_31)] [] () (L31 v6_31 v8_31)) : ∀ (v6_31 : Int) (v8_31 : Int), RunO l Γ k_L_merged 4 encJ (emU σ0) 31 [(0, vl a0), (2, vl a2), (4, vl a4), (6, vl v6_31), (8, wi v8_31)] [] () (fW_merged_31 a0 a2 a4 L31 v6_31 v8_31) := by
  intro v6_31 v8_31
  unfold fW_merged_31
  refine r_iload (x := v8_31) dL_merged_31 rfl ?_
  refine r_lload_n (x := a2) dL_merged_33 rfl rfl ?_
  refine r_csi (J := fun (_ : Unit) => ()) (k2 := k_L_sections) (n := 1) (rest := [wi v8_31]) (fun _ => rfl) rfl kv_L_sections (c_L_sections (σ0 := _) a2) (by decide) um_L_119 rfl (Nat.le_of_ble_eq_true rfl) dL_merged_34 rfl (fun r5 _ => ?_)
  show RunO l Γ k_L_merged 4 encJ (emU σ0) 37 [(0, vl a0), (2, vl a2), (4, vl a4), (6, vl v6_31), (8, wi v8_31)] [wi r5, wi v8_31] () _
  refine r_icmp_ge (tgt := 119) dL_merged_37 (by decide) ?_ ?_
  · refine r_lload (x := v6_31) dL_merged_119 rfl ?_
    exact r_lret rfl dL_merged_121
  · refine r_lload_n (x := a0) dL_merged_40 rfl rfl ?_
    refine r_iload (x := v8_31) dL_merged_41 rfl ?_
    refine r_csj (J := fun (_ : Unit) => ()) (k2 := k_L_section) (n := 2) (rest := []) (fun _ => rfl) rfl kv_L_section (c_L_section (σ0 := _) a0 v8_31) (by decide) um_L_122 rfl (Nat.le_of_ble_eq_true rfl) dL_merged_43 rfl (fun r6 _ => ?_)
    show RunO l Γ k_L_merged 4 encJ (emU σ0) 46 [(0, vl a0), (2, vl a2), (4, vl a4), (6, vl v6_31), (8, wi v8_31)] [vl r6] () _
    refine r_lstore (lo2 := [(9, vl r6), (0, vl a0), (2, vl a2), (4, vl a4), (6, vl v6_31), (8, wi v8_31)]) dL_merged_46 (by decide) rfl ?_
    refine r_lload_n (x := a2) dL_merged_48 rfl rfl ?_
    refine r_iload (x := v8_31) dL_merged_49 rfl ?_
    refine r_csj (J := fun (_ : Unit) => ()) (k2 := k_L_section) (n := 2) (rest := []) (fun _ => rfl) rfl kv_L_section (c_L_section (σ0 := _) a2 v8_31) (by decide) um_L_122 rfl (Nat.le_of_ble_eq_true rfl) dL_merged_51 rfl (fun r7 _ => ?_)
    show RunO l Γ k_L_merged 4 encJ (emU σ0) 54 [(9, vl r6), (0, vl a0), (2, vl a2), (4, vl a4), (6, vl v6_31), (8, wi v8_31)] [vl r7] () _
    refine r_lstore (lo2 := [(11, vl r7), (9, vl r6), (0, vl a0), (2, vl a2), (4, vl a4), (6, vl v6_31), (8, wi v8_31)]) dL_merged_54 (by decide) rfl ?_
    refine r_lload (x := a4) dL_merged_56 rfl ?_
    refine r_iload (x := v8_31) dL_merged_58 rfl ?_
    refine r_csj (J := fun (_ : Unit) => ()) (k2 := k_L_section) (n := 2) (rest := []) (fun _ => rfl) rfl kv_L_section (c_L_section (σ0 := _) a4 v8_31) (by decide) um_L_122 rfl (Nat.le_of_ble_eq_true rfl) dL_merged_60 rfl (fun r8 _ => ?_)
    show RunO l Γ k_L_merged 4 encJ (emU σ0) 63 [(11, vl r7), (9, vl r6), (0, vl a0), (2, vl a2), (4, vl a4), (6, vl v6_31), (8, wi v8_31)] [vl r8] () _
    refine r_lstore (lo2 := [(13, vl r8), (11, vl r7), (9, vl r6), (0, vl a0), (2, vl a2), (4, vl a4), (6, vl v6_31), (8, wi v8_31)]) dL_merged_63 (by decide) rfl ?_
    refine r_lload (x := r6) dL_merged_65 rfl ?_
    refine r_lload (x := r7) dL_merged_67 rfl ?_
    refine r_lcmp dL_merged_69 ?_
    refine r_join (P := fun (J : Option (Int × Unit)) => RunO l Γ k_L_merged 4 encJ (emU σ0) 91 [(0, vl a0), (2, vl a2), (4, vl a4), (6, vl v6_31), (8, wi v8_31), (9, vl r6), (11, vl r7), (13, vl r8)] [] () J) ?_ (fun J91 hJ91 => ?_)
    · exact b_L_merged_91 a0 a2 a4 v6_31 v8_31 r6 r7 r8 L31 hL31
    refine r_if_eq (tgt := 91) dL_merged_70 (by decide) ?_ ?_
    · refine r_lo [3, 4, 5, 6, 7, 2, 1, 0] (lo2 := [(0, vl a0), (2, vl a2), (4, vl a4), (6, vl v6_31), (8, wi v8_31), (9, vl r6), (11, vl r7), (13, vl r8)]) rfl ?_
      exact hJ91
    · refine r_lload (x := r8) dL_merged_73 rfl ?_
      refine r_lload (x := r7) dL_merged_75 rfl ?_
      refine r_lcmp dL_merged_77 ?_
      refine r_if_eq (tgt := 91) dL_merged_78 (by decide) ?_ ?_
      · refine r_lo [3, 4, 5, 6, 7, 2, 1, 0] (lo2 := [(0, vl a0), (2, vl a2), (4, vl a4), (6, vl v6_31), (8, wi v8_31), (9, vl r6), (11, vl r7), (13, vl r8)]) rfl ?_
        exact hJ91
      · refine r_lload (x := r8) dL_merged_81 rfl ?_
        refine r_lload (x := r6) dL_merged_83 rfl ?_
        refine r_lcmp dL_merged_85 ?_
        refine r_if_eq (tgt := 91) dL_merged_86 (by decide) ?_ ?_
        · refine r_lo [3, 4, 5, 6, 7, 2, 1, 0] (lo2 := [(0, vl a0), (2, vl a2), (4, vl a4), (6, vl v6_31), (8, wi v8_31), (9, vl r6), (11, vl r7), (13, vl r8)]) rfl ?_
          exact hJ91
        · refine r_lconst (x := 0) dL_merged_89 rfl ?_
          exact r_lret rfl dL_merged_90
set_option maxHeartbeats 8000000 in
set_option maxRecDepth 100000 in
theorem c_L_merged {l : Launch} {Γ : Cx} {σ0 : St} (a0 : Int) (a2 : Int) (a4 : Int)  : Ct l Γ k_L_merged 4 encJ (emU σ0) [vl a0, vl a2, vl a4] () (fW_merged a0 a2 a4) := by
  refine ct_of (by decide +kernel) rfl (Nat.le_of_ble_eq_true rfl) ?_
  refine r_lo [0, 1, 2] (lo2 := [(0, vl a0), (2, vl a2), (4, vl a4)]) rfl ?_
  unfold fW_merged
  refine r_lconst (x := 1) dL_merged_0 rfl ?_
  refine r_lstore (lo2 := [(6, vl 1), (0, vl a0), (2, vl a2), (4, vl a4)]) dL_merged_1 (by decide) rfl ?_
  refine r_lload_n (x := a0) dL_merged_3 rfl rfl ?_
  refine r_csi (J := fun (_ : Unit) => ()) (k2 := k_L_sections) (n := 1) (rest := []) (fun _ => rfl) rfl kv_L_sections (c_L_sections (σ0 := _) a0) (by decide) um_L_119 rfl (Nat.le_of_ble_eq_true rfl) dL_merged_4 rfl (fun r1 _ => ?_)
  show RunO l Γ k_L_merged 4 encJ (emU σ0) 7 [(6, vl 1), (0, vl a0), (2, vl a2), (4, vl a4)] [wi r1] () _
  refine r_lload_n (x := a2) dL_merged_7 rfl rfl ?_
  refine r_csi (J := fun (_ : Unit) => ()) (k2 := k_L_sections) (n := 1) (rest := [wi r1]) (fun _ => rfl) rfl kv_L_sections (c_L_sections (σ0 := _) a2) (by decide) um_L_119 rfl (Nat.le_of_ble_eq_true rfl) dL_merged_8 rfl (fun r2 _ => ?_)
  show RunO l Γ k_L_merged 4 encJ (emU σ0) 11 [(6, vl 1), (0, vl a0), (2, vl a2), (4, vl a4)] [wi r2, wi r1] () _
  refine r_join (P := fun (J : Option (Int × Unit)) => RunO l Γ k_L_merged 4 encJ (emU σ0) 26 [] [] () J) ?_ (fun J26 hJ26 => ?_)
  · exact b_L_merged_26 
  refine r_icmp_ne (tgt := 26) dL_merged_11 (by decide) ?_ ?_
  · refine r_lo [] (lo2 := []) rfl ?_
    exact hJ26
  · refine r_lload_n (x := a0) dL_merged_14 rfl rfl ?_
    refine r_csi (J := fun (_ : Unit) => ()) (k2 := k_L_sections) (n := 1) (rest := []) (fun _ => rfl) rfl kv_L_sections (c_L_sections (σ0 := _) a0) (by decide) um_L_119 rfl (Nat.le_of_ble_eq_true rfl) dL_merged_15 rfl (fun r3 _ => ?_)
    show RunO l Γ k_L_merged 4 encJ (emU σ0) 18 [(6, vl 1), (0, vl a0), (2, vl a2), (4, vl a4)] [wi r3] () _
    refine r_lload (x := a4) dL_merged_18 rfl ?_
    refine r_csi (J := fun (_ : Unit) => ()) (k2 := k_L_sections) (n := 1) (rest := [wi r3]) (fun _ => rfl) rfl kv_L_sections (c_L_sections (σ0 := _) a4) (by decide) um_L_119 rfl (Nat.le_of_ble_eq_true rfl) dL_merged_20 rfl (fun r4 _ => ?_)
    show RunO l Γ k_L_merged 4 encJ (emU σ0) 23 [(6, vl 1), (0, vl a0), (2, vl a2), (4, vl a4)] [wi r4, wi r3] () _
    refine r_icmp_eq (tgt := 28) dL_merged_23 (by decide) ?_ ?_
    · refine ro_iconst (v := 0) dL_merged_28 rfl ?_
      refine r_istore (lo2 := [(8, wi 0), (6, vl 1), (0, vl a0), (2, vl a2), (4, vl a4)]) dL_merged_29 (by decide) rfl ?_
      refine r_loop (P := fun (J : Int → Int → Option (Int × Unit)) => ∀ (v6_31 : Int) (v8_31 : Int), RunO l Γ k_L_merged 4 encJ (emU σ0) 31 [(0, vl a0), (2, vl a2), (4, vl a4), (6, vl v6_31), (8, wi v8_31)] [] () (J v6_31 v8_31)) ?_ (fun L31 hL31 => ?_) (fun J31 hJ31 => ?_)
      · intros; exact ro_none
      · exact b_L_merged_31 a0 a2 a4 L31 hL31
      refine r_lo [2, 3, 4, 1, 0] (lo2 := [(0, vl a0), (2, vl a2), (4, vl a4), (6, vl 1), (8, wi 0)]) rfl ?_
      exact hJ31 1 0
    · refine r_lo [] (lo2 := []) rfl ?_
      exact hJ26
def k_L_undone : Kd := (yL_undone, cL_undone, 10, some .long, [])
theorem kv_L_undone : KS k_L_undone 3 := ⟨uw_mem 1469 (by decide +kernel) rfl, uw_mem 93 (by decide +kernel) rfl, uw_mem 1468 (by decide +kernel) rfl, ⟨by decide +kernel, by decide +kernel⟩, by decide +kernel, by decide +kernel⟩
