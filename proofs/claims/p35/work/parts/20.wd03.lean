set_option maxHeartbeats 8000000 in
set_option maxRecDepth 100000 in
theorem b_L_renders_21 {l : Launch} {Γ : Cx} {ad : Nat → Nat} {K0 : Cd} (h : wOn Γ) (hm : ∀ k, k ≤ 10 → ad k ≠ 0) (hb : ∀ k, 12 ≤ k → k ≤ 14 → ad k ≠ 0) (kz : Nat) (a6 : Int) (hz : kz = 10 ∨ kz = 11) (hz0 : ad kz ≠ 0) (L21 : Int → Rw → Option (Int × Rw)) (hL21 : ∀ (v10_21 : Int) (E_21 : Rw), RunO l Γ k_L_renders 4 encJ (emW ad K0) 21 [(0, .ref (ad 0)), (1, .ref (ad 1)), (2, .ref (ad 2)), (3, .ref (ad 3)), (4, .ref (ad 6)), (5, .ref (ad kz)), (6, wi a6), (7, .ref (ad 12)), (8, .ref (ad 13)), (9, .ref (ad 14)), (10, wi v10_21)] [] E_21 (L21 v10_21 E_21)) : ∀ (v10_21 : Int) (E_21 : Rw), RunO l Γ k_L_renders 4 encJ (emW ad K0) 21 [(0, .ref (ad 0)), (1, .ref (ad 1)), (2, .ref (ad 2)), (3, .ref (ad 3)), (4, .ref (ad 6)), (5, .ref (ad kz)), (6, wi a6), (7, .ref (ad 12)), (8, .ref (ad 13)), (9, .ref (ad 14)), (10, wi v10_21)] [] E_21 (fW_renders_21 kz a6 L21 v10_21 E_21) := by
  intro v10_21 E_21
  unfold fW_renders_21
  refine r_iload (x := v10_21) dL_renders_21 rfl ?_
  refine r_bipush (v := 6) dL_renders_23 rfl ?_
  refine r_icmp_ge (tgt := 40) dL_renders_25 (by decide) ?_ ?_
  · refine r_aload (x := ad kz) dL_renders_40 rfl ?_
    refine r_bipush (v := 7) dL_renders_42 rfl ?_
    refine ro_iconst (v := (-1)) dL_renders_44 rfl ?_
    refine r_wiast h (wz_mem hz) hz0 dL_renders_45 (fun E1 => ?_)
    refine r_lconst (x := 1) dL_renders_46 rfl ?_
    refine r_lstore (lo2 := [(10, vl 1), (0, .ref (ad 0)), (1, .ref (ad 1)), (2, .ref (ad 2)), (3, .ref (ad 3)), (4, .ref (ad 6)), (5, .ref (ad kz)), (6, wi a6), (7, .ref (ad 12)), (8, .ref (ad 13)), (9, .ref (ad 14))]) dL_renders_47 (by decide) rfl ?_
    refine ro_iconst (v := 0) dL_renders_49 rfl ?_
    refine r_istore (lo2 := [(12, wi 0), (10, vl 1), (0, .ref (ad 0)), (1, .ref (ad 1)), (2, .ref (ad 2)), (3, .ref (ad 3)), (4, .ref (ad 6)), (5, .ref (ad kz)), (6, wi a6), (7, .ref (ad 12)), (8, .ref (ad 13)), (9, .ref (ad 14))]) dL_renders_50 (by decide) rfl ?_
    refine r_aload (x := ad 12) dL_renders_52 rfl ?_
    refine ro_iconst (v := 0) dL_renders_54 rfl ?_
    refine r_aload_n (x := ad 0) dL_renders_55 rfl rfl ?_
    refine r_aload_n (x := ad 1) dL_renders_56 rfl rfl ?_
    refine r_aload_n (x := ad 2) dL_renders_57 rfl rfl ?_
    refine r_iload (x := a6) dL_renders_58 rfl ?_
    refine r_csi (J := fun (E_ : Rw) => E_) (k2 := k_L_present) (n := 4) (rest := [wi 0, .ref (ad 12)]) (fun _ => rfl) rfl kv_L_present (c_L_present h hm a6 _) (by decide) um_L_15 rfl (Nat.le_of_ble_eq_true rfl) dL_renders_60 rfl (fun r2 E3 => ?_)
    show RunO l Γ k_L_renders 4 encJ (emW ad K0) 63 [(12, wi 0), (10, vl 1), (0, .ref (ad 0)), (1, .ref (ad 1)), (2, .ref (ad 2)), (3, .ref (ad 3)), (4, .ref (ad 6)), (5, .ref (ad kz)), (6, wi a6), (7, .ref (ad 12)), (8, .ref (ad 13)), (9, .ref (ad 14))] [wi r2, wi 0, .ref (ad 12)] E3 _
    refine r_wiast h (by decide) (hb 12 (by decide) (by decide)) dL_renders_63 (fun E4 => ?_)
    refine r_aload (x := ad 14) dL_renders_64 rfl ?_
    refine ro_iconst (v := 0) dL_renders_66 rfl ?_
    refine r_iload (x := a6) dL_renders_67 rfl ?_
    refine r_wiast h (by decide) (hb 14 (by decide) (by decide)) dL_renders_69 (fun E5 => ?_)
    refine r_loop (P := fun (J : Int → Int → Rw → Option (Int × Rw)) => ∀ (v10_70 : Int) (v12_70 : Int) (E_70 : Rw), RunO l Γ k_L_renders 4 encJ (emW ad K0) 70 [(0, .ref (ad 0)), (1, .ref (ad 1)), (2, .ref (ad 2)), (3, .ref (ad 3)), (4, .ref (ad 6)), (5, .ref (ad kz)), (7, .ref (ad 12)), (8, .ref (ad 13)), (9, .ref (ad 14)), (10, vl v10_70), (12, wi v12_70)] [] E_70 (J v10_70 v12_70 E_70)) ?_ (fun L70 hL70 => ?_) (fun J70 hJ70 => ?_)
    · intros; exact ro_none
    · exact b_L_renders_70 h hm hb kz hz hz0 L70 hL70
    refine r_lo [2, 3, 4, 5, 6, 7, 9, 10, 11, 1, 0] (lo2 := [(0, .ref (ad 0)), (1, .ref (ad 1)), (2, .ref (ad 2)), (3, .ref (ad 3)), (4, .ref (ad 6)), (5, .ref (ad kz)), (7, .ref (ad 12)), (8, .ref (ad 13)), (9, .ref (ad 14)), (10, vl 1), (12, wi 0)]) rfl ?_
    exact hJ70 1 0 E5
  · refine r_aload (x := ad kz) dL_renders_28 rfl ?_
    refine r_iload (x := v10_21) dL_renders_30 rfl ?_
    refine ro_iconst (v := 0) dL_renders_32 rfl ?_
    refine r_wiast h (wz_mem hz) hz0 dL_renders_33 (fun E27 => ?_)
    refine r_iinc (x := v10_21) (lo2 := [(10, wi (v10_21 + 1)), (0, .ref (ad 0)), (1, .ref (ad 1)), (2, .ref (ad 2)), (3, .ref (ad 3)), (4, .ref (ad 6)), (5, .ref (ad kz)), (6, wi a6), (7, .ref (ad 12)), (8, .ref (ad 13)), (9, .ref (ad 14))]) dL_renders_34 rfl (by decide) rfl ?_
    refine r_goto (tgt := 21) dL_renders_37 (by decide) ?_
    refine r_lo [1, 2, 3, 4, 5, 6, 7, 8, 9, 10, 0] (lo2 := [(0, .ref (ad 0)), (1, .ref (ad 1)), (2, .ref (ad 2)), (3, .ref (ad 3)), (4, .ref (ad 6)), (5, .ref (ad kz)), (6, wi a6), (7, .ref (ad 12)), (8, .ref (ad 13)), (9, .ref (ad 14)), (10, wi (v10_21 + 1))]) rfl ?_
    exact hL21 (v10_21 + 1) E27
set_option maxHeartbeats 8000000 in
set_option maxRecDepth 100000 in
theorem b_L_renders {l : Launch} {Γ : Cx} {ad : Nat → Nat} {K0 : Cd} (h : wOn Γ) (hm : ∀ k, k ≤ 10 → ad k ≠ 0) (hb : ∀ k, 12 ≤ k → k ≤ 14 → ad k ≠ 0) (kz : Nat) (a6 : Int) (hz : kz = 10 ∨ kz = 11) (hz0 : ad kz ≠ 0) (E : Rw) : RunO l Γ k_L_renders 4 encJ (emW ad K0) 18 [(0, .ref (ad 0)), (1, .ref (ad 1)), (2, .ref (ad 2)), (3, .ref (ad 3)), (4, .ref (ad 6)), (5, .ref (ad kz)), (6, wi a6), (7, .ref (ad 12)), (8, .ref (ad 13)), (9, .ref (ad 14))] [] E (fW_renders kz a6 E) := by
  unfold fW_renders
  refine ro_iconst (v := 0) dL_renders_18 rfl ?_
  refine r_istore (lo2 := [(10, wi 0), (0, .ref (ad 0)), (1, .ref (ad 1)), (2, .ref (ad 2)), (3, .ref (ad 3)), (4, .ref (ad 6)), (5, .ref (ad kz)), (6, wi a6), (7, .ref (ad 12)), (8, .ref (ad 13)), (9, .ref (ad 14))]) dL_renders_19 (by decide) rfl ?_
  refine r_loop (P := fun (J : Int → Rw → Option (Int × Rw)) => ∀ (v10_21 : Int) (E_21 : Rw), RunO l Γ k_L_renders 4 encJ (emW ad K0) 21 [(0, .ref (ad 0)), (1, .ref (ad 1)), (2, .ref (ad 2)), (3, .ref (ad 3)), (4, .ref (ad 6)), (5, .ref (ad kz)), (6, wi a6), (7, .ref (ad 12)), (8, .ref (ad 13)), (9, .ref (ad 14)), (10, wi v10_21)] [] E_21 (J v10_21 E_21)) ?_ (fun L21 hL21 => ?_) (fun J21 hJ21 => ?_)
  · intros; exact ro_none
  · exact b_L_renders_21 h hm hb kz a6 hz hz0 L21 hL21
  refine r_lo [1, 2, 3, 4, 5, 6, 7, 8, 9, 10, 0] (lo2 := [(0, .ref (ad 0)), (1, .ref (ad 1)), (2, .ref (ad 2)), (3, .ref (ad 3)), (4, .ref (ad 6)), (5, .ref (ad kz)), (6, wi a6), (7, .ref (ad 12)), (8, .ref (ad 13)), (9, .ref (ad 14)), (10, wi 0)]) rfl ?_
  exact hJ21 0 E
theorem ro_J {ρ S S2 : Type} {l : Launch} {Γ : Cx} {k : Kd} {d : Nat} {enc : ρ → Out} {em : S → St} {pc : Nat} {lo : List (Nat × Value)} {st : List Value} {J : S2 → S} {s2 : S2} {X2 : Option (ρ × S2)} (K : RunO l Γ k d enc (fun s => em (J s)) pc lo st s2 X2) : RunO l Γ k d enc em pc lo st (J s2) (X2.map (fun q => (q.1, J q.2))) := by
  intro r σ' hX
  obtain ⟨⟨r0, s0⟩, hX0, e⟩ := Option.map_eq_some_iff.mp hX
  cases e
  exact K r0 s0 hX0
theorem c_L_renders {l : Launch} {Γ : Cx} {ma : Nat → Nat} (h : wOn Γ) (hm : ∀ k, k ≤ 10 → ma k ≠ 0) (kz : Nat) (a6 : Int) (hz : kz = 10 ∨ kz = 11) {q : Nat → Nat} (hz0 : adq ma q kz ≠ 0) (E : Rw) (C : Cd) : Ct l Γ k_L_renders 4 encJ (em3 ma) [.ref (ma 0), .ref (ma 1), .ref (ma 2), .ref (ma 3), .ref (ma 6), .ref (adq ma q kz), wi a6] (E, C, q) (fW_renders3 kz a6 E C q) := by
  refine ct_of (by decide +kernel) rfl (Nat.le_of_ble_eq_true rfl) ?_
  refine r_lo [0, 1, 2, 3, 4, 5, 6] (lo2 := [(0, .ref (ma 0)), (1, .ref (ma 1)), (2, .ref (ma 2)), (3, .ref (ma 3)), (4, .ref (ma 6)), (5, .ref (adq ma q kz)), (6, wi a6)]) rfl ?_
  unfold fW_renders3
  by_cases hc : csz C = 0
  · rw [if_pos hc]; exact ro_none
  rw [if_neg hc]
  refine r_bipush (v := 8) dL_renders_0 rfl ?_
  refine r_new3 (kk := 12) (n := 8) h (by decide) (by decide) rfl (by decide) rfl ua_I dL_renders_2 ?_
  refine r_astore (x := csz C) (lo2 := [(7, .ref (csz C)), (0, .ref (ma 0)), (1, .ref (ma 1)), (2, .ref (ma 2)), (3, .ref (ma 3)), (4, .ref (ma 6)), (5, .ref (adq ma q kz)), (6, wi a6)]) dL_renders_4 (by decide) rfl ?_
  refine r_bipush (v := 8) dL_renders_6 rfl ?_
  refine r_new3 (kk := 13) (n := 8) h (by decide) (by decide) rfl (by decide) rfl ua_I dL_renders_8 ?_
  refine r_astore (x := csz C + 1) (lo2 := [(8, .ref (csz C + 1)), (7, .ref (csz C)), (0, .ref (ma 0)), (1, .ref (ma 1)), (2, .ref (ma 2)), (3, .ref (ma 3)), (4, .ref (ma 6)), (5, .ref (adq ma q kz)), (6, wi a6)]) dL_renders_10 (by decide) rfl ?_
  refine r_bipush (v := 8) dL_renders_12 rfl ?_
  refine r_new3 (kk := 14) (n := 8) h (by decide) (by decide) rfl (by decide) rfl ua_I dL_renders_14 ?_
  refine r_astore (x := csz C + 2) (lo2 := [(9, .ref (csz C + 2)), (8, .ref (csz C + 1)), (7, .ref (csz C)), (0, .ref (ma 0)), (1, .ref (ma 1)), (2, .ref (ma 2)), (3, .ref (ma 3)), (4, .ref (ma 6)), (5, .ref (adq ma q kz)), (6, wi a6)]) dL_renders_16 (by decide) rfl ?_
  refine r_lo [3, 4, 5, 6, 7, 8, 9, 2, 1, 0] (lo2 := [(0, .ref (ma 0)), (1, .ref (ma 1)), (2, .ref (ma 2)), (3, .ref (ma 3)), (4, .ref (ma 6)), (5, .ref (adq ma q kz)), (6, wi a6), (7, .ref (csz C)), (8, .ref (csz C + 1)), (9, .ref (csz C + 2))]) rfl ?_
  have hb : ∀ k, 12 ≤ k → k ≤ 14 → adq ma (setq (setq (setq q 12 (csz C)) 13 (csz C + 1)) 14 (csz C + 2)) k ≠ 0 := fun k k1 k2 => by
    rcases (show k = 12 ∨ k = 13 ∨ k = 14 by omega) with e | e | e <;> subst e
    · exact hc
    · exact Nat.succ_ne_zero _
    · exact Nat.succ_ne_zero _
  have key := fun (hz1 : adq ma (setq (setq (setq q 12 (csz C)) 13 (csz C + 1)) 14 (csz C + 2)) kz ≠ 0) => b_L_renders (l := l) (Γ := Γ) (K0 := cBumpA (cBumpA (cBumpA C 8) 8) 8) h (adq_hm (q := setq (setq (setq q 12 (csz C)) 13 (csz C + 1)) 14 (csz C + 2)) hm) hb kz a6 hz hz1 (zRow (zRow (zRow E 12) 13) 14)
  rcases hz with e | e
  · subst e
    exact ro_J (em := em3 ma) (J := fun (E_ : Rw) => (E_, cBumpA (cBumpA (cBumpA C 8) 8) 8, setq (setq (setq q 12 (csz C)) 13 (csz C + 1)) 14 (csz C + 2))) (key hz0)
  · subst e
    exact ro_J (em := em3 ma) (J := fun (E_ : Rw) => (E_, cBumpA (cBumpA (cBumpA C 8) 8) 8, setq (setq (setq q 12 (csz C)) 13 (csz C + 1)) 14 (csz C + 2))) (key hz0)
def k_L_isAnew : Kd := (yL_isAnew, cL_isAnew, 13, some .boolean, [])
theorem kv_L_isAnew : KS k_L_isAnew 9 := ⟨uw_mem 1512 (by decide +kernel) rfl, uw_mem 93 (by decide +kernel) rfl, uw_mem 1511 (by decide +kernel) rfl, ⟨by decide +kernel, by decide +kernel⟩, by decide +kernel, by decide +kernel⟩
set_option maxHeartbeats 8000000 in
set_option maxRecDepth 100000 in
theorem b_L_isAnew_115 {l : Launch} {Γ : Cx} {ma : Nat → Nat} (h : wOn Γ) (hm : ∀ k, k ≤ 10 → ma k ≠ 0) (hG : GK Γ l) (hX : XN Γ) : ∀ (t0_115 : Int) (E_115 : Rw) (C_115 : Cd) (q_115 : (Nat → Nat)), RunO l Γ k_L_isAnew 14 encI (em3 ma) 115 [] [wi t0_115] (E_115, C_115, q_115) (fW_isAnew_115 t0_115 E_115 C_115 q_115) := by
  intro t0_115 E_115 C_115 q_115
  unfold fW_isAnew_115
  exact r_zret rfl dL_isAnew_115
set_option maxHeartbeats 8000000 in
set_option maxRecDepth 100000 in
theorem b_L_isAnew_114 {l : Launch} {Γ : Cx} {ma : Nat → Nat} (h : wOn Γ) (hm : ∀ k, k ≤ 10 → ma k ≠ 0) (hG : GK Γ l) (hX : XN Γ) (J115 : Int → Rw → Cd → (Nat → Nat) → Option (Int × S3)) (hJ115 : ∀ (t0_115 : Int) (E_115 : Rw) (C_115 : Cd) (q_115 : (Nat → Nat)), RunO l Γ k_L_isAnew 14 encI (em3 ma) 115 [] [wi t0_115] (E_115, C_115, q_115) (J115 t0_115 E_115 C_115 q_115)) : ∀ (E_114 : Rw) (C_114 : Cd) (q_114 : (Nat → Nat)), RunO l Γ k_L_isAnew 14 encI (em3 ma) 114 [] [] (E_114, C_114, q_114) (fW_isAnew_114 J115 E_114 C_114 q_114) := by
  intro E_114 C_114 q_114
  unfold fW_isAnew_114
  refine ro_iconst (v := 0) dL_isAnew_114 rfl ?_
  exact hJ115 0 E_114 C_114 q_114
set_option maxHeartbeats 8000000 in
set_option maxRecDepth 100000 in
theorem b_L_isAnew_81 {l : Launch} {Γ : Cx} {ma : Nat → Nat} (h : wOn Γ) (hm : ∀ k, k ≤ 10 → ma k ≠ 0) (hG : GK Γ l) (hX : XN Γ) (a0 : Nat) (a6 : Nat) (a7 : Int) : ∀ (t0_81 : Int) (E_81 : Rw) (C_81 : Cd) (q_81 : (Nat → Nat)), RunO l Γ k_L_isAnew 14 encI (em3 ma) 81 [(0, .ref a0), (6, .ref a6), (7, wi a7)] [wi t0_81] (E_81, C_81, q_81) (fW_isAnew_81 a0 a6 a7 t0_81 E_81 C_81 q_81) := by
  intro t0_81 E_81 C_81 q_81
  unfold fW_isAnew_81
  refine r_istore (lo2 := [(12, wi t0_81), (0, .ref a0), (6, .ref a6), (7, wi a7)]) dL_isAnew_81 (by decide) rfl ?_
  refine r_iload (x := t0_81) dL_isAnew_83 rfl ?_
  refine r_join (P := fun (J : Int → Rw → Cd → (Nat → Nat) → Option (Int × S3)) => ∀ (t0_115 : Int) (E_115 : Rw) (C_115 : Cd) (q_115 : (Nat → Nat)), RunO l Γ k_L_isAnew 14 encI (em3 ma) 115 [] [wi t0_115] (E_115, C_115, q_115) (J t0_115 E_115 C_115 q_115)) ?_ (fun J115 hJ115 => ?_)
  · exact b_L_isAnew_115 h hm hG hX
  refine r_join (P := fun (J : Rw → Cd → (Nat → Nat) → Option (Int × S3)) => ∀ (E_114 : Rw) (C_114 : Cd) (q_114 : (Nat → Nat)), RunO l Γ k_L_isAnew 14 encI (em3 ma) 114 [] [] (E_114, C_114, q_114) (J E_114 C_114 q_114)) ?_ (fun J114 hJ114 => ?_)
  · exact b_L_isAnew_114 h hm hG hX J115 hJ115
  refine r_if_eq (tgt := 114) dL_isAnew_85 (by decide) ?_ ?_
  · refine r_lo [] (lo2 := []) rfl ?_
    exact hJ114 E_81 C_81 q_81
  · refine r_aload_n (x := a0) dL_isAnew_88 rfl rfl ?_
    refine r_bipush (v := 10) dL_isAnew_89 rfl ?_
    refine r_iload (x := a7) dL_isAnew_91 rfl ?_
    refine r_aload (x := a6) dL_isAnew_93 rfl ?_
    refine r_bipush (v := 6) dL_isAnew_95 rfl ?_
    refine r_yiald h dL_isAnew_97 ?_
    refine ro_iconst (v := 0) dL_isAnew_98 rfl ?_
    refine r_csHi (J := fun (C_ : Cd) => (E_81, C_, q_81)) (k2 := k_L_does) (n := 5) (rest := []) (fun _ => rfl) kv_L_does (c_L_does (M0 := (fun k => (adq ma q_81 k : Int), E_81)) hG hX a0 10 a7 (E_81 11 (ix 6)) 0 _) (by decide) um_L_132 rfl (Nat.le_of_ble_eq_true rfl) dL_isAnew_99 rfl (fun r9 C10 => ?_)
    show RunO l Γ k_L_isAnew 14 encI (em3 ma) 102 [(12, wi t0_81), (0, .ref a0), (6, .ref a6), (7, wi a7)] [wi r9] (E_81, C10, q_81) _
    refine r_aload (x := a6) dL_isAnew_102 rfl ?_
    refine r_bipush (v := 7) dL_isAnew_104 rfl ?_
    refine r_yiald h dL_isAnew_106 ?_
    refine r_icmp_ne (tgt := 114) dL_isAnew_107 (by decide) ?_ ?_
    · refine r_lo [] (lo2 := []) rfl ?_
      exact hJ114 E_81 C10 q_81
    · refine ro_iconst (v := 1) dL_isAnew_110 rfl ?_
      refine r_goto (tgt := 115) dL_isAnew_111 (by decide) ?_
      refine r_lo [] (lo2 := []) rfl ?_
      exact hJ115 1 E_81 C10 q_81
set_option maxHeartbeats 8000000 in
set_option maxRecDepth 100000 in
theorem b_L_isAnew_80 {l : Launch} {Γ : Cx} {ma : Nat → Nat} (h : wOn Γ) (hm : ∀ k, k ≤ 10 → ma k ≠ 0) (hG : GK Γ l) (hX : XN Γ) (a0 : Nat) (a6 : Nat) (a7 : Int) (J81 : Int → Rw → Cd → (Nat → Nat) → Option (Int × S3)) (hJ81 : ∀ (t0_81 : Int) (E_81 : Rw) (C_81 : Cd) (q_81 : (Nat → Nat)), RunO l Γ k_L_isAnew 14 encI (em3 ma) 81 [(0, .ref a0), (6, .ref a6), (7, wi a7)] [wi t0_81] (E_81, C_81, q_81) (J81 t0_81 E_81 C_81 q_81)) : ∀ (E_80 : Rw) (C_80 : Cd) (q_80 : (Nat → Nat)), RunO l Γ k_L_isAnew 14 encI (em3 ma) 80 [(0, .ref a0), (6, .ref a6), (7, wi a7)] [] (E_80, C_80, q_80) (fW_isAnew_80 J81 E_80 C_80 q_80) := by
  intro E_80 C_80 q_80
  unfold fW_isAnew_80
  refine ro_iconst (v := 0) dL_isAnew_80 rfl ?_
  exact hJ81 0 E_80 C_80 q_80
set_option maxHeartbeats 8000000 in
set_option maxRecDepth 100000 in
theorem b_L_isAnew_40 {l : Launch} {Γ : Cx} {ma : Nat → Nat} (h : wOn Γ) (hm : ∀ k, k ≤ 10 → ma k ≠ 0) (hG : GK Γ l) (hX : XN Γ) (a0 : Nat) (a6 : Nat) (a7 : Int) (r1 : Int) (x11_20 : Int) : ∀ (t0_40 : Int) (E_40 : Rw) (C_40 : Cd) (q_40 : (Nat → Nat)), RunO l Γ k_L_isAnew 14 encI (em3 ma) 40 [(0, .ref a0), (1, .ref (ma 0)), (2, .ref (ma 1)), (3, .ref (ma 2)), (4, .ref (ma 3)), (5, .ref (ma 6)), (6, .ref a6), (7, wi a7), (9, vl r1), (11, wi x11_20)] [wi t0_40, wi 6, .ref a6] (E_40, C_40, q_40) (fW_isAnew_40 a0 a6 a7 r1 x11_20 t0_40 E_40 C_40 q_40) := by
  intro t0_40 E_40 C_40 q_40
  unfold fW_isAnew_40
  refine r_yiast h dL_isAnew_40 (fun E6 => ?_)
  refine r_aload_n (x := a0) dL_isAnew_41 rfl rfl ?_
  refine r_bipush (v := 10) dL_isAnew_42 rfl ?_
  refine r_iload (x := a7) dL_isAnew_44 rfl ?_
  refine r_iload (x := x11_20) dL_isAnew_46 rfl ?_
  refine ro_iconst (v := 0) dL_isAnew_48 rfl ?_
  refine r_csHi (J := fun (C_ : Cd) => (E6, C_, q_40)) (k2 := k_L_does) (n := 5) (rest := []) (fun _ => rfl) kv_L_does (c_L_does (M0 := (fun k => (adq ma q_40 k : Int), E6)) hG hX a0 10 a7 x11_20 0 _) (by decide) um_L_132 rfl (Nat.le_of_ble_eq_true rfl) dL_isAnew_49 rfl (fun r7 C8 => ?_)
  show RunO l Γ k_L_isAnew 14 encI (em3 ma) 52 [(0, .ref a0), (1, .ref (ma 0)), (2, .ref (ma 1)), (3, .ref (ma 2)), (4, .ref (ma 3)), (5, .ref (ma 6)), (6, .ref a6), (7, wi a7), (9, vl r1), (11, wi x11_20)] [wi r7] (E6, C8, q_40) _
  refine ro_iconst (v := (-1)) dL_isAnew_52 rfl ?_
  refine r_join (P := fun (J : Int → Rw → Cd → (Nat → Nat) → Option (Int × S3)) => ∀ (t0_81 : Int) (E_81 : Rw) (C_81 : Cd) (q_81 : (Nat → Nat)), RunO l Γ k_L_isAnew 14 encI (em3 ma) 81 [(0, .ref a0), (6, .ref a6), (7, wi a7)] [wi t0_81] (E_81, C_81, q_81) (J t0_81 E_81 C_81 q_81)) ?_ (fun J81 hJ81 => ?_)
  · exact b_L_isAnew_81 h hm hG hX a0 a6 a7
  refine r_join (P := fun (J : Rw → Cd → (Nat → Nat) → Option (Int × S3)) => ∀ (E_80 : Rw) (C_80 : Cd) (q_80 : (Nat → Nat)), RunO l Γ k_L_isAnew 14 encI (em3 ma) 80 [(0, .ref a0), (6, .ref a6), (7, wi a7)] [] (E_80, C_80, q_80) (J E_80 C_80 q_80)) ?_ (fun J80 hJ80 => ?_)
  · exact b_L_isAnew_80 h hm hG hX a0 a6 a7 J81 hJ81
  refine r_icmp_ne (tgt := 80) dL_isAnew_53 (by decide) ?_ ?_
  · refine r_lo [0, 6, 7] (lo2 := [(0, .ref a0), (6, .ref a6), (7, wi a7)]) rfl ?_
    exact hJ80 E6 C8 q_40
  · refine r_lload (x := r1) dL_isAnew_56 rfl ?_
    refine r_aload_n (x := ma 0) dL_isAnew_58 rfl rfl ?_
    refine r_aload_n (x := ma 1) dL_isAnew_59 rfl rfl ?_
    refine r_aload_n (x := ma 2) dL_isAnew_60 rfl rfl ?_
    refine r_aload (x := ma 3) dL_isAnew_61 rfl ?_
    refine r_aload (x := ma 6) dL_isAnew_63 rfl ?_
    refine r_aload (x := a6) dL_isAnew_65 rfl ?_
    refine r_iload (x := a7) dL_isAnew_67 rfl ?_
    refine ro_if (fun hy12 => ?_) (fun _ => ro_none)
    refine r_cs3j (k2 := k_L_renders) (n := 7) (rest := [vl r1]) rfl kv_L_renders (c_L_renders h hm 11 a7 (Or.inr rfl) hy12.2 _ _) (by decide) um_L_47 rfl (Nat.le_of_ble_eq_true rfl) dL_isAnew_69 (by obtain ⟨e_, _⟩ := hy12; rw [← e_]; rfl) (fun r11 E13 C14 q15 => ?_)
    refine r_lcmp dL_isAnew_72 ?_
    refine r_if_ne (tgt := 80) dL_isAnew_73 (by decide) ?_ ?_
    · refine r_lo [0, 6, 7] (lo2 := [(0, .ref a0), (6, .ref a6), (7, wi a7)]) rfl ?_
      exact hJ80 E13 C14 q15
    · refine ro_iconst (v := 1) dL_isAnew_76 rfl ?_
      refine r_goto (tgt := 81) dL_isAnew_77 (by decide) ?_
      refine r_lo [0, 6, 7] (lo2 := [(0, .ref a0), (6, .ref a6), (7, wi a7)]) rfl ?_
      exact hJ81 1 E13 C14 q15
set_option maxHeartbeats 8000000 in
set_option maxRecDepth 100000 in
theorem c_L_isAnew {l : Launch} {Γ : Cx} {ma : Nat → Nat} (h : wOn Γ) (hm : ∀ k, k ≤ 10 → ma k ≠ 0) (hG : GK Γ l) (hX : XN Γ) (a0 : Nat) (a6 : Nat) (a7 : Int) (a8 : Int) (E : Rw) (C : Cd) (q : (Nat → Nat)) : Ct l Γ k_L_isAnew 14 encI (em3 ma) [.ref a0, .ref (ma 0), .ref (ma 1), .ref (ma 2), .ref (ma 3), .ref (ma 6), .ref a6, wi a7, wi a8] (E, C, q) (fW_isAnew a0 a6 a7 a8 E C q) := by
  refine ct_of (by decide +kernel) rfl (Nat.le_of_ble_eq_true rfl) ?_
  refine r_lo [0, 1, 2, 3, 4, 5, 6, 7, 8] (lo2 := [(0, .ref a0), (1, .ref (ma 0)), (2, .ref (ma 1)), (3, .ref (ma 2)), (4, .ref (ma 3)), (5, .ref (ma 6)), (6, .ref a6), (7, wi a7), (8, wi a8)]) rfl ?_
  unfold fW_isAnew
  refine r_aload_n (x := ma 0) dL_isAnew_0 rfl rfl ?_
  refine r_aload_n (x := ma 1) dL_isAnew_1 rfl rfl ?_
  refine r_aload_n (x := ma 2) dL_isAnew_2 rfl rfl ?_
  refine r_aload (x := ma 3) dL_isAnew_3 rfl ?_
  refine r_aload (x := ma 6) dL_isAnew_5 rfl ?_
  refine r_aload (x := a6) dL_isAnew_7 rfl ?_
  refine r_iload (x := a7) dL_isAnew_9 rfl ?_
  refine ro_if (fun hy2 => ?_) (fun _ => ro_none)
  refine r_cs3j (k2 := k_L_renders) (n := 7) (rest := []) rfl kv_L_renders (c_L_renders h hm 11 a7 (Or.inr rfl) hy2.2 _ _) (by decide) um_L_47 rfl (Nat.le_of_ble_eq_true rfl) dL_isAnew_11 (by obtain ⟨e_, _⟩ := hy2; rw [← e_]; rfl) (fun r1 E3 C4 q5 => ?_)
  refine r_lstore (lo2 := [(9, vl r1), (0, .ref a0), (1, .ref (ma 0)), (2, .ref (ma 1)), (3, .ref (ma 2)), (4, .ref (ma 3)), (5, .ref (ma 6)), (6, .ref a6), (7, wi a7), (8, wi a8)]) dL_isAnew_14 (by decide) rfl ?_
  refine r_aload (x := a6) dL_isAnew_16 rfl ?_
  refine ro_iconst (v := 4) dL_isAnew_18 rfl ?_
  refine r_yiald h dL_isAnew_19 ?_
  refine r_nm (fun x11_20 => ?_)
  refine r_istore (lo2 := [(11, wi x11_20), (9, vl r1), (0, .ref a0), (1, .ref (ma 0)), (2, .ref (ma 1)), (3, .ref (ma 2)), (4, .ref (ma 3)), (5, .ref (ma 6)), (6, .ref a6), (7, wi a7), (8, wi a8)]) dL_isAnew_20 (by decide) rfl ?_
  refine r_aload (x := a6) dL_isAnew_22 rfl ?_
  refine r_bipush (v := 6) dL_isAnew_24 rfl ?_
  refine r_iload (x := x11_20) dL_isAnew_26 rfl ?_
  refine r_join (P := fun (J : Int → Rw → Cd → (Nat → Nat) → Option (Int × S3)) => ∀ (t0_40 : Int) (E_40 : Rw) (C_40 : Cd) (q_40 : (Nat → Nat)), RunO l Γ k_L_isAnew 14 encI (em3 ma) 40 [(0, .ref a0), (1, .ref (ma 0)), (2, .ref (ma 1)), (3, .ref (ma 2)), (4, .ref (ma 3)), (5, .ref (ma 6)), (6, .ref a6), (7, wi a7), (9, vl r1), (11, wi x11_20)] [wi t0_40, wi 6, .ref a6] (E_40, C_40, q_40) (J t0_40 E_40 C_40 q_40)) ?_ (fun J40 hJ40 => ?_)
  · exact b_L_isAnew_40 h hm hG hX a0 a6 a7 r1 x11_20
  refine r_if_ne (tgt := 35) dL_isAnew_28 (by decide) ?_ ?_
  · refine r_iload (x := a8) dL_isAnew_35 rfl ?_
    refine r_iload (x := x11_20) dL_isAnew_37 rfl ?_
    refine r_iremT dL_isAnew_39 ?_
    refine r_lo [2, 3, 4, 5, 6, 7, 8, 9, 1, 0] (lo2 := [(0, .ref a0), (1, .ref (ma 0)), (2, .ref (ma 1)), (3, .ref (ma 2)), (4, .ref (ma 3)), (5, .ref (ma 6)), (6, .ref a6), (7, wi a7), (9, vl r1), (11, wi x11_20)]) rfl ?_
    exact hJ40 (remI a8 x11_20) E3 C4 q5
  · refine ro_iconst (v := 0) dL_isAnew_31 rfl ?_
    refine r_goto (tgt := 40) dL_isAnew_32 (by decide) ?_
    refine r_lo [2, 3, 4, 5, 6, 7, 8, 9, 1, 0] (lo2 := [(0, .ref a0), (1, .ref (ma 0)), (2, .ref (ma 1)), (3, .ref (ma 2)), (4, .ref (ma 3)), (5, .ref (ma 6)), (6, .ref a6), (7, wi a7), (9, vl r1), (11, wi x11_20)]) rfl ?_
    exact hJ40 0 E3 C4 q5
def k_L_sets : Kd := (yL_sets, cL_sets, 7, none, [])
theorem kv_L_sets : KS k_L_sets 5 := ⟨uw_mem 740 (by decide +kernel) rfl, uw_mem 93 (by decide +kernel) rfl, uw_mem 739 (by decide +kernel) rfl, ⟨by decide +kernel, by decide +kernel⟩, by decide +kernel, by decide +kernel⟩
set_option maxHeartbeats 8000000 in
set_option maxRecDepth 100000 in
theorem c_L_sets {l : Launch} {Γ : Cx} {ad : Nat → Nat} {K0 : Cd} (h : wOn Γ) (hm : ∀ k, k ≤ 10 → ad k ≠ 0) (a3 : Int) (a4 : Int) (E : Rw) : Ct l Γ k_L_sets 1 encV (emW ad K0) [.ref (ad 0), .ref (ad 6), .ref (ad 8), wi a3, wi a4] E (fW_sets a3 a4 E) := by
  refine ct_of (by decide +kernel) rfl (Nat.le_of_ble_eq_true rfl) ?_
  refine r_lo [0, 1, 2, 3, 4] (lo2 := [(0, .ref (ad 0)), (1, .ref (ad 6)), (2, .ref (ad 8)), (3, wi a3), (4, wi a4)]) rfl ?_
  unfold fW_sets
  refine r_aload_n (x := ad 6) dL_sets_0 rfl rfl ?_
  refine r_bipush (v := 7) dL_sets_1 rfl ?_
  refine r_iload_n (x := a3) dL_sets_3 rfl rfl ?_
  refine r_imul dL_sets_4 ?_
  refine r_wiald h (by decide) (hm 6 (by decide)) dL_sets_5 ?_
  refine r_join (P := fun (J : Int → Rw → Option (Unit × Rw)) => ∀ (t0_21 : Int) (E_21 : Rw), RunO l Γ k_L_sets 1 encV (emW ad K0) 21 [(0, .ref (ad 0)), (1, .ref (ad 6)), (2, .ref (ad 8)), (3, wi a3), (4, wi a4)] [wi t0_21] E_21 (J t0_21 E_21)) ?_ (fun J21 hJ21 => ?_)
  · intro t0_21 E_21
    refine r_istore (lo2 := [(5, wi t0_21), (0, .ref (ad 0)), (1, .ref (ad 6)), (2, .ref (ad 8)), (3, wi a3), (4, wi a4)]) dL_sets_21 (by decide) rfl ?_
    refine ro_iconst (v := 0) dL_sets_23 rfl ?_
    refine r_istore (lo2 := [(6, wi 0), (5, wi t0_21), (0, .ref (ad 0)), (1, .ref (ad 6)), (2, .ref (ad 8)), (3, wi a3), (4, wi a4)]) dL_sets_24 (by decide) rfl ?_
    refine r_loop (P := fun (J : Int → Rw → Option (Unit × Rw)) => ∀ (v6_26 : Int) (E_26 : Rw), RunO l Γ k_L_sets 1 encV (emW ad K0) 26 [(0, .ref (ad 0)), (1, .ref (ad 6)), (2, .ref (ad 8)), (3, wi a3), (4, wi a4), (5, wi t0_21), (6, wi v6_26)] [] E_26 (J v6_26 E_26)) ?_ (fun L26 hL26 => ?_) (fun J26 hJ26 => ?_)
    · intros; exact ro_none
    · intro v6_26 E_26
      refine r_iload (x := v6_26) dL_sets_26 rfl ?_
      refine r_bipush (v := 8) dL_sets_28 rfl ?_
      refine r_icmp_ge (tgt := 70) dL_sets_30 (by decide) ?_ ?_
      · refine r_aload_n (x := ad 6) dL_sets_70 rfl rfl ?_
        refine r_bipush (v := 7) dL_sets_71 rfl ?_
        refine r_iload_n (x := a3) dL_sets_73 rfl rfl ?_
        refine r_imul dL_sets_74 ?_
        refine ro_iconst (v := 4) dL_sets_75 rfl ?_
        refine r_iadd dL_sets_76 ?_
        refine r_iload (x := a4) dL_sets_77 rfl ?_
        refine r_wiast h (by decide) (hm 6 (by decide)) dL_sets_79 (fun E1 => ?_)
        exact r_vret rfl dL_sets_80
      · refine r_iload (x := t0_21) dL_sets_33 rfl ?_
        refine r_iload (x := v6_26) dL_sets_35 rfl ?_
        refine r_ishr dL_sets_37 ?_
        refine ro_iconst (v := 1) dL_sets_38 rfl ?_
        refine r_iand dL_sets_39 ?_
        refine r_iload (x := a4) dL_sets_40 rfl ?_
        refine r_iload (x := v6_26) dL_sets_42 rfl ?_
        refine r_ishr dL_sets_44 ?_
        refine ro_iconst (v := 1) dL_sets_45 rfl ?_
        refine r_iand dL_sets_46 ?_
        refine r_join (P := fun (J : Rw → Option (Unit × Rw)) => ∀ (E_64 : Rw), RunO l Γ k_L_sets 1 encV (emW ad K0) 64 [(0, .ref (ad 0)), (1, .ref (ad 6)), (2, .ref (ad 8)), (3, wi a3), (4, wi a4), (5, wi t0_21), (6, wi v6_26)] [] E_64 (J E_64)) ?_ (fun J64 hJ64 => ?_)
        · intro E_64
          refine r_iinc (x := v6_26) (lo2 := [(6, wi (v6_26 + 1)), (0, .ref (ad 0)), (1, .ref (ad 6)), (2, .ref (ad 8)), (3, wi a3), (4, wi a4), (5, wi t0_21)]) dL_sets_64 rfl (by decide) rfl ?_
          refine r_goto (tgt := 26) dL_sets_67 (by decide) ?_
          refine r_lo [1, 2, 3, 4, 5, 6, 0] (lo2 := [(0, .ref (ad 0)), (1, .ref (ad 6)), (2, .ref (ad 8)), (3, wi a3), (4, wi a4), (5, wi t0_21), (6, wi (v6_26 + 1))]) rfl ?_
          exact hL26 (v6_26 + 1) E_64
        refine r_icmp_eq (tgt := 64) dL_sets_47 (by decide) ?_ ?_
        · exact hJ64 E_26
        · refine r_aload_n (x := ad 0) dL_sets_50 rfl rfl ?_
          refine ro_iconst (v := 3) dL_sets_51 rfl ?_
          refine r_dup2 dL_sets_52 rfl rfl ?_
          refine r_wiald h (by decide) (hm 0 (by decide)) dL_sets_53 ?_
          refine ro_iconst (v := 1) dL_sets_54 rfl ?_
          refine r_iadd dL_sets_55 ?_
          refine r_wiast h (by decide) (hm 0 (by decide)) dL_sets_56 (fun E2 => ?_)
          refine r_aload_n (x := ad 8) dL_sets_57 rfl rfl ?_
          refine r_iload (x := v6_26) dL_sets_58 rfl ?_
          refine r_aload_n (x := ad 0) dL_sets_60 rfl rfl ?_
          refine ro_iconst (v := 3) dL_sets_61 rfl ?_
          refine r_wiald h (by decide) (hm 0 (by decide)) dL_sets_62 ?_
          refine r_wiast h (by decide) (hm 8 (by decide)) dL_sets_63 (fun E3 => ?_)
          exact hJ64 E3
    refine r_lo [2, 3, 4, 5, 6, 1, 0] (lo2 := [(0, .ref (ad 0)), (1, .ref (ad 6)), (2, .ref (ad 8)), (3, wi a3), (4, wi a4), (5, wi t0_21), (6, wi 0)]) rfl ?_
    exact hJ26 0 E_21
  refine r_if_le (tgt := 20) dL_sets_6 (by decide) ?_ ?_
  · refine ro_iconst (v := 0) dL_sets_20 rfl ?_
    exact hJ21 0 E
  · refine r_aload_n (x := ad 6) dL_sets_9 rfl rfl ?_
    refine r_bipush (v := 7) dL_sets_10 rfl ?_
    refine r_iload_n (x := a3) dL_sets_12 rfl rfl ?_
    refine r_imul dL_sets_13 ?_
    refine ro_iconst (v := 4) dL_sets_14 rfl ?_
    refine r_iadd dL_sets_15 ?_
    refine r_wiald h (by decide) (hm 6 (by decide)) dL_sets_16 ?_
    refine r_goto (tgt := 21) dL_sets_17 (by decide) ?_
    exact hJ21 (E 6 (ix ((7 * a3) + 4))) E
def k_L_settles : Kd := (yL_settles, cL_settles, 7, none, [])
theorem kv_L_settles : KS k_L_settles 5 := ⟨uw_mem 776 (by decide +kernel) rfl, uw_mem 93 (by decide +kernel) rfl, uw_mem 775 (by decide +kernel) rfl, ⟨by decide +kernel, by decide +kernel⟩, by decide +kernel, by decide +kernel⟩
set_option maxHeartbeats 8000000 in
set_option maxRecDepth 100000 in
theorem c_L_settles {l : Launch} {Γ : Cx} {ad : Nat → Nat} {K0 : Cd} (h : wOn Γ) (hm : ∀ k, k ≤ 10 → ad k ≠ 0) (E : Rw) : Ct l Γ k_L_settles 2 encV (emW ad K0) [.ref (ad 0), .ref (ad 1), .ref (ad 2), .ref (ad 4), .ref (ad 5)] E (fW_settles E) := by
  refine ct_of (by decide +kernel) rfl (Nat.le_of_ble_eq_true rfl) ?_
  refine r_lo [0, 1, 2, 3, 4] (lo2 := [(0, .ref (ad 0)), (1, .ref (ad 1)), (2, .ref (ad 2)), (3, .ref (ad 4)), (4, .ref (ad 5))]) rfl ?_
  unfold fW_settles
  refine ro_iconst (v := 0) dL_settles_0 rfl ?_
  refine r_istore (lo2 := [(5, wi 0), (0, .ref (ad 0)), (1, .ref (ad 1)), (2, .ref (ad 2)), (3, .ref (ad 4)), (4, .ref (ad 5))]) dL_settles_1 (by decide) rfl ?_
  refine r_loop (P := fun (J : Int → Rw → Option (Unit × Rw)) => ∀ (v5_3 : Int) (E_3 : Rw), RunO l Γ k_L_settles 2 encV (emW ad K0) 3 [(0, .ref (ad 0)), (1, .ref (ad 1)), (2, .ref (ad 2)), (3, .ref (ad 4)), (4, .ref (ad 5)), (5, wi v5_3)] [] E_3 (J v5_3 E_3)) ?_ (fun L3 hL3 => ?_) (fun J3 hJ3 => ?_)
  · intros; exact ro_none
  · intro v5_3 E_3
    refine r_iload (x := v5_3) dL_settles_3 rfl ?_
    refine r_bipush (v := 8) dL_settles_5 rfl ?_
    refine r_icmp_ge (tgt := 59) dL_settles_7 (by decide) ?_ ?_
    · exact r_vret rfl dL_settles_59
    · refine r_aload_n (x := ad 0) dL_settles_10 rfl rfl ?_
      refine r_aload_n (x := ad 1) dL_settles_11 rfl rfl ?_
      refine r_aload_n (x := ad 2) dL_settles_12 rfl rfl ?_
      refine r_iload (x := v5_3) dL_settles_13 rfl ?_
      refine r_csi (J := fun (E_ : Rw) => E_) (k2 := k_L_present) (n := 4) (rest := []) (fun _ => rfl) rfl kv_L_present (c_L_present h hm v5_3 _) (by decide) um_L_15 rfl (Nat.le_of_ble_eq_true rfl) dL_settles_15 rfl (fun r1 E2 => ?_)
      show RunO l Γ k_L_settles 2 encV (emW ad K0) 18 [(0, .ref (ad 0)), (1, .ref (ad 1)), (2, .ref (ad 2)), (3, .ref (ad 4)), (4, .ref (ad 5)), (5, wi v5_3)] [wi r1] E2 _
      refine ro_iconst (v := 1) dL_settles_18 rfl ?_
      refine r_iadd dL_settles_19 ?_
      refine r_nm (fun x6_20 => ?_)
      refine r_istore (lo2 := [(6, wi x6_20), (0, .ref (ad 0)), (1, .ref (ad 1)), (2, .ref (ad 2)), (3, .ref (ad 4)), (4, .ref (ad 5)), (5, wi v5_3)]) dL_settles_20 (by decide) rfl ?_
      refine r_iload (x := x6_20) dL_settles_22 rfl ?_
      refine r_aload (x := ad 5) dL_settles_24 rfl ?_
      refine r_iload (x := v5_3) dL_settles_26 rfl ?_
      refine r_wiald h (by decide) (hm 5 (by decide)) dL_settles_28 ?_
      refine r_join (P := fun (J : Rw → Option (Unit × Rw)) => ∀ (E_53 : Rw), RunO l Γ k_L_settles 2 encV (emW ad K0) 53 [(0, .ref (ad 0)), (1, .ref (ad 1)), (2, .ref (ad 2)), (3, .ref (ad 4)), (4, .ref (ad 5)), (5, wi v5_3)] [] E_53 (J E_53)) ?_ (fun J53 hJ53 => ?_)
      · intro E_53
        refine r_iinc (x := v5_3) (lo2 := [(5, wi (v5_3 + 1)), (0, .ref (ad 0)), (1, .ref (ad 1)), (2, .ref (ad 2)), (3, .ref (ad 4)), (4, .ref (ad 5))]) dL_settles_53 rfl (by decide) rfl ?_
        refine r_goto (tgt := 3) dL_settles_56 (by decide) ?_
        refine r_lo [1, 2, 3, 4, 5, 0] (lo2 := [(0, .ref (ad 0)), (1, .ref (ad 1)), (2, .ref (ad 2)), (3, .ref (ad 4)), (4, .ref (ad 5)), (5, wi (v5_3 + 1))]) rfl ?_
        exact hL3 (v5_3 + 1) E_53
      refine r_icmp_eq (tgt := 53) dL_settles_29 (by decide) ?_ ?_
      · refine r_lo [1, 2, 3, 4, 5, 6] (lo2 := [(0, .ref (ad 0)), (1, .ref (ad 1)), (2, .ref (ad 2)), (3, .ref (ad 4)), (4, .ref (ad 5)), (5, wi v5_3)]) rfl ?_
        exact hJ53 E2
      · refine r_aload_n (x := ad 0) dL_settles_32 rfl rfl ?_
        refine ro_iconst (v := 3) dL_settles_33 rfl ?_
        refine r_dup2 dL_settles_34 rfl rfl ?_
        refine r_wiald h (by decide) (hm 0 (by decide)) dL_settles_35 ?_
        refine ro_iconst (v := 1) dL_settles_36 rfl ?_
        refine r_iadd dL_settles_37 ?_
        refine r_wiast h (by decide) (hm 0 (by decide)) dL_settles_38 (fun E3 => ?_)
        refine r_aload_n (x := ad 4) dL_settles_39 rfl rfl ?_
        refine r_iload (x := v5_3) dL_settles_40 rfl ?_
        refine r_aload_n (x := ad 0) dL_settles_42 rfl rfl ?_
        refine ro_iconst (v := 3) dL_settles_43 rfl ?_
        refine r_wiald h (by decide) (hm 0 (by decide)) dL_settles_44 ?_
        refine r_wiast h (by decide) (hm 4 (by decide)) dL_settles_45 (fun E4 => ?_)
        refine r_aload (x := ad 5) dL_settles_46 rfl ?_
        refine r_iload (x := v5_3) dL_settles_48 rfl ?_
        refine r_iload (x := x6_20) dL_settles_50 rfl ?_
        refine r_wiast h (by decide) (hm 5 (by decide)) dL_settles_52 (fun E5 => ?_)
        refine r_lo [1, 2, 3, 4, 5, 6] (lo2 := [(0, .ref (ad 0)), (1, .ref (ad 1)), (2, .ref (ad 2)), (3, .ref (ad 4)), (4, .ref (ad 5)), (5, wi v5_3)]) rfl ?_
        exact hJ53 E5
  refine r_lo [1, 2, 3, 4, 5, 0] (lo2 := [(0, .ref (ad 0)), (1, .ref (ad 1)), (2, .ref (ad 2)), (3, .ref (ad 4)), (4, .ref (ad 5)), (5, wi 0)]) rfl ?_
  exact hJ3 0 E
def k_L_isMoved : Kd := (yL_isMoved, cL_isMoved, 22, some .boolean, [])
theorem kv_L_isMoved : KS k_L_isMoved 10 := ⟨uw_mem 1551 (by decide +kernel) rfl, uw_mem 93 (by decide +kernel) rfl, uw_mem 1550 (by decide +kernel) rfl, ⟨by decide +kernel, by decide +kernel⟩, by decide +kernel, by decide +kernel⟩
set_option maxHeartbeats 8000000 in
set_option maxRecDepth 100000 in
theorem b_L_isMoved_437 {l : Launch} {Γ : Cx} {ma : Nat → Nat} (h : wOn Γ) (hm : ∀ k, k ≤ 10 → ma k ≠ 0) (hG : GK Γ l) (hX : XN Γ) : ∀ (t0_437 : Int) (E_437 : Rw) (C_437 : Cd) (q_437 : (Nat → Nat)), RunO l Γ k_L_isMoved 14 encI (em3 ma) 437 [] [wi t0_437] (E_437, C_437, q_437) (fW_isMoved_437 t0_437 E_437 C_437 q_437) := by
  intro t0_437 E_437 C_437 q_437
  unfold fW_isMoved_437
  exact r_zret rfl dL_isMoved_437
set_option maxHeartbeats 8000000 in
set_option maxRecDepth 100000 in
theorem b_L_isMoved_429 {l : Launch} {Γ : Cx} {ma : Nat → Nat} (h : wOn Γ) (hm : ∀ k, k ≤ 10 → ma k ≠ 0) (hG : GK Γ l) (hX : XN Γ) (r3 : Int) : ∀ (t0_429 : Int) (E_429 : Rw) (C_429 : Cd) (q_429 : (Nat → Nat)), RunO l Γ k_L_isMoved 14 encI (em3 ma) 429 [] [wi t0_429, wi r3] (E_429, C_429, q_429) (fW_isMoved_429 r3 t0_429 E_429 C_429 q_429) := by
  intro t0_429 E_429 C_429 q_429
  unfold fW_isMoved_429
  refine r_join (P := fun (J : Int → Rw → Cd → (Nat → Nat) → Option (Int × S3)) => ∀ (t0_437 : Int) (E_437 : Rw) (C_437 : Cd) (q_437 : (Nat → Nat)), RunO l Γ k_L_isMoved 14 encI (em3 ma) 437 [] [wi t0_437] (E_437, C_437, q_437) (J t0_437 E_437 C_437 q_437)) ?_ (fun J437 hJ437 => ?_)
  · exact b_L_isMoved_437 h hm hG hX
  refine r_icmp_ne (tgt := 436) dL_isMoved_429 (by decide) ?_ ?_
  · refine ro_iconst (v := 0) dL_isMoved_436 rfl ?_
    exact hJ437 0 E_429 C_429 q_429
  · refine ro_iconst (v := 1) dL_isMoved_432 rfl ?_
    refine r_goto (tgt := 437) dL_isMoved_433 (by decide) ?_
    exact hJ437 1 E_429 C_429 q_429
set_option maxHeartbeats 8000000 in
set_option maxRecDepth 100000 in
theorem b_L_isMoved_405 {l : Launch} {Γ : Cx} {ma : Nat → Nat} (h : wOn Γ) (hm : ∀ k, k ≤ 10 → ma k ≠ 0) (hG : GK Γ l) (hX : XN Γ) (a0 : Nat) (a9 : Int) (t0_88 : Int) (v13_186 : Int) : ∀ (E_405 : Rw) (C_405 : Cd) (q_405 : (Nat → Nat)), RunO l Γ k_L_isMoved 14 encI (em3 ma) 405 [(0, .ref a0), (9, wi a9), (12, wi t0_88), (13, wi v13_186)] [] (E_405, C_405, q_405) (fW_isMoved_405 a0 a9 t0_88 v13_186 E_405 C_405 q_405) := by
  intro E_405 C_405 q_405
  unfold fW_isMoved_405
  refine r_aload_n (x := a0) dL_isMoved_405 rfl rfl ?_
  refine ro_iconst (v := 5) dL_isMoved_406 rfl ?_
  refine r_iload (x := a9) dL_isMoved_407 rfl ?_
  refine ro_iconst (v := 1) dL_isMoved_409 rfl ?_
  refine r_iload (x := a9) dL_isMoved_410 rfl ?_
  refine r_isub dL_isMoved_412 ?_
  refine ro_iconst (v := 0) dL_isMoved_413 rfl ?_
  refine r_csHi (J := fun (C_ : Cd) => (E_405, C_, q_405)) (k2 := k_L_does) (n := 5) (rest := []) (fun _ => rfl) kv_L_does (c_L_does (M0 := (fun k => (adq ma q_405 k : Int), E_405)) hG hX a0 5 a9 (1 - a9) 0 _) (by decide) um_L_132 rfl (Nat.le_of_ble_eq_true rfl) dL_isMoved_414 rfl (fun r3 C4 => ?_)
  show RunO l Γ k_L_isMoved 14 encI (em3 ma) 417 [(0, .ref a0), (9, wi a9), (12, wi t0_88), (13, wi v13_186)] [wi r3] (E_405, C4, q_405) _
  refine r_iload (x := t0_88) dL_isMoved_417 rfl ?_
  refine r_join (P := fun (J : Int → Rw → Cd → (Nat → Nat) → Option (Int × S3)) => ∀ (t0_429 : Int) (E_429 : Rw) (C_429 : Cd) (q_429 : (Nat → Nat)), RunO l Γ k_L_isMoved 14 encI (em3 ma) 429 [] [wi t0_429, wi r3] (E_429, C_429, q_429) (J t0_429 E_429 C_429 q_429)) ?_ (fun J429 hJ429 => ?_)
  · exact b_L_isMoved_429 h hm hG hX r3
  refine r_if_eq (tgt := 427) dL_isMoved_419 (by decide) ?_ ?_
  · refine r_bipush (v := (-13)) dL_isMoved_427 rfl ?_
    refine r_lo [] (lo2 := []) rfl ?_
    exact hJ429 (-13) E_405 C4 q_405
  · refine r_iload (x := v13_186) dL_isMoved_422 rfl ?_
    refine r_goto (tgt := 429) dL_isMoved_424 (by decide) ?_
    refine r_lo [] (lo2 := []) rfl ?_
    exact hJ429 v13_186 E_405 C4 q_405
set_option maxHeartbeats 8000000 in
set_option maxRecDepth 100000 in
theorem b_L_isMoved_399 {l : Launch} {Γ : Cx} {ma : Nat → Nat} (h : wOn Γ) (hm : ∀ k, k ≤ 10 → ma k ≠ 0) (hG : GK Γ l) (hX : XN Γ) (a0 : Nat) (a9 : Int) (v10_9 : Int) (t0_88 : Int) (v14_186 : Int) (L186 : Int → Int → Rw → Cd → (Nat → Nat) → Option (Int × S3)) (hL186 : ∀ (v13_186 : Int) (v14_186 : Int) (E_186 : Rw) (C_186 : Cd) (q_186 : (Nat → Nat)), RunO l Γ k_L_isMoved 14 encI (em3 ma) 186 [(0, .ref a0), (1, .ref (ma 0)), (2, .ref (ma 1)), (3, .ref (ma 2)), (4, .ref (ma 3)), (9, wi a9), (10, wi v10_9), (12, wi t0_88), (13, wi v13_186), (14, wi v14_186)] [] (E_186, C_186, q_186) (L186 v13_186 v14_186 E_186 C_186 q_186)) : ∀ (v13_399 : Int) (E_399 : Rw) (C_399 : Cd) (q_399 : (Nat → Nat)), RunO l Γ k_L_isMoved 14 encI (em3 ma) 399 [(0, .ref a0), (1, .ref (ma 0)), (2, .ref (ma 1)), (3, .ref (ma 2)), (4, .ref (ma 3)), (9, wi a9), (10, wi v10_9), (12, wi t0_88), (13, wi v13_399), (14, wi v14_186)] [] (E_399, C_399, q_399) (fW_isMoved_399 L186 v14_186 v13_399 E_399 C_399 q_399) := by
  intro v13_399 E_399 C_399 q_399
  unfold fW_isMoved_399
  refine r_iinc (x := v14_186) (lo2 := [(14, wi (v14_186 + 1)), (0, .ref a0), (1, .ref (ma 0)), (2, .ref (ma 1)), (3, .ref (ma 2)), (4, .ref (ma 3)), (9, wi a9), (10, wi v10_9), (12, wi t0_88), (13, wi v13_399)]) dL_isMoved_399 rfl (by decide) rfl ?_
  refine r_goto (tgt := 186) dL_isMoved_402 (by decide) ?_
  refine r_lo [1, 2, 3, 4, 5, 6, 7, 8, 9, 0] (lo2 := [(0, .ref a0), (1, .ref (ma 0)), (2, .ref (ma 1)), (3, .ref (ma 2)), (4, .ref (ma 3)), (9, wi a9), (10, wi v10_9), (12, wi t0_88), (13, wi v13_399), (14, wi (v14_186 + 1))]) rfl ?_
  exact hL186 v13_399 (v14_186 + 1) E_399 C_399 q_399
set_option maxHeartbeats 8000000 in
set_option maxRecDepth 100000 in
theorem b_L_isMoved_353 {l : Launch} {Γ : Cx} {ma : Nat → Nat} (h : wOn Γ) (hm : ∀ k, k ≤ 10 → ma k ≠ 0) (hG : GK Γ l) (hX : XN Γ) (a0 : Nat) (a9 : Int) (v10_9 : Int) (t0_88 : Int) (v13_186 : Int) (v14_186 : Int) (r5 : Int) (v16_214 : Int) (L186 : Int → Int → Rw → Cd → (Nat → Nat) → Option (Int × S3)) (hL186 : ∀ (v13_186 : Int) (v14_186 : Int) (E_186 : Rw) (C_186 : Cd) (q_186 : (Nat → Nat)), RunO l Γ k_L_isMoved 14 encI (em3 ma) 186 [(0, .ref a0), (1, .ref (ma 0)), (2, .ref (ma 1)), (3, .ref (ma 2)), (4, .ref (ma 3)), (9, wi a9), (10, wi v10_9), (12, wi t0_88), (13, wi v13_186), (14, wi v14_186)] [] (E_186, C_186, q_186) (L186 v13_186 v14_186 E_186 C_186 q_186)) : ∀ (E_353 : Rw) (C_353 : Cd) (q_353 : (Nat → Nat)), RunO l Γ k_L_isMoved 14 encI (em3 ma) 353 [(0, .ref a0), (1, .ref (ma 0)), (2, .ref (ma 1)), (3, .ref (ma 2)), (4, .ref (ma 3)), (9, wi a9), (10, wi v10_9), (12, wi t0_88), (13, wi v13_186), (14, wi v14_186), (15, wi r5), (16, vl v16_214)] [] (E_353, C_353, q_353) (fW_isMoved_353 L186 v13_186 v14_186 r5 v16_214 E_353 C_353 q_353) := by
  intro E_353 C_353 q_353
  unfold fW_isMoved_353
  refine r_iload (x := r5) dL_isMoved_353 rfl ?_
  refine r_join (P := fun (J : Int → Rw → Cd → (Nat → Nat) → Option (Int × S3)) => ∀ (v13_399 : Int) (E_399 : Rw) (C_399 : Cd) (q_399 : (Nat → Nat)), RunO l Γ k_L_isMoved 14 encI (em3 ma) 399 [(0, .ref a0), (1, .ref (ma 0)), (2, .ref (ma 1)), (3, .ref (ma 2)), (4, .ref (ma 3)), (9, wi a9), (10, wi v10_9), (12, wi t0_88), (13, wi v13_399), (14, wi v14_186)] [] (E_399, C_399, q_399) (J v13_399 E_399 C_399 q_399)) ?_ (fun J399 hJ399 => ?_)
  · exact b_L_isMoved_399 h hm hG hX a0 a9 v10_9 t0_88 v14_186 L186 hL186
  refine r_if_lt (tgt := 399) dL_isMoved_355 (by decide) ?_ ?_
  · refine r_lo [0, 1, 2, 3, 4, 5, 6, 7, 8, 9] (lo2 := [(0, .ref a0), (1, .ref (ma 0)), (2, .ref (ma 1)), (3, .ref (ma 2)), (4, .ref (ma 3)), (9, wi a9), (10, wi v10_9), (12, wi t0_88), (13, wi v13_186), (14, wi v14_186)]) rfl ?_
    exact hJ399 v13_186 E_353 C_353 q_353
  · refine r_lload (x := v16_214) dL_isMoved_358 rfl ?_
    refine r_aload (x := ma 3) dL_isMoved_360 rfl ?_
    refine r_iload (x := r5) dL_isMoved_362 rfl ?_
    refine r_wlald3 h (by decide) (by decide) (hm 3 (by decide)) dL_isMoved_364 ?_
    refine r_lcmp dL_isMoved_365 ?_
    refine r_if_eq (tgt := 399) dL_isMoved_366 (by decide) ?_ ?_
    · refine r_lo [0, 1, 2, 3, 4, 5, 6, 7, 8, 9] (lo2 := [(0, .ref a0), (1, .ref (ma 0)), (2, .ref (ma 1)), (3, .ref (ma 2)), (4, .ref (ma 3)), (9, wi a9), (10, wi v10_9), (12, wi t0_88), (13, wi v13_186), (14, wi v14_186)]) rfl ?_
      exact hJ399 v13_186 E_353 C_353 q_353
    · refine r_aload_n (x := ma 0) dL_isMoved_369 rfl rfl ?_
      refine ro_iconst (v := 2) dL_isMoved_370 rfl ?_
      refine r_dup2 dL_isMoved_371 rfl rfl ?_
      refine r_wiald3 h (by decide) (by decide) (hm 0 (by decide)) dL_isMoved_372 ?_
      refine ro_iconst (v := 1) dL_isMoved_373 rfl ?_
      refine r_iadd dL_isMoved_374 ?_
      refine r_wiast3 h (by decide) (by decide) (hm 0 (by decide)) dL_isMoved_375 (fun E7 => ?_)
      refine r_aload_n (x := ma 0) dL_isMoved_376 rfl rfl ?_
      refine r_aload_n (x := ma 2) dL_isMoved_377 rfl rfl ?_
      refine r_aload (x := ma 3) dL_isMoved_378 rfl ?_
      refine r_aload_n (x := ma 1) dL_isMoved_380 rfl rfl ?_
      refine r_iload (x := v14_186) dL_isMoved_381 rfl ?_
      refine r_wiald3 h (by decide) (by decide) (hm 1 (by decide)) dL_isMoved_383 ?_
      refine ro_iconst (v := 1) dL_isMoved_384 rfl ?_
      refine r_isub dL_isMoved_385 ?_
      refine r_aload_n (x := ma 0) dL_isMoved_386 rfl rfl ?_
      refine ro_iconst (v := 2) dL_isMoved_387 rfl ?_
      refine r_wiald3 h (by decide) (by decide) (hm 0 (by decide)) dL_isMoved_388 ?_
      refine r_lload (x := v16_214) dL_isMoved_389 rfl ?_
      refine r_csi (J := fun (E_ : Rw) => (E_, C_353, q_353)) (k2 := k_L_adds) (n := 6) (rest := []) (fun _ => rfl) rfl kv_L_adds (c_L_adds (ad := adq ma q_353) (K0 := C_353) h (adq_hm hm) ((E7 1 (ix v14_186)) - 1) (E7 0 (ix 2)) v16_214 _) (by decide) um_L_194 rfl (Nat.le_of_ble_eq_true rfl) dL_isMoved_391 rfl (fun r8 E9 => ?_)
      show RunO l Γ k_L_isMoved 14 encI (em3 ma) 394 [(0, .ref a0), (1, .ref (ma 0)), (2, .ref (ma 1)), (3, .ref (ma 2)), (4, .ref (ma 3)), (9, wi a9), (10, wi v10_9), (12, wi t0_88), (13, wi v13_186), (14, wi v14_186), (15, wi r5), (16, vl v16_214)] [wi r8] (E9, C_353, q_353) _
      refine r_istore (lo2 := [(18, wi r8), (0, .ref a0), (1, .ref (ma 0)), (2, .ref (ma 1)), (3, .ref (ma 2)), (4, .ref (ma 3)), (9, wi a9), (10, wi v10_9), (12, wi t0_88), (13, wi v13_186), (14, wi v14_186), (15, wi r5), (16, vl v16_214)]) dL_isMoved_394 (by decide) rfl ?_
      refine r_iinc (x := v13_186) (lo2 := [(13, wi (v13_186 + 1)), (18, wi r8), (0, .ref a0), (1, .ref (ma 0)), (2, .ref (ma 1)), (3, .ref (ma 2)), (4, .ref (ma 3)), (9, wi a9), (10, wi v10_9), (12, wi t0_88), (14, wi v14_186), (15, wi r5), (16, vl v16_214)]) dL_isMoved_396 rfl (by decide) rfl ?_
      refine r_lo [2, 3, 4, 5, 6, 7, 8, 9, 0, 10] (lo2 := [(0, .ref a0), (1, .ref (ma 0)), (2, .ref (ma 1)), (3, .ref (ma 2)), (4, .ref (ma 3)), (9, wi a9), (10, wi v10_9), (12, wi t0_88), (13, wi (v13_186 + 1)), (14, wi v14_186)]) rfl ?_
      exact hJ399 (v13_186 + 1) E9 C_353 q_353
set_option maxHeartbeats 8000000 in
set_option maxRecDepth 100000 in
theorem b_L_isMoved_342 {l : Launch} {Γ : Cx} {ma : Nat → Nat} (h : wOn Γ) (hm : ∀ k, k ≤ 10 → ma k ≠ 0) (hG : GK Γ l) (hX : XN Γ) (a0 : Nat) (a9 : Int) (v10_9 : Int) (t0_88 : Int) (v13_186 : Int) (v14_186 : Int) (r5 : Int) (v16_214 : Int) (v18_214 : Int) (r11 : Int) (L214 : Int → Int → Rw → Cd → (Nat → Nat) → Option (Int × S3)) (hL214 : ∀ (v16_214 : Int) (v18_214 : Int) (E_214 : Rw) (C_214 : Cd) (q_214 : (Nat → Nat)), RunO l Γ k_L_isMoved 14 encI (em3 ma) 214 [(0, .ref a0), (1, .ref (ma 0)), (2, .ref (ma 1)), (3, .ref (ma 2)), (4, .ref (ma 3)), (9, wi a9), (10, wi v10_9), (12, wi t0_88), (13, wi v13_186), (14, wi v14_186), (15, wi r5), (16, vl v16_214), (18, wi v18_214)] [] (E_214, C_214, q_214) (L214 v16_214 v18_214 E_214 C_214 q_214)) : ∀ (t0_342 : Int) (E_342 : Rw) (C_342 : Cd) (q_342 : (Nat → Nat)), RunO l Γ k_L_isMoved 14 encI (em3 ma) 342 [(0, .ref a0), (1, .ref (ma 0)), (2, .ref (ma 1)), (3, .ref (ma 2)), (4, .ref (ma 3)), (9, wi a9), (10, wi v10_9), (12, wi t0_88), (13, wi v13_186), (14, wi v14_186), (15, wi r5), (18, wi v18_214)] [wi t0_342, wi r11, vl (lshlI v16_214 10)] (E_342, C_342, q_342) (fW_isMoved_342 L214 v16_214 v18_214 r11 t0_342 E_342 C_342 q_342) := by
  intro t0_342 E_342 C_342 q_342
  unfold fW_isMoved_342
  refine r_iadd dL_isMoved_342 ?_
  refine r_i2l dL_isMoved_343 ?_
  refine r_lor dL_isMoved_344 ?_
  refine r_nml (fun x16_345 => ?_)
  refine r_lstore (lo2 := [(16, vl x16_345), (0, .ref a0), (1, .ref (ma 0)), (2, .ref (ma 1)), (3, .ref (ma 2)), (4, .ref (ma 3)), (9, wi a9), (10, wi v10_9), (12, wi t0_88), (13, wi v13_186), (14, wi v14_186), (15, wi r5), (18, wi v18_214)]) dL_isMoved_345 (by decide) rfl ?_
  refine r_iinc (x := v18_214) (lo2 := [(18, wi (v18_214 + 1)), (16, vl x16_345), (0, .ref a0), (1, .ref (ma 0)), (2, .ref (ma 1)), (3, .ref (ma 2)), (4, .ref (ma 3)), (9, wi a9), (10, wi v10_9), (12, wi t0_88), (13, wi v13_186), (14, wi v14_186), (15, wi r5)]) dL_isMoved_347 rfl (by decide) rfl ?_
  refine r_goto (tgt := 214) dL_isMoved_350 (by decide) ?_
  refine r_lo [2, 3, 4, 5, 6, 7, 8, 9, 10, 11, 12, 1, 0] (lo2 := [(0, .ref a0), (1, .ref (ma 0)), (2, .ref (ma 1)), (3, .ref (ma 2)), (4, .ref (ma 3)), (9, wi a9), (10, wi v10_9), (12, wi t0_88), (13, wi v13_186), (14, wi v14_186), (15, wi r5), (16, vl x16_345), (18, wi (v18_214 + 1))]) rfl ?_
  exact hL214 x16_345 (v18_214 + 1) E_342 C_342 q_342
set_option maxHeartbeats 8000000 in
set_option maxRecDepth 100000 in
theorem b_L_isMoved_315 {l : Launch} {Γ : Cx} {ma : Nat → Nat} (h : wOn Γ) (hm : ∀ k, k ≤ 10 → ma k ≠ 0) (hG : GK Γ l) (hX : XN Γ) (a0 : Nat) (a9 : Int) (v10_9 : Int) (t0_88 : Int) (v13_186 : Int) (v14_186 : Int) (r5 : Int) (v16_214 : Int) (v18_214 : Int) (r11 : Int) (L214 : Int → Int → Rw → Cd → (Nat → Nat) → Option (Int × S3)) (hL214 : ∀ (v16_214 : Int) (v18_214 : Int) (E_214 : Rw) (C_214 : Cd) (q_214 : (Nat → Nat)), RunO l Γ k_L_isMoved 14 encI (em3 ma) 214 [(0, .ref a0), (1, .ref (ma 0)), (2, .ref (ma 1)), (3, .ref (ma 2)), (4, .ref (ma 3)), (9, wi a9), (10, wi v10_9), (12, wi t0_88), (13, wi v13_186), (14, wi v14_186), (15, wi r5), (16, vl v16_214), (18, wi v18_214)] [] (E_214, C_214, q_214) (L214 v16_214 v18_214 E_214 C_214 q_214)) : ∀ (t0_315 : Int) (E_315 : Rw) (C_315 : Cd) (q_315 : (Nat → Nat)), RunO l Γ k_L_isMoved 14 encI (em3 ma) 315 [(0, .ref a0), (1, .ref (ma 0)), (2, .ref (ma 1)), (3, .ref (ma 2)), (4, .ref (ma 3)), (9, wi a9), (10, wi v10_9), (12, wi t0_88), (13, wi v13_186), (14, wi v14_186), (15, wi r5), (16, vl v16_214), (18, wi v18_214), (19, wi r11)] [wi t0_315] (E_315, C_315, q_315) (fW_isMoved_315 a9 L214 v16_214 v18_214 r11 t0_315 E_315 C_315 q_315) := by
  intro t0_315 E_315 C_315 q_315
  unfold fW_isMoved_315
  refine r_istore (lo2 := [(21, wi t0_315), (0, .ref a0), (1, .ref (ma 0)), (2, .ref (ma 1)), (3, .ref (ma 2)), (4, .ref (ma 3)), (9, wi a9), (10, wi v10_9), (12, wi t0_88), (13, wi v13_186), (14, wi v14_186), (15, wi r5), (16, vl v16_214), (18, wi v18_214), (19, wi r11)]) dL_isMoved_315 (by decide) rfl ?_
  refine r_lload (x := v16_214) dL_isMoved_317 rfl ?_
  refine r_bipush (v := 10) dL_isMoved_319 rfl ?_
  refine r_lshl dL_isMoved_321 ?_
  refine r_iload (x := r11) dL_isMoved_322 rfl ?_
  refine r_iload (x := t0_315) dL_isMoved_324 rfl ?_
  refine r_join (P := fun (J : Int → Rw → Cd → (Nat → Nat) → Option (Int × S3)) => ∀ (t0_342 : Int) (E_342 : Rw) (C_342 : Cd) (q_342 : (Nat → Nat)), RunO l Γ k_L_isMoved 14 encI (em3 ma) 342 [(0, .ref a0), (1, .ref (ma 0)), (2, .ref (ma 1)), (3, .ref (ma 2)), (4, .ref (ma 3)), (9, wi a9), (10, wi v10_9), (12, wi t0_88), (13, wi v13_186), (14, wi v14_186), (15, wi r5), (18, wi v18_214)] [wi t0_342, wi r11, vl (lshlI v16_214 10)] (E_342, C_342, q_342) (J t0_342 E_342 C_342 q_342)) ?_ (fun J342 hJ342 => ?_)
  · exact b_L_isMoved_342 h hm hG hX a0 a9 v10_9 t0_88 v13_186 v14_186 r5 v16_214 v18_214 r11 L214 hL214
  refine r_if_eq (tgt := 341) dL_isMoved_326 (by decide) ?_ ?_
  · refine ro_iconst (v := 0) dL_isMoved_341 rfl ?_
    refine r_lo [1, 2, 3, 4, 5, 6, 7, 8, 9, 10, 11, 13] (lo2 := [(0, .ref a0), (1, .ref (ma 0)), (2, .ref (ma 1)), (3, .ref (ma 2)), (4, .ref (ma 3)), (9, wi a9), (10, wi v10_9), (12, wi t0_88), (13, wi v13_186), (14, wi v14_186), (15, wi r5), (18, wi v18_214)]) rfl ?_
    exact hJ342 0 E_315 C_315 q_315
  · refine r_bipush (v := 64) dL_isMoved_329 rfl ?_
    refine r_sipush (v := 128) dL_isMoved_331 rfl ?_
    refine r_iload (x := a9) dL_isMoved_334 rfl ?_
    refine r_imul dL_isMoved_336 ?_
    refine r_isub dL_isMoved_337 ?_
    refine r_goto (tgt := 342) dL_isMoved_338 (by decide) ?_
    refine r_lo [1, 2, 3, 4, 5, 6, 7, 8, 9, 10, 11, 13] (lo2 := [(0, .ref a0), (1, .ref (ma 0)), (2, .ref (ma 1)), (3, .ref (ma 2)), (4, .ref (ma 3)), (9, wi a9), (10, wi v10_9), (12, wi t0_88), (13, wi v13_186), (14, wi v14_186), (15, wi r5), (18, wi v18_214)]) rfl ?_
    exact hJ342 (64 - (128 * a9)) E_315 C_315 q_315
set_option maxHeartbeats 8000000 in
set_option maxRecDepth 100000 in
theorem b_L_isMoved_314 {l : Launch} {Γ : Cx} {ma : Nat → Nat} (h : wOn Γ) (hm : ∀ k, k ≤ 10 → ma k ≠ 0) (hG : GK Γ l) (hX : XN Γ) (a0 : Nat) (a9 : Int) (v10_9 : Int) (t0_88 : Int) (v13_186 : Int) (v14_186 : Int) (r5 : Int) (v16_214 : Int) (v18_214 : Int) (r11 : Int) (J315 : Int → Rw → Cd → (Nat → Nat) → Option (Int × S3)) (hJ315 : ∀ (t0_315 : Int) (E_315 : Rw) (C_315 : Cd) (q_315 : (Nat → Nat)), RunO l Γ k_L_isMoved 14 encI (em3 ma) 315 [(0, .ref a0), (1, .ref (ma 0)), (2, .ref (ma 1)), (3, .ref (ma 2)), (4, .ref (ma 3)), (9, wi a9), (10, wi v10_9), (12, wi t0_88), (13, wi v13_186), (14, wi v14_186), (15, wi r5), (16, vl v16_214), (18, wi v18_214), (19, wi r11)] [wi t0_315] (E_315, C_315, q_315) (J315 t0_315 E_315 C_315 q_315)) : ∀ (E_314 : Rw) (C_314 : Cd) (q_314 : (Nat → Nat)), RunO l Γ k_L_isMoved 14 encI (em3 ma) 314 [(0, .ref a0), (1, .ref (ma 0)), (2, .ref (ma 1)), (3, .ref (ma 2)), (4, .ref (ma 3)), (9, wi a9), (10, wi v10_9), (12, wi t0_88), (13, wi v13_186), (14, wi v14_186), (15, wi r5), (16, vl v16_214), (18, wi v18_214), (19, wi r11)] [] (E_314, C_314, q_314) (fW_isMoved_314 J315 E_314 C_314 q_314) := by
  intro E_314 C_314 q_314
  unfold fW_isMoved_314
  refine ro_iconst (v := 0) dL_isMoved_314 rfl ?_
  exact hJ315 0 E_314 C_314 q_314
set_option maxHeartbeats 8000000 in
set_option maxRecDepth 100000 in
theorem b_L_isMoved_277 {l : Launch} {Γ : Cx} {ma : Nat → Nat} (h : wOn Γ) (hm : ∀ k, k ≤ 10 → ma k ≠ 0) (hG : GK Γ l) (hX : XN Γ) (a0 : Nat) (a9 : Int) (v10_9 : Int) (t0_88 : Int) (v13_186 : Int) (v14_186 : Int) (r5 : Int) (v16_214 : Int) (v18_214 : Int) (r11 : Int) (L214 : Int → Int → Rw → Cd → (Nat → Nat) → Option (Int × S3)) (hL214 : ∀ (v16_214 : Int) (v18_214 : Int) (E_214 : Rw) (C_214 : Cd) (q_214 : (Nat → Nat)), RunO l Γ k_L_isMoved 14 encI (em3 ma) 214 [(0, .ref a0), (1, .ref (ma 0)), (2, .ref (ma 1)), (3, .ref (ma 2)), (4, .ref (ma 3)), (9, wi a9), (10, wi v10_9), (12, wi t0_88), (13, wi v13_186), (14, wi v14_186), (15, wi r5), (16, vl v16_214), (18, wi v18_214)] [] (E_214, C_214, q_214) (L214 v16_214 v18_214 E_214 C_214 q_214)) : ∀ (t0_277 : Int) (E_277 : Rw) (C_277 : Cd) (q_277 : (Nat → Nat)), RunO l Γ k_L_isMoved 14 encI (em3 ma) 277 [(0, .ref a0), (1, .ref (ma 0)), (2, .ref (ma 1)), (3, .ref (ma 2)), (4, .ref (ma 3)), (9, wi a9), (10, wi v10_9), (12, wi t0_88), (13, wi v13_186), (14, wi v14_186), (15, wi r5), (16, vl v16_214), (18, wi v18_214), (19, wi r11)] [wi t0_277] (E_277, C_277, q_277) (fW_isMoved_277 a9 v10_9 L214 v16_214 v18_214 r11 t0_277 E_277 C_277 q_277) := by
  intro t0_277 E_277 C_277 q_277
  unfold fW_isMoved_277
  refine r_istore (lo2 := [(20, wi t0_277), (0, .ref a0), (1, .ref (ma 0)), (2, .ref (ma 1)), (3, .ref (ma 2)), (4, .ref (ma 3)), (9, wi a9), (10, wi v10_9), (12, wi t0_88), (13, wi v13_186), (14, wi v14_186), (15, wi r5), (16, vl v16_214), (18, wi v18_214), (19, wi r11)]) dL_isMoved_277 (by decide) rfl ?_
  refine r_iload (x := t0_277) dL_isMoved_279 rfl ?_
  refine r_join (P := fun (J : Int → Rw → Cd → (Nat → Nat) → Option (Int × S3)) => ∀ (t0_315 : Int) (E_315 : Rw) (C_315 : Cd) (q_315 : (Nat → Nat)), RunO l Γ k_L_isMoved 14 encI (em3 ma) 315 [(0, .ref a0), (1, .ref (ma 0)), (2, .ref (ma 1)), (3, .ref (ma 2)), (4, .ref (ma 3)), (9, wi a9), (10, wi v10_9), (12, wi t0_88), (13, wi v13_186), (14, wi v14_186), (15, wi r5), (16, vl v16_214), (18, wi v18_214), (19, wi r11)] [wi t0_315] (E_315, C_315, q_315) (J t0_315 E_315 C_315 q_315)) ?_ (fun J315 hJ315 => ?_)
  · exact b_L_isMoved_315 h hm hG hX a0 a9 v10_9 t0_88 v13_186 v14_186 r5 v16_214 v18_214 r11 L214 hL214
  refine r_join (P := fun (J : Rw → Cd → (Nat → Nat) → Option (Int × S3)) => ∀ (E_314 : Rw) (C_314 : Cd) (q_314 : (Nat → Nat)), RunO l Γ k_L_isMoved 14 encI (em3 ma) 314 [(0, .ref a0), (1, .ref (ma 0)), (2, .ref (ma 1)), (3, .ref (ma 2)), (4, .ref (ma 3)), (9, wi a9), (10, wi v10_9), (12, wi t0_88), (13, wi v13_186), (14, wi v14_186), (15, wi r5), (16, vl v16_214), (18, wi v18_214), (19, wi r11)] [] (E_314, C_314, q_314) (J E_314 C_314 q_314)) ?_ (fun J314 hJ314 => ?_)
  · exact b_L_isMoved_314 h hm hG hX a0 a9 v10_9 t0_88 v13_186 v14_186 r5 v16_214 v18_214 r11 J315 hJ315
  refine r_if_eq (tgt := 314) dL_isMoved_281 (by decide) ?_ ?_
  · refine r_lo [1, 2, 3, 4, 5, 6, 7, 8, 9, 10, 11, 12, 13, 14] (lo2 := [(0, .ref a0), (1, .ref (ma 0)), (2, .ref (ma 1)), (3, .ref (ma 2)), (4, .ref (ma 3)), (9, wi a9), (10, wi v10_9), (12, wi t0_88), (13, wi v13_186), (14, wi v14_186), (15, wi r5), (16, vl v16_214), (18, wi v18_214), (19, wi r11)]) rfl ?_
    exact hJ314 E_277 C_277 q_277
  · refine r_iload (x := r11) dL_isMoved_284 rfl ?_
    refine r_bipush (v := 64) dL_isMoved_286 rfl ?_
    refine r_idiv dL_isMoved_288 (by decide) ?_
    refine r_iload (x := a9) dL_isMoved_289 rfl ?_
    refine r_icmp_ne (tgt := 314) dL_isMoved_291 (by decide) ?_ ?_
    · refine r_lo [1, 2, 3, 4, 5, 6, 7, 8, 9, 10, 11, 12, 13, 14] (lo2 := [(0, .ref a0), (1, .ref (ma 0)), (2, .ref (ma 1)), (3, .ref (ma 2)), (4, .ref (ma 3)), (9, wi a9), (10, wi v10_9), (12, wi t0_88), (13, wi v13_186), (14, wi v14_186), (15, wi r5), (16, vl v16_214), (18, wi v18_214), (19, wi r11)]) rfl ?_
      exact hJ314 E_277 C_277 q_277
    · refine r_iload (x := v10_9) dL_isMoved_294 rfl ?_
      refine r_iload (x := r11) dL_isMoved_296 rfl ?_
      refine r_bipush (v := 16) dL_isMoved_298 rfl ?_
      refine r_idiv dL_isMoved_300 (by decide) ?_
      refine ro_iconst (v := 4) dL_isMoved_301 rfl ?_
      refine r_irem dL_isMoved_302 (by decide) ?_
      refine r_ishr dL_isMoved_303 ?_
      refine ro_iconst (v := 1) dL_isMoved_304 rfl ?_
      refine r_iand dL_isMoved_305 ?_
      refine ro_iconst (v := 1) dL_isMoved_306 rfl ?_
      refine r_icmp_ne (tgt := 314) dL_isMoved_307 (by decide) ?_ ?_
      · refine r_lo [1, 2, 3, 4, 5, 6, 7, 8, 9, 10, 11, 12, 13, 14] (lo2 := [(0, .ref a0), (1, .ref (ma 0)), (2, .ref (ma 1)), (3, .ref (ma 2)), (4, .ref (ma 3)), (9, wi a9), (10, wi v10_9), (12, wi t0_88), (13, wi v13_186), (14, wi v14_186), (15, wi r5), (16, vl v16_214), (18, wi v18_214), (19, wi r11)]) rfl ?_
        exact hJ314 E_277 C_277 q_277
      · refine ro_iconst (v := 1) dL_isMoved_310 rfl ?_
        refine r_goto (tgt := 315) dL_isMoved_311 (by decide) ?_
        refine r_lo [1, 2, 3, 4, 5, 6, 7, 8, 9, 10, 11, 12, 13, 14] (lo2 := [(0, .ref a0), (1, .ref (ma 0)), (2, .ref (ma 1)), (3, .ref (ma 2)), (4, .ref (ma 3)), (9, wi a9), (10, wi v10_9), (12, wi t0_88), (13, wi v13_186), (14, wi v14_186), (15, wi r5), (16, vl v16_214), (18, wi v18_214), (19, wi r11)]) rfl ?_
        exact hJ315 1 E_277 C_277 q_277
set_option maxHeartbeats 8000000 in
set_option maxRecDepth 100000 in
theorem b_L_isMoved_272 {l : Launch} {Γ : Cx} {ma : Nat → Nat} (h : wOn Γ) (hm : ∀ k, k ≤ 10 → ma k ≠ 0) (hG : GK Γ l) (hX : XN Γ) (a0 : Nat) (a9 : Int) (v10_9 : Int) (t0_88 : Int) (v13_186 : Int) (v14_186 : Int) (r5 : Int) (v16_214 : Int) (v18_214 : Int) (r11 : Int) (J277 : Int → Rw → Cd → (Nat → Nat) → Option (Int × S3)) (hJ277 : ∀ (t0_277 : Int) (E_277 : Rw) (C_277 : Cd) (q_277 : (Nat → Nat)), RunO l Γ k_L_isMoved 14 encI (em3 ma) 277 [(0, .ref a0), (1, .ref (ma 0)), (2, .ref (ma 1)), (3, .ref (ma 2)), (4, .ref (ma 3)), (9, wi a9), (10, wi v10_9), (12, wi t0_88), (13, wi v13_186), (14, wi v14_186), (15, wi r5), (16, vl v16_214), (18, wi v18_214), (19, wi r11)] [wi t0_277] (E_277, C_277, q_277) (J277 t0_277 E_277 C_277 q_277)) : ∀ (E_272 : Rw) (C_272 : Cd) (q_272 : (Nat → Nat)), RunO l Γ k_L_isMoved 14 encI (em3 ma) 272 [(0, .ref a0), (1, .ref (ma 0)), (2, .ref (ma 1)), (3, .ref (ma 2)), (4, .ref (ma 3)), (9, wi a9), (10, wi v10_9), (12, wi t0_88), (13, wi v13_186), (14, wi v14_186), (15, wi r5), (16, vl v16_214), (18, wi v18_214), (19, wi r11)] [] (E_272, C_272, q_272) (fW_isMoved_272 J277 E_272 C_272 q_272) := by
  intro E_272 C_272 q_272
  unfold fW_isMoved_272
  refine ro_iconst (v := 1) dL_isMoved_272 rfl ?_
  refine r_goto (tgt := 277) dL_isMoved_273 (by decide) ?_
  exact hJ277 1 E_272 C_272 q_272
set_option maxHeartbeats 8000000 in
set_option maxRecDepth 100000 in
theorem b_L_isMoved_214 {l : Launch} {Γ : Cx} {ma : Nat → Nat} (h : wOn Γ) (hm : ∀ k, k ≤ 10 → ma k ≠ 0) (hG : GK Γ l) (hX : XN Γ) (a0 : Nat) (a9 : Int) (v10_9 : Int) (t0_88 : Int) (v13_186 : Int) (v14_186 : Int) (r5 : Int) (L186 : Int → Int → Rw → Cd → (Nat → Nat) → Option (Int × S3)) (hL186 : ∀ (v13_186 : Int) (v14_186 : Int) (E_186 : Rw) (C_186 : Cd) (q_186 : (Nat → Nat)), RunO l Γ k_L_isMoved 14 encI (em3 ma) 186 [(0, .ref a0), (1, .ref (ma 0)), (2, .ref (ma 1)), (3, .ref (ma 2)), (4, .ref (ma 3)), (9, wi a9), (10, wi v10_9), (12, wi t0_88), (13, wi v13_186), (14, wi v14_186)] [] (E_186, C_186, q_186) (L186 v13_186 v14_186 E_186 C_186 q_186)) (L214 : Int → Int → Rw → Cd → (Nat → Nat) → Option (Int × S3)) (hL214 : ∀ (v16_214 : Int) (v18_214 : Int) (E_214 : Rw) (C_214 : Cd) (q_214 : (Nat → Nat)), RunO l Γ k_L_isMoved 14 encI (em3 ma) 214 [(0, .ref a0), (1, .ref (ma 0)), (2, .ref (ma 1)), (3, .ref (ma 2)), (4, .ref (ma 3)), (9, wi a9), (10, wi v10_9), (12, wi t0_88), (13, wi v13_186), (14, wi v14_186), (15, wi r5), (16, vl v16_214), (18, wi v18_214)] [] (E_214, C_214, q_214) (L214 v16_214 v18_214 E_214 C_214 q_214)) : ∀ (v16_214 : Int) (v18_214 : Int) (E_214 : Rw) (C_214 : Cd) (q_214 : (Nat → Nat)), RunO l Γ k_L_isMoved 14 encI (em3 ma) 214 [(0, .ref a0), (1, .ref (ma 0)), (2, .ref (ma 1)), (3, .ref (ma 2)), (4, .ref (ma 3)), (9, wi a9), (10, wi v10_9), (12, wi t0_88), (13, wi v13_186), (14, wi v14_186), (15, wi r5), (16, vl v16_214), (18, wi v18_214)] [] (E_214, C_214, q_214) (fW_isMoved_214 a9 v10_9 L186 v13_186 v14_186 r5 L214 v16_214 v18_214 E_214 C_214 q_214) := by
  intro v16_214 v18_214 E_214 C_214 q_214
  unfold fW_isMoved_214
  refine r_iload (x := r5) dL_isMoved_214 rfl ?_
  refine r_join (P := fun (J : Rw → Cd → (Nat → Nat) → Option (Int × S3)) => ∀ (E_353 : Rw) (C_353 : Cd) (q_353 : (Nat → Nat)), RunO l Γ k_L_isMoved 14 encI (em3 ma) 353 [(0, .ref a0), (1, .ref (ma 0)), (2, .ref (ma 1)), (3, .ref (ma 2)), (4, .ref (ma 3)), (9, wi a9), (10, wi v10_9), (12, wi t0_88), (13, wi v13_186), (14, wi v14_186), (15, wi r5), (16, vl v16_214)] [] (E_353, C_353, q_353) (J E_353 C_353 q_353)) ?_ (fun J353 hJ353 => ?_)
  · exact b_L_isMoved_353 h hm hG hX a0 a9 v10_9 t0_88 v13_186 v14_186 r5 v16_214 L186 hL186
  refine r_if_lt (tgt := 353) dL_isMoved_216 (by decide) ?_ ?_
  · refine r_lo [0, 1, 2, 3, 4, 5, 6, 7, 8, 9, 10, 11] (lo2 := [(0, .ref a0), (1, .ref (ma 0)), (2, .ref (ma 1)), (3, .ref (ma 2)), (4, .ref (ma 3)), (9, wi a9), (10, wi v10_9), (12, wi t0_88), (13, wi v13_186), (14, wi v14_186), (15, wi r5), (16, vl v16_214)]) rfl ?_
    exact hJ353 E_214 C_214 q_214
  · refine r_iload (x := v18_214) dL_isMoved_219 rfl ?_
    refine r_aload (x := ma 3) dL_isMoved_221 rfl ?_
    refine r_iload (x := r5) dL_isMoved_223 rfl ?_
    refine r_wlald3 h (by decide) (by decide) (hm 3 (by decide)) dL_isMoved_225 ?_
    refine r_csi (J := fun (_ : Unit) => (E_214, C_214, q_214)) (k2 := k_L_macros) (n := 1) (rest := [wi v18_214]) (fun _ => rfl) rfl kv_L_macros (c_L_macros (σ0 := _) (E_214 3 (ix r5))) (by decide) um_L_7 rfl (Nat.le_of_ble_eq_true rfl) dL_isMoved_226 rfl (fun r10 _ => ?_)
    show RunO l Γ k_L_isMoved 14 encI (em3 ma) 229 [(0, .ref a0), (1, .ref (ma 0)), (2, .ref (ma 1)), (3, .ref (ma 2)), (4, .ref (ma 3)), (9, wi a9), (10, wi v10_9), (12, wi t0_88), (13, wi v13_186), (14, wi v14_186), (15, wi r5), (16, vl v16_214), (18, wi v18_214)] [wi r10, wi v18_214] (E_214, C_214, q_214) _
    refine r_icmp_ge (tgt := 353) dL_isMoved_229 (by decide) ?_ ?_
    · refine r_lo [0, 1, 2, 3, 4, 5, 6, 7, 8, 9, 10, 11] (lo2 := [(0, .ref a0), (1, .ref (ma 0)), (2, .ref (ma 1)), (3, .ref (ma 2)), (4, .ref (ma 3)), (9, wi a9), (10, wi v10_9), (12, wi t0_88), (13, wi v13_186), (14, wi v14_186), (15, wi r5), (16, vl v16_214)]) rfl ?_
      exact hJ353 E_214 C_214 q_214
    · refine r_aload (x := ma 3) dL_isMoved_232 rfl ?_
      refine r_iload (x := r5) dL_isMoved_234 rfl ?_
      refine r_wlald3 h (by decide) (by decide) (hm 3 (by decide)) dL_isMoved_236 ?_
      refine r_iload (x := v18_214) dL_isMoved_237 rfl ?_
      refine r_csi (J := fun (_ : Unit) => (E_214, C_214, q_214)) (k2 := k_L_macro) (n := 2) (rest := []) (fun _ => rfl) rfl kv_L_macro (c_L_macro (σ0 := _) (E_214 3 (ix r5)) v18_214) (by decide) um_L_19 rfl (Nat.le_of_ble_eq_true rfl) dL_isMoved_239 rfl (fun r11 _ => ?_)
      show RunO l Γ k_L_isMoved 14 encI (em3 ma) 242 [(0, .ref a0), (1, .ref (ma 0)), (2, .ref (ma 1)), (3, .ref (ma 2)), (4, .ref (ma 3)), (9, wi a9), (10, wi v10_9), (12, wi t0_88), (13, wi v13_186), (14, wi v14_186), (15, wi r5), (16, vl v16_214), (18, wi v18_214)] [wi r11] (E_214, C_214, q_214) _
      refine r_istore (lo2 := [(19, wi r11), (0, .ref a0), (1, .ref (ma 0)), (2, .ref (ma 1)), (3, .ref (ma 2)), (4, .ref (ma 3)), (9, wi a9), (10, wi v10_9), (12, wi t0_88), (13, wi v13_186), (14, wi v14_186), (15, wi r5), (16, vl v16_214), (18, wi v18_214)]) dL_isMoved_242 (by decide) rfl ?_
      refine r_iload (x := r11) dL_isMoved_244 rfl ?_
      refine r_bipush (v := 16) dL_isMoved_246 rfl ?_
      refine r_irem dL_isMoved_248 (by decide) ?_
      refine ro_iconst (v := 1) dL_isMoved_249 rfl ?_
      refine r_join (P := fun (J : Int → Rw → Cd → (Nat → Nat) → Option (Int × S3)) => ∀ (t0_277 : Int) (E_277 : Rw) (C_277 : Cd) (q_277 : (Nat → Nat)), RunO l Γ k_L_isMoved 14 encI (em3 ma) 277 [(0, .ref a0), (1, .ref (ma 0)), (2, .ref (ma 1)), (3, .ref (ma 2)), (4, .ref (ma 3)), (9, wi a9), (10, wi v10_9), (12, wi t0_88), (13, wi v13_186), (14, wi v14_186), (15, wi r5), (16, vl v16_214), (18, wi v18_214), (19, wi r11)] [wi t0_277] (E_277, C_277, q_277) (J t0_277 E_277 C_277 q_277)) ?_ (fun J277 hJ277 => ?_)
      · exact b_L_isMoved_277 h hm hG hX a0 a9 v10_9 t0_88 v13_186 v14_186 r5 v16_214 v18_214 r11 L214 hL214
      refine r_join (P := fun (J : Rw → Cd → (Nat → Nat) → Option (Int × S3)) => ∀ (E_272 : Rw) (C_272 : Cd) (q_272 : (Nat → Nat)), RunO l Γ k_L_isMoved 14 encI (em3 ma) 272 [(0, .ref a0), (1, .ref (ma 0)), (2, .ref (ma 1)), (3, .ref (ma 2)), (4, .ref (ma 3)), (9, wi a9), (10, wi v10_9), (12, wi t0_88), (13, wi v13_186), (14, wi v14_186), (15, wi r5), (16, vl v16_214), (18, wi v18_214), (19, wi r11)] [] (E_272, C_272, q_272) (J E_272 C_272 q_272)) ?_ (fun J272 hJ272 => ?_)
      · exact b_L_isMoved_272 h hm hG hX a0 a9 v10_9 t0_88 v13_186 v14_186 r5 v16_214 v18_214 r11 J277 hJ277
      refine r_icmp_eq (tgt := 272) dL_isMoved_250 (by decide) ?_ ?_
      · refine r_lo [1, 2, 3, 4, 5, 6, 7, 8, 9, 10, 11, 12, 13, 0] (lo2 := [(0, .ref a0), (1, .ref (ma 0)), (2, .ref (ma 1)), (3, .ref (ma 2)), (4, .ref (ma 3)), (9, wi a9), (10, wi v10_9), (12, wi t0_88), (13, wi v13_186), (14, wi v14_186), (15, wi r5), (16, vl v16_214), (18, wi v18_214), (19, wi r11)]) rfl ?_
        exact hJ272 E_214 C_214 q_214
      · refine r_iload (x := r11) dL_isMoved_253 rfl ?_
        refine r_bipush (v := 16) dL_isMoved_255 rfl ?_
        refine r_irem dL_isMoved_257 (by decide) ?_
        refine ro_iconst (v := 2) dL_isMoved_258 rfl ?_
        refine r_icmp_eq (tgt := 272) dL_isMoved_259 (by decide) ?_ ?_
        · refine r_lo [1, 2, 3, 4, 5, 6, 7, 8, 9, 10, 11, 12, 13, 0] (lo2 := [(0, .ref a0), (1, .ref (ma 0)), (2, .ref (ma 1)), (3, .ref (ma 2)), (4, .ref (ma 3)), (9, wi a9), (10, wi v10_9), (12, wi t0_88), (13, wi v13_186), (14, wi v14_186), (15, wi r5), (16, vl v16_214), (18, wi v18_214), (19, wi r11)]) rfl ?_
          exact hJ272 E_214 C_214 q_214
        · refine r_iload (x := r11) dL_isMoved_262 rfl ?_
          refine r_bipush (v := 16) dL_isMoved_264 rfl ?_
          refine r_irem dL_isMoved_266 (by decide) ?_
          refine r_bipush (v := 10) dL_isMoved_267 rfl ?_
          refine r_icmp_ne (tgt := 276) dL_isMoved_269 (by decide) ?_ ?_
          · refine ro_iconst (v := 0) dL_isMoved_276 rfl ?_
            refine r_lo [1, 2, 3, 4, 5, 6, 7, 8, 9, 10, 11, 12, 13, 0] (lo2 := [(0, .ref a0), (1, .ref (ma 0)), (2, .ref (ma 1)), (3, .ref (ma 2)), (4, .ref (ma 3)), (9, wi a9), (10, wi v10_9), (12, wi t0_88), (13, wi v13_186), (14, wi v14_186), (15, wi r5), (16, vl v16_214), (18, wi v18_214), (19, wi r11)]) rfl ?_
            exact hJ277 0 E_214 C_214 q_214
          · refine r_lo [1, 2, 3, 4, 5, 6, 7, 8, 9, 10, 11, 12, 13, 0] (lo2 := [(0, .ref a0), (1, .ref (ma 0)), (2, .ref (ma 1)), (3, .ref (ma 2)), (4, .ref (ma 3)), (9, wi a9), (10, wi v10_9), (12, wi t0_88), (13, wi v13_186), (14, wi v14_186), (15, wi r5), (16, vl v16_214), (18, wi v18_214), (19, wi r11)]) rfl ?_
            exact hJ272 E_214 C_214 q_214
