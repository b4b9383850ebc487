/-! THE LAW'S START: from its entry to its loop -/
theorem un_law_8 : Cond.classLink RL 8 RX11 ∈ uw ∧ Cond.instantiable RX11 10 ∈ uw ∧ Cond.initialized RX11 ∈ uw := ⟨uw_mem 196 (by decide +kernel) rfl, uw_mem 197 (by decide +kernel) rfl, uw_mem 161 (by decide +kernel) rfl⟩
theorem un_law_106 : Cond.classLink RL 106 RX12 ∈ uw ∧ Cond.instantiable RX12 79 ∈ uw ∧ Cond.initialized RX12 ∈ uw := ⟨uw_mem 1650 (by decide +kernel) rfl, uw_mem 1651 (by decide +kernel) rfl, uw_mem 170 (by decide +kernel) rfl⟩
theorem ul_law_105 : Cond.methodLink RL 105 yX11_init ∈ uw := uw_mem 198 (by decide +kernel) rfl
theorem ul_law_108 : Cond.methodLink RL 108 yX12_init ∈ uw := uw_mem 1652 (by decide +kernel) rfl
theorem ul_law_J : Cond.arrayClass (newarray.typeOf .long) ∈ uw := uw_mem 2310 (by decide +kernel) rfl
def M00 : Md := (fun _ => 0, fun _ _ => 0)
section BEGIN2
variable {l : Launch} {b0 : Nat} {bG : va_G} {cy : Nat → ClassId} {g : State → Heap → Prop} {sb b : Nat} {T : List ExceptionTableEntry}
set_option maxHeartbeats 4000000 in
set_option maxRecDepth 100000 in
theorem law_begin (hG : GK (b0, bG, cy, fS cy (b + 854), g) l) (hb : b0 ≤ b + 854) : ∃ C2 : Cd, csl (cNewA (cut (b + 854) C2) 108 1) ≤ 380001 ∧ csz (cNewA (cut (b + 854) C2) 108 1) = b + 912 ∧ RR b 0 (mI0 (b + 854) C2) (cNewA (cut (b + 854) C2) 108 1) ∧ (isO (cNewA (cut (b + 854) C2) 108 1) (b + 911) 108 ∧ cn (cNewA (cut (b + 854) C2) 108 1) (b + 911) = 1) ∧
    ∀ X : Option (Int × St), RunO l (b0, bG, cy, fS cy (b + 854), g) (kL T) 16 encI emL 23 (loM sb b (b + 854) (b + 911) (4 * 0 : Nat)) [] (mk1 (mI0 (b + 854) C2), cNewA (cut (b + 854) C2) 108 1) X → RunO l (b0, bG, cy, fS cy (b + 854), g) (kL T) 16 encI emL 0 [(0, .ref sb)] [] (M00, C00 b) X := by
  obtain ⟨C1, C2, e1, s1, e2, m2, s2, l2, hR, o1, o2⟩ := made b
  refine ⟨C2, ?_, ?_, hR, ⟨o1, o2⟩, fun X K => ?_⟩
  · show csl C2 + 1 ≤ _
    omega
  · show csz C2 + 1 = _
    omega
  · refine r_lnew (M0 := M00) (C := C00 b) hc_X11 rfl (by decide) inU_X11 tyX11 tyX11_ok hfs_X11 un_law_8.1 un_law_8.2.1 un_law_8.2.2 dL_law_0 ?_
    refine r_dup dL_law_3 rfl ?_
    refine ro_call0 hG (r2 := ()) (σ2 := (M00, C1)) (v := none) (X2 := (fX11_init b (cNew (C00 b) 14)).map (fun q => (q.1, (M00, q.2)))) (by rw [e1]; rfl) rfl (c_ct (c_X11_init hG b _)) (inv_I (As := []) (rest := [.ref b]) kv_X11_init (by decide) ul_law_105 rfl (Nat.le_of_ble_eq_true rfl) dL_law_4) ?_
    refine r_astore_n (x := b) (lo2 := [(1, .ref b), (0, .ref sb)]) dL_law_7 rfl (show 1 < 7 by decide) rfl ?_
    refine r_lnew (M0 := M00) (C := C1) hc_X12 rfl (by decide) inU_X12 tyX12 tyX12_ok hfs_X12 un_law_106.1 un_law_106.2.1 un_law_106.2.2 dL_law_8 ?_
    rw [s1]
    refine r_dup dL_law_11 rfl ?_
    refine ro_call0 hG (r2 := ()) (σ2 := (M00, C2)) (v := none) (X2 := (fX12_init (b + 854) (cNew C1 15)).map (fun q => (q.1, (M00, q.2)))) (by rw [e2]; rfl) rfl (c_ct (c_X12_init hG (b + 854) _)) (inv_I (As := []) (rest := [.ref (b + 854)]) kv_X12_init (by decide) ul_law_108 rfl (Nat.le_of_ble_eq_true rfl) dL_law_12) ?_
    refine r_astore_n (x := b + 854) (lo2 := [(2, .ref (b + 854)), (1, .ref b), (0, .ref sb)]) dL_law_15 rfl (show 2 < 7 by decide) rfl ?_
    refine ro_rel (σ2 := (mk1 (mI0 (b + 854) C2), cut (b + 854) C2)) rfl rfl (fun H hH => mSwitch (show fS cy (b + 854) M00 = [] from if_neg (show ¬ M00.1 999 = 1 by decide)) (fS_mk1 _) hb m2 hH) ?_
    refine ro_iconst (v := 1) dL_law_16 rfl ?_
    refine r_lnewJ (M0 := mk1 (mI0 (b + 854) C2)) (C := cut (b + 854) C2) (n := 1) (by decide) ul_law_J dL_law_17 ?_
    rw [show csz (cut (b + 854) C2) = b + 911 from s2]
    refine r_astore_n (x := b + 911) (lo2 := [(3, .ref (b + 911)), (2, .ref (b + 854)), (1, .ref b), (0, .ref sb)]) dL_law_19 rfl (show 3 < 7 by decide) rfl ?_
    refine ro_iconst (v := 0) dL_law_20 rfl ?_
    refine r_istore (x := 0) (lo2 := [(4, wi 0), (3, .ref (b + 911)), (2, .ref (b + 854)), (1, .ref b), (0, .ref sb)]) dL_law_21 (show 4 < 7 by decide) rfl ?_
    exact r_lo [4, 3, 2, 1, 0] (lo2 := loM sb b (b + 854) (b + 911) (4 * 0 : Nat)) rfl K
end BEGIN2
