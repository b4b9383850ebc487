def k_X5_addAll : Kd := (yX5_addAll, cX5_addAll, 3, none, [])
theorem kv_X5_addAll : KV k_X5_addAll 1 := ⟨uw_mem 1432 (by decide +kernel) rfl, uw_mem 163 (by decide +kernel) rfl, uw_mem 1431 (by decide +kernel) rfl, uw_mem 70 (by decide +kernel) rfl, ⟨by decide +kernel, by decide +kernel⟩, by decide +kernel, by decide +kernel⟩
def fX5_addAll (a0 : Nat) (a1 : Option Nat) (C : Cd) : Option (Unit × Cd) :=
bnd (lpn (fun (_ : Int) (_ : Cd) => (none : Option (Unit × Cd))) (fun L2 (v2_2 : Int) (C_2 : Cd) =>
drf a1 fun (p1 : Nat) =>
if isO C_2 p1 8 then
if w32 (cI C_2 801 p1) ≤ w32 v2_2 then
some ((), C_2)
else
if isO C_2 p1 8 then cal (fX5_at p1 v2_2 C_2) fun (r3 : Int) (C2 : Cd) =>
if isO C2 a0 8 then cal (fX5_add a0 r3 C2) fun (r5 : Unit) (C4 : Cd) =>
L2 (v2_2 + 1) C4
else none
else none
else none) FU) fun J2 =>
J2 0 C
set_option maxHeartbeats 8000000 in
set_option maxRecDepth 100000 in
theorem c_X5_addAll {l : Launch} {Γ : Cx} {M0 : Md} (hG : GK Γ l) (a0 : Nat) (a1 : Option Nat) (C : Cd) : Ct l Γ k_X5_addAll 2 encV (emC M0) [.ref a0, va_rf a1] C (fX5_addAll a0 a1 C) := by
  refine ct_of (by decide +kernel) rfl (by cases a1 <;> exact Nat.le_of_ble_eq_true rfl) ?_
  refine r_lo [0, 1] (lo2 := [(0, .ref a0), (1, va_rf a1)]) (by cases a1 <;> rfl) ?_
  unfold fX5_addAll
  refine ro_iconst (v := 0) dX5_addAll_0 rfl ?_
  refine r_istore_n (lo2 := [(2, wi 0), (0, .ref a0), (1, va_rf a1)]) dX5_addAll_1 rfl (by decide) (by cases a1 <;> rfl) ?_
  refine r_loop (P := fun (J : Int → Cd → Option (Unit × Cd)) => ∀ (v2_2 : Int) (C_2 : Cd), RunO l Γ k_X5_addAll 2 encV (emC M0) 2 [(0, .ref a0), (1, va_rf a1), (2, wi v2_2)] [] C_2 (J v2_2 C_2)) ?_ (fun L2 hL2 => ?_) (fun J2 hJ2 => ?_)
  · intros; exact ro_none
  · intro v2_2 C_2
    refine r_iload_n (x := v2_2) dX5_addAll_2 rfl rfl ?_
    refine r_aloadq_n (x := a1) dX5_addAll_3 rfl rfl ?_
    refine r_dref (fun p1 hp1 => ?_)
    subst hp1
    refine r_cgetI (c := 8) (kk := 1) hc_X5 rfl (by decide) inU_X5 (by decide) uf_X5_15 rfl (by decide) dX5_addAll_4 ?_
    refine r_icmp_ge (tgt := 25) dX5_addAll_7 (by decide) ?_ ?_
    · exact r_vret rfl dX5_addAll_25
    · refine r_aload_n (x := a0) dX5_addAll_10 rfl rfl ?_
      refine r_aload_n (x := p1) dX5_addAll_11 rfl rfl ?_
      refine r_iload_n (x := v2_2) dX5_addAll_12 rfl rfl ?_
      refine r_ccVi (c := 8) (k2 := k_X5_at) (n := 1) (rest := [.ref a0]) um_X5_22 rfl kv_X5_at hc_X5 (by decide) (c_X5_at hG _ _ _) (by decide) rfl (Nat.le_of_ble_eq_true rfl) dX5_addAll_13 rfl (fun r3 C2 => ?_)
      refine r_ccVv (c := 8) (k2 := k_X5_add) (n := 1) (rest := []) um_X5_26 rfl kv_X5_add hc_X5 (by decide) (c_X5_add hG _ _ _) (by decide) rfl (Nat.le_of_ble_eq_true rfl) dX5_addAll_16 rfl (fun r5 C4 => ?_)
      refine r_iinc (x := v2_2) (lo2 := [(2, wi (v2_2 + 1)), (0, .ref a0), (1, .ref p1)]) dX5_addAll_19 rfl (by decide) rfl ?_
      refine r_goto (tgt := 2) dX5_addAll_22 (by decide) ?_
      refine r_lo [1, 2, 0] (lo2 := [(0, .ref a0), (1, .ref p1), (2, wi (v2_2 + 1))]) rfl ?_
      exact hL2 (v2_2 + 1) C4
  refine r_lo [1, 2, 0] (lo2 := [(0, .ref a0), (1, va_rf a1), (2, wi 0)]) rfl ?_
  exact hJ2 0 C
