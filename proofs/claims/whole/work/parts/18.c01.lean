def k_X5_addAll : Kd := (yX5_addAll, cX5_addAll, 3, none, [])
theorem kv_X5_addAll : KV k_X5_addAll 1 := ⟨uw_mem 1432 (by decide +kernel) rfl, uw_mem 163 (by decide +kernel) rfl, uw_mem 1431 (by decide +kernel) rfl, uw_mem 70 (by decide +kernel) rfl, ⟨by decide +kernel, by decide +kernel⟩, by decide +kernel, by decide +kernel⟩
def fX5_addAll (a0 : Nat) (a1 : Option Nat) (C : Cd) : Option (Unit × Cd) :=
bnd (lpn (fun (_ : Int) (_ : Cd) => (none : Option (Unit × Cd))) (fun L2 (v2_2 : Int) (C_2 : Cd) =>
drf a1 fun (p1 : Nat) =>
if isO C_2 p1 8 then
if w32 (cI C_2 801 p1) ≤ w32 v2_2 then
some ((), C_2)
else
if isO C_2 p1 8 then cal (fX5_at p1 v2_2 C_2) fun (r3 : Int) (C2 : Cd) =>
if isO C2 a0 8 then cal (fX5_add a0 r3 C2) fun (r5 : Unit) (C4 : Cd) =>
L2 (v2_2 + 1) C4
else none
else none
else none) FU) fun J2 =>
J2 0 C
set_option maxHeartbeats 8000000 in
set_option maxRecDepth 100000 in
theorem c_X5_addAll {l : Launch} {Γ : Cx} {M0 : Md} (hG : GK Γ l) (a0 : Nat) (a1 : Option Nat) (C : Cd) : Ct l Γ k_X5_addAll 2 encV (emC M0) [.ref a0, va_rf a1] C (fX5_addAll a0 a1 C) := by
  refine ct_of (by decide +kernel) rfl (by cases a1 <;> exact Nat.le_of_ble_eq_true rfl) ?_
  refine r_lo [0, 1] (lo2 := [(0, .ref a0), (1, va_rf a1)]) (by cases a1 <;> rfl) ?_
  unfold fX5_addAll
  refine ro_iconst (v := 0) dX5_addAll_0 rfl ?_
  refine r_istore_n (lo2 := [(2, wi 0), (0, .ref a0), (1, va_rf a1)]) dX5_addAll_1 rfl (by decide) (by cases a1 <;> rfl) ?_
  refine r_loop (P := fun (J : Int → Cd → Option (Unit × Cd)) => ∀ (v2_2 : Int) (C_2 : Cd), RunO l Γ k_X5_addAll 2 encV (emC M0) 2 [(0, .ref a0), (1, va_rf a1), (2, wi v2_2)] [] C_2 (J v2_2 C_2)) ?_ (fun L2 hL2 => ?_) (fun J2 hJ2 => ?_)
  · intros; exact ro_none
  · intro v2_2 C_2
    refine r_iload_n (x := v2_2) dX5_addAll_2 rfl rfl ?_
    refine r_aloadq_n (x := a1) dX5_addAll_3 rfl rfl ?_
    refine r_dref (fun p1 hp1 => ?_)
    subst hp1
    refine r_cgetI (c := 8) (kk := 1) hc_X5 rfl (by decide) inU_X5 (by decide) uf_X5_15 rfl (by decide) dX5_addAll_4 ?_
    refine r_icmp_ge (tgt := 25) dX5_addAll_7 (by decide) ?_ ?_
    · exact r_vret rfl dX5_addAll_25
    · refine r_aload_n (x := a0) dX5_addAll_10 rfl rfl ?_
      refine r_aload_n (x := p1) dX5_addAll_11 rfl rfl ?_
      refine r_iload_n (x := v2_2) dX5_addAll_12 rfl rfl ?_
      refine r_ccVi (c := 8) (k2 := k_X5_at) (n := 1) (rest := [.ref a0]) um_X5_22 rfl kv_X5_at hc_X5 (by decide) (c_X5_at hG _ _ _) (by decide) rfl (Nat.le_of_ble_eq_true rfl) dX5_addAll_13 rfl (fun r3 C2 => ?_)
      refine r_ccVv (c := 8) (k2 := k_X5_add) (n := 1) (rest := []) um_X5_26 rfl kv_X5_add hc_X5 (by decide) (c_X5_add hG _ _ _) (by decide) rfl (Nat.le_of_ble_eq_true rfl) dX5_addAll_16 rfl (fun r5 C4 => ?_)
      refine r_iinc (x := v2_2) (lo2 := [(2, wi (v2_2 + 1)), (0, .ref a0), (1, .ref p1)]) dX5_addAll_19 rfl (by decide) rfl ?_
      refine r_goto (tgt := 2) dX5_addAll_22 (by decide) ?_
      refine r_lo [1, 2, 0] (lo2 := [(0, .ref a0), (1, .ref p1), (2, wi (v2_2 + 1))]) rfl ?_
      exact hL2 (v2_2 + 1) C4
  refine r_lo [1, 2, 0] (lo2 := [(0, .ref a0), (1, va_rf a1), (2, wi 0)]) rfl ?_
  exact hJ2 0 C
def k_X1_giveArgument : Kd := (yX1_giveArgument, cX1_giveArgument, 6, some .boolean, [])
theorem kv_X1_giveArgument : KV k_X1_giveArgument 2 := ⟨uw_mem 1415 (by decide +kernel) rfl, uw_mem 162 (by decide +kernel) rfl, uw_mem 1414 (by decide +kernel) rfl, uw_mem 66 (by decide +kernel) rfl, ⟨by decide +kernel, by decide +kernel⟩, by decide +kernel, by decide +kernel⟩
def fX1_giveArgument (a0 : Nat) (a1 : Option Nat) (a2 : Int) (C : Cd) : Option (Int × Cd) :=
drf a1 fun (p1 : Nat) =>
if isO C p1 9 then bnd (cR C 900 p1) fun (z2 : Option Nat) =>
drf z2 fun (p3 : Nat) =>
if isO C p3 5 then cal (fX2_argumentAt p3 a2 C) fun (r5 : Int) (C4 : Cd) =>
bnd (fun  (C_25 : Cd) =>
some (1, C_25)) fun J25 =>
if w32 r5 = w32 (-1) then
J25 C4
else
if isO C4 p3 5 then bnd (cR C4 503 p3) fun (z6 : Option Nat) =>
opt z6 (
J25 C4) (fun (p7 : Nat) =>
if isO C4 p3 5 then bnd (cR C4 503 p3) fun (z8 : Option Nat) =>
drf z8 fun (p9 : Nat) =>
if isO C4 p9 5 then cal (fX2_rowAt p9 r5 C4) fun (r11 : Option Nat) (C10 : Cd) =>
opt r11 (
if isO C10 p3 5 then bnd (cR C10 503 p3) fun (z13 : Option Nat) =>
if isO C10 a0 4 then cal (fX1_openPart a0 z13 r5 C10) fun (r15 : Unit) (C14 : Cd) =>
some (0, C14)
else none
else none) (fun (p12 : Nat) =>
if isO C10 p1 9 then bnd (cR C10 901 p1) fun (z16 : Option Nat) =>
drf z16 fun (p17 : Nat) =>
if isO C10 p17 8 then cal (fX5_addAll p17 (some p12) C10) fun (r19 : Unit) (C18 : Cd) =>
if isO C18 p3 5 then bnd (cR C18 504 p3) fun (z20 : Option Nat) =>
if isO C18 p1 9 then
drf z20 fun (p21 : Nat) =>
if isO C18 p21 11 then cal (fX8_endAt p21 (cI C18 902 p1) C18) fun (r23 : Int) (C22 : Cd) =>
if isO C22 p1 9 then bnd (cSetI C22 902 p1 r23) fun (C24 : Cd) =>
some (1, C24)
else none
else none
else none
else none
else none
else none)
else none
else none)
else none
else none
else none
set_option maxHeartbeats 8000000 in
set_option maxRecDepth 100000 in
theorem c_X1_giveArgument {l : Launch} {Γ : Cx} {M0 : Md} (hG : GK Γ l) (a0 : Nat) (a1 : Option Nat) (a2 : Int) (C : Cd) : Ct l Γ k_X1_giveArgument 3 encI (emC M0) [.ref a0, va_rf a1, wi a2] C (fX1_giveArgument a0 a1 a2 C) := by
  refine ct_of (by decide +kernel) rfl (by cases a1 <;> exact Nat.le_of_ble_eq_true rfl) ?_
  refine r_lo [0, 1, 2] (lo2 := [(0, .ref a0), (1, va_rf a1), (2, wi a2)]) (by cases a1 <;> rfl) ?_
  unfold fX1_giveArgument
  refine r_aloadq_n (x := a1) dX1_giveArgument_0 rfl rfl ?_
  refine r_dref (fun p1 hp1 => ?_)
  subst hp1
  refine r_cgetRN (c := 9) (kk := 0) hc_X6 rfl (by decide) inU_X6 (by decide) hG uf_X1_116 rfl (by decide) dX1_giveArgument_1 (fun z2 => ?_)
  refine r_astoreq_n (lo2 := [(3, va_rf z2), (0, .ref a0), (1, .ref p1), (2, wi a2)]) dX1_giveArgument_4 rfl (by decide) rfl ?_
  refine r_aloadq_n (x := z2) dX1_giveArgument_5 rfl rfl ?_
  refine r_iload_n (x := a2) dX1_giveArgument_6 rfl rfl ?_
  refine r_dref (fun p3 hp3 => ?_)
  subst hp3
  refine r_ccVNi (c := 5) (k2 := k_X2_argumentAt) (n := 1) (rest := []) hG um_X1_199 rfl kv_X2_argumentAt hc_X2 (by decide) (c_X2_argumentAt hG _ _ _) (by decide) rfl (Nat.le_of_ble_eq_true rfl) dX1_giveArgument_7 rfl (fun r5 C4 => ?_)
  refine r_istore (lo2 := [(4, wi r5), (3, .ref p3), (0, .ref a0), (1, .ref p1), (2, wi a2)]) dX1_giveArgument_10 (by decide) rfl ?_
  refine r_iload (x := r5) dX1_giveArgument_12 rfl ?_
  refine ro_iconst (v := (-1)) dX1_giveArgument_14 rfl ?_
  refine r_join (P := fun (J : Cd → Option (Int × Cd)) => ∀  (C_25 : Cd), RunO l Γ k_X1_giveArgument 3 encI (emC M0) 25 [] [] C_25 (J C_25)) ?_ (fun J25 hJ25 => ?_)
  · intro C_25
    refine ro_iconst (v := 1) dX1_giveArgument_25 rfl ?_
    exact r_zret0 (by first | exact Or.inl rfl | exact Or.inr rfl) rfl dX1_giveArgument_26
  refine r_icmp_eq (tgt := 25) dX1_giveArgument_15 (by decide) ?_ ?_
  · refine r_lo [] (lo2 := []) rfl ?_
    exact hJ25  C4
  · refine r_aload_n (x := p3) dX1_giveArgument_18 rfl rfl ?_
    refine r_cgetRN (c := 5) (kk := 3) hc_X2 rfl (by decide) inU_X2 (by decide) hG uf_X1_202 rfl (by decide) dX1_giveArgument_19 (fun z6 => ?_)
    refine r_opt (fun hn => ?_) (fun p7 hp7 => ?_)
    · subst hn
      refine r_ifnonnullN dX1_giveArgument_22 ?_
      refine r_lo [] (lo2 := []) rfl ?_
      exact hJ25  C4
    · subst hp7
      refine r_ifnonnullS (a := p7) (tgt := 27) dX1_giveArgument_22 (by decide) ?_
      refine r_aload_n (x := p3) dX1_giveArgument_27 rfl rfl ?_
      refine r_cgetRN (c := 5) (kk := 3) hc_X2 rfl (by decide) inU_X2 (by decide) hG uf_X1_202 rfl (by decide) dX1_giveArgument_28 (fun z8 => ?_)
      refine r_iload (x := r5) dX1_giveArgument_31 rfl ?_
      refine r_dref (fun p9 hp9 => ?_)
      subst hp9
      refine r_ccVNr (c := 5) (k2 := k_X2_rowAt) (n := 1) (rest := []) hG um_X1_205 rfl kv_X2_rowAt hc_X2 (by decide) (c_X2_rowAt hG _ _ _) (by decide) rfl (Nat.le_of_ble_eq_true rfl) dX1_giveArgument_33 rfl (fun r11 C10 => ?_)
      refine r_astoreq (lo2 := [(5, va_rf r11), (4, wi r5), (3, .ref p3), (0, .ref a0), (1, .ref p1), (2, wi a2)]) dX1_giveArgument_36 (by decide) rfl ?_
      refine r_aloadq (x := r11) dX1_giveArgument_38 rfl ?_
      refine r_opt (fun hn => ?_) (fun p12 hp12 => ?_)
      · subst hn
        refine r_ifnonnullN dX1_giveArgument_40 ?_
        refine r_aload_n (x := a0) dX1_giveArgument_43 rfl rfl ?_
        refine r_aload_n (x := p3) dX1_giveArgument_44 rfl rfl ?_
        refine r_cgetRN (c := 5) (kk := 3) hc_X2 rfl (by decide) inU_X2 (by decide) hG uf_X1_202 rfl (by decide) dX1_giveArgument_45 (fun z13 => ?_)
        refine r_iload (x := r5) dX1_giveArgument_48 rfl ?_
        refine r_ccVv (c := 4) (k2 := k_X1_openPart) (n := 2) (rest := []) um_X1_159 rfl kv_X1_openPart hc_X1 (by decide) (c_X1_openPart hG _ _ _ _) (by decide) rfl (Nat.le_of_ble_eq_true rfl) dX1_giveArgument_50 rfl (fun r15 C14 => ?_)
        refine ro_iconst (v := 0) dX1_giveArgument_53 rfl ?_
        exact r_zret0 (by first | exact Or.inl rfl | exact Or.inr rfl) rfl dX1_giveArgument_54
      · subst hp12
        refine r_ifnonnullS (a := p12) (tgt := 55) dX1_giveArgument_40 (by decide) ?_
        refine r_aload_n (x := p1) dX1_giveArgument_55 rfl rfl ?_
        refine r_cgetRN (c := 9) (kk := 1) hc_X6 rfl (by decide) inU_X6 (by decide) hG uf_X1_120 rfl (by decide) dX1_giveArgument_56 (fun z16 => ?_)
        refine r_aload (x := p12) dX1_giveArgument_59 rfl ?_
        refine r_dref (fun p17 hp17 => ?_)
        subst hp17
        refine r_ccVNv (c := 8) (k2 := k_X5_addAll) (n := 1) (rest := []) hG um_X1_209 rfl kv_X5_addAll hc_X5 (by decide) (c_X5_addAll hG _ _ _) (by decide) rfl (Nat.le_of_ble_eq_true rfl) dX1_giveArgument_61 rfl (fun r19 C18 => ?_)
        refine r_aload_n (x := p1) dX1_giveArgument_64 rfl rfl ?_
        refine r_aload_n (x := p3) dX1_giveArgument_65 rfl rfl ?_
        refine r_cgetRN (c := 5) (kk := 4) hc_X2 rfl (by decide) inU_X2 (by decide) hG uf_X1_121 rfl (by decide) dX1_giveArgument_66 (fun z20 => ?_)
        refine r_aload_n (x := p1) dX1_giveArgument_69 rfl rfl ?_
        refine r_cgetIN (c := 9) (kk := 2) hc_X6 rfl (by decide) inU_X6 (by decide) hG uf_X1_93 rfl (by decide) dX1_giveArgument_70 ?_
        refine r_dref (fun p21 hp21 => ?_)
        subst hp21
        refine r_ccVNi (c := 11) (k2 := k_X8_endAt) (n := 1) (rest := [.ref p1]) hG um_X1_145 rfl kv_X8_endAt hc_X8 (by decide) (c_X8_endAt hG _ _ _) (by decide) rfl (Nat.le_of_ble_eq_true rfl) dX1_giveArgument_73 rfl (fun r23 C22 => ?_)
        refine r_cputIN (c := 9) (kk := 2) hc_X6 rfl (by decide) inU_X6 (by decide) hG uf_X1_93 rfl tyX6 tyX6_ok nmX6 (fty := .int) (by decide) rfl rfl rfl rfl dX1_giveArgument_76 (fun C24 _ _ => ?_)
        refine ro_iconst (v := 1) dX1_giveArgument_79 rfl ?_
        exact r_zret0 (by first | exact Or.inl rfl | exact Or.inr rfl) rfl dX1_giveArgument_80
def k_X8_startsPart : Kd := (yX8_startsPart, cX8_startsPart, 3, some .boolean, [])
theorem kv_X8_startsPart : KV k_X8_startsPart 1 := ⟨uw_mem 751 (by decide +kernel) rfl, uw_mem 169 (by decide +kernel) rfl, uw_mem 750 (by decide +kernel) rfl, uw_mem 24 (by decide +kernel) rfl, ⟨by decide +kernel, by decide +kernel⟩, by decide +kernel, by decide +kernel⟩
def fX8_startsPart (a0 : Nat) (a1 : Int) (C : Cd) : Option (Int × Cd) :=
if isO C a0 11 then cal (fX8_kindAt a0 a1 C) fun (r2 : Int) (C1 : Cd) =>
bnd (fun (t0_22 : Int) (C_22 : Cd) =>
retZ t0_22 C_22) fun J22 =>
bnd (fun  (C_17 : Cd) =>
J22 1 C_17) fun J17 =>
if w32 r2 = w32 5 then
J17 C1
else
if ¬ w32 r2 = w32 6 then
J22 0 C1
else
J17 C1
else none
set_option maxHeartbeats 8000000 in
set_option maxRecDepth 100000 in
theorem c_X8_startsPart {l : Launch} {Γ : Cx} {M0 : Md} (hG : GK Γ l) (a0 : Nat) (a1 : Int) (C : Cd) : Ct l Γ k_X8_startsPart 2 encI (emC M0) [.ref a0, wi a1] C (fX8_startsPart a0 a1 C) := by
  refine ct_of (by decide +kernel) rfl (Nat.le_of_ble_eq_true rfl) ?_
  refine r_lo [0, 1] (lo2 := [(0, .ref a0), (1, wi a1)]) rfl ?_
  unfold fX8_startsPart
  refine r_aload_n (x := a0) dX8_startsPart_0 rfl rfl ?_
  refine r_iload_n (x := a1) dX8_startsPart_1 rfl rfl ?_
  refine r_ccVi (c := 11) (k2 := k_X8_kindAt) (n := 1) (rest := []) um_X8_22 rfl kv_X8_kindAt hc_X8 (by decide) (c_X8_kindAt hG _ _ _) (by decide) rfl (Nat.le_of_ble_eq_true rfl) dX8_startsPart_2 rfl (fun r2 C1 => ?_)
  refine r_istore_n (lo2 := [(2, wi r2), (0, .ref a0), (1, wi a1)]) dX8_startsPart_5 rfl (by decide) rfl ?_
  refine r_iload_n (x := r2) dX8_startsPart_6 rfl rfl ?_
  refine ro_iconst (v := 5) dX8_startsPart_7 rfl ?_
  refine r_join (P := fun (J : Int → Cd → Option (Int × Cd)) => ∀ (t0_22 : Int) (C_22 : Cd), RunO l Γ k_X8_startsPart 2 encI (emC M0) 22 [] [wi t0_22] C_22 (J t0_22 C_22)) ?_ (fun J22 hJ22 => ?_)
  · intro t0_22 C_22
    exact r_zret rfl dX8_startsPart_22
  refine r_join (P := fun (J : Cd → Option (Int × Cd)) => ∀  (C_17 : Cd), RunO l Γ k_X8_startsPart 2 encI (emC M0) 17 [] [] C_17 (J C_17)) ?_ (fun J17 hJ17 => ?_)
  · intro C_17
    refine ro_iconst (v := 1) dX8_startsPart_17 rfl ?_
    refine r_goto (tgt := 22) dX8_startsPart_18 (by decide) ?_
    exact hJ22 1 C_17
  refine r_icmp_eq (tgt := 17) dX8_startsPart_8 (by decide) ?_ ?_
  · refine r_lo [] (lo2 := []) rfl ?_
    exact hJ17  C1
  · refine r_iload_n (x := r2) dX8_startsPart_11 rfl rfl ?_
    refine r_bipush (v := 6) dX8_startsPart_12 rfl ?_
    refine r_icmp_ne (tgt := 21) dX8_startsPart_14 (by decide) ?_ ?_
    · refine ro_iconst (v := 0) dX8_startsPart_21 rfl ?_
      refine r_lo [] (lo2 := []) rfl ?_
      exact hJ22 0 C1
    · refine r_lo [] (lo2 := []) rfl ?_
      exact hJ17  C1
def k_X1_listParts : Kd := (yX1_listParts, cX1_listParts, 5, none, [])
theorem kv_X1_listParts : KV k_X1_listParts 2 := ⟨uw_mem 1441 (by decide +kernel) rfl, uw_mem 162 (by decide +kernel) rfl, uw_mem 1440 (by decide +kernel) rfl, uw_mem 72 (by decide +kernel) rfl, ⟨by decide +kernel, by decide +kernel⟩, by decide +kernel, by decide +kernel⟩
def fX1_listParts (a0 : Nat) (a1 : Option Nat) (a2 : Int) (C : Cd) : Option (Unit × Cd) :=
if isO C a0 4 then bnd (cSetI C 413 a0 0) fun (C1 : Cd) =>
bnd (a2 + 1) fun (x3_8 : Int) =>
bnd (lpn (fun (_ : Int) (_ : Int) (_ : Cd) => (none : Option (Unit × Cd))) (fun L12 (v3_12 : Int) (v4_12 : Int) (C_12 : Cd) =>
if isO C_12 a0 4 then bnd (cR C_12 406 a0) fun (z2 : Option Nat) =>
drf z2 fun (p3 : Nat) =>
if isO C_12 p3 100 then
bnd (fun  (C_60 : Cd) =>
some ((), C_60)) fun J60 =>
if w32 (cn C_12 p3 : Int) ≤ w32 v4_12 then
J60 C_12
else
drf a1 fun (p4 : Nat) =>
if isO C_12 p4 11 then cal (fX8_startsPart p4 v3_12 C_12) fun (r6 : Int) (C5 : Cd) =>
if w32 r6 = 0 then
J60 C5
else
if isO C5 a0 4 then bnd (cR C5 406 a0) fun (z7 : Option Nat) =>
drf z7 fun (p8 : Nat) =>
if isO C5 p8 100 ∧ inR v4_12 (cn C5 p8) then bnd (cSetE C5 p8 (ix v4_12) v3_12) fun (C9 : Cd) =>
if isO C9 a0 4 then
if isO C9 a0 4 then bnd (cSetI C9 413 a0 ((cI C9 413 a0) + 1)) fun (C10 : Cd) =>
if isO C10 p4 11 then cal (fX8_endAt p4 v3_12 C10) fun (r12 : Int) (C11 : Cd) =>
L12 r12 (v4_12 + 1) C11
else none
else none
else none
else none
else none
else none
else none
else none) FU) fun J12 =>
J12 x3_8 0 C1
else none
set_option maxHeartbeats 8000000 in
set_option maxRecDepth 100000 in
theorem c_X1_listParts {l : Launch} {Γ : Cx} {M0 : Md} (hG : GK Γ l) (a0 : Nat) (a1 : Option Nat) (a2 : Int) (C : Cd) : Ct l Γ k_X1_listParts 3 encV (emC M0) [.ref a0, va_rf a1, wi a2] C (fX1_listParts a0 a1 a2 C) := by
  refine ct_of (by decide +kernel) rfl (by cases a1 <;> exact Nat.le_of_ble_eq_true rfl) ?_
  refine r_lo [0, 1, 2] (lo2 := [(0, .ref a0), (1, va_rf a1), (2, wi a2)]) (by cases a1 <;> rfl) ?_
  unfold fX1_listParts
  refine r_aload_n (x := a0) dX1_listParts_0 rfl rfl ?_
  refine ro_iconst (v := 0) dX1_listParts_1 rfl ?_
  refine r_cputI (c := 4) (kk := 13) hc_X1 rfl (by decide) inU_X1 (by decide) uf_X1_72 rfl tyX1 tyX1_ok nmX1 (fty := .int) (by decide) rfl rfl rfl rfl dX1_listParts_2 (fun C1 _ _ => ?_)
  refine r_iload_n (x := a2) dX1_listParts_5 rfl rfl ?_
  refine ro_iconst (v := 1) dX1_listParts_6 rfl ?_
  refine r_iadd dX1_listParts_7 ?_
  refine r_nm (fun x3_8 => ?_)
  refine r_istore_n (lo2 := [(3, wi x3_8), (0, .ref a0), (1, va_rf a1), (2, wi a2)]) dX1_listParts_8 rfl (by decide) rfl ?_
  refine ro_iconst (v := 0) dX1_listParts_9 rfl ?_
  refine r_istore (lo2 := [(4, wi 0), (3, wi x3_8), (0, .ref a0), (1, va_rf a1), (2, wi a2)]) dX1_listParts_10 (by decide) rfl ?_
  refine r_loop (P := fun (J : Int → Int → Cd → Option (Unit × Cd)) => ∀ (v3_12 : Int) (v4_12 : Int) (C_12 : Cd), RunO l Γ k_X1_listParts 3 encV (emC M0) 12 [(0, .ref a0), (1, va_rf a1), (3, wi v3_12), (4, wi v4_12)] [] C_12 (J v3_12 v4_12 C_12)) ?_ (fun L12 hL12 => ?_) (fun J12 hJ12 => ?_)
  · intros; exact ro_none
  · intro v3_12 v4_12 C_12
    refine r_iload (x := v4_12) dX1_listParts_12 rfl ?_
    refine r_aload_n (x := a0) dX1_listParts_14 rfl rfl ?_
    refine r_cgetR (c := 4) (kk := 6) hc_X1 rfl (by decide) inU_X1 (by decide) uf_X1_46 rfl (by decide) dX1_listParts_15 (fun z2 => ?_)
    refine r_dref (fun p3 hp3 => ?_)
    subst hp3
    refine r_calen (t := 100) rfl (by decide) dX1_listParts_18 ?_
    refine r_join (P := fun (J : Cd → Option (Unit × Cd)) => ∀  (C_60 : Cd), RunO l Γ k_X1_listParts 3 encV (emC M0) 60 [] [] C_60 (J C_60)) ?_ (fun J60 hJ60 => ?_)
    · intro C_60
      exact r_vret rfl dX1_listParts_60
    refine r_icmp_ge (tgt := 60) dX1_listParts_19 (by decide) ?_ ?_
    · refine r_lo [] (lo2 := []) rfl ?_
      exact hJ60  C_12
    · refine r_aloadq_n (x := a1) dX1_listParts_22 rfl rfl ?_
      refine r_iload_n (x := v3_12) dX1_listParts_23 rfl rfl ?_
      refine r_dref (fun p4 hp4 => ?_)
      subst hp4
      refine r_ccVNi (c := 11) (k2 := k_X8_startsPart) (n := 1) (rest := []) hG um_X1_222 rfl kv_X8_startsPart hc_X8 (by decide) (c_X8_startsPart hG _ _ _) (by decide) rfl (Nat.le_of_ble_eq_true rfl) dX1_listParts_24 rfl (fun r6 C5 => ?_)
      refine r_if_eq (tgt := 60) dX1_listParts_27 (by decide) ?_ ?_
      · refine r_lo [] (lo2 := []) rfl ?_
        exact hJ60  C5
      · refine r_aload_n (x := a0) dX1_listParts_30 rfl rfl ?_
        refine r_cgetR (c := 4) (kk := 6) hc_X1 rfl (by decide) inU_X1 (by decide) uf_X1_46 rfl (by decide) dX1_listParts_31 (fun z7 => ?_)
        refine r_iload (x := v4_12) dX1_listParts_34 rfl ?_
        refine r_iload_n (x := v3_12) dX1_listParts_36 rfl rfl ?_
        refine r_dref (fun p8 hp8 => ?_)
        subst hp8
        refine r_ciast dX1_listParts_37 (fun C9 _ _ => ?_)
        refine r_aload_n (x := a0) dX1_listParts_38 rfl rfl ?_
        refine r_dup dX1_listParts_39 rfl ?_
        refine r_cgetI (c := 4) (kk := 13) hc_X1 rfl (by decide) inU_X1 (by decide) uf_X1_72 rfl (by decide) dX1_listParts_40 ?_
        refine ro_iconst (v := 1) dX1_listParts_43 rfl ?_
        refine r_iadd dX1_listParts_44 ?_
        refine r_cputI (c := 4) (kk := 13) hc_X1 rfl (by decide) inU_X1 (by decide) uf_X1_72 rfl tyX1 tyX1_ok nmX1 (fty := .int) (by decide) rfl rfl rfl rfl dX1_listParts_45 (fun C10 _ _ => ?_)
        refine r_aload_n (x := p4) dX1_listParts_48 rfl rfl ?_
        refine r_iload_n (x := v3_12) dX1_listParts_49 rfl rfl ?_
        refine r_ccVNi (c := 11) (k2 := k_X8_endAt) (n := 1) (rest := []) hG um_X1_145 rfl kv_X8_endAt hc_X8 (by decide) (c_X8_endAt hG _ _ _) (by decide) rfl (Nat.le_of_ble_eq_true rfl) dX1_listParts_50 rfl (fun r12 C11 => ?_)
        refine r_istore_n (lo2 := [(3, wi r12), (0, .ref a0), (1, .ref p4), (4, wi v4_12)]) dX1_listParts_53 rfl (by decide) rfl ?_
        refine r_iinc (x := v4_12) (lo2 := [(4, wi (v4_12 + 1)), (3, wi r12), (0, .ref a0), (1, .ref p4)]) dX1_listParts_54 rfl (by decide) rfl ?_
        refine r_goto (tgt := 12) dX1_listParts_57 (by decide) ?_
        refine r_lo [2, 3, 1, 0] (lo2 := [(0, .ref a0), (1, .ref p4), (3, wi r12), (4, wi (v4_12 + 1))]) rfl ?_
        exact hL12 r12 (v4_12 + 1) C11
  refine r_lo [2, 3, 1, 0] (lo2 := [(0, .ref a0), (1, va_rf a1), (3, wi x3_8), (4, wi 0)]) rfl ?_
  exact hJ12 x3_8 0 C1
def k_X1_partOf : Kd := (yX1_partOf, cX1_partOf, 4, some (.object "Weaveword$Row"), [])
theorem kv_X1_partOf : KV k_X1_partOf 2 := ⟨uw_mem 1454 (by decide +kernel) rfl, uw_mem 162 (by decide +kernel) rfl, uw_mem 1453 (by decide +kernel) rfl, uw_mem 75 (by decide +kernel) rfl, ⟨by decide +kernel, by decide +kernel⟩, by decide +kernel, by decide +kernel⟩
def fX1_partOf (a0 : Nat) (a1 : Option Nat) (a2 : Int) (C : Cd) : Option (Option Nat × Cd) :=
bnd (fun (t0_34 : Int) (C_34 : Cd) =>
bnd (fun  (C_48 : Cd) =>
if isO C_48 a0 4 then bnd (cR C_48 404 a0) fun (z1 : Option Nat) =>
some (z1, C_48)
else none) fun J48 =>
if w32 t0_34 < 0 then
J48 C_34
else
drf a1 fun (p2 : Nat) =>
if isO C_34 p2 5 then bnd (cR C_34 501 p2) fun (z3 : Option Nat) =>
drf z3 fun (p4 : Nat) =>
if isO C_34 p4 106 then
if w32 t0_34 < w32 (cn C_34 p4 : Int) then
if isO C_34 p2 5 then bnd (cR C_34 502 p2) fun (z5 : Option Nat) =>
drf z5 fun (p6 : Nat) =>
if isO C_34 p6 101 ∧ inR t0_34 (cn C_34 p6) then
if ¬ w32 (cE C_34 p6 (ix t0_34)) = 0 then
if isO C_34 p2 5 then bnd (cR C_34 501 p2) fun (z7 : Option Nat) =>
drf z7 fun (p8 : Nat) =>
if isO C_34 p8 106 ∧ inR t0_34 (cn C_34 p8) then bnd (cP C_34 p8 (ix t0_34)) fun (z9 : Option Nat) =>
some (z9, C_34)
else none
else none
else
if isO C_34 a0 4 then bnd (cSetI C_34 414 a0 t0_34) fun (C10 : Cd) =>
some (none, C10)
else none
else none
else none
else
J48 C_34
else none
else none) fun J34 =>
bnd (fun  (C_33 : Cd) =>
J34 (-1) C_33) fun J33 =>
if w32 a2 < w32 1 then
J33 C
else
if isO C a0 4 then
if w32 (cI C 413 a0) < w32 a2 then
J33 C
else
if isO C a0 4 then bnd (cR C 406 a0) fun (z11 : Option Nat) =>
drf z11 fun (p12 : Nat) =>
if isO C p12 100 then
if w32 (cn C p12 : Int) < w32 a2 then
J33 C
else
if isO C a0 4 then bnd (cR C 406 a0) fun (z13 : Option Nat) =>
drf z13 fun (p14 : Nat) =>
if isO C p14 100 ∧ inR (a2 - 1) (cn C p14) then
J34 (cE C p14 (ix (a2 - 1))) C
else none
else none
else none
else none
else none
set_option maxHeartbeats 8000000 in
set_option maxRecDepth 100000 in
theorem c_X1_partOf {l : Launch} {Γ : Cx} {M0 : Md} (hG : GK Γ l) (a0 : Nat) (a1 : Option Nat) (a2 : Int) (C : Cd) : Ct l Γ k_X1_partOf 1 encR (emC M0) [.ref a0, va_rf a1, wi a2] C (fX1_partOf a0 a1 a2 C) := by
  refine ct_of (by decide +kernel) rfl (by cases a1 <;> exact Nat.le_of_ble_eq_true rfl) ?_
  refine r_lo [0, 1, 2] (lo2 := [(0, .ref a0), (1, va_rf a1), (2, wi a2)]) (by cases a1 <;> rfl) ?_
  unfold fX1_partOf
  refine r_iload_n (x := a2) dX1_partOf_0 rfl rfl ?_
  refine ro_iconst (v := 1) dX1_partOf_1 rfl ?_
  refine r_join (P := fun (J : Int → Cd → Option (Option Nat × Cd)) => ∀ (t0_34 : Int) (C_34 : Cd), RunO l Γ k_X1_partOf 1 encR (emC M0) 34 [(0, .ref a0), (1, va_rf a1)] [wi t0_34] C_34 (J t0_34 C_34)) ?_ (fun J34 hJ34 => ?_)
  · intro t0_34 C_34
    refine r_istore_n (lo2 := [(3, wi t0_34), (0, .ref a0), (1, va_rf a1)]) dX1_partOf_34 rfl (by decide) rfl ?_
    refine r_iload_n (x := t0_34) dX1_partOf_35 rfl rfl ?_
    refine r_join (P := fun (J : Cd → Option (Option Nat × Cd)) => ∀  (C_48 : Cd), RunO l Γ k_X1_partOf 1 encR (emC M0) 48 [(0, .ref a0)] [] C_48 (J C_48)) ?_ (fun J48 hJ48 => ?_)
    · intro C_48
      refine r_aload_n (x := a0) dX1_partOf_48 rfl rfl ?_
      refine r_cgetR (c := 4) (kk := 4) hc_X1 rfl (by decide) inU_X1 (by decide) uf_X1_38 rfl (by decide) dX1_partOf_49 (fun z1 => ?_)
      exact r_aret (x := z1) rfl (Or.inl ⟨_, rfl⟩) dX1_partOf_52
    refine r_if_lt (tgt := 48) dX1_partOf_36 (by decide) ?_ ?_
    · refine r_lo [1] (lo2 := [(0, .ref a0)]) rfl ?_
      exact hJ48  C_34
    · refine r_iload_n (x := t0_34) dX1_partOf_39 rfl rfl ?_
      refine r_aloadq_n (x := a1) dX1_partOf_40 rfl rfl ?_
      refine r_dref (fun p2 hp2 => ?_)
      subst hp2
      refine r_cgetRN (c := 5) (kk := 1) hc_X2 rfl (by decide) inU_X2 (by decide) hG uf_X1_213 rfl (by decide) dX1_partOf_41 (fun z3 => ?_)
      refine r_dref (fun p4 hp4 => ?_)
      subst hp4
      refine r_calen (t := 106) rfl (by decide) dX1_partOf_44 ?_
      refine r_icmp_lt (tgt := 53) dX1_partOf_45 (by decide) ?_ ?_
      · refine r_aload_n (x := p2) dX1_partOf_53 rfl rfl ?_
        refine r_cgetRN (c := 5) (kk := 2) hc_X2 rfl (by decide) inU_X2 (by decide) hG uf_X1_218 rfl (by decide) dX1_partOf_54 (fun z5 => ?_)
        refine r_iload_n (x := t0_34) dX1_partOf_57 rfl rfl ?_
        refine r_dref (fun p6 hp6 => ?_)
        subst hp6
        refine r_czald dX1_partOf_58 ?_
        refine r_if_ne (tgt := 69) dX1_partOf_59 (by decide) ?_ ?_
        · refine r_aload_n (x := p2) dX1_partOf_69 rfl rfl ?_
          refine r_cgetRN (c := 5) (kk := 1) hc_X2 rfl (by decide) inU_X2 (by decide) hG uf_X1_213 rfl (by decide) dX1_partOf_70 (fun z7 => ?_)
          refine r_iload_n (x := t0_34) dX1_partOf_73 rfl rfl ?_
          refine r_dref (fun p8 hp8 => ?_)
          subst hp8
          refine r_caald (t := 106) rfl (by decide) (by decide) dX1_partOf_74 (fun z9 => ?_)
          exact r_aret (x := z9) rfl (Or.inl ⟨_, rfl⟩) dX1_partOf_75
        · refine r_aload_n (x := a0) dX1_partOf_62 rfl rfl ?_
          refine r_iload_n (x := t0_34) dX1_partOf_63 rfl rfl ?_
          refine r_cputI (c := 4) (kk := 14) hc_X1 rfl (by decide) inU_X1 (by decide) uf_X1_75 rfl tyX1 tyX1_ok nmX1 (fty := .int) (by decide) rfl rfl rfl rfl dX1_partOf_64 (fun C10 _ _ => ?_)
          refine r_null dX1_partOf_67 ?_
          exact r_aret (x := none) rfl (Or.inl ⟨_, rfl⟩) dX1_partOf_68
      · refine r_lo [1] (lo2 := [(0, .ref a0)]) rfl ?_
        exact hJ48  C_34
  refine r_join (P := fun (J : Cd → Option (Option Nat × Cd)) => ∀  (C_33 : Cd), RunO l Γ k_X1_partOf 1 encR (emC M0) 33 [(0, .ref a0), (1, va_rf a1)] [] C_33 (J C_33)) ?_ (fun J33 hJ33 => ?_)
  · intro C_33
    refine ro_iconst (v := (-1)) dX1_partOf_33 rfl ?_
    exact hJ34 (-1) C_33
  refine r_icmp_lt (tgt := 33) dX1_partOf_2 (by decide) ?_ ?_
  · refine r_lo [0, 1] (lo2 := [(0, .ref a0), (1, va_rf a1)]) rfl ?_
    exact hJ33  C
  · refine r_iload_n (x := a2) dX1_partOf_5 rfl rfl ?_
    refine r_aload_n (x := a0) dX1_partOf_6 rfl rfl ?_
    refine r_cgetI (c := 4) (kk := 13) hc_X1 rfl (by decide) inU_X1 (by decide) uf_X1_72 rfl (by decide) dX1_partOf_7 ?_
    refine r_icmp_gt (tgt := 33) dX1_partOf_10 (by decide) ?_ ?_
    · refine r_lo [0, 1] (lo2 := [(0, .ref a0), (1, va_rf a1)]) rfl ?_
      exact hJ33  C
    · refine r_iload_n (x := a2) dX1_partOf_13 rfl rfl ?_
      refine r_aload_n (x := a0) dX1_partOf_14 rfl rfl ?_
      refine r_cgetR (c := 4) (kk := 6) hc_X1 rfl (by decide) inU_X1 (by decide) uf_X1_46 rfl (by decide) dX1_partOf_15 (fun z11 => ?_)
      refine r_dref (fun p12 hp12 => ?_)
      subst hp12
      refine r_calen (t := 100) rfl (by decide) dX1_partOf_18 ?_
      refine r_icmp_gt (tgt := 33) dX1_partOf_19 (by decide) ?_ ?_
      · refine r_lo [0, 1] (lo2 := [(0, .ref a0), (1, va_rf a1)]) rfl ?_
        exact hJ33  C
      · refine r_aload_n (x := a0) dX1_partOf_22 rfl rfl ?_
        refine r_cgetR (c := 4) (kk := 6) hc_X1 rfl (by decide) inU_X1 (by decide) uf_X1_46 rfl (by decide) dX1_partOf_23 (fun z13 => ?_)
        refine r_iload_n (x := a2) dX1_partOf_26 rfl rfl ?_
        refine ro_iconst (v := 1) dX1_partOf_27 rfl ?_
        refine r_isub dX1_partOf_28 ?_
        refine r_dref (fun p14 hp14 => ?_)
        subst hp14
        refine r_ciald dX1_partOf_29 ?_
        refine r_goto (tgt := 34) dX1_partOf_30 (by decide) ?_
        refine r_lo [0, 1] (lo2 := [(0, .ref a0), (1, va_rf a1)]) rfl ?_
        exact hJ34 (cE C p14 (ix (a2 - 1))) C
def k_X1_giveSum : Kd := (yX1_giveSum, cX1_giveSum, 5, some .boolean, [])
theorem kv_X1_giveSum : KV k_X1_giveSum 1 := ⟨uw_mem 1450 (by decide +kernel) rfl, uw_mem 162 (by decide +kernel) rfl, uw_mem 1449 (by decide +kernel) rfl, uw_mem 74 (by decide +kernel) rfl, ⟨by decide +kernel, by decide +kernel⟩, by decide +kernel, by decide +kernel⟩
def fX1_giveSum (a0 : Nat) (a1 : Option Nat) (C : Cd) : Option (Int × Cd) :=
bnd (lpn (fun (_ : Int) (_ : Int) (_ : Cd) => (none : Option (Int × Cd))) (fun L4 (v2_4 : Int) (v3_4 : Int) (C_4 : Cd) =>
if isO C_4 a0 4 then
if w32 (cI C_4 413 a0) < w32 v3_4 then
drf a1 fun (p1 : Nat) =>
if isO C_4 p1 9 then bnd (cR C_4 901 p1) fun (z2 : Option Nat) =>
drf z2 fun (p3 : Nat) =>
if isO C_4 p3 8 then cal (fX5_add p3 (remI v2_4 1000) C_4) fun (r5 : Unit) (C4 : Cd) =>
some (1, C4)
else none
else none
else
drf a1 fun (p6 : Nat) =>
if isO C_4 p6 9 then bnd (cR C_4 900 p6) fun (z7 : Option Nat) =>
if isO C_4 a0 4 then cal (fX1_partOf a0 z7 v3_4 C_4) fun (r9 : Option Nat) (C8 : Cd) =>
opt r9 (
some (0, C8)) (fun (p10 : Nat) =>
if isO C8 p10 8 then
bnd (v2_4 + (cI C8 802 p10)) fun (x2_37 : Int) =>
L4 x2_37 (v3_4 + 1) C8
else none)
else none
else none
else none) FU) fun J4 =>
J4 0 1 C
set_option maxHeartbeats 8000000 in
set_option maxRecDepth 100000 in
theorem c_X1_giveSum {l : Launch} {Γ : Cx} {M0 : Md} (hG : GK Γ l) (a0 : Nat) (a1 : Option Nat) (C : Cd) : Ct l Γ k_X1_giveSum 2 encI (emC M0) [.ref a0, va_rf a1] C (fX1_giveSum a0 a1 C) := by
  refine ct_of (by decide +kernel) rfl (by cases a1 <;> exact Nat.le_of_ble_eq_true rfl) ?_
  refine r_lo [0, 1] (lo2 := [(0, .ref a0), (1, va_rf a1)]) (by cases a1 <;> rfl) ?_
  unfold fX1_giveSum
  refine ro_iconst (v := 0) dX1_giveSum_0 rfl ?_
  refine r_istore_n (lo2 := [(2, wi 0), (0, .ref a0), (1, va_rf a1)]) dX1_giveSum_1 rfl (by decide) (by cases a1 <;> rfl) ?_
  refine ro_iconst (v := 1) dX1_giveSum_2 rfl ?_
  refine r_istore_n (lo2 := [(3, wi 1), (2, wi 0), (0, .ref a0), (1, va_rf a1)]) dX1_giveSum_3 rfl (by decide) rfl ?_
  refine r_loop (P := fun (J : Int → Int → Cd → Option (Int × Cd)) => ∀ (v2_4 : Int) (v3_4 : Int) (C_4 : Cd), RunO l Γ k_X1_giveSum 2 encI (emC M0) 4 [(0, .ref a0), (1, va_rf a1), (2, wi v2_4), (3, wi v3_4)] [] C_4 (J v2_4 v3_4 C_4)) ?_ (fun L4 hL4 => ?_) (fun J4 hJ4 => ?_)
  · intros; exact ro_none
  · intro v2_4 v3_4 C_4
    refine r_iload_n (x := v3_4) dX1_giveSum_4 rfl rfl ?_
    refine r_aload_n (x := a0) dX1_giveSum_5 rfl rfl ?_
    refine r_cgetI (c := 4) (kk := 13) hc_X1 rfl (by decide) inU_X1 (by decide) uf_X1_72 rfl (by decide) dX1_giveSum_6 ?_
    refine r_icmp_gt (tgt := 44) dX1_giveSum_9 (by decide) ?_ ?_
    · refine r_aloadq_n (x := a1) dX1_giveSum_44 rfl rfl ?_
      refine r_dref (fun p1 hp1 => ?_)
      subst hp1
      refine r_cgetRN (c := 9) (kk := 1) hc_X6 rfl (by decide) inU_X6 (by decide) hG uf_X1_120 rfl (by decide) dX1_giveSum_45 (fun z2 => ?_)
      refine r_iload_n (x := v2_4) dX1_giveSum_48 rfl rfl ?_
      refine r_sipush (v := 1000) dX1_giveSum_49 rfl ?_
      refine r_irem dX1_giveSum_52 (by decide) ?_
      refine r_dref (fun p3 hp3 => ?_)
      subst hp3
      refine r_ccVNv (c := 8) (k2 := k_X5_add) (n := 1) (rest := []) hG um_X1_132 rfl kv_X5_add hc_X5 (by decide) (c_X5_add hG _ _ _) (by decide) rfl (Nat.le_of_ble_eq_true rfl) dX1_giveSum_53 rfl (fun r5 C4 => ?_)
      refine ro_iconst (v := 1) dX1_giveSum_56 rfl ?_
      exact r_zret0 (by first | exact Or.inl rfl | exact Or.inr rfl) rfl dX1_giveSum_57
    · refine r_aload_n (x := a0) dX1_giveSum_12 rfl rfl ?_
      refine r_aloadq_n (x := a1) dX1_giveSum_13 rfl rfl ?_
      refine r_dref (fun p6 hp6 => ?_)
      subst hp6
      refine r_cgetRN (c := 9) (kk := 0) hc_X6 rfl (by decide) inU_X6 (by decide) hG uf_X1_116 rfl (by decide) dX1_giveSum_14 (fun z7 => ?_)
      refine r_iload_n (x := v3_4) dX1_giveSum_17 rfl rfl ?_
      refine r_ccVr (c := 4) (k2 := k_X1_partOf) (n := 2) (rest := []) um_X1_229 rfl kv_X1_partOf hc_X1 (by decide) (c_X1_partOf hG _ _ _ _) (by decide) rfl (Nat.le_of_ble_eq_true rfl) dX1_giveSum_18 rfl (fun r9 C8 => ?_)
      refine r_astoreq (lo2 := [(4, va_rf r9), (0, .ref a0), (1, .ref p6), (2, wi v2_4), (3, wi v3_4)]) dX1_giveSum_21 (by decide) rfl ?_
      refine r_aloadq (x := r9) dX1_giveSum_23 rfl ?_
      refine r_opt (fun hn => ?_) (fun p10 hp10 => ?_)
      · subst hn
        refine r_ifnonnullN dX1_giveSum_25 ?_
        refine ro_iconst (v := 0) dX1_giveSum_28 rfl ?_
        exact r_zret0 (by first | exact Or.inl rfl | exact Or.inr rfl) rfl dX1_giveSum_29
      · subst hp10
        refine r_ifnonnullS (a := p10) (tgt := 30) dX1_giveSum_25 (by decide) ?_
        refine r_iload_n (x := v2_4) dX1_giveSum_30 rfl rfl ?_
        refine r_aload (x := p10) dX1_giveSum_31 rfl ?_
        refine r_cgetIN (c := 8) (kk := 2) hc_X5 rfl (by decide) inU_X5 (by decide) hG uf_X1_265 rfl (by decide) dX1_giveSum_33 ?_
        refine r_iadd dX1_giveSum_36 ?_
        refine r_nm (fun x2_37 => ?_)
        refine r_istore_n (lo2 := [(2, wi x2_37), (4, .ref p10), (0, .ref a0), (1, .ref p6), (3, wi v3_4)]) dX1_giveSum_37 rfl (by decide) rfl ?_
        refine r_iinc (x := v3_4) (lo2 := [(3, wi (v3_4 + 1)), (2, wi x2_37), (4, .ref p10), (0, .ref a0), (1, .ref p6)]) dX1_giveSum_38 rfl (by decide) rfl ?_
        refine r_goto (tgt := 4) dX1_giveSum_41 (by decide) ?_
        refine r_lo [3, 4, 1, 0] (lo2 := [(0, .ref a0), (1, .ref p6), (2, wi x2_37), (3, wi (v3_4 + 1))]) rfl ?_
        exact hL4 x2_37 (v3_4 + 1) C8
  refine r_lo [2, 3, 1, 0] (lo2 := [(0, .ref a0), (1, va_rf a1), (2, wi 0), (3, wi 1)]) rfl ?_
  exact hJ4 0 1 C
def k_X5_hasOtherThanZero : Kd := (yX5_hasOtherThanZero, cX5_hasOtherThanZero, 2, some .boolean, [])
theorem kv_X5_hasOtherThanZero : KV k_X5_hasOtherThanZero 0 := ⟨uw_mem 1458 (by decide +kernel) rfl, uw_mem 163 (by decide +kernel) rfl, uw_mem 1457 (by decide +kernel) rfl, uw_mem 76 (by decide +kernel) rfl, ⟨by decide +kernel, by decide +kernel⟩, by decide +kernel, by decide +kernel⟩
def fX5_hasOtherThanZero (a0 : Nat) (C : Cd) : Option (Int × Cd) :=
bnd (lpn (fun (_ : Int) (_ : Cd) => (none : Option (Int × Cd))) (fun L2 (v1_2 : Int) (C_2 : Cd) =>
if isO C_2 a0 8 then
if w32 (cI C_2 801 a0) ≤ w32 v1_2 then
some (0, C_2)
else
if isO C_2 a0 8 then cal (fX5_at a0 v1_2 C_2) fun (r2 : Int) (C1 : Cd) =>
if w32 r2 = 0 then
L2 (v1_2 + 1) C1
else
some (1, C1)
else none
else none) FU) fun J2 =>
J2 0 C
set_option maxHeartbeats 8000000 in
set_option maxRecDepth 100000 in
theorem c_X5_hasOtherThanZero {l : Launch} {Γ : Cx} {M0 : Md} (hG : GK Γ l) (a0 : Nat) (C : Cd) : Ct l Γ k_X5_hasOtherThanZero 2 encI (emC M0) [.ref a0] C (fX5_hasOtherThanZero a0 C) := by
  refine ct_of (by decide +kernel) rfl (Nat.le_of_ble_eq_true rfl) ?_
  refine r_lo [0] (lo2 := [(0, .ref a0)]) rfl ?_
  unfold fX5_hasOtherThanZero
  refine ro_iconst (v := 0) dX5_hasOtherThanZero_0 rfl ?_
  refine r_istore_n (lo2 := [(1, wi 0), (0, .ref a0)]) dX5_hasOtherThanZero_1 rfl (by decide) rfl ?_
  refine r_loop (P := fun (J : Int → Cd → Option (Int × Cd)) => ∀ (v1_2 : Int) (C_2 : Cd), RunO l Γ k_X5_hasOtherThanZero 2 encI (emC M0) 2 [(0, .ref a0), (1, wi v1_2)] [] C_2 (J v1_2 C_2)) ?_ (fun L2 hL2 => ?_) (fun J2 hJ2 => ?_)
  · intros; exact ro_none
  · intro v1_2 C_2
    refine r_iload_n (x := v1_2) dX5_hasOtherThanZero_2 rfl rfl ?_
    refine r_aload_n (x := a0) dX5_hasOtherThanZero_3 rfl rfl ?_
    refine r_cgetI (c := 8) (kk := 1) hc_X5 rfl (by decide) inU_X5 (by decide) uf_X5_15 rfl (by decide) dX5_hasOtherThanZero_4 ?_
    refine r_icmp_ge (tgt := 26) dX5_hasOtherThanZero_7 (by decide) ?_ ?_
    · refine ro_iconst (v := 0) dX5_hasOtherThanZero_26 rfl ?_
      exact r_zret0 (by first | exact Or.inl rfl | exact Or.inr rfl) rfl dX5_hasOtherThanZero_27
    · refine r_aload_n (x := a0) dX5_hasOtherThanZero_10 rfl rfl ?_
      refine r_iload_n (x := v1_2) dX5_hasOtherThanZero_11 rfl rfl ?_
      refine r_ccVi (c := 8) (k2 := k_X5_at) (n := 1) (rest := []) um_X5_22 rfl kv_X5_at hc_X5 (by decide) (c_X5_at hG _ _ _) (by decide) rfl (Nat.le_of_ble_eq_true rfl) dX5_hasOtherThanZero_12 rfl (fun r2 C1 => ?_)
      refine r_if_eq (tgt := 20) dX5_hasOtherThanZero_15 (by decide) ?_ ?_
      · refine r_iinc (x := v1_2) (lo2 := [(1, wi (v1_2 + 1)), (0, .ref a0)]) dX5_hasOtherThanZero_20 rfl (by decide) rfl ?_
        refine r_goto (tgt := 2) dX5_hasOtherThanZero_23 (by decide) ?_
        refine r_lo [1, 0] (lo2 := [(0, .ref a0), (1, wi (v1_2 + 1))]) rfl ?_
        exact hL2 (v1_2 + 1) C1
      · refine ro_iconst (v := 1) dX5_hasOtherThanZero_18 rfl ?_
        exact r_zret0 (by first | exact Or.inl rfl | exact Or.inr rfl) rfl dX5_hasOtherThanZero_19
  refine r_lo [1, 0] (lo2 := [(0, .ref a0), (1, wi 0)]) rfl ?_
  exact hJ2 0 C
def k_X1_givePart : Kd := (yX1_givePart, cX1_givePart, 4, some .boolean, [])
theorem kv_X1_givePart : KV k_X1_givePart 2 := ⟨uw_mem 1462 (by decide +kernel) rfl, uw_mem 162 (by decide +kernel) rfl, uw_mem 1461 (by decide +kernel) rfl, uw_mem 77 (by decide +kernel) rfl, ⟨by decide +kernel, by decide +kernel⟩, by decide +kernel, by decide +kernel⟩
def fX1_givePart (a0 : Nat) (a1 : Option Nat) (a2 : Int) (C : Cd) : Option (Int × Cd) :=
drf a1 fun (p1 : Nat) =>
if isO C p1 9 then bnd (cR C 900 p1) fun (z2 : Option Nat) =>
if isO C a0 4 then cal (fX1_partOf a0 z2 a2 C) fun (r4 : Option Nat) (C3 : Cd) =>
opt r4 (
some (0, C3)) (fun (p5 : Nat) =>
if isO C3 p1 9 then bnd (cR C3 901 p1) fun (z6 : Option Nat) =>
drf z6 fun (p7 : Nat) =>
if isO C3 p7 8 then cal (fX5_addAll p7 (some p5) C3) fun (r9 : Unit) (C8 : Cd) =>
some (1, C8)
else none
else none)
else none
else none
set_option maxHeartbeats 8000000 in
set_option maxRecDepth 100000 in
theorem c_X1_givePart {l : Launch} {Γ : Cx} {M0 : Md} (hG : GK Γ l) (a0 : Nat) (a1 : Option Nat) (a2 : Int) (C : Cd) : Ct l Γ k_X1_givePart 3 encI (emC M0) [.ref a0, va_rf a1, wi a2] C (fX1_givePart a0 a1 a2 C) := by
  refine ct_of (by decide +kernel) rfl (by cases a1 <;> exact Nat.le_of_ble_eq_true rfl) ?_
  refine r_lo [0, 1, 2] (lo2 := [(0, .ref a0), (1, va_rf a1), (2, wi a2)]) (by cases a1 <;> rfl) ?_
  unfold fX1_givePart
  refine r_aload_n (x := a0) dX1_givePart_0 rfl rfl ?_
  refine r_aloadq_n (x := a1) dX1_givePart_1 rfl rfl ?_
  refine r_dref (fun p1 hp1 => ?_)
  subst hp1
  refine r_cgetRN (c := 9) (kk := 0) hc_X6 rfl (by decide) inU_X6 (by decide) hG uf_X1_116 rfl (by decide) dX1_givePart_2 (fun z2 => ?_)
  refine r_iload_n (x := a2) dX1_givePart_5 rfl rfl ?_
  refine r_ccVr (c := 4) (k2 := k_X1_partOf) (n := 2) (rest := []) um_X1_229 rfl kv_X1_partOf hc_X1 (by decide) (c_X1_partOf hG _ _ _ _) (by decide) rfl (Nat.le_of_ble_eq_true rfl) dX1_givePart_6 rfl (fun r4 C3 => ?_)
  refine r_astoreq_n (lo2 := [(3, va_rf r4), (0, .ref a0), (1, .ref p1), (2, wi a2)]) dX1_givePart_9 rfl (by decide) rfl ?_
  refine r_aloadq_n (x := r4) dX1_givePart_10 rfl rfl ?_
  refine r_opt (fun hn => ?_) (fun p5 hp5 => ?_)
  · subst hn
    refine r_ifnonnullN dX1_givePart_11 ?_
    refine ro_iconst (v := 0) dX1_givePart_14 rfl ?_
    exact r_zret0 (by first | exact Or.inl rfl | exact Or.inr rfl) rfl dX1_givePart_15
  · subst hp5
    refine r_ifnonnullS (a := p5) (tgt := 16) dX1_givePart_11 (by decide) ?_
    refine r_aload_n (x := p1) dX1_givePart_16 rfl rfl ?_
    refine r_cgetRN (c := 9) (kk := 1) hc_X6 rfl (by decide) inU_X6 (by decide) hG uf_X1_120 rfl (by decide) dX1_givePart_17 (fun z6 => ?_)
    refine r_aload_n (x := p5) dX1_givePart_20 rfl rfl ?_
    refine r_dref (fun p7 hp7 => ?_)
    subst hp7
    refine r_ccVNv (c := 8) (k2 := k_X5_addAll) (n := 1) (rest := []) hG um_X1_209 rfl kv_X5_addAll hc_X5 (by decide) (c_X5_addAll hG _ _ _) (by decide) rfl (Nat.le_of_ble_eq_true rfl) dX1_givePart_21 rfl (fun r9 C8 => ?_)
    refine ro_iconst (v := 1) dX1_givePart_24 rfl ?_
    exact r_zret0 (by first | exact Or.inl rfl | exact Or.inr rfl) rfl dX1_givePart_25
def k_X5_sameAs : Kd := (yX5_sameAs, cX5_sameAs, 3, some .boolean, [])
theorem kv_X5_sameAs : KV k_X5_sameAs 1 := ⟨uw_mem 1466 (by decide +kernel) rfl, uw_mem 163 (by decide +kernel) rfl, uw_mem 1465 (by decide +kernel) rfl, uw_mem 78 (by decide +kernel) rfl, ⟨by decide +kernel, by decide +kernel⟩, by decide +kernel, by decide +kernel⟩
def fX5_sameAs (a0 : Nat) (a1 : Option Nat) (C : Cd) : Option (Int × Cd) :=
drf a1 fun (p1 : Nat) =>
if isO C p1 8 then
if isO C a0 8 then
if w32 (cI C 801 p1) = w32 (cI C 801 a0) then
bnd (lpn (fun (_ : Int) (_ : Cd) => (none : Option (Int × Cd))) (fun L15 (v2_15 : Int) (C_15 : Cd) =>
if isO C_15 a0 8 then
if w32 (cI C_15 801 a0) ≤ w32 v2_15 then
some (1, C_15)
else
if isO C_15 a0 8 then cal (fX5_at a0 v2_15 C_15) fun (r3 : Int) (C2 : Cd) =>
if isO C2 p1 8 then cal (fX5_at p1 v2_15 C2) fun (r5 : Int) (C4 : Cd) =>
if w32 r3 = w32 r5 then
L15 (v2_15 + 1) C4
else
some (0, C4)
else none
else none
else none) FU) fun J15 =>
J15 0 C
else
some (0, C)
else none
else none
set_option maxHeartbeats 8000000 in
set_option maxRecDepth 100000 in
theorem c_X5_sameAs {l : Launch} {Γ : Cx} {M0 : Md} (hG : GK Γ l) (a0 : Nat) (a1 : Option Nat) (C : Cd) : Ct l Γ k_X5_sameAs 2 encI (emC M0) [.ref a0, va_rf a1] C (fX5_sameAs a0 a1 C) := by
  refine ct_of (by decide +kernel) rfl (by cases a1 <;> exact Nat.le_of_ble_eq_true rfl) ?_
  refine r_lo [0, 1] (lo2 := [(0, .ref a0), (1, va_rf a1)]) (by cases a1 <;> rfl) ?_
  unfold fX5_sameAs
  refine r_aloadq_n (x := a1) dX5_sameAs_0 rfl rfl ?_
  refine r_dref (fun p1 hp1 => ?_)
  subst hp1
  refine r_cgetI (c := 8) (kk := 1) hc_X5 rfl (by decide) inU_X5 (by decide) uf_X5_15 rfl (by decide) dX5_sameAs_1 ?_
  refine r_aload_n (x := a0) dX5_sameAs_4 rfl rfl ?_
  refine r_cgetI (c := 8) (kk := 1) hc_X5 rfl (by decide) inU_X5 (by decide) uf_X5_15 rfl (by decide) dX5_sameAs_5 ?_
  refine r_icmp_eq (tgt := 13) dX5_sameAs_8 (by decide) ?_ ?_
  · refine ro_iconst (v := 0) dX5_sameAs_13 rfl ?_
    refine r_istore_n (lo2 := [(2, wi 0), (0, .ref a0), (1, .ref p1)]) dX5_sameAs_14 rfl (by decide) rfl ?_
    refine r_loop (P := fun (J : Int → Cd → Option (Int × Cd)) => ∀ (v2_15 : Int) (C_15 : Cd), RunO l Γ k_X5_sameAs 2 encI (emC M0) 15 [(0, .ref a0), (1, .ref p1), (2, wi v2_15)] [] C_15 (J v2_15 C_15)) ?_ (fun L15 hL15 => ?_) (fun J15 hJ15 => ?_)
    · intros; exact ro_none
    · intro v2_15 C_15
      refine r_iload_n (x := v2_15) dX5_sameAs_15 rfl rfl ?_
      refine r_aload_n (x := a0) dX5_sameAs_16 rfl rfl ?_
      refine r_cgetI (c := 8) (kk := 1) hc_X5 rfl (by decide) inU_X5 (by decide) uf_X5_15 rfl (by decide) dX5_sameAs_17 ?_
      refine r_icmp_ge (tgt := 44) dX5_sameAs_20 (by decide) ?_ ?_
      · refine ro_iconst (v := 1) dX5_sameAs_44 rfl ?_
        exact r_zret0 (by first | exact Or.inl rfl | exact Or.inr rfl) rfl dX5_sameAs_45
      · refine r_aload_n (x := a0) dX5_sameAs_23 rfl rfl ?_
        refine r_iload_n (x := v2_15) dX5_sameAs_24 rfl rfl ?_
        refine r_ccVi (c := 8) (k2 := k_X5_at) (n := 1) (rest := []) um_X5_22 rfl kv_X5_at hc_X5 (by decide) (c_X5_at hG _ _ _) (by decide) rfl (Nat.le_of_ble_eq_true rfl) dX5_sameAs_25 rfl (fun r3 C2 => ?_)
        refine r_aload_n (x := p1) dX5_sameAs_28 rfl rfl ?_
        refine r_iload_n (x := v2_15) dX5_sameAs_29 rfl rfl ?_
        refine r_ccVi (c := 8) (k2 := k_X5_at) (n := 1) (rest := [wi r3]) um_X5_22 rfl kv_X5_at hc_X5 (by decide) (c_X5_at hG _ _ _) (by decide) rfl (Nat.le_of_ble_eq_true rfl) dX5_sameAs_30 rfl (fun r5 C4 => ?_)
        refine r_icmp_eq (tgt := 38) dX5_sameAs_33 (by decide) ?_ ?_
        · refine r_iinc (x := v2_15) (lo2 := [(2, wi (v2_15 + 1)), (0, .ref a0), (1, .ref p1)]) dX5_sameAs_38 rfl (by decide) rfl ?_
          refine r_goto (tgt := 15) dX5_sameAs_41 (by decide) ?_
          refine r_lo [1, 2, 0] (lo2 := [(0, .ref a0), (1, .ref p1), (2, wi (v2_15 + 1))]) rfl ?_
          exact hL15 (v2_15 + 1) C4
        · refine ro_iconst (v := 0) dX5_sameAs_36 rfl ?_
          exact r_zret0 (by first | exact Or.inl rfl | exact Or.inr rfl) rfl dX5_sameAs_37
    refine r_lo [1, 2, 0] (lo2 := [(0, .ref a0), (1, .ref p1), (2, wi 0)]) rfl ?_
    exact hJ15 0 C
  · refine ro_iconst (v := 0) dX5_sameAs_11 rfl ?_
    exact r_zret0 (by first | exact Or.inl rfl | exact Or.inr rfl) rfl dX5_sameAs_12
def k_X5_number : Kd := (yX5_number, cX5_number, 1, some .int, [])
theorem kv_X5_number : KV k_X5_number 0 := ⟨uw_mem 1470 (by decide +kernel) rfl, uw_mem 163 (by decide +kernel) rfl, uw_mem 1469 (by decide +kernel) rfl, uw_mem 79 (by decide +kernel) rfl, ⟨by decide +kernel, by decide +kernel⟩, by decide +kernel, by decide +kernel⟩
def fX5_number (a0 : Nat) (C : Cd) : Option (Int × Cd) :=
if isO C a0 8 then
bnd (fun (t0_29 : Int) (C_29 : Cd) =>
some (t0_29, C_29)) fun J29 =>
bnd (fun  (C_28 : Cd) =>
J29 (-1) C_28) fun J28 =>
if w32 (cI C 801 a0) ≤ 0 then
J28 C
else
if isO C a0 8 then bnd (cR C 800 a0) fun (z1 : Option Nat) =>
drf z1 fun (p2 : Nat) =>
if isO C p2 100 ∧ inR 0 (cn C p2) then
if w32 1000 ≤ w32 (cE C p2 (ix 0)) then
J28 C
else
if isO C a0 8 then bnd (cR C 800 a0) fun (z3 : Option Nat) =>
drf z3 fun (p4 : Nat) =>
if isO C p4 100 ∧ inR 0 (cn C p4) then
J29 (cE C p4 (ix 0)) C
else none
else none
else none
else none
else none
set_option maxHeartbeats 8000000 in
set_option maxRecDepth 100000 in
theorem c_X5_number {l : Launch} {Γ : Cx} {M0 : Md} (hG : GK Γ l) (a0 : Nat) (C : Cd) : Ct l Γ k_X5_number 1 encI (emC M0) [.ref a0] C (fX5_number a0 C) := by
  refine ct_of (by decide +kernel) rfl (Nat.le_of_ble_eq_true rfl) ?_
  refine r_lo [0] (lo2 := [(0, .ref a0)]) rfl ?_
  unfold fX5_number
  refine r_aload_n (x := a0) dX5_number_0 rfl rfl ?_
  refine r_cgetI (c := 8) (kk := 1) hc_X5 rfl (by decide) inU_X5 (by decide) uf_X5_15 rfl (by decide) dX5_number_1 ?_
  refine r_join (P := fun (J : Int → Cd → Option (Int × Cd)) => ∀ (t0_29 : Int) (C_29 : Cd), RunO l Γ k_X5_number 1 encI (emC M0) 29 [] [wi t0_29] C_29 (J t0_29 C_29)) ?_ (fun J29 hJ29 => ?_)
  · intro t0_29 C_29
    exact r_iret rfl dX5_number_29
  refine r_join (P := fun (J : Cd → Option (Int × Cd)) => ∀  (C_28 : Cd), RunO l Γ k_X5_number 1 encI (emC M0) 28 [] [] C_28 (J C_28)) ?_ (fun J28 hJ28 => ?_)
  · intro C_28
    refine ro_iconst (v := (-1)) dX5_number_28 rfl ?_
    exact hJ29 (-1) C_28
  refine r_if_le (tgt := 28) dX5_number_4 (by decide) ?_ ?_
  · refine r_lo [] (lo2 := []) rfl ?_
    exact hJ28  C
  · refine r_aload_n (x := a0) dX5_number_7 rfl rfl ?_
    refine r_cgetR (c := 8) (kk := 0) hc_X5 rfl (by decide) inU_X5 (by decide) uf_X5_9 rfl (by decide) dX5_number_8 (fun z1 => ?_)
    refine ro_iconst (v := 0) dX5_number_11 rfl ?_
    refine r_dref (fun p2 hp2 => ?_)
    subst hp2
    refine r_ciald dX5_number_12 ?_
    refine r_sipush (v := 1000) dX5_number_13 rfl ?_
    refine r_icmp_ge (tgt := 28) dX5_number_16 (by decide) ?_ ?_
    · refine r_lo [] (lo2 := []) rfl ?_
      exact hJ28  C
    · refine r_aload_n (x := a0) dX5_number_19 rfl rfl ?_
      refine r_cgetR (c := 8) (kk := 0) hc_X5 rfl (by decide) inU_X5 (by decide) uf_X5_9 rfl (by decide) dX5_number_20 (fun z3 => ?_)
      refine ro_iconst (v := 0) dX5_number_23 rfl ?_
      refine r_dref (fun p4 hp4 => ?_)
      subst hp4
      refine r_ciald dX5_number_24 ?_
      refine r_goto (tgt := 29) dX5_number_25 (by decide) ?_
      refine r_lo [] (lo2 := []) rfl ?_
      exact hJ29 (cE C p4 (ix 0)) C
def k_X3_textUpTo : Kd := (yX3_textUpTo, cX3_textUpTo, 3, some (.object "Weaveword$Text"), [])
theorem kv_X3_textUpTo : KV k_X3_textUpTo 1 := ⟨uw_mem 549 (by decide +kernel) rfl, uw_mem 178 (by decide +kernel) rfl, uw_mem 547 (by decide +kernel) rfl, uw_mem 9 (by decide +kernel) rfl, ⟨by decide +kernel, by decide +kernel⟩, by decide +kernel, by decide +kernel⟩
def fX3_textUpTo (a0 : Nat) (a1 : Int) (C : Cd) : Option (Option Nat × Cd) :=
if ¬ w32 a1 = w32 (-1) then
if isO C a0 6 then bnd (cR C 602 a0) fun (z1 : Option Nat) =>
bnd (lpn (fun (_ : Option Nat) (_ : Cd) => (none : Option (Option Nat × Cd))) (fun L18 (v2_18 : Option Nat) (C_18 : Cd) =>
opt v2_18 (
some (none, C_18)) (fun (p2 : Nat) =>
if isO C_18 p2 3 then
if w32 a1 < w32 (cI C_18 300 p2) then
if isO C_18 p2 3 then bnd (cR C_18 302 p2) fun (z3 : Option Nat) =>
L18 z3 C_18
else none
else
if isO C_18 p2 3 then bnd (cR C_18 301 p2) fun (z4 : Option Nat) =>
some (z4, C_18)
else none
else none)) FU) fun J18 =>
J18 z1 C
else none
else
if isO C a0 6 then bnd (cR C 601 a0) fun (z5 : Option Nat) =>
drf z5 fun (p6 : Nat) =>
if isO C p6 13 then bnd (cR C 1302 p6) fun (z7 : Option Nat) =>
some (z7, C)
else none
else none
set_option maxHeartbeats 8000000 in
set_option maxRecDepth 100000 in
theorem c_X3_textUpTo {l : Launch} {Γ : Cx} {M0 : Md} (hG : GK Γ l) (a0 : Nat) (a1 : Int) (C : Cd) : Ct l Γ k_X3_textUpTo 1 encR (emC M0) [.ref a0, wi a1] C (fX3_textUpTo a0 a1 C) := by
  refine ct_of (by decide +kernel) rfl (Nat.le_of_ble_eq_true rfl) ?_
  refine r_lo [0, 1] (lo2 := [(0, .ref a0), (1, wi a1)]) rfl ?_
  unfold fX3_textUpTo
  refine r_iload_n (x := a1) dX3_textUpTo_0 rfl rfl ?_
  refine ro_iconst (v := (-1)) dX3_textUpTo_1 rfl ?_
  refine r_icmp_ne (tgt := 13) dX3_textUpTo_2 (by decide) ?_ ?_
  · refine r_aload_n (x := a0) dX3_textUpTo_13 rfl rfl ?_
    refine r_cgetR (c := 6) (kk := 2) hc_X3 rfl (by decide) inU_X3 (by decide) uf_X3_18 rfl (by decide) dX3_textUpTo_14 (fun z1 => ?_)
    refine r_astoreq_n (lo2 := [(2, va_rf z1), (0, .ref a0), (1, wi a1)]) dX3_textUpTo_17 rfl (by decide) rfl ?_
    refine r_loop (P := fun (J : Option Nat → Cd → Option (Option Nat × Cd)) => ∀ (v2_18 : Option Nat) (C_18 : Cd), RunO l Γ k_X3_textUpTo 1 encR (emC M0) 18 [(1, wi a1), (2, va_rf v2_18)] [] C_18 (J v2_18 C_18)) ?_ (fun L18 hL18 => ?_) (fun J18 hJ18 => ?_)
    · intros; exact ro_none
    · intro v2_18 C_18
      refine r_aloadq_n (x := v2_18) dX3_textUpTo_18 rfl rfl ?_
      refine r_opt (fun hn => ?_) (fun p2 hp2 => ?_)
      · subst hn
        refine r_ifnullN (tgt := 43) dX3_textUpTo_19 (by decide) ?_
        refine r_null dX3_textUpTo_43 ?_
        exact r_aret (x := none) rfl (Or.inl ⟨_, rfl⟩) dX3_textUpTo_44
      · subst hp2
        refine r_ifnullS (a := p2) dX3_textUpTo_19 ?_
        refine r_aload_n (x := p2) dX3_textUpTo_22 rfl rfl ?_
        refine r_cgetIN (c := 3) (kk := 0) hc_X0 rfl (by decide) inU_X0 (by decide) hG uf_X3_54 rfl (by decide) dX3_textUpTo_23 ?_
        refine r_iload_n (x := a1) dX3_textUpTo_26 rfl rfl ?_
        refine r_icmp_gt (tgt := 35) dX3_textUpTo_27 (by decide) ?_ ?_
        · refine r_aload_n (x := p2) dX3_textUpTo_35 rfl rfl ?_
          refine r_cgetRN (c := 3) (kk := 2) hc_X0 rfl (by decide) inU_X0 (by decide) hG uf_X3_58 rfl (by decide) dX3_textUpTo_36 (fun z3 => ?_)
          refine r_astoreq_n (lo2 := [(2, va_rf z3), (1, wi a1)]) dX3_textUpTo_39 rfl (by decide) rfl ?_
          refine r_goto (tgt := 18) dX3_textUpTo_40 (by decide) ?_
          refine r_lo [1, 0] (lo2 := [(1, wi a1), (2, va_rf z3)]) rfl ?_
          exact hL18 z3 C_18
        · refine r_aload_n (x := p2) dX3_textUpTo_30 rfl rfl ?_
          refine r_cgetRN (c := 3) (kk := 1) hc_X0 rfl (by decide) inU_X0 (by decide) hG uf_X3_57 rfl (by decide) dX3_textUpTo_31 (fun z4 => ?_)
          exact r_aret (x := z4) rfl (Or.inl ⟨_, rfl⟩) dX3_textUpTo_34
    refine r_lo [2, 0] (lo2 := [(1, wi a1), (2, va_rf z1)]) rfl ?_
    exact hJ18 z1 C
  · refine r_aload_n (x := a0) dX3_textUpTo_5 rfl rfl ?_
    refine r_cgetR (c := 6) (kk := 1) hc_X3 rfl (by decide) inU_X3 (by decide) uf_X3_22 rfl (by decide) dX3_textUpTo_6 (fun z5 => ?_)
    refine r_dref (fun p6 hp6 => ?_)
    subst hp6
    refine r_cgetRN (c := 13) (kk := 2) hc_X10 rfl (by decide) inU_X10 (by decide) hG uf_X3_50 rfl (by decide) dX3_textUpTo_9 (fun z7 => ?_)
    exact r_aret (x := z7) rfl (Or.inl ⟨_, rfl⟩) dX3_textUpTo_12
def k_X1_textAt : Kd := (yX1_textAt, cX1_textAt, 4, some (.object "Weaveword$Text"), [])
theorem kv_X1_textAt : KV k_X1_textAt 2 := ⟨uw_mem 544 (by decide +kernel) rfl, uw_mem 162 (by decide +kernel) rfl, uw_mem 543 (by decide +kernel) rfl, uw_mem 8 (by decide +kernel) rfl, ⟨by decide +kernel, by decide +kernel⟩, by decide +kernel, by decide +kernel⟩
def fX1_textAt (a0 : Nat) (a1 : Int) (a2 : Int) (C : Cd) : Option (Option Nat × Cd) :=
bnd (fun (t0_26 : Option Nat) (C_26 : Cd) =>
bnd (fun (t0_40 : Option Nat) (C_40 : Cd) =>
some (t0_40, C_40)) fun J40 =>
opt t0_26 (
J40 none C_26) (fun (p1 : Nat) =>
if isO C_26 p1 6 then cal (fX3_textUpTo p1 a2 C_26) fun (r3 : Option Nat) (C2 : Cd) =>
J40 r3 C2
else none)) fun J26 =>
bnd (fun  (C_25 : Cd) =>
J26 none C_25) fun J25 =>
if w32 a1 < 0 then
J25 C
else
if isO C a0 4 then bnd (cR C 400 a0) fun (z4 : Option Nat) =>
drf z4 fun (p5 : Nat) =>
if isO C p5 102 then
if w32 (cn C p5 : Int) ≤ w32 a1 then
J25 C
else
if isO C a0 4 then bnd (cR C 400 a0) fun (z6 : Option Nat) =>
drf z6 fun (p7 : Nat) =>
if isO C p7 102 ∧ inR a1 (cn C p7) then bnd (cP C p7 (ix a1)) fun (z8 : Option Nat) =>
drf z8 fun (p9 : Nat) =>
if isO C p9 12 then bnd (cR C 1203 p9) fun (z10 : Option Nat) =>
J26 z10 C
else none
else none
else none
else none
else none
set_option maxHeartbeats 8000000 in
set_option maxRecDepth 100000 in
theorem c_X1_textAt {l : Launch} {Γ : Cx} {M0 : Md} (hG : GK Γ l) (a0 : Nat) (a1 : Int) (a2 : Int) (C : Cd) : Ct l Γ k_X1_textAt 2 encR (emC M0) [.ref a0, wi a1, wi a2] C (fX1_textAt a0 a1 a2 C) := by
  refine ct_of (by decide +kernel) rfl (Nat.le_of_ble_eq_true rfl) ?_
  refine r_lo [0, 1, 2] (lo2 := [(0, .ref a0), (1, wi a1), (2, wi a2)]) rfl ?_
  unfold fX1_textAt
  refine r_iload_n (x := a1) dX1_textAt_0 rfl rfl ?_
  refine r_join (P := fun (J : Option Nat → Cd → Option (Option Nat × Cd)) => ∀ (t0_26 : Option Nat) (C_26 : Cd), RunO l Γ k_X1_textAt 2 encR (emC M0) 26 [(2, wi a2)] [va_rf t0_26] C_26 (J t0_26 C_26)) ?_ (fun J26 hJ26 => ?_)
  · intro t0_26 C_26
    refine r_astoreq_n (lo2 := [(3, va_rf t0_26), (2, wi a2)]) dX1_textAt_26 rfl (by decide) rfl ?_
    refine r_aloadq_n (x := t0_26) dX1_textAt_27 rfl rfl ?_
    refine r_join (P := fun (J : Option Nat → Cd → Option (Option Nat × Cd)) => ∀ (t0_40 : Option Nat) (C_40 : Cd), RunO l Γ k_X1_textAt 2 encR (emC M0) 40 [] [va_rf t0_40] C_40 (J t0_40 C_40)) ?_ (fun J40 hJ40 => ?_)
    · intro t0_40 C_40
      exact r_aret (x := t0_40) rfl (Or.inl ⟨_, rfl⟩) dX1_textAt_40
    refine r_opt (fun hn => ?_) (fun p1 hp1 => ?_)
    · subst hn
      refine r_ifnonnullN dX1_textAt_28 ?_
      refine r_null dX1_textAt_31 ?_
      refine r_goto (tgt := 40) dX1_textAt_32 (by decide) ?_
      refine r_lo [] (lo2 := []) rfl ?_
      exact hJ40 none C_26
    · subst hp1
      refine r_ifnonnullS (a := p1) (tgt := 35) dX1_textAt_28 (by decide) ?_
      refine r_aload_n (x := p1) dX1_textAt_35 rfl rfl ?_
      refine r_iload_n (x := a2) dX1_textAt_36 rfl rfl ?_
      refine r_ccVNr (c := 6) (k2 := k_X3_textUpTo) (n := 1) (rest := []) hG um_X1_189 rfl kv_X3_textUpTo hc_X3 (by decide) (c_X3_textUpTo hG _ _ _) (by decide) rfl (Nat.le_of_ble_eq_true rfl) dX1_textAt_37 rfl (fun r3 C2 => ?_)
      refine r_lo [] (lo2 := []) rfl ?_
      exact hJ40 r3 C2
  refine r_join (P := fun (J : Cd → Option (Option Nat × Cd)) => ∀  (C_25 : Cd), RunO l Γ k_X1_textAt 2 encR (emC M0) 25 [(2, wi a2)] [] C_25 (J C_25)) ?_ (fun J25 hJ25 => ?_)
  · intro C_25
    refine r_null dX1_textAt_25 ?_
    exact hJ26 none C_25
  refine r_if_lt (tgt := 25) dX1_textAt_1 (by decide) ?_ ?_
  · refine r_lo [2] (lo2 := [(2, wi a2)]) rfl ?_
    exact hJ25  C
  · refine r_iload_n (x := a1) dX1_textAt_4 rfl rfl ?_
    refine r_aload_n (x := a0) dX1_textAt_5 rfl rfl ?_
    refine r_cgetR (c := 4) (kk := 0) hc_X1 rfl (by decide) inU_X1 (by decide) uf_X1_11 rfl (by decide) dX1_textAt_6 (fun z4 => ?_)
    refine r_dref (fun p5 hp5 => ?_)
    subst hp5
    refine r_calen (t := 102) rfl (by decide) dX1_textAt_9 ?_
    refine r_icmp_ge (tgt := 25) dX1_textAt_10 (by decide) ?_ ?_
    · refine r_lo [2] (lo2 := [(2, wi a2)]) rfl ?_
      exact hJ25  C
    · refine r_aload_n (x := a0) dX1_textAt_13 rfl rfl ?_
      refine r_cgetR (c := 4) (kk := 0) hc_X1 rfl (by decide) inU_X1 (by decide) uf_X1_11 rfl (by decide) dX1_textAt_14 (fun z6 => ?_)
      refine r_iload_n (x := a1) dX1_textAt_17 rfl rfl ?_
      refine r_dref (fun p7 hp7 => ?_)
      subst hp7
      refine r_caald (t := 102) rfl (by decide) (by decide) dX1_textAt_18 (fun z8 => ?_)
      refine r_dref (fun p9 hp9 => ?_)
      subst hp9
      refine r_cgetRN (c := 12) (kk := 3) hc_X9 rfl (by decide) inU_X9 (by decide) hG uf_X1_185 rfl (by decide) dX1_textAt_19 (fun z10 => ?_)
      refine r_goto (tgt := 26) dX1_textAt_22 (by decide) ?_
      refine r_lo [2] (lo2 := [(2, wi a2)]) rfl ?_
      exact hJ26 z10 C
def k_X1_giveExists : Kd := (yX1_giveExists, cX1_giveExists, 4, none, [])
theorem kv_X1_giveExists : KV k_X1_giveExists 2 := ⟨uw_mem 1474 (by decide +kernel) rfl, uw_mem 162 (by decide +kernel) rfl, uw_mem 1473 (by decide +kernel) rfl, uw_mem 80 (by decide +kernel) rfl, ⟨by decide +kernel, by decide +kernel⟩, by decide +kernel, by decide +kernel⟩
def fX1_giveExists (a0 : Nat) (a1 : Option Nat) (a2 : Int) (C : Cd) : Option (Unit × Cd) :=
bnd (fun (t0_15 : Int) (C_15 : Cd) =>
bnd (fun  (C_35 : Cd) =>
drf a1 fun (p1 : Nat) =>
if isO C_35 p1 9 then bnd (cR C_35 901 p1) fun (z2 : Option Nat) =>
bnd (fun (t0_60 : Int) (C_60 : Cd) =>
drf z2 fun (p3 : Nat) =>
if isO C_60 p3 8 then cal (fX5_add p3 t0_60 C_60) fun (r5 : Unit) (C4 : Cd) =>
some ((), C4)
else none) fun J60 =>
bnd (fun  (C_59 : Cd) =>
J60 0 C_59) fun J59 =>
if w32 t0_15 = 0 then
J59 C_35
else
if isO C_35 a0 4 then
if isO C_35 a0 4 then cal (fX1_textAt a0 a2 (cI C_35 411 a0) C_35) fun (r7 : Option Nat) (C6 : Cd) =>
opt r7 (
J59 C6) (fun (p8 : Nat) =>
J60 1 C6)
else none
else none
else none) fun J35 =>
if w32 t0_15 = 0 then
J35 C_15
else
if isO C_15 a0 4 then bnd (cR C_15 407 a0) fun (z9 : Option Nat) =>
drf z9 fun (p10 : Nat) =>
if isO C_15 p10 7 then
if isO C_15 p10 7 then bnd (cSetI C_15 705 p10 (orI (cI C_15 705 p10) (shlI 1 a2))) fun (C11 : Cd) =>
J35 C11
else none
else none
else none) fun J15 =>
bnd (fun  (C_14 : Cd) =>
J15 0 C_14) fun J14 =>
if w32 a2 < 0 then
J14 C
else
if w32 24 ≤ w32 a2 then
J14 C
else
J15 1 C
set_option maxHeartbeats 8000000 in
set_option maxRecDepth 100000 in
theorem c_X1_giveExists {l : Launch} {Γ : Cx} {M0 : Md} (hG : GK Γ l) (a0 : Nat) (a1 : Option Nat) (a2 : Int) (C : Cd) : Ct l Γ k_X1_giveExists 3 encV (emC M0) [.ref a0, va_rf a1, wi a2] C (fX1_giveExists a0 a1 a2 C) := by
  refine ct_of (by decide +kernel) rfl (by cases a1 <;> exact Nat.le_of_ble_eq_true rfl) ?_
  refine r_lo [0, 1, 2] (lo2 := [(0, .ref a0), (1, va_rf a1), (2, wi a2)]) (by cases a1 <;> rfl) ?_
  unfold fX1_giveExists
  refine r_iload_n (x := a2) dX1_giveExists_0 rfl rfl ?_
  refine r_join (P := fun (J : Int → Cd → Option (Unit × Cd)) => ∀ (t0_15 : Int) (C_15 : Cd), RunO l Γ k_X1_giveExists 3 encV (emC M0) 15 [(0, .ref a0), (1, va_rf a1), (2, wi a2)] [wi t0_15] C_15 (J t0_15 C_15)) ?_ (fun J15 hJ15 => ?_)
  · intro t0_15 C_15
    refine r_istore_n (lo2 := [(3, wi t0_15), (0, .ref a0), (1, va_rf a1), (2, wi a2)]) dX1_giveExists_15 rfl (by decide) rfl ?_
    refine r_iload_n (x := t0_15) dX1_giveExists_16 rfl rfl ?_
    refine r_join (P := fun (J : Cd → Option (Unit × Cd)) => ∀  (C_35 : Cd), RunO l Γ k_X1_giveExists 3 encV (emC M0) 35 [(0, .ref a0), (1, va_rf a1), (2, wi a2), (3, wi t0_15)] [] C_35 (J C_35)) ?_ (fun J35 hJ35 => ?_)
    · intro C_35
      refine r_aloadq_n (x := a1) dX1_giveExists_35 rfl rfl ?_
      refine r_dref (fun p1 hp1 => ?_)
      subst hp1
      refine r_cgetRN (c := 9) (kk := 1) hc_X6 rfl (by decide) inU_X6 (by decide) hG uf_X1_120 rfl (by decide) dX1_giveExists_36 (fun z2 => ?_)
      refine r_iload_n (x := t0_15) dX1_giveExists_39 rfl rfl ?_
      refine r_join (P := fun (J : Int → Cd → Option (Unit × Cd)) => ∀ (t0_60 : Int) (C_60 : Cd), RunO l Γ k_X1_giveExists 3 encV (emC M0) 60 [] [wi t0_60, va_rf z2] C_60 (J t0_60 C_60)) ?_ (fun J60 hJ60 => ?_)
      · intro t0_60 C_60
        refine r_dref (fun p3 hp3 => ?_)
        subst hp3
        refine r_ccVNv (c := 8) (k2 := k_X5_add) (n := 1) (rest := []) hG um_X1_132 rfl kv_X5_add hc_X5 (by decide) (c_X5_add hG _ _ _) (by decide) rfl (Nat.le_of_ble_eq_true rfl) dX1_giveExists_60 rfl (fun r5 C4 => ?_)
        exact r_vret rfl dX1_giveExists_63
      refine r_join (P := fun (J : Cd → Option (Unit × Cd)) => ∀  (C_59 : Cd), RunO l Γ k_X1_giveExists 3 encV (emC M0) 59 [] [va_rf z2] C_59 (J C_59)) ?_ (fun J59 hJ59 => ?_)
      · intro C_59
        refine ro_iconst (v := 0) dX1_giveExists_59 rfl ?_
        exact hJ60 0 C_59
      refine r_if_eq (tgt := 59) dX1_giveExists_40 (by decide) ?_ ?_
      · refine r_lo [] (lo2 := []) rfl ?_
        exact hJ59  C_35
      · refine r_aload_n (x := a0) dX1_giveExists_43 rfl rfl ?_
        refine r_iload_n (x := a2) dX1_giveExists_44 rfl rfl ?_
        refine r_aload_n (x := a0) dX1_giveExists_45 rfl rfl ?_
        refine r_cgetI (c := 4) (kk := 11) hc_X1 rfl (by decide) inU_X1 (by decide) uf_X1_66 rfl (by decide) dX1_giveExists_46 ?_
        refine r_ccVr (c := 4) (k2 := k_X1_textAt) (n := 2) (rest := [va_rf z2]) um_X1_178 rfl kv_X1_textAt hc_X1 (by decide) (c_X1_textAt hG _ _ _ _) (by decide) rfl (by cases z2 <;> exact Nat.le_of_ble_eq_true rfl) dX1_giveExists_49 rfl (fun r7 C6 => ?_)
        refine r_opt (fun hn => ?_) (fun p8 hp8 => ?_)
        · subst hn
          refine r_ifnullN (tgt := 59) dX1_giveExists_52 (by decide) ?_
          refine r_lo [] (lo2 := []) rfl ?_
          exact hJ59  C6
        · subst hp8
          refine r_ifnullS (a := p8) dX1_giveExists_52 ?_
          refine ro_iconst (v := 1) dX1_giveExists_55 rfl ?_
          refine r_goto (tgt := 60) dX1_giveExists_56 (by decide) ?_
          refine r_lo [] (lo2 := []) rfl ?_
          exact hJ60 1 C6
    refine r_if_eq (tgt := 35) dX1_giveExists_17 (by decide) ?_ ?_
    · refine r_lo [1, 2, 3, 0] (lo2 := [(0, .ref a0), (1, va_rf a1), (2, wi a2), (3, wi t0_15)]) rfl ?_
      exact hJ35  C_15
    · refine r_aload_n (x := a0) dX1_giveExists_20 rfl rfl ?_
      refine r_cgetR (c := 4) (kk := 7) hc_X1 rfl (by decide) inU_X1 (by decide) uf_X1_52 rfl (by decide) dX1_giveExists_21 (fun z9 => ?_)
      refine r_dref (fun p10 hp10 => ?_)
      subst hp10
      refine r_dup dX1_giveExists_24 rfl ?_
      refine r_cgetIN (c := 7) (kk := 5) hc_X4 rfl (by decide) inU_X4 (by decide) hG uf_X1_171 rfl (by decide) dX1_giveExists_25 ?_
      refine ro_iconst (v := 1) dX1_giveExists_28 rfl ?_
      refine r_iload_n (x := a2) dX1_giveExists_29 rfl rfl ?_
      refine r_ishl dX1_giveExists_30 ?_
      refine r_ior dX1_giveExists_31 ?_
      refine r_cputIN (c := 7) (kk := 5) hc_X4 rfl (by decide) inU_X4 (by decide) hG uf_X1_171 rfl tyX4 tyX4_ok nmX4 (fty := .int) (by decide) rfl rfl rfl rfl dX1_giveExists_32 (fun C11 _ _ => ?_)
      refine r_lo [1, 2, 3, 0] (lo2 := [(0, .ref a0), (1, va_rf a1), (2, wi a2), (3, wi t0_15)]) rfl ?_
      exact hJ35  C11
  refine r_join (P := fun (J : Cd → Option (Unit × Cd)) => ∀  (C_14 : Cd), RunO l Γ k_X1_giveExists 3 encV (emC M0) 14 [(0, .ref a0), (1, va_rf a1), (2, wi a2)] [] C_14 (J C_14)) ?_ (fun J14 hJ14 => ?_)
  · intro C_14
    refine ro_iconst (v := 0) dX1_giveExists_14 rfl ?_
    exact hJ15 0 C_14
  refine r_if_lt (tgt := 14) dX1_giveExists_1 (by decide) ?_ ?_
  · exact hJ14  C
  · refine r_iload_n (x := a2) dX1_giveExists_4 rfl rfl ?_
    refine r_bipush (v := 24) dX1_giveExists_5 rfl ?_
    refine r_icmp_ge (tgt := 14) dX1_giveExists_7 (by decide) ?_ ?_
    · exact hJ14  C
    · refine ro_iconst (v := 1) dX1_giveExists_10 rfl ?_
      refine r_goto (tgt := 15) dX1_giveExists_11 (by decide) ?_
      exact hJ15 1 C
def k_X1_giveList : Kd := (yX1_giveList, cX1_giveList, 4, none, [])
theorem kv_X1_giveList : KV k_X1_giveList 2 := ⟨uw_mem 1491 (by decide +kernel) rfl, uw_mem 162 (by decide +kernel) rfl, uw_mem 1490 (by decide +kernel) rfl, uw_mem 82 (by decide +kernel) rfl, ⟨by decide +kernel, by decide +kernel⟩, by decide +kernel, by decide +kernel⟩
def fX1_giveList (a0 : Nat) (a1 : Option Nat) (a2 : Int) (C : Cd) : Option (Unit × Cd) :=
if isO C a0 4 then bnd (cR C 407 a0) fun (z1 : Option Nat) =>
drf z1 fun (p2 : Nat) =>
if isO C p2 7 then
if isO C p2 7 then bnd (cSetI C 703 p2 (orI (cI C 703 p2) a2)) fun (C3 : Cd) =>
bnd (lpn (fun (_ : Int) (_ : Cd) => (none : Option (Unit × Cd))) (fun L15 (v3_15 : Int) (C_15 : Cd) =>
if w32 24 ≤ w32 v3_15 then
some ((), C_15)
else
cal (fX11_has a2 v3_15 C_15) fun (r5 : Int) (C4 : Cd) =>
bnd (fun  (C_41 : Cd) =>
L15 (v3_15 + 1) C_41) fun J41 =>
if w32 r5 = 0 then
J41 C4
else
drf a1 fun (p6 : Nat) =>
if isO C4 p6 9 then bnd (cR C4 901 p6) fun (z7 : Option Nat) =>
drf z7 fun (p8 : Nat) =>
if isO C4 p8 8 then cal (fX5_add p8 (1000 + v3_15) C4) fun (r10 : Unit) (C9 : Cd) =>
J41 C9
else none
else none) FU) fun J15 =>
J15 0 C3
else none
else none
else none
set_option maxHeartbeats 8000000 in
set_option maxRecDepth 100000 in
theorem c_X1_giveList {l : Launch} {Γ : Cx} {M0 : Md} (hG : GK Γ l) (a0 : Nat) (a1 : Option Nat) (a2 : Int) (C : Cd) : Ct l Γ k_X1_giveList 2 encV (emC M0) [.ref a0, va_rf a1, wi a2] C (fX1_giveList a0 a1 a2 C) := by
  refine ct_of (by decide +kernel) rfl (by cases a1 <;> exact Nat.le_of_ble_eq_true rfl) ?_
  refine r_lo [0, 1, 2] (lo2 := [(0, .ref a0), (1, va_rf a1), (2, wi a2)]) (by cases a1 <;> rfl) ?_
  unfold fX1_giveList
  refine r_aload_n (x := a0) dX1_giveList_0 rfl rfl ?_
  refine r_cgetR (c := 4) (kk := 7) hc_X1 rfl (by decide) inU_X1 (by decide) uf_X1_52 rfl (by decide) dX1_giveList_1 (fun z1 => ?_)
  refine r_dref (fun p2 hp2 => ?_)
  subst hp2
  refine r_dup dX1_giveList_4 rfl ?_
  refine r_cgetIN (c := 7) (kk := 3) hc_X4 rfl (by decide) inU_X4 (by decide) hG uf_X1_136 rfl (by decide) dX1_giveList_5 ?_
  refine r_iload_n (x := a2) dX1_giveList_8 rfl rfl ?_
  refine r_ior dX1_giveList_9 ?_
  refine r_cputIN (c := 7) (kk := 3) hc_X4 rfl (by decide) inU_X4 (by decide) hG uf_X1_136 rfl tyX4 tyX4_ok nmX4 (fty := .int) (by decide) rfl rfl rfl rfl dX1_giveList_10 (fun C3 _ _ => ?_)
  refine ro_iconst (v := 0) dX1_giveList_13 rfl ?_
  refine r_istore_n (lo2 := [(3, wi 0), (0, .ref a0), (1, va_rf a1), (2, wi a2)]) dX1_giveList_14 rfl (by decide) rfl ?_
  refine r_loop (P := fun (J : Int → Cd → Option (Unit × Cd)) => ∀ (v3_15 : Int) (C_15 : Cd), RunO l Γ k_X1_giveList 2 encV (emC M0) 15 [(1, va_rf a1), (2, wi a2), (3, wi v3_15)] [] C_15 (J v3_15 C_15)) ?_ (fun L15 hL15 => ?_) (fun J15 hJ15 => ?_)
  · intros; exact ro_none
  · intro v3_15 C_15
    refine r_iload_n (x := v3_15) dX1_giveList_15 rfl rfl ?_
    refine r_bipush (v := 24) dX1_giveList_16 rfl ?_
    refine r_icmp_ge (tgt := 47) dX1_giveList_18 (by decide) ?_ ?_
    · exact r_vret rfl dX1_giveList_47
    · refine r_iload_n (x := a2) dX1_giveList_21 rfl rfl ?_
      refine r_iload_n (x := v3_15) dX1_giveList_22 rfl rfl ?_
      refine r_ccSNi (k2 := k_X11_has) (n := 2) (rest := []) hG um_X1_275 rfl kv_X11_has (c_X11_has hG _ _ _) (by decide) rfl (Nat.le_of_ble_eq_true rfl) dX1_giveList_23 rfl (fun r5 C4 => ?_)
      refine r_join (P := fun (J : Cd → Option (Unit × Cd)) => ∀  (C_41 : Cd), RunO l Γ k_X1_giveList 2 encV (emC M0) 41 [(1, va_rf a1), (2, wi a2), (3, wi v3_15)] [] C_41 (J C_41)) ?_ (fun J41 hJ41 => ?_)
      · intro C_41
        refine r_iinc (x := v3_15) (lo2 := [(3, wi (v3_15 + 1)), (1, va_rf a1), (2, wi a2)]) dX1_giveList_41 rfl (by decide) rfl ?_
        refine r_goto (tgt := 15) dX1_giveList_44 (by decide) ?_
        refine r_lo [1, 2, 0] (lo2 := [(1, va_rf a1), (2, wi a2), (3, wi (v3_15 + 1))]) rfl ?_
        exact hL15 (v3_15 + 1) C_41
      refine r_if_eq (tgt := 41) dX1_giveList_26 (by decide) ?_ ?_
      · exact hJ41  C4
      · refine r_aloadq_n (x := a1) dX1_giveList_29 rfl rfl ?_
        refine r_dref (fun p6 hp6 => ?_)
        subst hp6
        refine r_cgetRN (c := 9) (kk := 1) hc_X6 rfl (by decide) inU_X6 (by decide) hG uf_X1_120 rfl (by decide) dX1_giveList_30 (fun z7 => ?_)
        refine r_sipush (v := 1000) dX1_giveList_33 rfl ?_
        refine r_iload_n (x := v3_15) dX1_giveList_36 rfl rfl ?_
        refine r_iadd dX1_giveList_37 ?_
        refine r_dref (fun p8 hp8 => ?_)
        subst hp8
        refine r_ccVNv (c := 8) (k2 := k_X5_add) (n := 1) (rest := []) hG um_X1_132 rfl kv_X5_add hc_X5 (by decide) (c_X5_add hG _ _ _) (by decide) rfl (Nat.le_of_ble_eq_true rfl) dX1_giveList_38 rfl (fun r10 C9 => ?_)
        exact hJ41  C9
  refine r_lo [2, 3, 0] (lo2 := [(1, va_rf a1), (2, wi a2), (3, wi 0)]) rfl ?_
  exact hJ15 0 C3
def k_X7_instructionAt : Kd := (yX7_instructionAt, cX7_instructionAt, 2, some .int, [])
theorem kv_X7_instructionAt : KV k_X7_instructionAt 1 := ⟨uw_mem 1504 (by decide +kernel) rfl, uw_mem 166 (by decide +kernel) rfl, uw_mem 1503 (by decide +kernel) rfl, uw_mem 85 (by decide +kernel) rfl, ⟨by decide +kernel, by decide +kernel⟩, by decide +kernel, by decide +kernel⟩
def fX7_instructionAt (a0 : Nat) (a1 : Int) (C : Cd) : Option (Int × Cd) :=
bnd (fun (t0_31 : Int) (C_31 : Cd) =>
some (t0_31, C_31)) fun J31 =>
bnd (fun  (C_30 : Cd) =>
J31 (-1) C_30) fun J30 =>
if w32 a1 < 0 then
J30 C
else
if isO C a0 10 then
if w32 (cI C 1002 a0) ≤ w32 a1 then
J30 C
else
if isO C a0 10 then bnd (cR C 1000 a0) fun (z1 : Option Nat) =>
drf z1 fun (p2 : Nat) =>
if isO C p2 100 then
if w32 (cn C p2 : Int) ≤ w32 a1 then
J30 C
else
if isO C a0 10 then bnd (cR C 1000 a0) fun (z3 : Option Nat) =>
drf z3 fun (p4 : Nat) =>
if isO C p4 100 ∧ inR a1 (cn C p4) then
J31 (cE C p4 (ix a1)) C
else none
else none
else none
else none
else none
set_option maxHeartbeats 8000000 in
set_option maxRecDepth 100000 in
theorem c_X7_instructionAt {l : Launch} {Γ : Cx} {M0 : Md} (hG : GK Γ l) (a0 : Nat) (a1 : Int) (C : Cd) : Ct l Γ k_X7_instructionAt 1 encI (emC M0) [.ref a0, wi a1] C (fX7_instructionAt a0 a1 C) := by
  refine ct_of (by decide +kernel) rfl (Nat.le_of_ble_eq_true rfl) ?_
  refine r_lo [0, 1] (lo2 := [(0, .ref a0), (1, wi a1)]) rfl ?_
  unfold fX7_instructionAt
  refine r_iload_n (x := a1) dX7_instructionAt_0 rfl rfl ?_
  refine r_join (P := fun (J : Int → Cd → Option (Int × Cd)) => ∀ (t0_31 : Int) (C_31 : Cd), RunO l Γ k_X7_instructionAt 1 encI (emC M0) 31 [] [wi t0_31] C_31 (J t0_31 C_31)) ?_ (fun J31 hJ31 => ?_)
  · intro t0_31 C_31
    exact r_iret rfl dX7_instructionAt_31
  refine r_join (P := fun (J : Cd → Option (Int × Cd)) => ∀  (C_30 : Cd), RunO l Γ k_X7_instructionAt 1 encI (emC M0) 30 [] [] C_30 (J C_30)) ?_ (fun J30 hJ30 => ?_)
  · intro C_30
    refine ro_iconst (v := (-1)) dX7_instructionAt_30 rfl ?_
    exact hJ31 (-1) C_30
  refine r_if_lt (tgt := 30) dX7_instructionAt_1 (by decide) ?_ ?_
  · refine r_lo [] (lo2 := []) rfl ?_
    exact hJ30  C
  · refine r_iload_n (x := a1) dX7_instructionAt_4 rfl rfl ?_
    refine r_aload_n (x := a0) dX7_instructionAt_5 rfl rfl ?_
    refine r_cgetI (c := 10) (kk := 2) hc_X7 rfl (by decide) inU_X7 (by decide) uf_X7_18 rfl (by decide) dX7_instructionAt_6 ?_
    refine r_icmp_ge (tgt := 30) dX7_instructionAt_9 (by decide) ?_ ?_
    · refine r_lo [] (lo2 := []) rfl ?_
      exact hJ30  C
    · refine r_iload_n (x := a1) dX7_instructionAt_12 rfl rfl ?_
      refine r_aload_n (x := a0) dX7_instructionAt_13 rfl rfl ?_
      refine r_cgetR (c := 10) (kk := 0) hc_X7 rfl (by decide) inU_X7 (by decide) uf_X7_9 rfl (by decide) dX7_instructionAt_14 (fun z1 => ?_)
      refine r_dref (fun p2 hp2 => ?_)
      subst hp2
      refine r_calen (t := 100) rfl (by decide) dX7_instructionAt_17 ?_
      refine r_icmp_ge (tgt := 30) dX7_instructionAt_18 (by decide) ?_ ?_
      · refine r_lo [] (lo2 := []) rfl ?_
        exact hJ30  C
      · refine r_aload_n (x := a0) dX7_instructionAt_21 rfl rfl ?_
        refine r_cgetR (c := 10) (kk := 0) hc_X7 rfl (by decide) inU_X7 (by decide) uf_X7_9 rfl (by decide) dX7_instructionAt_22 (fun z3 => ?_)
        refine r_iload_n (x := a1) dX7_instructionAt_25 rfl rfl ?_
        refine r_dref (fun p4 hp4 => ?_)
        subst hp4
        refine r_ciald dX7_instructionAt_26 ?_
        refine r_goto (tgt := 31) dX7_instructionAt_27 (by decide) ?_
        refine r_lo [] (lo2 := []) rfl ?_
        exact hJ31 (cE C p4 (ix a1)) C
def k_X7_valueAt : Kd := (yX7_valueAt, cX7_valueAt, 2, some .int, [])
theorem kv_X7_valueAt : KV k_X7_valueAt 1 := ⟨uw_mem 1508 (by decide +kernel) rfl, uw_mem 166 (by decide +kernel) rfl, uw_mem 1507 (by decide +kernel) rfl, uw_mem 86 (by decide +kernel) rfl, ⟨by decide +kernel, by decide +kernel⟩, by decide +kernel, by decide +kernel⟩
def fX7_valueAt (a0 : Nat) (a1 : Int) (C : Cd) : Option (Int × Cd) :=
bnd (fun (t0_31 : Int) (C_31 : Cd) =>
some (t0_31, C_31)) fun J31 =>
bnd (fun  (C_30 : Cd) =>
J31 (-1) C_30) fun J30 =>
if w32 a1 < 0 then
J30 C
else
if isO C a0 10 then
if w32 (cI C 1002 a0) ≤ w32 a1 then
J30 C
else
if isO C a0 10 then bnd (cR C 1001 a0) fun (z1 : Option Nat) =>
drf z1 fun (p2 : Nat) =>
if isO C p2 100 then
if w32 (cn C p2 : Int) ≤ w32 a1 then
J30 C
else
if isO C a0 10 then bnd (cR C 1001 a0) fun (z3 : Option Nat) =>
drf z3 fun (p4 : Nat) =>
if isO C p4 100 ∧ inR a1 (cn C p4) then
J31 (cE C p4 (ix a1)) C
else none
else none
else none
else none
else none
set_option maxHeartbeats 8000000 in
set_option maxRecDepth 100000 in
theorem c_X7_valueAt {l : Launch} {Γ : Cx} {M0 : Md} (hG : GK Γ l) (a0 : Nat) (a1 : Int) (C : Cd) : Ct l Γ k_X7_valueAt 1 encI (emC M0) [.ref a0, wi a1] C (fX7_valueAt a0 a1 C) := by
  refine ct_of (by decide +kernel) rfl (Nat.le_of_ble_eq_true rfl) ?_
  refine r_lo [0, 1] (lo2 := [(0, .ref a0), (1, wi a1)]) rfl ?_
  unfold fX7_valueAt
  refine r_iload_n (x := a1) dX7_valueAt_0 rfl rfl ?_
  refine r_join (P := fun (J : Int → Cd → Option (Int × Cd)) => ∀ (t0_31 : Int) (C_31 : Cd), RunO l Γ k_X7_valueAt 1 encI (emC M0) 31 [] [wi t0_31] C_31 (J t0_31 C_31)) ?_ (fun J31 hJ31 => ?_)
  · intro t0_31 C_31
    exact r_iret rfl dX7_valueAt_31
  refine r_join (P := fun (J : Cd → Option (Int × Cd)) => ∀  (C_30 : Cd), RunO l Γ k_X7_valueAt 1 encI (emC M0) 30 [] [] C_30 (J C_30)) ?_ (fun J30 hJ30 => ?_)
  · intro C_30
    refine ro_iconst (v := (-1)) dX7_valueAt_30 rfl ?_
    exact hJ31 (-1) C_30
  refine r_if_lt (tgt := 30) dX7_valueAt_1 (by decide) ?_ ?_
  · refine r_lo [] (lo2 := []) rfl ?_
    exact hJ30  C
  · refine r_iload_n (x := a1) dX7_valueAt_4 rfl rfl ?_
    refine r_aload_n (x := a0) dX7_valueAt_5 rfl rfl ?_
    refine r_cgetI (c := 10) (kk := 2) hc_X7 rfl (by decide) inU_X7 (by decide) uf_X7_18 rfl (by decide) dX7_valueAt_6 ?_
    refine r_icmp_ge (tgt := 30) dX7_valueAt_9 (by decide) ?_ ?_
    · refine r_lo [] (lo2 := []) rfl ?_
      exact hJ30  C
    · refine r_iload_n (x := a1) dX7_valueAt_12 rfl rfl ?_
      refine r_aload_n (x := a0) dX7_valueAt_13 rfl rfl ?_
      refine r_cgetR (c := 10) (kk := 1) hc_X7 rfl (by decide) inU_X7 (by decide) uf_X7_15 rfl (by decide) dX7_valueAt_14 (fun z1 => ?_)
      refine r_dref (fun p2 hp2 => ?_)
      subst hp2
      refine r_calen (t := 100) rfl (by decide) dX7_valueAt_17 ?_
      refine r_icmp_ge (tgt := 30) dX7_valueAt_18 (by decide) ?_ ?_
      · refine r_lo [] (lo2 := []) rfl ?_
        exact hJ30  C
      · refine r_aload_n (x := a0) dX7_valueAt_21 rfl rfl ?_
        refine r_cgetR (c := 10) (kk := 1) hc_X7 rfl (by decide) inU_X7 (by decide) uf_X7_15 rfl (by decide) dX7_valueAt_22 (fun z3 => ?_)
        refine r_iload_n (x := a1) dX7_valueAt_25 rfl rfl ?_
        refine r_dref (fun p4 hp4 => ?_)
        subst hp4
        refine r_ciald dX7_valueAt_26 ?_
        refine r_goto (tgt := 31) dX7_valueAt_27 (by decide) ?_
        refine r_lo [] (lo2 := []) rfl ?_
        exact hJ31 (cE C p4 (ix a1)) C
