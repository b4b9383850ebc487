/-! the law's own methods -/
section
variable {ρ S : Type} {l : Launch} {Γ : Cx} {k : Kd} {d : Nat} {enc : ρ → Out} {em : S → St} {pc : Nat} {lo : List (Nat × Value)} {rest : List Value} {σ : S} {X X1 : Option (ρ × S)} {o : Out}
theorem ro_ach (h : X = X1) (K : ACH l Γ k d enc em pc lo rest σ X1 o) : ACH l Γ k d enc em pc lo rest σ X o := h ▸ K
end
def k_L_token : Kd := (yL_token, cL_token, 5, some .int, tableOf [(0, 10, 13, 13), (0, 10, 17, 15)])
theorem kv_L_token : KSH k_L_token [(0, 10, 13, 13), (0, 10, 17, 15)] 4 := ⟨uw_mem 557 (by decide +kernel) rfl, uw_mem 160 (by decide +kernel) rfl, uw_mem 556 (by decide +kernel) rfl, ⟨by decide +kernel, by decide +kernel⟩, by decide +kernel, by decide +kernel⟩
theorem um_L_7 : Cond.methodLink RL 7 yX11_token ∈ uw := uw_mem 560 (by decide +kernel) rfl
def fL_token (a0 : Nat) (a1 : Int) (a2 : Int) (a3 : Nat) (C : Cd) : Option (Int × Cd) := if isO C a0 14 then (fX11_token a0 a1 a2 C).bind (fun q => wrapK a3 (fun e => if e = 0 then some 1 else if e = 1 then some 2 else none) q.1 q.2) else none
set_option maxHeartbeats 8000000 in
set_option maxRecDepth 100000 in
theorem c_L_token {l : Launch} {Γ : Cx} {M0 : Md} (hG : GK Γ l) (hX : XN Γ) {sT : Nat → Nat} (hS : STs Γ sT) (a0 : Nat) (a1 : Int) (a2 : Int) (a3 : Nat) (C : Cd) : CtH l Γ k_L_token [(0, 10, 13, 13), (0, 10, 17, 15)] 7 encI (emC M0) [.ref a0, wi a1, wi a2, .ref a3] C (fL_token a0 a1 a2 a3 C) := by
  refine ctH_of (by decide +kernel) rfl (Nat.le_of_ble_eq_true rfl) ?_
  refine r_lo [0, 1, 2, 3] (lo2 := [(0, .ref a0), (1, wi a1), (2, wi a2), (3, .ref a3)]) rfl ?_
  unfold fL_token
  refine r_aload_n (x := a3) dL_token_0 rfl rfl ?_
  refine ro_iconst (v := 0) dL_token_1 rfl ?_
  refine r_aload_n (x := a0) dL_token_2 rfl rfl ?_
  refine r_iload_n (x := a1) dL_token_3 rfl rfl ?_
  refine r_iload_n (x := a2) dL_token_4 rfl rfl ?_
  refine r_cxH (k2 := k_X11_token) (c := 14) (T := TX11) (N := 10) (n := 2) (rest := [wi 0, .ref a3]) (f := wrapK a3 (fun e => if e = 0 then some 1 else if e = 1 then some 2 else none)) hG um_L_7 kv_X11_token hc_X11 (by decide) (c_X11_token hG a0 a1 a2 hS C) (by decide) rfl (Nat.le_of_ble_eq_true rfl) dL_token_5 rfl (fun x C1 => ?_) (fun e C1 => ?_)
  · unfold wrapK
    dsimp only
    refine r_i2l dL_token_8 ?_
    refine r_clast dL_token_9 (fun C2 _ _ => ?_)
    refine r_goto (tgt := 21) dL_token_10 (by decide) ?_
    refine ro_iconst (v := 0) dL_token_21 rfl ?_
    exact r_iret rfl dL_token_22
  · by_cases h0 : e = 0
    · subst h0
      refine ro_ach (X1 := some (1, C1)) rfl ?_
      refine achE (rows := [(0, 13), (1, 17)]) (pre := []) (suf := [(1, 17)]) (E := 10) hX rfl rfl rfl (by decide) (by decide) (by decide) (fun q => ?_)
      refine r_astore (lo2 := [(4, .ref q), (0, .ref a0), (1, wi a1), (2, wi a2), (3, .ref a3)]) dL_token_13 (by decide) rfl ?_
      refine ro_iconst (v := 1) dL_token_15 rfl ?_
      exact r_iret rfl dL_token_16
    · by_cases h1 : e = 1
      · subst h1
        refine ro_ach (X1 := some (2, C1)) rfl ?_
        refine achE (rows := [(0, 13), (1, 17)]) (pre := [(0, 13)]) (suf := []) (E := 10) hX rfl rfl rfl (by decide) (by decide) (by decide) (fun q => ?_)
        refine r_astore (lo2 := [(4, .ref q), (0, .ref a0), (1, wi a1), (2, wi a2), (3, .ref a3)]) dL_token_17 (by decide) rfl ?_
        refine ro_iconst (v := 2) dL_token_19 rfl ?_
        exact r_iret rfl dL_token_20
      · exact Or.inl (by unfold wrapK; dsimp only; simp only [h0, h1, ↓reduceIte]; rfl)
def k_L_act : Kd := (yL_act, cL_act, 4, some .int, tableOf [(0, 9, 12, 13)])
theorem kv_L_act : KSH k_L_act [(0, 9, 12, 13)] 3 := ⟨uw_mem 660 (by decide +kernel) rfl, uw_mem 160 (by decide +kernel) rfl, uw_mem 659 (by decide +kernel) rfl, ⟨by decide +kernel, by decide +kernel⟩, by decide +kernel, by decide +kernel⟩
theorem um_L_17 : Cond.methodLink RL 17 yX11_act ∈ uw := uw_mem 661 (by decide +kernel) rfl
def fL_act (a0 : Nat) (a1 : Int) (a2 : Nat) (C : Cd) : Option (Int × Cd) := if isO C a0 14 then (fX11_act a0 a1 C).bind (fun q => wrapK a2 (fun e => if e = 0 then some 1 else none) q.1 q.2) else none
set_option maxHeartbeats 8000000 in
set_option maxRecDepth 100000 in
theorem c_L_act {l : Launch} {Γ : Cx} {M0 : Md} (hG : GK Γ l) (hX : XN Γ) (a0 : Nat) (a1 : Int) (a2 : Nat) (C : Cd) : CtH l Γ k_L_act [(0, 9, 12, 13)] 7 encI (emC M0) [.ref a0, wi a1, .ref a2] C (fL_act a0 a1 a2 C) := by
  refine ctH_of (by decide +kernel) rfl (Nat.le_of_ble_eq_true rfl) ?_
  refine r_lo [0, 1, 2] (lo2 := [(0, .ref a0), (1, wi a1), (2, .ref a2)]) rfl ?_
  unfold fL_act
  refine r_aload_n (x := a2) dL_act_0 rfl rfl ?_
  refine ro_iconst (v := 0) dL_act_1 rfl ?_
  refine r_aload_n (x := a0) dL_act_2 rfl rfl ?_
  refine r_iload_n (x := a1) dL_act_3 rfl rfl ?_
  refine r_cxH (k2 := k_X11_act) (c := 14) (T := TX11) (N := 10) (n := 1) (rest := [wi 0, .ref a2]) (f := wrapK a2 (fun e => if e = 0 then some 1 else none)) hG um_L_17 kv_X11_act hc_X11 (by decide) (c_X11_act hG a0 a1 C) (by decide) rfl (Nat.le_of_ble_eq_true rfl) dL_act_4 rfl (fun x C1 => ?_) (fun e C1 => ?_)
  · unfold wrapK
    dsimp only
    refine r_i2l dL_act_7 ?_
    refine r_clast dL_act_8 (fun C2 _ _ => ?_)
    refine r_goto (tgt := 15) dL_act_9 (by decide) ?_
    refine ro_iconst (v := 0) dL_act_15 rfl ?_
    exact r_iret rfl dL_act_16
  · by_cases h0 : e = 0
    · subst h0
      refine ro_ach (X1 := some (1, C1)) rfl ?_
      refine achE (rows := [(0, 12)]) (pre := []) (suf := []) (E := 9) hX rfl rfl rfl (by decide) (by decide) (by decide) (fun q => ?_)
      refine r_astore_n (lo2 := [(3, .ref q), (0, .ref a0), (1, wi a1), (2, .ref a2)]) dL_act_12 rfl (by decide) rfl ?_
      refine ro_iconst (v := 1) dL_act_13 rfl ?_
      exact r_iret rfl dL_act_14
    · exact Or.inl (by unfold wrapK; dsimp only; simp only [h0, ↓reduceIte]; rfl)
def k_L_protect : Kd := (yL_protect, cL_protect, 5, some .int, tableOf [(0, 10, 13, 24), (0, 10, 17, 13), (0, 10, 21, 15)])
theorem kv_L_protect : KSH k_L_protect [(0, 10, 13, 24), (0, 10, 17, 13), (0, 10, 21, 15)] 4 := ⟨uw_mem 668 (by decide +kernel) rfl, uw_mem 160 (by decide +kernel) rfl, uw_mem 667 (by decide +kernel) rfl, ⟨by decide +kernel, by decide +kernel⟩, by decide +kernel, by decide +kernel⟩
theorem um_L_21 : Cond.methodLink RL 21 yX11_protect ∈ uw := uw_mem 670 (by decide +kernel) rfl
def fL_protect (a0 : Nat) (a1 : Int) (a2 : Int) (a3 : Nat) (C : Cd) : Option (Int × Cd) := if isO C a0 14 then (fX11_protect a0 a1 a2 C).bind (fun q => wrapK a3 (fun e => if e = 2 then some 1 else if e = 0 then some 2 else if e = 1 then some 3 else none) q.1 q.2) else none
set_option maxHeartbeats 8000000 in
set_option maxRecDepth 100000 in
theorem c_L_protect {l : Launch} {Γ : Cx} {M0 : Md} (hG : GK Γ l) (hX : XN Γ) (a0 : Nat) (a1 : Int) (a2 : Int) (a3 : Nat) (C : Cd) : CtH l Γ k_L_protect [(0, 10, 13, 24), (0, 10, 17, 13), (0, 10, 21, 15)] 8 encI (emC M0) [.ref a0, wi a1, wi a2, .ref a3] C (fL_protect a0 a1 a2 a3 C) := by
  refine ctH_of (by decide +kernel) rfl (Nat.le_of_ble_eq_true rfl) ?_
  refine r_lo [0, 1, 2, 3] (lo2 := [(0, .ref a0), (1, wi a1), (2, wi a2), (3, .ref a3)]) rfl ?_
  unfold fL_protect
  refine r_aload_n (x := a3) dL_protect_0 rfl rfl ?_
  refine ro_iconst (v := 0) dL_protect_1 rfl ?_
  refine r_aload_n (x := a0) dL_protect_2 rfl rfl ?_
  refine r_iload_n (x := a1) dL_protect_3 rfl rfl ?_
  refine r_iload_n (x := a2) dL_protect_4 rfl rfl ?_
  refine r_cxH (k2 := k_X11_protect) (c := 14) (T := TX11) (N := 10) (n := 2) (rest := [wi 0, .ref a3]) (f := wrapK a3 (fun e => if e = 2 then some 1 else if e = 0 then some 2 else if e = 1 then some 3 else none)) hG um_L_21 kv_X11_protect hc_X11 (by decide) (c_X11_protect hG a0 a1 a2 C) (by decide) rfl (Nat.le_of_ble_eq_true rfl) dL_protect_5 rfl (fun x C1 => ?_) (fun e C1 => ?_)
  · unfold wrapK
    dsimp only
    refine r_i2l dL_protect_8 ?_
    refine r_clast dL_protect_9 (fun C2 _ _ => ?_)
    refine r_goto (tgt := 25) dL_protect_10 (by decide) ?_
    refine ro_iconst (v := 0) dL_protect_25 rfl ?_
    exact r_iret rfl dL_protect_26
  · by_cases h2 : e = 2
    · subst h2
      refine ro_ach (X1 := some (1, C1)) rfl ?_
      refine achE (rows := [(2, 13), (0, 17), (1, 21)]) (pre := []) (suf := [(0, 17), (1, 21)]) (E := 10) hX rfl rfl rfl (by decide) (by decide) (by decide) (fun q => ?_)
      refine r_astore (lo2 := [(4, .ref q), (0, .ref a0), (1, wi a1), (2, wi a2), (3, .ref a3)]) dL_protect_13 (by decide) rfl ?_
      refine ro_iconst (v := 1) dL_protect_15 rfl ?_
      exact r_iret rfl dL_protect_16
    · by_cases h0 : e = 0
      · subst h0
        refine ro_ach (X1 := some (2, C1)) rfl ?_
        refine achE (rows := [(2, 13), (0, 17), (1, 21)]) (pre := [(2, 13)]) (suf := [(1, 21)]) (E := 10) hX rfl rfl rfl (by decide) (by decide) (by decide) (fun q => ?_)
        refine r_astore (lo2 := [(4, .ref q), (0, .ref a0), (1, wi a1), (2, wi a2), (3, .ref a3)]) dL_protect_17 (by decide) rfl ?_
        refine ro_iconst (v := 2) dL_protect_19 rfl ?_
        exact r_iret rfl dL_protect_20
      · by_cases h1 : e = 1
        · subst h1
          refine ro_ach (X1 := some (3, C1)) rfl ?_
          refine achE (rows := [(2, 13), (0, 17), (1, 21)]) (pre := [(2, 13), (0, 17)]) (suf := []) (E := 10) hX rfl rfl rfl (by decide) (by decide) (by decide) (fun q => ?_)
          refine r_astore (lo2 := [(4, .ref q), (0, .ref a0), (1, wi a1), (2, wi a2), (3, .ref a3)]) dL_protect_21 (by decide) rfl ?_
          refine ro_iconst (v := 3) dL_protect_23 rfl ?_
          exact r_iret rfl dL_protect_24
        · exact Or.inl (by unfold wrapK; dsimp only; simp only [h2, h0, h1, ↓reduceIte]; rfl)
def k_L_create : Kd := (yL_create, cL_create, 4, some .int, tableOf [(0, 9, 12, 24), (0, 9, 15, 15)])
theorem kv_L_create : KSH k_L_create [(0, 9, 12, 24), (0, 9, 15, 15)] 3 := ⟨uw_mem 702 (by decide +kernel) rfl, uw_mem 160 (by decide +kernel) rfl, uw_mem 701 (by decide +kernel) rfl, ⟨by decide +kernel, by decide +kernel⟩, by decide +kernel, by decide +kernel⟩
theorem um_L_26 : Cond.methodLink RL 26 yX11_create ∈ uw := uw_mem 703 (by decide +kernel) rfl
def fL_create (a0 : Nat) (a1 : Int) (a2 : Nat) (C : Cd) : Option (Int × Cd) := if isO C a0 14 then (fX11_create a0 a1 C).bind (fun q => wrapK a2 (fun e => if e = 2 then some 1 else if e = 1 then some 2 else none) q.1 q.2) else none
set_option maxHeartbeats 8000000 in
set_option maxRecDepth 100000 in
theorem c_L_create {l : Launch} {Γ : Cx} {M0 : Md} (hG : GK Γ l) (hX : XN Γ) (a0 : Nat) (a1 : Int) (a2 : Nat) (C : Cd) : CtH l Γ k_L_create [(0, 9, 12, 24), (0, 9, 15, 15)] 12 encI (emC M0) [.ref a0, wi a1, .ref a2] C (fL_create a0 a1 a2 C) := by
  refine ctH_of (by decide +kernel) rfl (Nat.le_of_ble_eq_true rfl) ?_
  refine r_lo [0, 1, 2] (lo2 := [(0, .ref a0), (1, wi a1), (2, .ref a2)]) rfl ?_
  unfold fL_create
  refine r_aload_n (x := a2) dL_create_0 rfl rfl ?_
  refine ro_iconst (v := 0) dL_create_1 rfl ?_
  refine r_aload_n (x := a0) dL_create_2 rfl rfl ?_
  refine r_iload_n (x := a1) dL_create_3 rfl rfl ?_
  refine r_cxH (k2 := k_X11_create) (c := 14) (T := TX11) (N := 10) (n := 1) (rest := [wi 0, .ref a2]) (f := wrapK a2 (fun e => if e = 2 then some 1 else if e = 1 then some 2 else none)) hG um_L_26 kv_X11_create hc_X11 (by decide) (c_X11_create hG a0 a1 C) (by decide) rfl (Nat.le_of_ble_eq_true rfl) dL_create_4 rfl (fun x C1 => ?_) (fun e C1 => ?_)
  · unfold wrapK
    dsimp only
    refine r_i2l dL_create_7 ?_
    refine r_clast dL_create_8 (fun C2 _ _ => ?_)
    refine r_goto (tgt := 18) dL_create_9 (by decide) ?_
    refine ro_iconst (v := 0) dL_create_18 rfl ?_
    exact r_iret rfl dL_create_19
  · by_cases h2 : e = 2
    · subst h2
      refine ro_ach (X1 := some (1, C1)) rfl ?_
      refine achE (rows := [(2, 12), (1, 15)]) (pre := []) (suf := [(1, 15)]) (E := 9) hX rfl rfl rfl (by decide) (by decide) (by decide) (fun q => ?_)
      refine r_astore_n (lo2 := [(3, .ref q), (0, .ref a0), (1, wi a1), (2, .ref a2)]) dL_create_12 rfl (by decide) rfl ?_
      refine ro_iconst (v := 1) dL_create_13 rfl ?_
      exact r_iret rfl dL_create_14
    · by_cases h1 : e = 1
      · subst h1
        refine ro_ach (X1 := some (2, C1)) rfl ?_
        refine achE (rows := [(2, 12), (1, 15)]) (pre := [(2, 12)]) (suf := []) (E := 9) hX rfl rfl rfl (by decide) (by decide) (by decide) (fun q => ?_)
        refine r_astore_n (lo2 := [(3, .ref q), (0, .ref a0), (1, wi a1), (2, .ref a2)]) dL_create_15 rfl (by decide) rfl ?_
        refine ro_iconst (v := 2) dL_create_16 rfl ?_
        exact r_iret rfl dL_create_17
      · exact Or.inl (by unfold wrapK; dsimp only; simp only [h2, h1, ↓reduceIte]; rfl)
def k_L_edit : Kd := (yL_edit, cL_edit, 6, some .int, tableOf [(0, 12, 15, 24), (0, 12, 19, 15)])
theorem kv_L_edit : KSH k_L_edit [(0, 12, 15, 24), (0, 12, 19, 15)] 5 := ⟨uw_mem 887 (by decide +kernel) rfl, uw_mem 160 (by decide +kernel) rfl, uw_mem 886 (by decide +kernel) rfl, ⟨by decide +kernel, by decide +kernel⟩, by decide +kernel, by decide +kernel⟩
theorem um_L_29 : Cond.methodLink RL 29 yX11_edit ∈ uw := uw_mem 888 (by decide +kernel) rfl
def fL_edit (a0 : Nat) (a1 : Int) (a2 : Int) (a3 : Int) (a4 : Nat) (C : Cd) : Option (Int × Cd) := if isO C a0 14 then (fX11_edit a0 a1 a2 a3 C).bind (fun q => wrapK a4 (fun e => if e = 2 then some 1 else if e = 1 then some 2 else none) q.1 q.2) else none
set_option maxHeartbeats 8000000 in
set_option maxRecDepth 100000 in
theorem c_L_edit {l : Launch} {Γ : Cx} {M0 : Md} (hG : GK Γ l) (hX : XN Γ) (a0 : Nat) (a1 : Int) (a2 : Int) (a3 : Int) (a4 : Nat) (C : Cd) : CtH l Γ k_L_edit [(0, 12, 15, 24), (0, 12, 19, 15)] 13 encI (emC M0) [.ref a0, wi a1, wi a2, wi a3, .ref a4] C (fL_edit a0 a1 a2 a3 a4 C) := by
  refine ctH_of (by decide +kernel) rfl (Nat.le_of_ble_eq_true rfl) ?_
  refine r_lo [0, 1, 2, 3, 4] (lo2 := [(0, .ref a0), (1, wi a1), (2, wi a2), (3, wi a3), (4, .ref a4)]) rfl ?_
  unfold fL_edit
  refine r_aload (x := a4) dL_edit_0 rfl ?_
  refine ro_iconst (v := 0) dL_edit_2 rfl ?_
  refine r_aload_n (x := a0) dL_edit_3 rfl rfl ?_
  refine r_iload_n (x := a1) dL_edit_4 rfl rfl ?_
  refine r_iload_n (x := a2) dL_edit_5 rfl rfl ?_
  refine r_iload_n (x := a3) dL_edit_6 rfl rfl ?_
  refine r_cxH (k2 := k_X11_edit) (c := 14) (T := TX11) (N := 10) (n := 3) (rest := [wi 0, .ref a4]) (f := wrapK a4 (fun e => if e = 2 then some 1 else if e = 1 then some 2 else none)) hG um_L_29 kv_X11_edit hc_X11 (by decide) (c_X11_edit hG a0 a1 a2 a3 C) (by decide) rfl (Nat.le_of_ble_eq_true rfl) dL_edit_7 rfl (fun x C1 => ?_) (fun e C1 => ?_)
  · unfold wrapK
    dsimp only
    refine r_i2l dL_edit_10 ?_
    refine r_clast dL_edit_11 (fun C2 _ _ => ?_)
    refine r_goto (tgt := 23) dL_edit_12 (by decide) ?_
    refine ro_iconst (v := 0) dL_edit_23 rfl ?_
    exact r_iret rfl dL_edit_24
  · by_cases h2 : e = 2
    · subst h2
      refine ro_ach (X1 := some (1, C1)) rfl ?_
      refine achE (rows := [(2, 15), (1, 19)]) (pre := []) (suf := [(1, 19)]) (E := 12) hX rfl rfl rfl (by decide) (by decide) (by decide) (fun q => ?_)
      refine r_astore (lo2 := [(5, .ref q), (0, .ref a0), (1, wi a1), (2, wi a2), (3, wi a3), (4, .ref a4)]) dL_edit_15 (by decide) rfl ?_
      refine ro_iconst (v := 1) dL_edit_17 rfl ?_
      exact r_iret rfl dL_edit_18
    · by_cases h1 : e = 1
      · subst h1
        refine ro_ach (X1 := some (2, C1)) rfl ?_
        refine achE (rows := [(2, 15), (1, 19)]) (pre := [(2, 15)]) (suf := []) (E := 12) hX rfl rfl rfl (by decide) (by decide) (by decide) (fun q => ?_)
        refine r_astore (lo2 := [(5, .ref q), (0, .ref a0), (1, wi a1), (2, wi a2), (3, wi a3), (4, .ref a4)]) dL_edit_19 (by decide) rfl ?_
        refine ro_iconst (v := 2) dL_edit_21 rfl ?_
        exact r_iret rfl dL_edit_22
      · exact Or.inl (by unfold wrapK; dsimp only; simp only [h2, h1, ↓reduceIte]; rfl)
def k_L_undo : Kd := (yL_undo, cL_undo, 5, some .int, tableOf [(0, 10, 13, 24), (0, 10, 17, 15)])
theorem kv_L_undo : KSH k_L_undo [(0, 10, 13, 24), (0, 10, 17, 15)] 4 := ⟨uw_mem 1216 (by decide +kernel) rfl, uw_mem 160 (by decide +kernel) rfl, uw_mem 1215 (by decide +kernel) rfl, ⟨by decide +kernel, by decide +kernel⟩, by decide +kernel, by decide +kernel⟩
theorem um_L_33 : Cond.methodLink RL 33 yX11_undo ∈ uw := uw_mem 1217 (by decide +kernel) rfl
def fL_undo (a0 : Nat) (a1 : Int) (a2 : Int) (a3 : Nat) (C : Cd) : Option (Int × Cd) := if isO C a0 14 then (fX11_undo a0 a1 a2 C).bind (fun q => wrapK a3 (fun e => if e = 2 then some 1 else if e = 1 then some 2 else none) q.1 q.2) else none
set_option maxHeartbeats 8000000 in
set_option maxRecDepth 100000 in
theorem c_L_undo {l : Launch} {Γ : Cx} {M0 : Md} (hG : GK Γ l) (hX : XN Γ) (a0 : Nat) (a1 : Int) (a2 : Int) (a3 : Nat) (C : Cd) : CtH l Γ k_L_undo [(0, 10, 13, 24), (0, 10, 17, 15)] 13 encI (emC M0) [.ref a0, wi a1, wi a2, .ref a3] C (fL_undo a0 a1 a2 a3 C) := by
  refine ctH_of (by decide +kernel) rfl (Nat.le_of_ble_eq_true rfl) ?_
  refine r_lo [0, 1, 2, 3] (lo2 := [(0, .ref a0), (1, wi a1), (2, wi a2), (3, .ref a3)]) rfl ?_
  unfold fL_undo
  refine r_aload_n (x := a3) dL_undo_0 rfl rfl ?_
  refine ro_iconst (v := 0) dL_undo_1 rfl ?_
  refine r_aload_n (x := a0) dL_undo_2 rfl rfl ?_
  refine r_iload_n (x := a1) dL_undo_3 rfl rfl ?_
  refine r_iload_n (x := a2) dL_undo_4 rfl rfl ?_
  refine r_cxH (k2 := k_X11_undo) (c := 14) (T := TX11) (N := 10) (n := 2) (rest := [wi 0, .ref a3]) (f := wrapK a3 (fun e => if e = 2 then some 1 else if e = 1 then some 2 else none)) hG um_L_33 kv_X11_undo hc_X11 (by decide) (c_X11_undo hG a0 a1 a2 C) (by decide) rfl (Nat.le_of_ble_eq_true rfl) dL_undo_5 rfl (fun x C1 => ?_) (fun e C1 => ?_)
  · unfold wrapK
    dsimp only
    refine r_i2l dL_undo_8 ?_
    refine r_clast dL_undo_9 (fun C2 _ _ => ?_)
    refine r_goto (tgt := 21) dL_undo_10 (by decide) ?_
    refine ro_iconst (v := 0) dL_undo_21 rfl ?_
    exact r_iret rfl dL_undo_22
  · by_cases h2 : e = 2
    · subst h2
      refine ro_ach (X1 := some (1, C1)) rfl ?_
      refine achE (rows := [(2, 13), (1, 17)]) (pre := []) (suf := [(1, 17)]) (E := 10) hX rfl rfl rfl (by decide) (by decide) (by decide) (fun q => ?_)
      refine r_astore (lo2 := [(4, .ref q), (0, .ref a0), (1, wi a1), (2, wi a2), (3, .ref a3)]) dL_undo_13 (by decide) rfl ?_
      refine ro_iconst (v := 1) dL_undo_15 rfl ?_
      exact r_iret rfl dL_undo_16
    · by_cases h1 : e = 1
      · subst h1
        refine ro_ach (X1 := some (2, C1)) rfl ?_
        refine achE (rows := [(2, 13), (1, 17)]) (pre := [(2, 13)]) (suf := []) (E := 10) hX rfl rfl rfl (by decide) (by decide) (by decide) (fun q => ?_)
        refine r_astore (lo2 := [(4, .ref q), (0, .ref a0), (1, wi a1), (2, wi a2), (3, .ref a3)]) dL_undo_17 (by decide) rfl ?_
        refine ro_iconst (v := 2) dL_undo_19 rfl ?_
        exact r_iret rfl dL_undo_20
      · exact Or.inl (by unfold wrapK; dsimp only; simp only [h2, h1, ↓reduceIte]; rfl)
def k_L_bringIn : Kd := (yL_bringIn, cL_bringIn, 5, some .int, tableOf [(0, 10, 13, 24), (0, 10, 17, 13), (0, 10, 21, 15)])
theorem kv_L_bringIn : KSH k_L_bringIn [(0, 10, 13, 24), (0, 10, 17, 13), (0, 10, 21, 15)] 4 := ⟨uw_mem 1225 (by decide +kernel) rfl, uw_mem 160 (by decide +kernel) rfl, uw_mem 1224 (by decide +kernel) rfl, ⟨by decide +kernel, by decide +kernel⟩, by decide +kernel, by decide +kernel⟩
theorem um_L_36 : Cond.methodLink RL 36 yX11_bringIn ∈ uw := uw_mem 1226 (by decide +kernel) rfl
def fL_bringIn (a0 : Nat) (a1 : Int) (a2 : Int) (a3 : Nat) (C : Cd) : Option (Int × Cd) := if isO C a0 14 then (fX11_bringIn a0 a1 a2 C).bind (fun q => wrapK a3 (fun e => if e = 2 then some 1 else if e = 0 then some 2 else if e = 1 then some 3 else none) q.1 q.2) else none
set_option maxHeartbeats 8000000 in
set_option maxRecDepth 100000 in
theorem c_L_bringIn {l : Launch} {Γ : Cx} {M0 : Md} (hG : GK Γ l) (hX : XN Γ) (a0 : Nat) (a1 : Int) (a2 : Int) (a3 : Nat) (C : Cd) : CtH l Γ k_L_bringIn [(0, 10, 13, 24), (0, 10, 17, 13), (0, 10, 21, 15)] 12 encI (emC M0) [.ref a0, wi a1, wi a2, .ref a3] C (fL_bringIn a0 a1 a2 a3 C) := by
  refine ctH_of (by decide +kernel) rfl (Nat.le_of_ble_eq_true rfl) ?_
  refine r_lo [0, 1, 2, 3] (lo2 := [(0, .ref a0), (1, wi a1), (2, wi a2), (3, .ref a3)]) rfl ?_
  unfold fL_bringIn
  refine r_aload_n (x := a3) dL_bringIn_0 rfl rfl ?_
  refine ro_iconst (v := 0) dL_bringIn_1 rfl ?_
  refine r_aload_n (x := a0) dL_bringIn_2 rfl rfl ?_
  refine r_iload_n (x := a1) dL_bringIn_3 rfl rfl ?_
  refine r_iload_n (x := a2) dL_bringIn_4 rfl rfl ?_
  refine r_cxH (k2 := k_X11_bringIn) (c := 14) (T := TX11) (N := 10) (n := 2) (rest := [wi 0, .ref a3]) (f := wrapK a3 (fun e => if e = 2 then some 1 else if e = 0 then some 2 else if e = 1 then some 3 else none)) hG um_L_36 kv_X11_bringIn hc_X11 (by decide) (c_X11_bringIn hG a0 a1 a2 C) (by decide) rfl (Nat.le_of_ble_eq_true rfl) dL_bringIn_5 rfl (fun x C1 => ?_) (fun e C1 => ?_)
  · unfold wrapK
    dsimp only
    refine r_i2l dL_bringIn_8 ?_
    refine r_clast dL_bringIn_9 (fun C2 _ _ => ?_)
    refine r_goto (tgt := 25) dL_bringIn_10 (by decide) ?_
    refine ro_iconst (v := 0) dL_bringIn_25 rfl ?_
    exact r_iret rfl dL_bringIn_26
  · by_cases h2 : e = 2
    · subst h2
      refine ro_ach (X1 := some (1, C1)) rfl ?_
      refine achE (rows := [(2, 13), (0, 17), (1, 21)]) (pre := []) (suf := [(0, 17), (1, 21)]) (E := 10) hX rfl rfl rfl (by decide) (by decide) (by decide) (fun q => ?_)
      refine r_astore (lo2 := [(4, .ref q), (0, .ref a0), (1, wi a1), (2, wi a2), (3, .ref a3)]) dL_bringIn_13 (by decide) rfl ?_
      refine ro_iconst (v := 1) dL_bringIn_15 rfl ?_
      exact r_iret rfl dL_bringIn_16
    · by_cases h0 : e = 0
      · subst h0
        refine ro_ach (X1 := some (2, C1)) rfl ?_
        refine achE (rows := [(2, 13), (0, 17), (1, 21)]) (pre := [(2, 13)]) (suf := [(1, 21)]) (E := 10) hX rfl rfl rfl (by decide) (by decide) (by decide) (fun q => ?_)
        refine r_astore (lo2 := [(4, .ref q), (0, .ref a0), (1, wi a1), (2, wi a2), (3, .ref a3)]) dL_bringIn_17 (by decide) rfl ?_
        refine ro_iconst (v := 2) dL_bringIn_19 rfl ?_
        exact r_iret rfl dL_bringIn_20
      · by_cases h1 : e = 1
        · subst h1
          refine ro_ach (X1 := some (3, C1)) rfl ?_
          refine achE (rows := [(2, 13), (0, 17), (1, 21)]) (pre := [(2, 13), (0, 17)]) (suf := []) (E := 10) hX rfl rfl rfl (by decide) (by decide) (by decide) (fun q => ?_)
          refine r_astore (lo2 := [(4, .ref q), (0, .ref a0), (1, wi a1), (2, wi a2), (3, .ref a3)]) dL_bringIn_21 (by decide) rfl ?_
          refine ro_iconst (v := 3) dL_bringIn_23 rfl ?_
          exact r_iret rfl dL_bringIn_24
        · exact Or.inl (by unfold wrapK; dsimp only; simp only [h2, h0, h1, ↓reduceIte]; rfl)
def k_L_move : Kd := (yL_move, cL_move, 5, some .int, tableOf [(0, 10, 13, 24), (0, 10, 17, 15)])
theorem kv_L_move : KSH k_L_move [(0, 10, 13, 24), (0, 10, 17, 15)] 4 := ⟨uw_mem 1234 (by decide +kernel) rfl, uw_mem 160 (by decide +kernel) rfl, uw_mem 1233 (by decide +kernel) rfl, ⟨by decide +kernel, by decide +kernel⟩, by decide +kernel, by decide +kernel⟩
theorem um_L_39 : Cond.methodLink RL 39 yX11_move ∈ uw := uw_mem 1235 (by decide +kernel) rfl
def fL_move (a0 : Nat) (a1 : Int) (a2 : Int) (a3 : Nat) (C : Cd) : Option (Int × Cd) := if isO C a0 14 then (fX11_move a0 a1 a2 C).bind (fun q => wrapK a3 (fun e => if e = 2 then some 1 else if e = 1 then some 2 else none) q.1 q.2) else none
set_option maxHeartbeats 8000000 in
set_option maxRecDepth 100000 in
theorem c_L_move {l : Launch} {Γ : Cx} {M0 : Md} (hG : GK Γ l) (hX : XN Γ) (a0 : Nat) (a1 : Int) (a2 : Int) (a3 : Nat) (C : Cd) : CtH l Γ k_L_move [(0, 10, 13, 24), (0, 10, 17, 15)] 12 encI (emC M0) [.ref a0, wi a1, wi a2, .ref a3] C (fL_move a0 a1 a2 a3 C) := by
  refine ctH_of (by decide +kernel) rfl (Nat.le_of_ble_eq_true rfl) ?_
  refine r_lo [0, 1, 2, 3] (lo2 := [(0, .ref a0), (1, wi a1), (2, wi a2), (3, .ref a3)]) rfl ?_
  unfold fL_move
  refine r_aload_n (x := a3) dL_move_0 rfl rfl ?_
  refine ro_iconst (v := 0) dL_move_1 rfl ?_
  refine r_aload_n (x := a0) dL_move_2 rfl rfl ?_
  refine r_iload_n (x := a1) dL_move_3 rfl rfl ?_
  refine r_iload_n (x := a2) dL_move_4 rfl rfl ?_
  refine r_cxH (k2 := k_X11_move) (c := 14) (T := TX11) (N := 10) (n := 2) (rest := [wi 0, .ref a3]) (f := wrapK a3 (fun e => if e = 2 then some 1 else if e = 1 then some 2 else none)) hG um_L_39 kv_X11_move hc_X11 (by decide) (c_X11_move hG a0 a1 a2 C) (by decide) rfl (Nat.le_of_ble_eq_true rfl) dL_move_5 rfl (fun x C1 => ?_) (fun e C1 => ?_)
  · unfold wrapK
    dsimp only
    refine r_i2l dL_move_8 ?_
    refine r_clast dL_move_9 (fun C2 _ _ => ?_)
    refine r_goto (tgt := 21) dL_move_10 (by decide) ?_
    refine ro_iconst (v := 0) dL_move_21 rfl ?_
    exact r_iret rfl dL_move_22
  · by_cases h2 : e = 2
    · subst h2
      refine ro_ach (X1 := some (1, C1)) rfl ?_
      refine achE (rows := [(2, 13), (1, 17)]) (pre := []) (suf := [(1, 17)]) (E := 10) hX rfl rfl rfl (by decide) (by decide) (by decide) (fun q => ?_)
      refine r_astore (lo2 := [(4, .ref q), (0, .ref a0), (1, wi a1), (2, wi a2), (3, .ref a3)]) dL_move_13 (by decide) rfl ?_
      refine ro_iconst (v := 1) dL_move_15 rfl ?_
      exact r_iret rfl dL_move_16
    · by_cases h1 : e = 1
      · subst h1
        refine ro_ach (X1 := some (2, C1)) rfl ?_
        refine achE (rows := [(2, 13), (1, 17)]) (pre := [(2, 13)]) (suf := []) (E := 10) hX rfl rfl rfl (by decide) (by decide) (by decide) (fun q => ?_)
        refine r_astore (lo2 := [(4, .ref q), (0, .ref a0), (1, wi a1), (2, wi a2), (3, .ref a3)]) dL_move_17 (by decide) rfl ?_
        refine ro_iconst (v := 2) dL_move_19 rfl ?_
        exact r_iret rfl dL_move_20
      · exact Or.inl (by unfold wrapK; dsimp only; simp only [h2, h1, ↓reduceIte]; rfl)
def k_L_moveTree : Kd := (yL_moveTree, cL_moveTree, 5, some .int, tableOf [(0, 10, 13, 24), (0, 10, 17, 15)])
theorem kv_L_moveTree : KSH k_L_moveTree [(0, 10, 13, 24), (0, 10, 17, 15)] 4 := ⟨uw_mem 1258 (by decide +kernel) rfl, uw_mem 160 (by decide +kernel) rfl, uw_mem 1257 (by decide +kernel) rfl, ⟨by decide +kernel, by decide +kernel⟩, by decide +kernel, by decide +kernel⟩
theorem um_L_42 : Cond.methodLink RL 42 yX11_moveTree ∈ uw := uw_mem 1259 (by decide +kernel) rfl
def fL_moveTree (a0 : Nat) (a1 : Int) (a2 : Int) (a3 : Nat) (C : Cd) : Option (Int × Cd) := if isO C a0 14 then (fX11_moveTree a0 a1 a2 C).bind (fun q => wrapK a3 (fun e => if e = 2 then some 1 else if e = 1 then some 2 else none) q.1 q.2) else none
set_option maxHeartbeats 8000000 in
set_option maxRecDepth 100000 in
theorem c_L_moveTree {l : Launch} {Γ : Cx} {M0 : Md} (hG : GK Γ l) (hX : XN Γ) (a0 : Nat) (a1 : Int) (a2 : Int) (a3 : Nat) (C : Cd) : CtH l Γ k_L_moveTree [(0, 10, 13, 24), (0, 10, 17, 15)] 13 encI (emC M0) [.ref a0, wi a1, wi a2, .ref a3] C (fL_moveTree a0 a1 a2 a3 C) := by
  refine ctH_of (by decide +kernel) rfl (Nat.le_of_ble_eq_true rfl) ?_
  refine r_lo [0, 1, 2, 3] (lo2 := [(0, .ref a0), (1, wi a1), (2, wi a2), (3, .ref a3)]) rfl ?_
  unfold fL_moveTree
  refine r_aload_n (x := a3) dL_moveTree_0 rfl rfl ?_
  refine ro_iconst (v := 0) dL_moveTree_1 rfl ?_
  refine r_aload_n (x := a0) dL_moveTree_2 rfl rfl ?_
  refine r_iload_n (x := a1) dL_moveTree_3 rfl rfl ?_
  refine r_iload_n (x := a2) dL_moveTree_4 rfl rfl ?_
  refine r_cxH (k2 := k_X11_moveTree) (c := 14) (T := TX11) (N := 10) (n := 2) (rest := [wi 0, .ref a3]) (f := wrapK a3 (fun e => if e = 2 then some 1 else if e = 1 then some 2 else none)) hG um_L_42 kv_X11_moveTree hc_X11 (by decide) (c_X11_moveTree hG a0 a1 a2 C) (by decide) rfl (Nat.le_of_ble_eq_true rfl) dL_moveTree_5 rfl (fun x C1 => ?_) (fun e C1 => ?_)
  · unfold wrapK
    dsimp only
    refine r_i2l dL_moveTree_8 ?_
    refine r_clast dL_moveTree_9 (fun C2 _ _ => ?_)
    refine r_goto (tgt := 21) dL_moveTree_10 (by decide) ?_
    refine ro_iconst (v := 0) dL_moveTree_21 rfl ?_
    exact r_iret rfl dL_moveTree_22
  · by_cases h2 : e = 2
    · subst h2
      refine ro_ach (X1 := some (1, C1)) rfl ?_
      refine achE (rows := [(2, 13), (1, 17)]) (pre := []) (suf := [(1, 17)]) (E := 10) hX rfl rfl rfl (by decide) (by decide) (by decide) (fun q => ?_)
      refine r_astore (lo2 := [(4, .ref q), (0, .ref a0), (1, wi a1), (2, wi a2), (3, .ref a3)]) dL_moveTree_13 (by decide) rfl ?_
      refine ro_iconst (v := 1) dL_moveTree_15 rfl ?_
      exact r_iret rfl dL_moveTree_16
    · by_cases h1 : e = 1
      · subst h1
        refine ro_ach (X1 := some (2, C1)) rfl ?_
        refine achE (rows := [(2, 13), (1, 17)]) (pre := [(2, 13)]) (suf := []) (E := 10) hX rfl rfl rfl (by decide) (by decide) (by decide) (fun q => ?_)
        refine r_astore (lo2 := [(4, .ref q), (0, .ref a0), (1, wi a1), (2, wi a2), (3, .ref a3)]) dL_moveTree_17 (by decide) rfl ?_
        refine ro_iconst (v := 2) dL_moveTree_19 rfl ?_
        exact r_iret rfl dL_moveTree_20
      · exact Or.inl (by unfold wrapK; dsimp only; simp only [h2, h1, ↓reduceIte]; rfl)
def k_L_approve : Kd := (yL_approve, cL_approve, 4, some .int, tableOf [(0, 9, 12, 24), (0, 9, 15, 15)])
theorem kv_L_approve : KSH k_L_approve [(0, 9, 12, 24), (0, 9, 15, 15)] 3 := ⟨uw_mem 1293 (by decide +kernel) rfl, uw_mem 160 (by decide +kernel) rfl, uw_mem 1292 (by decide +kernel) rfl, ⟨by decide +kernel, by decide +kernel⟩, by decide +kernel, by decide +kernel⟩
theorem um_L_45 : Cond.methodLink RL 45 yX11_approve ∈ uw := uw_mem 1294 (by decide +kernel) rfl
def fL_approve (a0 : Nat) (a1 : Int) (a2 : Nat) (C : Cd) : Option (Int × Cd) := if isO C a0 14 then (fX11_approve a0 a1 C).bind (fun q => wrapK a2 (fun e => if e = 2 then some 1 else if e = 1 then some 2 else none) q.1 q.2) else none
set_option maxHeartbeats 8000000 in
set_option maxRecDepth 100000 in
theorem c_L_approve {l : Launch} {Γ : Cx} {M0 : Md} (hG : GK Γ l) (hX : XN Γ) (a0 : Nat) (a1 : Int) (a2 : Nat) (C : Cd) : CtH l Γ k_L_approve [(0, 9, 12, 24), (0, 9, 15, 15)] 9 encI (emC M0) [.ref a0, wi a1, .ref a2] C (fL_approve a0 a1 a2 C) := by
  refine ctH_of (by decide +kernel) rfl (Nat.le_of_ble_eq_true rfl) ?_
  refine r_lo [0, 1, 2] (lo2 := [(0, .ref a0), (1, wi a1), (2, .ref a2)]) rfl ?_
  unfold fL_approve
  refine r_aload_n (x := a2) dL_approve_0 rfl rfl ?_
  refine ro_iconst (v := 0) dL_approve_1 rfl ?_
  refine r_aload_n (x := a0) dL_approve_2 rfl rfl ?_
  refine r_iload_n (x := a1) dL_approve_3 rfl rfl ?_
  refine r_cxH (k2 := k_X11_approve) (c := 14) (T := TX11) (N := 10) (n := 1) (rest := [wi 0, .ref a2]) (f := wrapK a2 (fun e => if e = 2 then some 1 else if e = 1 then some 2 else none)) hG um_L_45 kv_X11_approve hc_X11 (by decide) (c_X11_approve hG a0 a1 C) (by decide) rfl (Nat.le_of_ble_eq_true rfl) dL_approve_4 rfl (fun x C1 => ?_) (fun e C1 => ?_)
  · unfold wrapK
    dsimp only
    refine r_i2l dL_approve_7 ?_
    refine r_clast dL_approve_8 (fun C2 _ _ => ?_)
    refine r_goto (tgt := 18) dL_approve_9 (by decide) ?_
    refine ro_iconst (v := 0) dL_approve_18 rfl ?_
    exact r_iret rfl dL_approve_19
  · by_cases h2 : e = 2
    · subst h2
      refine ro_ach (X1 := some (1, C1)) rfl ?_
      refine achE (rows := [(2, 12), (1, 15)]) (pre := []) (suf := [(1, 15)]) (E := 9) hX rfl rfl rfl (by decide) (by decide) (by decide) (fun q => ?_)
      refine r_astore_n (lo2 := [(3, .ref q), (0, .ref a0), (1, wi a1), (2, .ref a2)]) dL_approve_12 rfl (by decide) rfl ?_
      refine ro_iconst (v := 1) dL_approve_13 rfl ?_
      exact r_iret rfl dL_approve_14
    · by_cases h1 : e = 1
      · subst h1
        refine ro_ach (X1 := some (2, C1)) rfl ?_
        refine achE (rows := [(2, 12), (1, 15)]) (pre := [(2, 12)]) (suf := []) (E := 9) hX rfl rfl rfl (by decide) (by decide) (by decide) (fun q => ?_)
        refine r_astore_n (lo2 := [(3, .ref q), (0, .ref a0), (1, wi a1), (2, .ref a2)]) dL_approve_15 rfl (by decide) rfl ?_
        refine ro_iconst (v := 2) dL_approve_16 rfl ?_
        exact r_iret rfl dL_approve_17
      · exact Or.inl (by unfold wrapK; dsimp only; simp only [h2, h1, ↓reduceIte]; rfl)
def k_L_translate : Kd := (yL_translate, cL_translate, 6, some .int, tableOf [(0, 12, 15, 24), (0, 12, 19, 13)])
theorem kv_L_translate : KSH k_L_translate [(0, 12, 15, 24), (0, 12, 19, 13)] 5 := ⟨uw_mem 1321 (by decide +kernel) rfl, uw_mem 160 (by decide +kernel) rfl, uw_mem 1320 (by decide +kernel) rfl, ⟨by decide +kernel, by decide +kernel⟩, by decide +kernel, by decide +kernel⟩
theorem um_L_48 : Cond.methodLink RL 48 yX11_translate ∈ uw := uw_mem 1322 (by decide +kernel) rfl
def fL_translate (a0 : Nat) (a1 : Int) (a2 : Int) (a3 : Int) (a4 : Nat) (C : Cd) : Option (Int × Cd) := if isO C a0 14 then (fX11_translate a0 a1 a2 a3 C).bind (fun q => wrapK a4 (fun e => if e = 2 then some 1 else if e = 0 then some 2 else none) q.1 q.2) else none
set_option maxHeartbeats 8000000 in
set_option maxRecDepth 100000 in
theorem c_L_translate {l : Launch} {Γ : Cx} {M0 : Md} (hG : GK Γ l) (hX : XN Γ) (a0 : Nat) (a1 : Int) (a2 : Int) (a3 : Int) (a4 : Nat) (C : Cd) : CtH l Γ k_L_translate [(0, 12, 15, 24), (0, 12, 19, 13)] 9 encI (emC M0) [.ref a0, wi a1, wi a2, wi a3, .ref a4] C (fL_translate a0 a1 a2 a3 a4 C) := by
  refine ctH_of (by decide +kernel) rfl (Nat.le_of_ble_eq_true rfl) ?_
  refine r_lo [0, 1, 2, 3, 4] (lo2 := [(0, .ref a0), (1, wi a1), (2, wi a2), (3, wi a3), (4, .ref a4)]) rfl ?_
  unfold fL_translate
  refine r_aload (x := a4) dL_translate_0 rfl ?_
  refine ro_iconst (v := 0) dL_translate_2 rfl ?_
  refine r_aload_n (x := a0) dL_translate_3 rfl rfl ?_
  refine r_iload_n (x := a1) dL_translate_4 rfl rfl ?_
  refine r_iload_n (x := a2) dL_translate_5 rfl rfl ?_
  refine r_iload_n (x := a3) dL_translate_6 rfl rfl ?_
  refine r_cxH (k2 := k_X11_translate) (c := 14) (T := TX11) (N := 10) (n := 3) (rest := [wi 0, .ref a4]) (f := wrapK a4 (fun e => if e = 2 then some 1 else if e = 0 then some 2 else none)) hG um_L_48 kv_X11_translate hc_X11 (by decide) (c_X11_translate hG a0 a1 a2 a3 C) (by decide) rfl (Nat.le_of_ble_eq_true rfl) dL_translate_7 rfl (fun x C1 => ?_) (fun e C1 => ?_)
  · unfold wrapK
    dsimp only
    refine r_i2l dL_translate_10 ?_
    refine r_clast dL_translate_11 (fun C2 _ _ => ?_)
    refine r_goto (tgt := 23) dL_translate_12 (by decide) ?_
    refine ro_iconst (v := 0) dL_translate_23 rfl ?_
    exact r_iret rfl dL_translate_24
  · by_cases h2 : e = 2
    · subst h2
      refine ro_ach (X1 := some (1, C1)) rfl ?_
      refine achE (rows := [(2, 15), (0, 19)]) (pre := []) (suf := [(0, 19)]) (E := 12) hX rfl rfl rfl (by decide) (by decide) (by decide) (fun q => ?_)
      refine r_astore (lo2 := [(5, .ref q), (0, .ref a0), (1, wi a1), (2, wi a2), (3, wi a3), (4, .ref a4)]) dL_translate_15 (by decide) rfl ?_
      refine ro_iconst (v := 1) dL_translate_17 rfl ?_
      exact r_iret rfl dL_translate_18
    · by_cases h0 : e = 0
      · subst h0
        refine ro_ach (X1 := some (2, C1)) rfl ?_
        refine achE (rows := [(2, 15), (0, 19)]) (pre := [(2, 15)]) (suf := []) (E := 12) hX rfl rfl rfl (by decide) (by decide) (by decide) (fun q => ?_)
        refine r_astore (lo2 := [(5, .ref q), (0, .ref a0), (1, wi a1), (2, wi a2), (3, wi a3), (4, .ref a4)]) dL_translate_19 (by decide) rfl ?_
        refine ro_iconst (v := 2) dL_translate_21 rfl ?_
        exact r_iret rfl dL_translate_22
      · exact Or.inl (by unfold wrapK; dsimp only; simp only [h2, h0, ↓reduceIte]; rfl)
def k_L_instruct : Kd := (yL_instruct, cL_instruct, 6, some .int, tableOf [(0, 12, 15, 24), (0, 12, 19, 13), (0, 12, 23, 15)])
theorem kv_L_instruct : KSH k_L_instruct [(0, 12, 15, 24), (0, 12, 19, 13), (0, 12, 23, 15)] 5 := ⟨uw_mem 1329 (by decide +kernel) rfl, uw_mem 160 (by decide +kernel) rfl, uw_mem 1328 (by decide +kernel) rfl, ⟨by decide +kernel, by decide +kernel⟩, by decide +kernel, by decide +kernel⟩
theorem um_L_51 : Cond.methodLink RL 51 yX11_instruct ∈ uw := uw_mem 1330 (by decide +kernel) rfl
def fL_instruct (a0 : Nat) (a1 : Int) (a2 : Int) (a3 : Int) (a4 : Nat) (C : Cd) : Option (Int × Cd) := if isO C a0 14 then (fX11_instruct a0 a1 a2 a3 C).bind (fun q => wrapK a4 (fun e => if e = 2 then some 1 else if e = 0 then some 2 else if e = 1 then some 3 else none) q.1 q.2) else none
set_option maxHeartbeats 8000000 in
set_option maxRecDepth 100000 in
theorem c_L_instruct {l : Launch} {Γ : Cx} {M0 : Md} (hG : GK Γ l) (hX : XN Γ) {sT : Nat → Nat} (hS : STs Γ sT) (a0 : Nat) (a1 : Int) (a2 : Int) (a3 : Int) (a4 : Nat) (C : Cd) : CtH l Γ k_L_instruct [(0, 12, 15, 24), (0, 12, 19, 13), (0, 12, 23, 15)] 8 encI (emC M0) [.ref a0, wi a1, wi a2, wi a3, .ref a4] C (fL_instruct a0 a1 a2 a3 a4 C) := by
  refine ctH_of (by decide +kernel) rfl (Nat.le_of_ble_eq_true rfl) ?_
  refine r_lo [0, 1, 2, 3, 4] (lo2 := [(0, .ref a0), (1, wi a1), (2, wi a2), (3, wi a3), (4, .ref a4)]) rfl ?_
  unfold fL_instruct
  refine r_aload (x := a4) dL_instruct_0 rfl ?_
  refine ro_iconst (v := 0) dL_instruct_2 rfl ?_
  refine r_aload_n (x := a0) dL_instruct_3 rfl rfl ?_
  refine r_iload_n (x := a1) dL_instruct_4 rfl rfl ?_
  refine r_iload_n (x := a2) dL_instruct_5 rfl rfl ?_
  refine r_iload_n (x := a3) dL_instruct_6 rfl rfl ?_
  refine r_cxH (k2 := k_X11_instruct) (c := 14) (T := TX11) (N := 10) (n := 3) (rest := [wi 0, .ref a4]) (f := wrapK a4 (fun e => if e = 2 then some 1 else if e = 0 then some 2 else if e = 1 then some 3 else none)) hG um_L_51 kv_X11_instruct hc_X11 (by decide) (c_X11_instruct hG a0 a1 a2 a3 hS C) (by decide) rfl (Nat.le_of_ble_eq_true rfl) dL_instruct_7 rfl (fun x C1 => ?_) (fun e C1 => ?_)
  · unfold wrapK
    dsimp only
    refine r_i2l dL_instruct_10 ?_
    refine r_clast dL_instruct_11 (fun C2 _ _ => ?_)
    refine r_goto (tgt := 27) dL_instruct_12 (by decide) ?_
    refine ro_iconst (v := 0) dL_instruct_27 rfl ?_
    exact r_iret rfl dL_instruct_28
  · by_cases h2 : e = 2
    · subst h2
      refine ro_ach (X1 := some (1, C1)) rfl ?_
      refine achE (rows := [(2, 15), (0, 19), (1, 23)]) (pre := []) (suf := [(0, 19), (1, 23)]) (E := 12) hX rfl rfl rfl (by decide) (by decide) (by decide) (fun q => ?_)
      refine r_astore (lo2 := [(5, .ref q), (0, .ref a0), (1, wi a1), (2, wi a2), (3, wi a3), (4, .ref a4)]) dL_instruct_15 (by decide) rfl ?_
      refine ro_iconst (v := 1) dL_instruct_17 rfl ?_
      exact r_iret rfl dL_instruct_18
    · by_cases h0 : e = 0
      · subst h0
        refine ro_ach (X1 := some (2, C1)) rfl ?_
        refine achE (rows := [(2, 15), (0, 19), (1, 23)]) (pre := [(2, 15)]) (suf := [(1, 23)]) (E := 12) hX rfl rfl rfl (by decide) (by decide) (by decide) (fun q => ?_)
        refine r_astore (lo2 := [(5, .ref q), (0, .ref a0), (1, wi a1), (2, wi a2), (3, wi a3), (4, .ref a4)]) dL_instruct_19 (by decide) rfl ?_
        refine ro_iconst (v := 2) dL_instruct_21 rfl ?_
        exact r_iret rfl dL_instruct_22
      · by_cases h1 : e = 1
        · subst h1
          refine ro_ach (X1 := some (3, C1)) rfl ?_
          refine achE (rows := [(2, 15), (0, 19), (1, 23)]) (pre := [(2, 15), (0, 19)]) (suf := []) (E := 12) hX rfl rfl rfl (by decide) (by decide) (by decide) (fun q => ?_)
          refine r_astore (lo2 := [(5, .ref q), (0, .ref a0), (1, wi a1), (2, wi a2), (3, wi a3), (4, .ref a4)]) dL_instruct_23 (by decide) rfl ?_
          refine ro_iconst (v := 3) dL_instruct_25 rfl ?_
          exact r_iret rfl dL_instruct_26
        · exact Or.inl (by unfold wrapK; dsimp only; simp only [h2, h0, h1, ↓reduceIte]; rfl)
def k_L_empty : Kd := (yL_empty, cL_empty, 4, some .int, tableOf [(0, 9, 12, 24)])
theorem kv_L_empty : KSH k_L_empty [(0, 9, 12, 24)] 3 := ⟨uw_mem 1353 (by decide +kernel) rfl, uw_mem 160 (by decide +kernel) rfl, uw_mem 1352 (by decide +kernel) rfl, ⟨by decide +kernel, by decide +kernel⟩, by decide +kernel, by decide +kernel⟩
theorem um_L_54 : Cond.methodLink RL 54 yX11_empty ∈ uw := uw_mem 1354 (by decide +kernel) rfl
def fL_empty (a0 : Nat) (a1 : Int) (a2 : Nat) (C : Cd) : Option (Int × Cd) := if isO C a0 14 then (fX11_empty a0 a1 C).bind (fun q => wrapK a2 (fun e => if e = 2 then some 1 else none) q.1 q.2) else none
set_option maxHeartbeats 8000000 in
set_option maxRecDepth 100000 in
theorem c_L_empty {l : Launch} {Γ : Cx} {M0 : Md} (hG : GK Γ l) (hX : XN Γ) (a0 : Nat) (a1 : Int) (a2 : Nat) (C : Cd) : CtH l Γ k_L_empty [(0, 9, 12, 24)] 8 encI (emC M0) [.ref a0, wi a1, .ref a2] C (fL_empty a0 a1 a2 C) := by
  refine ctH_of (by decide +kernel) rfl (Nat.le_of_ble_eq_true rfl) ?_
  refine r_lo [0, 1, 2] (lo2 := [(0, .ref a0), (1, wi a1), (2, .ref a2)]) rfl ?_
  unfold fL_empty
  refine r_aload_n (x := a2) dL_empty_0 rfl rfl ?_
  refine ro_iconst (v := 0) dL_empty_1 rfl ?_
  refine r_aload_n (x := a0) dL_empty_2 rfl rfl ?_
  refine r_iload_n (x := a1) dL_empty_3 rfl rfl ?_
  refine r_cxH (k2 := k_X11_empty) (c := 14) (T := TX11) (N := 10) (n := 1) (rest := [wi 0, .ref a2]) (f := wrapK a2 (fun e => if e = 2 then some 1 else none)) hG um_L_54 kv_X11_empty hc_X11 (by decide) (c_X11_empty hG a0 a1 C) (by decide) rfl (Nat.le_of_ble_eq_true rfl) dL_empty_4 rfl (fun x C1 => ?_) (fun e C1 => ?_)
  · unfold wrapK
    dsimp only
    refine r_i2l dL_empty_7 ?_
    refine r_clast dL_empty_8 (fun C2 _ _ => ?_)
    refine r_goto (tgt := 15) dL_empty_9 (by decide) ?_
    refine ro_iconst (v := 0) dL_empty_15 rfl ?_
    exact r_iret rfl dL_empty_16
  · by_cases h2 : e = 2
    · subst h2
      refine ro_ach (X1 := some (1, C1)) rfl ?_
      refine achE (rows := [(2, 12)]) (pre := []) (suf := []) (E := 9) hX rfl rfl rfl (by decide) (by decide) (by decide) (fun q => ?_)
      refine r_astore_n (lo2 := [(3, .ref q), (0, .ref a0), (1, wi a1), (2, .ref a2)]) dL_empty_12 rfl (by decide) rfl ?_
      refine ro_iconst (v := 1) dL_empty_13 rfl ?_
      exact r_iret rfl dL_empty_14
    · exact Or.inl (by unfold wrapK; dsimp only; simp only [h2, ↓reduceIte]; rfl)
def k_L_rank : Kd := (yL_rank, cL_rank, 5, some .int, tableOf [(0, 10, 13, 24), (0, 10, 17, 13)])
theorem kv_L_rank : KSH k_L_rank [(0, 10, 13, 24), (0, 10, 17, 13)] 4 := ⟨uw_mem 1360 (by decide +kernel) rfl, uw_mem 160 (by decide +kernel) rfl, uw_mem 1359 (by decide +kernel) rfl, ⟨by decide +kernel, by decide +kernel⟩, by decide +kernel, by decide +kernel⟩
theorem um_L_57 : Cond.methodLink RL 57 yX11_rank ∈ uw := uw_mem 1361 (by decide +kernel) rfl
def fL_rank (a0 : Nat) (a1 : Int) (a2 : Int) (a3 : Nat) (C : Cd) : Option (Int × Cd) := if isO C a0 14 then (fX11_rank a0 a1 a2 C).bind (fun q => wrapK a3 (fun e => if e = 2 then some 1 else if e = 0 then some 2 else none) q.1 q.2) else none
set_option maxHeartbeats 8000000 in
set_option maxRecDepth 100000 in
theorem c_L_rank {l : Launch} {Γ : Cx} {M0 : Md} (hG : GK Γ l) (hX : XN Γ) (a0 : Nat) (a1 : Int) (a2 : Int) (a3 : Nat) (C : Cd) : CtH l Γ k_L_rank [(0, 10, 13, 24), (0, 10, 17, 13)] 8 encI (emC M0) [.ref a0, wi a1, wi a2, .ref a3] C (fL_rank a0 a1 a2 a3 C) := by
  refine ctH_of (by decide +kernel) rfl (Nat.le_of_ble_eq_true rfl) ?_
  refine r_lo [0, 1, 2, 3] (lo2 := [(0, .ref a0), (1, wi a1), (2, wi a2), (3, .ref a3)]) rfl ?_
  unfold fL_rank
  refine r_aload_n (x := a3) dL_rank_0 rfl rfl ?_
  refine ro_iconst (v := 0) dL_rank_1 rfl ?_
  refine r_aload_n (x := a0) dL_rank_2 rfl rfl ?_
  refine r_iload_n (x := a1) dL_rank_3 rfl rfl ?_
  refine r_iload_n (x := a2) dL_rank_4 rfl rfl ?_
  refine r_cxH (k2 := k_X11_rank) (c := 14) (T := TX11) (N := 10) (n := 2) (rest := [wi 0, .ref a3]) (f := wrapK a3 (fun e => if e = 2 then some 1 else if e = 0 then some 2 else none)) hG um_L_57 kv_X11_rank hc_X11 (by decide) (c_X11_rank hG a0 a1 a2 C) (by decide) rfl (Nat.le_of_ble_eq_true rfl) dL_rank_5 rfl (fun x C1 => ?_) (fun e C1 => ?_)
  · unfold wrapK
    dsimp only
    refine r_i2l dL_rank_8 ?_
    refine r_clast dL_rank_9 (fun C2 _ _ => ?_)
    refine r_goto (tgt := 21) dL_rank_10 (by decide) ?_
    refine ro_iconst (v := 0) dL_rank_21 rfl ?_
    exact r_iret rfl dL_rank_22
  · by_cases h2 : e = 2
    · subst h2
      refine ro_ach (X1 := some (1, C1)) rfl ?_
      refine achE (rows := [(2, 13), (0, 17)]) (pre := []) (suf := [(0, 17)]) (E := 10) hX rfl rfl rfl (by decide) (by decide) (by decide) (fun q => ?_)
      refine r_astore (lo2 := [(4, .ref q), (0, .ref a0), (1, wi a1), (2, wi a2), (3, .ref a3)]) dL_rank_13 (by decide) rfl ?_
      refine ro_iconst (v := 1) dL_rank_15 rfl ?_
      exact r_iret rfl dL_rank_16
    · by_cases h0 : e = 0
      · subst h0
        refine ro_ach (X1 := some (2, C1)) rfl ?_
        refine achE (rows := [(2, 13), (0, 17)]) (pre := [(2, 13)]) (suf := []) (E := 10) hX rfl rfl rfl (by decide) (by decide) (by decide) (fun q => ?_)
        refine r_astore (lo2 := [(4, .ref q), (0, .ref a0), (1, wi a1), (2, wi a2), (3, .ref a3)]) dL_rank_17 (by decide) rfl ?_
        refine ro_iconst (v := 2) dL_rank_19 rfl ?_
        exact r_iret rfl dL_rank_20
      · exact Or.inl (by unfold wrapK; dsimp only; simp only [h2, h0, ↓reduceIte]; rfl)
def k_L_work : Kd := (yL_work, cL_work, 4, some .int, tableOf [(0, 9, 12, 13)])
theorem kv_L_work : KSH k_L_work [(0, 9, 12, 13)] 3 := ⟨uw_mem 1367 (by decide +kernel) rfl, uw_mem 160 (by decide +kernel) rfl, uw_mem 1366 (by decide +kernel) rfl, ⟨by decide +kernel, by decide +kernel⟩, by decide +kernel, by decide +kernel⟩
theorem um_L_60 : Cond.methodLink RL 60 yX11_work ∈ uw := uw_mem 1368 (by decide +kernel) rfl
def fL_work (a0 : Nat) (a1 : Int) (a2 : Nat) (C : Cd) : Option (Int × Cd) := if isO C a0 14 then (fX11_work a0 a1 C).bind (fun q => wrapK a2 (fun e => if e = 0 then some 1 else none) q.1 q.2) else none
set_option maxHeartbeats 8000000 in
set_option maxRecDepth 100000 in
theorem c_L_work {l : Launch} {Γ : Cx} {M0 : Md} (hG : GK Γ l) (hX : XN Γ) (a0 : Nat) (a1 : Int) (a2 : Nat) (C : Cd) : CtH l Γ k_L_work [(0, 9, 12, 13)] 9 encI (emC M0) [.ref a0, wi a1, .ref a2] C (fL_work a0 a1 a2 C) := by
  refine ctH_of (by decide +kernel) rfl (Nat.le_of_ble_eq_true rfl) ?_
  refine r_lo [0, 1, 2] (lo2 := [(0, .ref a0), (1, wi a1), (2, .ref a2)]) rfl ?_
  unfold fL_work
  refine r_aload_n (x := a2) dL_work_0 rfl rfl ?_
  refine ro_iconst (v := 0) dL_work_1 rfl ?_
  refine r_aload_n (x := a0) dL_work_2 rfl rfl ?_
  refine r_iload_n (x := a1) dL_work_3 rfl rfl ?_
  refine r_cxH (k2 := k_X11_work) (c := 14) (T := TX11) (N := 10) (n := 1) (rest := [wi 0, .ref a2]) (f := wrapK a2 (fun e => if e = 0 then some 1 else none)) hG um_L_60 kv_X11_work hc_X11 (by decide) (c_X11_work hG a0 a1 C) (by decide) rfl (Nat.le_of_ble_eq_true rfl) dL_work_4 rfl (fun x C1 => ?_) (fun e C1 => ?_)
  · unfold wrapK
    dsimp only
    refine r_i2l dL_work_7 ?_
    refine r_clast dL_work_8 (fun C2 _ _ => ?_)
    refine r_goto (tgt := 15) dL_work_9 (by decide) ?_
    refine ro_iconst (v := 0) dL_work_15 rfl ?_
    exact r_iret rfl dL_work_16
  · by_cases h0 : e = 0
    · subst h0
      refine ro_ach (X1 := some (1, C1)) rfl ?_
      refine achE (rows := [(0, 12)]) (pre := []) (suf := []) (E := 9) hX rfl rfl rfl (by decide) (by decide) (by decide) (fun q => ?_)
      refine r_astore_n (lo2 := [(3, .ref q), (0, .ref a0), (1, wi a1), (2, .ref a2)]) dL_work_12 rfl (by decide) rfl ?_
      refine ro_iconst (v := 1) dL_work_13 rfl ?_
      exact r_iret rfl dL_work_14
    · exact Or.inl (by unfold wrapK; dsimp only; simp only [h0, ↓reduceIte]; rfl)
def k_L_read : Kd := (yL_read, cL_read, 5, some .int, tableOf [(0, 10, 13, 24)])
theorem kv_L_read : KSH k_L_read [(0, 10, 13, 24)] 4 := ⟨uw_mem 1545 (by decide +kernel) rfl, uw_mem 160 (by decide +kernel) rfl, uw_mem 1544 (by decide +kernel) rfl, ⟨by decide +kernel, by decide +kernel⟩, by decide +kernel, by decide +kernel⟩
theorem um_L_63 : Cond.methodLink RL 63 yX11_read ∈ uw := uw_mem 1546 (by decide +kernel) rfl
def fL_read (a0 : Nat) (a1 : Int) (a2 : Int) (a3 : Nat) (C : Cd) : Option (Int × Cd) := if isO C a0 14 then (fX11_read a0 a1 a2 C).bind (fun q => wrapK a3 (fun e => if e = 2 then some 1 else none) q.1 q.2) else none
set_option maxHeartbeats 8000000 in
set_option maxRecDepth 100000 in
theorem c_L_read {l : Launch} {Γ : Cx} {M0 : Md} (hG : GK Γ l) (hX : XN Γ) (a0 : Nat) (a1 : Int) (a2 : Int) (a3 : Nat) (C : Cd) : CtH l Γ k_L_read [(0, 10, 13, 24)] 9 encI (emC M0) [.ref a0, wi a1, wi a2, .ref a3] C (fL_read a0 a1 a2 a3 C) := by
  refine ctH_of (by decide +kernel) rfl (Nat.le_of_ble_eq_true rfl) ?_
  refine r_lo [0, 1, 2, 3] (lo2 := [(0, .ref a0), (1, wi a1), (2, wi a2), (3, .ref a3)]) rfl ?_
  unfold fL_read
  refine r_aload_n (x := a3) dL_read_0 rfl rfl ?_
  refine ro_iconst (v := 0) dL_read_1 rfl ?_
  refine r_aload_n (x := a0) dL_read_2 rfl rfl ?_
  refine r_iload_n (x := a1) dL_read_3 rfl rfl ?_
  refine r_iload_n (x := a2) dL_read_4 rfl rfl ?_
  refine r_cxH (k2 := k_X11_read) (c := 14) (T := TX11) (N := 10) (n := 2) (rest := [wi 0, .ref a3]) (f := wrapK a3 (fun e => if e = 2 then some 1 else none)) hG um_L_63 kv_X11_read hc_X11 (by decide) (c_X11_read hG a0 a1 a2 C) (by decide) rfl (Nat.le_of_ble_eq_true rfl) dL_read_5 rfl (fun x C1 => ?_) (fun e C1 => ?_)
  · unfold wrapK
    dsimp only
    refine r_i2l dL_read_8 ?_
    refine r_clast dL_read_9 (fun C2 _ _ => ?_)
    refine r_goto (tgt := 17) dL_read_10 (by decide) ?_
    refine ro_iconst (v := 0) dL_read_17 rfl ?_
    exact r_iret rfl dL_read_18
  · by_cases h2 : e = 2
    · subst h2
      refine ro_ach (X1 := some (1, C1)) rfl ?_
      refine achE (rows := [(2, 13)]) (pre := []) (suf := []) (E := 10) hX rfl rfl rfl (by decide) (by decide) (by decide) (fun q => ?_)
      refine r_astore (lo2 := [(4, .ref q), (0, .ref a0), (1, wi a1), (2, wi a2), (3, .ref a3)]) dL_read_13 (by decide) rfl ?_
      refine ro_iconst (v := 1) dL_read_15 rfl ?_
      exact r_iret rfl dL_read_16
    · exact Or.inl (by unfold wrapK; dsimp only; simp only [h2, ↓reduceIte]; rfl)
def k_L_versions : Kd := (yL_versions, cL_versions, 4, some .int, tableOf [(0, 9, 12, 24)])
theorem kv_L_versions : KSH k_L_versions [(0, 9, 12, 24)] 3 := ⟨uw_mem 1552 (by decide +kernel) rfl, uw_mem 160 (by decide +kernel) rfl, uw_mem 1551 (by decide +kernel) rfl, ⟨by decide +kernel, by decide +kernel⟩, by decide +kernel, by decide +kernel⟩
theorem um_L_67 : Cond.methodLink RL 67 yX11_versions ∈ uw := uw_mem 1553 (by decide +kernel) rfl
def fL_versions (a0 : Nat) (a1 : Int) (a2 : Nat) (C : Cd) : Option (Int × Cd) := if isO C a0 14 then (fX11_versions a0 a1 C).bind (fun q => wrapK a2 (fun e => if e = 2 then some 1 else none) q.1 q.2) else none
set_option maxHeartbeats 8000000 in
set_option maxRecDepth 100000 in
theorem c_L_versions {l : Launch} {Γ : Cx} {M0 : Md} (hG : GK Γ l) (hX : XN Γ) (a0 : Nat) (a1 : Int) (a2 : Nat) (C : Cd) : CtH l Γ k_L_versions [(0, 9, 12, 24)] 8 encI (emC M0) [.ref a0, wi a1, .ref a2] C (fL_versions a0 a1 a2 C) := by
  refine ctH_of (by decide +kernel) rfl (Nat.le_of_ble_eq_true rfl) ?_
  refine r_lo [0, 1, 2] (lo2 := [(0, .ref a0), (1, wi a1), (2, .ref a2)]) rfl ?_
  unfold fL_versions
  refine r_aload_n (x := a2) dL_versions_0 rfl rfl ?_
  refine ro_iconst (v := 0) dL_versions_1 rfl ?_
  refine r_aload_n (x := a0) dL_versions_2 rfl rfl ?_
  refine r_iload_n (x := a1) dL_versions_3 rfl rfl ?_
  refine r_cxH (k2 := k_X11_versions) (c := 14) (T := TX11) (N := 10) (n := 1) (rest := [wi 0, .ref a2]) (f := wrapK a2 (fun e => if e = 2 then some 1 else none)) hG um_L_67 kv_X11_versions hc_X11 (by decide) (c_X11_versions hG a0 a1 C) (by decide) rfl (Nat.le_of_ble_eq_true rfl) dL_versions_4 rfl (fun x C1 => ?_) (fun e C1 => ?_)
  · unfold wrapK
    dsimp only
    refine r_i2l dL_versions_7 ?_
    refine r_clast dL_versions_8 (fun C2 _ _ => ?_)
    refine r_goto (tgt := 15) dL_versions_9 (by decide) ?_
    refine ro_iconst (v := 0) dL_versions_15 rfl ?_
    exact r_iret rfl dL_versions_16
  · by_cases h2 : e = 2
    · subst h2
      refine ro_ach (X1 := some (1, C1)) rfl ?_
      refine achE (rows := [(2, 12)]) (pre := []) (suf := []) (E := 9) hX rfl rfl rfl (by decide) (by decide) (by decide) (fun q => ?_)
      refine r_astore_n (lo2 := [(3, .ref q), (0, .ref a0), (1, wi a1), (2, .ref a2)]) dL_versions_12 rfl (by decide) rfl ?_
      refine ro_iconst (v := 1) dL_versions_13 rfl ?_
      exact r_iret rfl dL_versions_14
    · exact Or.inl (by unfold wrapK; dsimp only; simp only [h2, ↓reduceIte]; rfl)
def k_L_versionAt : Kd := (yL_versionAt, cL_versionAt, 5, some .int, tableOf [(0, 10, 13, 24)])
theorem kv_L_versionAt : KSH k_L_versionAt [(0, 10, 13, 24)] 4 := ⟨uw_mem 1560 (by decide +kernel) rfl, uw_mem 160 (by decide +kernel) rfl, uw_mem 1559 (by decide +kernel) rfl, ⟨by decide +kernel, by decide +kernel⟩, by decide +kernel, by decide +kernel⟩
theorem um_L_70 : Cond.methodLink RL 70 yX11_versionAt ∈ uw := uw_mem 1561 (by decide +kernel) rfl
def fL_versionAt (a0 : Nat) (a1 : Int) (a2 : Int) (a3 : Nat) (C : Cd) : Option (Int × Cd) := if isO C a0 14 then (fX11_versionAt a0 a1 a2 C).bind (fun q => wrapK a3 (fun e => if e = 2 then some 1 else none) q.1 q.2) else none
set_option maxHeartbeats 8000000 in
set_option maxRecDepth 100000 in
theorem c_L_versionAt {l : Launch} {Γ : Cx} {M0 : Md} (hG : GK Γ l) (hX : XN Γ) (a0 : Nat) (a1 : Int) (a2 : Int) (a3 : Nat) (C : Cd) : CtH l Γ k_L_versionAt [(0, 10, 13, 24)] 8 encI (emC M0) [.ref a0, wi a1, wi a2, .ref a3] C (fL_versionAt a0 a1 a2 a3 C) := by
  refine ctH_of (by decide +kernel) rfl (Nat.le_of_ble_eq_true rfl) ?_
  refine r_lo [0, 1, 2, 3] (lo2 := [(0, .ref a0), (1, wi a1), (2, wi a2), (3, .ref a3)]) rfl ?_
  unfold fL_versionAt
  refine r_aload_n (x := a3) dL_versionAt_0 rfl rfl ?_
  refine ro_iconst (v := 0) dL_versionAt_1 rfl ?_
  refine r_aload_n (x := a0) dL_versionAt_2 rfl rfl ?_
  refine r_iload_n (x := a1) dL_versionAt_3 rfl rfl ?_
  refine r_iload_n (x := a2) dL_versionAt_4 rfl rfl ?_
  refine r_cxH (k2 := k_X11_versionAt) (c := 14) (T := TX11) (N := 10) (n := 2) (rest := [wi 0, .ref a3]) (f := wrapK a3 (fun e => if e = 2 then some 1 else none)) hG um_L_70 kv_X11_versionAt hc_X11 (by decide) (c_X11_versionAt hG a0 a1 a2 C) (by decide) rfl (Nat.le_of_ble_eq_true rfl) dL_versionAt_5 rfl (fun x C1 => ?_) (fun e C1 => ?_)
  · unfold wrapK
    dsimp only
    refine r_i2l dL_versionAt_8 ?_
    refine r_clast dL_versionAt_9 (fun C2 _ _ => ?_)
    refine r_goto (tgt := 17) dL_versionAt_10 (by decide) ?_
    refine ro_iconst (v := 0) dL_versionAt_17 rfl ?_
    exact r_iret rfl dL_versionAt_18
  · by_cases h2 : e = 2
    · subst h2
      refine ro_ach (X1 := some (1, C1)) rfl ?_
      refine achE (rows := [(2, 13)]) (pre := []) (suf := []) (E := 10) hX rfl rfl rfl (by decide) (by decide) (by decide) (fun q => ?_)
      refine r_astore (lo2 := [(4, .ref q), (0, .ref a0), (1, wi a1), (2, wi a2), (3, .ref a3)]) dL_versionAt_13 (by decide) rfl ?_
      refine ro_iconst (v := 1) dL_versionAt_15 rfl ?_
      exact r_iret rfl dL_versionAt_16
    · exact Or.inl (by unfold wrapK; dsimp only; simp only [h2, ↓reduceIte]; rfl)
def k_L_tokenAt : Kd := (yL_tokenAt, cL_tokenAt, 5, some .int, tableOf [(0, 10, 13, 24)])
theorem kv_L_tokenAt : KSH k_L_tokenAt [(0, 10, 13, 24)] 4 := ⟨uw_mem 1567 (by decide +kernel) rfl, uw_mem 160 (by decide +kernel) rfl, uw_mem 1566 (by decide +kernel) rfl, ⟨by decide +kernel, by decide +kernel⟩, by decide +kernel, by decide +kernel⟩
theorem um_L_73 : Cond.methodLink RL 73 yX11_tokenAt ∈ uw := uw_mem 1568 (by decide +kernel) rfl
def fL_tokenAt (a0 : Nat) (a1 : Int) (a2 : Int) (a3 : Nat) (C : Cd) : Option (Int × Cd) := if isO C a0 14 then (fX11_tokenAt a0 a1 a2 C).bind (fun q => wrapK a3 (fun e => if e = 2 then some 1 else none) q.1 q.2) else none
set_option maxHeartbeats 8000000 in
set_option maxRecDepth 100000 in
theorem c_L_tokenAt {l : Launch} {Γ : Cx} {M0 : Md} (hG : GK Γ l) (hX : XN Γ) (a0 : Nat) (a1 : Int) (a2 : Int) (a3 : Nat) (C : Cd) : CtH l Γ k_L_tokenAt [(0, 10, 13, 24)] 9 encI (emC M0) [.ref a0, wi a1, wi a2, .ref a3] C (fL_tokenAt a0 a1 a2 a3 C) := by
  refine ctH_of (by decide +kernel) rfl (Nat.le_of_ble_eq_true rfl) ?_
  refine r_lo [0, 1, 2, 3] (lo2 := [(0, .ref a0), (1, wi a1), (2, wi a2), (3, .ref a3)]) rfl ?_
  unfold fL_tokenAt
  refine r_aload_n (x := a3) dL_tokenAt_0 rfl rfl ?_
  refine ro_iconst (v := 0) dL_tokenAt_1 rfl ?_
  refine r_aload_n (x := a0) dL_tokenAt_2 rfl rfl ?_
  refine r_iload_n (x := a1) dL_tokenAt_3 rfl rfl ?_
  refine r_iload_n (x := a2) dL_tokenAt_4 rfl rfl ?_
  refine r_cxH (k2 := k_X11_tokenAt) (c := 14) (T := TX11) (N := 10) (n := 2) (rest := [wi 0, .ref a3]) (f := wrapK a3 (fun e => if e = 2 then some 1 else none)) hG um_L_73 kv_X11_tokenAt hc_X11 (by decide) (c_X11_tokenAt hG a0 a1 a2 C) (by decide) rfl (Nat.le_of_ble_eq_true rfl) dL_tokenAt_5 rfl (fun x C1 => ?_) (fun e C1 => ?_)
  · unfold wrapK
    dsimp only
    refine r_i2l dL_tokenAt_8 ?_
    refine r_clast dL_tokenAt_9 (fun C2 _ _ => ?_)
    refine r_goto (tgt := 17) dL_tokenAt_10 (by decide) ?_
    refine ro_iconst (v := 0) dL_tokenAt_17 rfl ?_
    exact r_iret rfl dL_tokenAt_18
  · by_cases h2 : e = 2
    · subst h2
      refine ro_ach (X1 := some (1, C1)) rfl ?_
      refine achE (rows := [(2, 13)]) (pre := []) (suf := []) (E := 10) hX rfl rfl rfl (by decide) (by decide) (by decide) (fun q => ?_)
      refine r_astore (lo2 := [(4, .ref q), (0, .ref a0), (1, wi a1), (2, wi a2), (3, .ref a3)]) dL_tokenAt_13 (by decide) rfl ?_
      refine ro_iconst (v := 1) dL_tokenAt_15 rfl ?_
      exact r_iret rfl dL_tokenAt_16
    · exact Or.inl (by unfold wrapK; dsimp only; simp only [h2, ↓reduceIte]; rfl)
def k_L_leads : Kd := (yL_leads, cL_leads, 4, some .int, tableOf [(0, 9, 12, 24)])
theorem kv_L_leads : KSH k_L_leads [(0, 9, 12, 24)] 3 := ⟨uw_mem 1580 (by decide +kernel) rfl, uw_mem 160 (by decide +kernel) rfl, uw_mem 1579 (by decide +kernel) rfl, ⟨by decide +kernel, by decide +kernel⟩, by decide +kernel, by decide +kernel⟩
theorem um_L_76 : Cond.methodLink RL 76 yX11_leads ∈ uw := uw_mem 1581 (by decide +kernel) rfl
def fL_leads (a0 : Nat) (a1 : Int) (a2 : Nat) (C : Cd) : Option (Int × Cd) := if isO C a0 14 then (fX11_leads a0 a1 C).bind (fun q => wrapK a2 (fun e => if e = 2 then some 1 else none) q.1 q.2) else none
set_option maxHeartbeats 8000000 in
set_option maxRecDepth 100000 in
theorem c_L_leads {l : Launch} {Γ : Cx} {M0 : Md} (hG : GK Γ l) (hX : XN Γ) (a0 : Nat) (a1 : Int) (a2 : Nat) (C : Cd) : CtH l Γ k_L_leads [(0, 9, 12, 24)] 8 encI (emC M0) [.ref a0, wi a1, .ref a2] C (fL_leads a0 a1 a2 C) := by
  refine ctH_of (by decide +kernel) rfl (Nat.le_of_ble_eq_true rfl) ?_
  refine r_lo [0, 1, 2] (lo2 := [(0, .ref a0), (1, wi a1), (2, .ref a2)]) rfl ?_
  unfold fL_leads
  refine r_aload_n (x := a2) dL_leads_0 rfl rfl ?_
  refine ro_iconst (v := 0) dL_leads_1 rfl ?_
  refine r_aload_n (x := a0) dL_leads_2 rfl rfl ?_
  refine r_iload_n (x := a1) dL_leads_3 rfl rfl ?_
  refine r_cxH (k2 := k_X11_leads) (c := 14) (T := TX11) (N := 10) (n := 1) (rest := [wi 0, .ref a2]) (f := wrapK a2 (fun e => if e = 2 then some 1 else none)) hG um_L_76 kv_X11_leads hc_X11 (by decide) (c_X11_leads hG a0 a1 C) (by decide) rfl (Nat.le_of_ble_eq_true rfl) dL_leads_4 rfl (fun x C1 => ?_) (fun e C1 => ?_)
  · unfold wrapK
    dsimp only
    refine r_i2l dL_leads_7 ?_
    refine r_clast dL_leads_8 (fun C2 _ _ => ?_)
    refine r_goto (tgt := 15) dL_leads_9 (by decide) ?_
    refine ro_iconst (v := 0) dL_leads_15 rfl ?_
    exact r_iret rfl dL_leads_16
  · by_cases h2 : e = 2
    · subst h2
      refine ro_ach (X1 := some (1, C1)) rfl ?_
      refine achE (rows := [(2, 12)]) (pre := []) (suf := []) (E := 9) hX rfl rfl rfl (by decide) (by decide) (by decide) (fun q => ?_)
      refine r_astore_n (lo2 := [(3, .ref q), (0, .ref a0), (1, wi a1), (2, .ref a2)]) dL_leads_12 rfl (by decide) rfl ?_
      refine ro_iconst (v := 1) dL_leads_13 rfl ?_
      exact r_iret rfl dL_leads_14
    · exact Or.inl (by unfold wrapK; dsimp only; simp only [h2, ↓reduceIte]; rfl)
def k_L_isStale : Kd := (yL_isStale, cL_isStale, 4, some .int, tableOf [(0, 16, 19, 24)])
theorem kv_L_isStale : KSH k_L_isStale [(0, 16, 19, 24)] 3 := ⟨uw_mem 1587 (by decide +kernel) rfl, uw_mem 160 (by decide +kernel) rfl, uw_mem 1586 (by decide +kernel) rfl, ⟨by decide +kernel, by decide +kernel⟩, by decide +kernel, by decide +kernel⟩
theorem um_L_79 : Cond.methodLink RL 79 yX11_isStale ∈ uw := uw_mem 1588 (by decide +kernel) rfl
def fL_isStale (a0 : Nat) (a1 : Int) (a2 : Nat) (C : Cd) : Option (Int × Cd) := if isO C a0 14 then (fX11_isStale a0 a1 C).bind (fun q => wrapZ a2 (fun e => if e = 2 then some 1 else none) q.1 q.2) else none
set_option maxHeartbeats 8000000 in
set_option maxRecDepth 100000 in
theorem c_L_isStale {l : Launch} {Γ : Cx} {M0 : Md} (hG : GK Γ l) (hX : XN Γ) (a0 : Nat) (a1 : Int) (a2 : Nat) (C : Cd) : CtH l Γ k_L_isStale [(0, 16, 19, 24)] 9 encI (emC M0) [.ref a0, wi a1, .ref a2] C (fL_isStale a0 a1 a2 C) := by
  refine ctH_of (by decide +kernel) rfl (Nat.le_of_ble_eq_true rfl) ?_
  refine r_lo [0, 1, 2] (lo2 := [(0, .ref a0), (1, wi a1), (2, .ref a2)]) rfl ?_
  unfold fL_isStale
  refine r_aload_n (x := a2) dL_isStale_0 rfl rfl ?_
  refine ro_iconst (v := 0) dL_isStale_1 rfl ?_
  refine r_aload_n (x := a0) dL_isStale_2 rfl rfl ?_
  refine r_iload_n (x := a1) dL_isStale_3 rfl rfl ?_
  refine r_cxH (k2 := k_X11_isStale) (c := 14) (T := TX11) (N := 10) (n := 1) (rest := [wi 0, .ref a2]) (f := wrapZ a2 (fun e => if e = 2 then some 1 else none)) hG um_L_79 kv_X11_isStale hc_X11 (by decide) (c_X11_isStale hG a0 a1 C) (by decide) rfl (Nat.le_of_ble_eq_true rfl) dL_isStale_4 rfl (fun x C1 => ?_) (fun e C1 => ?_)
  · unfold wrapZ
    dsimp only
    refine r_if_eq (tgt := 14) dL_isStale_7 (by decide) ?_ ?_
    · refine r_lconst (x := 0) dL_isStale_14 (by decide) ?_
      refine r_clast dL_isStale_15 (fun C2 _ _ => ?_)
      refine r_goto (tgt := 22) dL_isStale_16 (by decide) ?_
      refine ro_iconst (v := 0) dL_isStale_22 rfl ?_
      exact r_iret rfl dL_isStale_23
    · refine r_lconst (x := 1) dL_isStale_10 (by decide) ?_
      refine r_goto (tgt := 15) dL_isStale_11 (by decide) ?_
      refine r_clast dL_isStale_15 (fun C2 _ _ => ?_)
      refine r_goto (tgt := 22) dL_isStale_16 (by decide) ?_
      refine ro_iconst (v := 0) dL_isStale_22 rfl ?_
      exact r_iret rfl dL_isStale_23
  · by_cases h2 : e = 2
    · subst h2
      refine ro_ach (X1 := some (1, C1)) rfl ?_
      refine achE (rows := [(2, 19)]) (pre := []) (suf := []) (E := 16) hX rfl rfl rfl (by decide) (by decide) (by decide) (fun q => ?_)
      refine r_astore_n (lo2 := [(3, .ref q), (0, .ref a0), (1, wi a1), (2, .ref a2)]) dL_isStale_19 rfl (by decide) rfl ?_
      refine ro_iconst (v := 1) dL_isStale_20 rfl ?_
      exact r_iret rfl dL_isStale_21
    · exact Or.inl (by unfold wrapZ; dsimp only; simp only [h2, ↓reduceIte]; rfl)
def k_L_shown : Kd := (yL_shown, cL_shown, 5, some .int, tableOf [(0, 10, 13, 24)])
theorem kv_L_shown : KSH k_L_shown [(0, 10, 13, 24)] 4 := ⟨uw_mem 1594 (by decide +kernel) rfl, uw_mem 160 (by decide +kernel) rfl, uw_mem 1593 (by decide +kernel) rfl, ⟨by decide +kernel, by decide +kernel⟩, by decide +kernel, by decide +kernel⟩
theorem um_L_83 : Cond.methodLink RL 83 yX11_shown ∈ uw := uw_mem 1595 (by decide +kernel) rfl
def fL_shown (a0 : Nat) (a1 : Int) (a2 : Int) (a3 : Nat) (C : Cd) : Option (Int × Cd) := if isO C a0 14 then (fX11_shown a0 a1 a2 C).bind (fun q => wrapK a3 (fun e => if e = 2 then some 1 else none) q.1 q.2) else none
set_option maxHeartbeats 8000000 in
set_option maxRecDepth 100000 in
theorem c_L_shown {l : Launch} {Γ : Cx} {M0 : Md} (hG : GK Γ l) (hX : XN Γ) (a0 : Nat) (a1 : Int) (a2 : Int) (a3 : Nat) (C : Cd) : CtH l Γ k_L_shown [(0, 10, 13, 24)] 9 encI (emC M0) [.ref a0, wi a1, wi a2, .ref a3] C (fL_shown a0 a1 a2 a3 C) := by
  refine ctH_of (by decide +kernel) rfl (Nat.le_of_ble_eq_true rfl) ?_
  refine r_lo [0, 1, 2, 3] (lo2 := [(0, .ref a0), (1, wi a1), (2, wi a2), (3, .ref a3)]) rfl ?_
  unfold fL_shown
  refine r_aload_n (x := a3) dL_shown_0 rfl rfl ?_
  refine ro_iconst (v := 0) dL_shown_1 rfl ?_
  refine r_aload_n (x := a0) dL_shown_2 rfl rfl ?_
  refine r_iload_n (x := a1) dL_shown_3 rfl rfl ?_
  refine r_iload_n (x := a2) dL_shown_4 rfl rfl ?_
  refine r_cxH (k2 := k_X11_shown) (c := 14) (T := TX11) (N := 10) (n := 2) (rest := [wi 0, .ref a3]) (f := wrapK a3 (fun e => if e = 2 then some 1 else none)) hG um_L_83 kv_X11_shown hc_X11 (by decide) (c_X11_shown hG a0 a1 a2 C) (by decide) rfl (Nat.le_of_ble_eq_true rfl) dL_shown_5 rfl (fun x C1 => ?_) (fun e C1 => ?_)
  · unfold wrapK
    dsimp only
    refine r_i2l dL_shown_8 ?_
    refine r_clast dL_shown_9 (fun C2 _ _ => ?_)
    refine r_goto (tgt := 17) dL_shown_10 (by decide) ?_
    refine ro_iconst (v := 0) dL_shown_17 rfl ?_
    exact r_iret rfl dL_shown_18
  · by_cases h2 : e = 2
    · subst h2
      refine ro_ach (X1 := some (1, C1)) rfl ?_
      refine achE (rows := [(2, 13)]) (pre := []) (suf := []) (E := 10) hX rfl rfl rfl (by decide) (by decide) (by decide) (fun q => ?_)
      refine r_astore (lo2 := [(4, .ref q), (0, .ref a0), (1, wi a1), (2, wi a2), (3, .ref a3)]) dL_shown_13 (by decide) rfl ?_
      refine ro_iconst (v := 1) dL_shown_15 rfl ?_
      exact r_iret rfl dL_shown_16
    · exact Or.inl (by unfold wrapK; dsimp only; simp only [h2, ↓reduceIte]; rfl)
def k_L_shownAnew : Kd := (yL_shownAnew, cL_shownAnew, 5, some .int, tableOf [(0, 10, 13, 24)])
theorem kv_L_shownAnew : KSH k_L_shownAnew [(0, 10, 13, 24)] 4 := ⟨uw_mem 1602 (by decide +kernel) rfl, uw_mem 160 (by decide +kernel) rfl, uw_mem 1601 (by decide +kernel) rfl, ⟨by decide +kernel, by decide +kernel⟩, by decide +kernel, by decide +kernel⟩
theorem um_L_86 : Cond.methodLink RL 86 yX11_shownAnew ∈ uw := uw_mem 1603 (by decide +kernel) rfl
def fL_shownAnew (a0 : Nat) (a1 : Int) (a2 : Int) (a3 : Nat) (C : Cd) : Option (Int × Cd) := if isO C a0 14 then (fX11_shownAnew a0 a1 a2 C).bind (fun q => wrapK a3 (fun e => if e = 2 then some 1 else none) q.1 q.2) else none
set_option maxHeartbeats 8000000 in
set_option maxRecDepth 100000 in
theorem c_L_shownAnew {l : Launch} {Γ : Cx} {M0 : Md} (hG : GK Γ l) (hX : XN Γ) (a0 : Nat) (a1 : Int) (a2 : Int) (a3 : Nat) (C : Cd) : CtH l Γ k_L_shownAnew [(0, 10, 13, 24)] 9 encI (emC M0) [.ref a0, wi a1, wi a2, .ref a3] C (fL_shownAnew a0 a1 a2 a3 C) := by
  refine ctH_of (by decide +kernel) rfl (Nat.le_of_ble_eq_true rfl) ?_
  refine r_lo [0, 1, 2, 3] (lo2 := [(0, .ref a0), (1, wi a1), (2, wi a2), (3, .ref a3)]) rfl ?_
  unfold fL_shownAnew
  refine r_aload_n (x := a3) dL_shownAnew_0 rfl rfl ?_
  refine ro_iconst (v := 0) dL_shownAnew_1 rfl ?_
  refine r_aload_n (x := a0) dL_shownAnew_2 rfl rfl ?_
  refine r_iload_n (x := a1) dL_shownAnew_3 rfl rfl ?_
  refine r_iload_n (x := a2) dL_shownAnew_4 rfl rfl ?_
  refine r_cxH (k2 := k_X11_shownAnew) (c := 14) (T := TX11) (N := 10) (n := 2) (rest := [wi 0, .ref a3]) (f := wrapK a3 (fun e => if e = 2 then some 1 else none)) hG um_L_86 kv_X11_shownAnew hc_X11 (by decide) (c_X11_shownAnew hG a0 a1 a2 C) (by decide) rfl (Nat.le_of_ble_eq_true rfl) dL_shownAnew_5 rfl (fun x C1 => ?_) (fun e C1 => ?_)
  · unfold wrapK
    dsimp only
    refine r_i2l dL_shownAnew_8 ?_
    refine r_clast dL_shownAnew_9 (fun C2 _ _ => ?_)
    refine r_goto (tgt := 17) dL_shownAnew_10 (by decide) ?_
    refine ro_iconst (v := 0) dL_shownAnew_17 rfl ?_
    exact r_iret rfl dL_shownAnew_18
  · by_cases h2 : e = 2
    · subst h2
      refine ro_ach (X1 := some (1, C1)) rfl ?_
      refine achE (rows := [(2, 13)]) (pre := []) (suf := []) (E := 10) hX rfl rfl rfl (by decide) (by decide) (by decide) (fun q => ?_)
      refine r_astore (lo2 := [(4, .ref q), (0, .ref a0), (1, wi a1), (2, wi a2), (3, .ref a3)]) dL_shownAnew_13 (by decide) rfl ?_
      refine ro_iconst (v := 1) dL_shownAnew_15 rfl ?_
      exact r_iret rfl dL_shownAnew_16
    · exact Or.inl (by unfold wrapK; dsimp only; simp only [h2, ↓reduceIte]; rfl)
def k_L_approvedAt : Kd := (yL_approvedAt, cL_approvedAt, 5, some .int, tableOf [(0, 10, 13, 24)])
theorem kv_L_approvedAt : KSH k_L_approvedAt [(0, 10, 13, 24)] 4 := ⟨uw_mem 1609 (by decide +kernel) rfl, uw_mem 160 (by decide +kernel) rfl, uw_mem 1608 (by decide +kernel) rfl, ⟨by decide +kernel, by decide +kernel⟩, by decide +kernel, by decide +kernel⟩
theorem um_L_89 : Cond.methodLink RL 89 yX11_approvedAt ∈ uw := uw_mem 1610 (by decide +kernel) rfl
def fL_approvedAt (a0 : Nat) (a1 : Int) (a2 : Int) (a3 : Nat) (C : Cd) : Option (Int × Cd) := if isO C a0 14 then (fX11_approvedAt a0 a1 a2 C).bind (fun q => wrapK a3 (fun e => if e = 2 then some 1 else none) q.1 q.2) else none
set_option maxHeartbeats 8000000 in
set_option maxRecDepth 100000 in
theorem c_L_approvedAt {l : Launch} {Γ : Cx} {M0 : Md} (hG : GK Γ l) (hX : XN Γ) (a0 : Nat) (a1 : Int) (a2 : Int) (a3 : Nat) (C : Cd) : CtH l Γ k_L_approvedAt [(0, 10, 13, 24)] 9 encI (emC M0) [.ref a0, wi a1, wi a2, .ref a3] C (fL_approvedAt a0 a1 a2 a3 C) := by
  refine ctH_of (by decide +kernel) rfl (Nat.le_of_ble_eq_true rfl) ?_
  refine r_lo [0, 1, 2, 3] (lo2 := [(0, .ref a0), (1, wi a1), (2, wi a2), (3, .ref a3)]) rfl ?_
  unfold fL_approvedAt
  refine r_aload_n (x := a3) dL_approvedAt_0 rfl rfl ?_
  refine ro_iconst (v := 0) dL_approvedAt_1 rfl ?_
  refine r_aload_n (x := a0) dL_approvedAt_2 rfl rfl ?_
  refine r_iload_n (x := a1) dL_approvedAt_3 rfl rfl ?_
  refine r_iload_n (x := a2) dL_approvedAt_4 rfl rfl ?_
  refine r_cxH (k2 := k_X11_approvedAt) (c := 14) (T := TX11) (N := 10) (n := 2) (rest := [wi 0, .ref a3]) (f := wrapK a3 (fun e => if e = 2 then some 1 else none)) hG um_L_89 kv_X11_approvedAt hc_X11 (by decide) (c_X11_approvedAt hG a0 a1 a2 C) (by decide) rfl (Nat.le_of_ble_eq_true rfl) dL_approvedAt_5 rfl (fun x C1 => ?_) (fun e C1 => ?_)
  · unfold wrapK
    dsimp only
    refine r_i2l dL_approvedAt_8 ?_
    refine r_clast dL_approvedAt_9 (fun C2 _ _ => ?_)
    refine r_goto (tgt := 17) dL_approvedAt_10 (by decide) ?_
    refine ro_iconst (v := 0) dL_approvedAt_17 rfl ?_
    exact r_iret rfl dL_approvedAt_18
  · by_cases h2 : e = 2
    · subst h2
      refine ro_ach (X1 := some (1, C1)) rfl ?_
      refine achE (rows := [(2, 13)]) (pre := []) (suf := []) (E := 10) hX rfl rfl rfl (by decide) (by decide) (by decide) (fun q => ?_)
      refine r_astore (lo2 := [(4, .ref q), (0, .ref a0), (1, wi a1), (2, wi a2), (3, .ref a3)]) dL_approvedAt_13 (by decide) rfl ?_
      refine ro_iconst (v := 1) dL_approvedAt_15 rfl ?_
      exact r_iret rfl dL_approvedAt_16
    · exact Or.inl (by unfold wrapK; dsimp only; simp only [h2, ↓reduceIte]; rfl)
def k_L_linked : Kd := (yL_linked, cL_linked, 5, some .int, tableOf [(0, 10, 13, 24)])
theorem kv_L_linked : KSH k_L_linked [(0, 10, 13, 24)] 4 := ⟨uw_mem 1616 (by decide +kernel) rfl, uw_mem 160 (by decide +kernel) rfl, uw_mem 1615 (by decide +kernel) rfl, ⟨by decide +kernel, by decide +kernel⟩, by decide +kernel, by decide +kernel⟩
theorem um_L_92 : Cond.methodLink RL 92 yX11_linked ∈ uw := uw_mem 1617 (by decide +kernel) rfl
def fL_linked (a0 : Nat) (a1 : Int) (a2 : Int) (a3 : Nat) (C : Cd) : Option (Int × Cd) := if isO C a0 14 then (fX11_linked a0 a1 a2 C).bind (fun q => wrapK a3 (fun e => if e = 2 then some 1 else none) q.1 q.2) else none
set_option maxHeartbeats 8000000 in
set_option maxRecDepth 100000 in
theorem c_L_linked {l : Launch} {Γ : Cx} {M0 : Md} (hG : GK Γ l) (hX : XN Γ) (a0 : Nat) (a1 : Int) (a2 : Int) (a3 : Nat) (C : Cd) : CtH l Γ k_L_linked [(0, 10, 13, 24)] 8 encI (emC M0) [.ref a0, wi a1, wi a2, .ref a3] C (fL_linked a0 a1 a2 a3 C) := by
  refine ctH_of (by decide +kernel) rfl (Nat.le_of_ble_eq_true rfl) ?_
  refine r_lo [0, 1, 2, 3] (lo2 := [(0, .ref a0), (1, wi a1), (2, wi a2), (3, .ref a3)]) rfl ?_
  unfold fL_linked
  refine r_aload_n (x := a3) dL_linked_0 rfl rfl ?_
  refine ro_iconst (v := 0) dL_linked_1 rfl ?_
  refine r_aload_n (x := a0) dL_linked_2 rfl rfl ?_
  refine r_iload_n (x := a1) dL_linked_3 rfl rfl ?_
  refine r_iload_n (x := a2) dL_linked_4 rfl rfl ?_
  refine r_cxH (k2 := k_X11_linked) (c := 14) (T := TX11) (N := 10) (n := 2) (rest := [wi 0, .ref a3]) (f := wrapK a3 (fun e => if e = 2 then some 1 else none)) hG um_L_92 kv_X11_linked hc_X11 (by decide) (c_X11_linked hG a0 a1 a2 C) (by decide) rfl (Nat.le_of_ble_eq_true rfl) dL_linked_5 rfl (fun x C1 => ?_) (fun e C1 => ?_)
  · unfold wrapK
    dsimp only
    refine r_i2l dL_linked_8 ?_
    refine r_clast dL_linked_9 (fun C2 _ _ => ?_)
    refine r_goto (tgt := 17) dL_linked_10 (by decide) ?_
    refine ro_iconst (v := 0) dL_linked_17 rfl ?_
    exact r_iret rfl dL_linked_18
  · by_cases h2 : e = 2
    · subst h2
      refine ro_ach (X1 := some (1, C1)) rfl ?_
      refine achE (rows := [(2, 13)]) (pre := []) (suf := []) (E := 10) hX rfl rfl rfl (by decide) (by decide) (by decide) (fun q => ?_)
      refine r_astore (lo2 := [(4, .ref q), (0, .ref a0), (1, wi a1), (2, wi a2), (3, .ref a3)]) dL_linked_13 (by decide) rfl ?_
      refine ro_iconst (v := 1) dL_linked_15 rfl ?_
      exact r_iret rfl dL_linked_16
    · exact Or.inl (by unfold wrapK; dsimp only; simp only [h2, ↓reduceIte]; rfl)
def k_L_members : Kd := (yL_members, cL_members, 4, some .int, tableOf [(0, 9, 12, 24)])
theorem kv_L_members : KSH k_L_members [(0, 9, 12, 24)] 3 := ⟨uw_mem 1624 (by decide +kernel) rfl, uw_mem 160 (by decide +kernel) rfl, uw_mem 1623 (by decide +kernel) rfl, ⟨by decide +kernel, by decide +kernel⟩, by decide +kernel, by decide +kernel⟩
theorem um_L_95 : Cond.methodLink RL 95 yX11_members ∈ uw := uw_mem 1625 (by decide +kernel) rfl
def fL_members (a0 : Nat) (a1 : Int) (a2 : Nat) (C : Cd) : Option (Int × Cd) := if isO C a0 14 then (fX11_members a0 a1 C).bind (fun q => wrapK a2 (fun e => if e = 2 then some 1 else none) q.1 q.2) else none
set_option maxHeartbeats 8000000 in
set_option maxRecDepth 100000 in
theorem c_L_members {l : Launch} {Γ : Cx} {M0 : Md} (hG : GK Γ l) (hX : XN Γ) (a0 : Nat) (a1 : Int) (a2 : Nat) (C : Cd) : CtH l Γ k_L_members [(0, 9, 12, 24)] 7 encI (emC M0) [.ref a0, wi a1, .ref a2] C (fL_members a0 a1 a2 C) := by
  refine ctH_of (by decide +kernel) rfl (Nat.le_of_ble_eq_true rfl) ?_
  refine r_lo [0, 1, 2] (lo2 := [(0, .ref a0), (1, wi a1), (2, .ref a2)]) rfl ?_
  unfold fL_members
  refine r_aload_n (x := a2) dL_members_0 rfl rfl ?_
  refine ro_iconst (v := 0) dL_members_1 rfl ?_
  refine r_aload_n (x := a0) dL_members_2 rfl rfl ?_
  refine r_iload_n (x := a1) dL_members_3 rfl rfl ?_
  refine r_cxH (k2 := k_X11_members) (c := 14) (T := TX11) (N := 10) (n := 1) (rest := [wi 0, .ref a2]) (f := wrapK a2 (fun e => if e = 2 then some 1 else none)) hG um_L_95 kv_X11_members hc_X11 (by decide) (c_X11_members hG a0 a1 C) (by decide) rfl (Nat.le_of_ble_eq_true rfl) dL_members_4 rfl (fun x C1 => ?_) (fun e C1 => ?_)
  · unfold wrapK
    dsimp only
    refine r_i2l dL_members_7 ?_
    refine r_clast dL_members_8 (fun C2 _ _ => ?_)
    refine r_goto (tgt := 15) dL_members_9 (by decide) ?_
    refine ro_iconst (v := 0) dL_members_15 rfl ?_
    exact r_iret rfl dL_members_16
  · by_cases h2 : e = 2
    · subst h2
      refine ro_ach (X1 := some (1, C1)) rfl ?_
      refine achE (rows := [(2, 12)]) (pre := []) (suf := []) (E := 9) hX rfl rfl rfl (by decide) (by decide) (by decide) (fun q => ?_)
      refine r_astore_n (lo2 := [(3, .ref q), (0, .ref a0), (1, wi a1), (2, .ref a2)]) dL_members_12 rfl (by decide) rfl ?_
      refine ro_iconst (v := 1) dL_members_13 rfl ?_
      exact r_iret rfl dL_members_14
    · exact Or.inl (by unfold wrapK; dsimp only; simp only [h2, ↓reduceIte]; rfl)
def k_L_inLanguage : Kd := (yL_inLanguage, cL_inLanguage, 5, some .int, tableOf [(0, 10, 13, 24), (0, 10, 17, 13)])
theorem kv_L_inLanguage : KSH k_L_inLanguage [(0, 10, 13, 24), (0, 10, 17, 13)] 4 := ⟨uw_mem 1633 (by decide +kernel) rfl, uw_mem 160 (by decide +kernel) rfl, uw_mem 1632 (by decide +kernel) rfl, ⟨by decide +kernel, by decide +kernel⟩, by decide +kernel, by decide +kernel⟩
theorem um_L_98 : Cond.methodLink RL 98 yX11_inLanguage ∈ uw := uw_mem 1634 (by decide +kernel) rfl
def fL_inLanguage (a0 : Nat) (a1 : Int) (a2 : Int) (a3 : Nat) (C : Cd) : Option (Int × Cd) := if isO C a0 14 then (fX11_inLanguage a0 a1 a2 C).bind (fun q => wrapK a3 (fun e => if e = 2 then some 1 else if e = 0 then some 2 else none) q.1 q.2) else none
set_option maxHeartbeats 8000000 in
set_option maxRecDepth 100000 in
theorem c_L_inLanguage {l : Launch} {Γ : Cx} {M0 : Md} (hG : GK Γ l) (hX : XN Γ) (a0 : Nat) (a1 : Int) (a2 : Int) (a3 : Nat) (C : Cd) : CtH l Γ k_L_inLanguage [(0, 10, 13, 24), (0, 10, 17, 13)] 8 encI (emC M0) [.ref a0, wi a1, wi a2, .ref a3] C (fL_inLanguage a0 a1 a2 a3 C) := by
  refine ctH_of (by decide +kernel) rfl (Nat.le_of_ble_eq_true rfl) ?_
  refine r_lo [0, 1, 2, 3] (lo2 := [(0, .ref a0), (1, wi a1), (2, wi a2), (3, .ref a3)]) rfl ?_
  unfold fL_inLanguage
  refine r_aload_n (x := a3) dL_inLanguage_0 rfl rfl ?_
  refine ro_iconst (v := 0) dL_inLanguage_1 rfl ?_
  refine r_aload_n (x := a0) dL_inLanguage_2 rfl rfl ?_
  refine r_iload_n (x := a1) dL_inLanguage_3 rfl rfl ?_
  refine r_iload_n (x := a2) dL_inLanguage_4 rfl rfl ?_
  refine r_cxH (k2 := k_X11_inLanguage) (c := 14) (T := TX11) (N := 10) (n := 2) (rest := [wi 0, .ref a3]) (f := wrapK a3 (fun e => if e = 2 then some 1 else if e = 0 then some 2 else none)) hG um_L_98 kv_X11_inLanguage hc_X11 (by decide) (c_X11_inLanguage hG a0 a1 a2 C) (by decide) rfl (Nat.le_of_ble_eq_true rfl) dL_inLanguage_5 rfl (fun x C1 => ?_) (fun e C1 => ?_)
  · unfold wrapK
    dsimp only
    refine r_i2l dL_inLanguage_8 ?_
    refine r_clast dL_inLanguage_9 (fun C2 _ _ => ?_)
    refine r_goto (tgt := 21) dL_inLanguage_10 (by decide) ?_
    refine ro_iconst (v := 0) dL_inLanguage_21 rfl ?_
    exact r_iret rfl dL_inLanguage_22
  · by_cases h2 : e = 2
    · subst h2
      refine ro_ach (X1 := some (1, C1)) rfl ?_
      refine achE (rows := [(2, 13), (0, 17)]) (pre := []) (suf := [(0, 17)]) (E := 10) hX rfl rfl rfl (by decide) (by decide) (by decide) (fun q => ?_)
      refine r_astore (lo2 := [(4, .ref q), (0, .ref a0), (1, wi a1), (2, wi a2), (3, .ref a3)]) dL_inLanguage_13 (by decide) rfl ?_
      refine ro_iconst (v := 1) dL_inLanguage_15 rfl ?_
      exact r_iret rfl dL_inLanguage_16
    · by_cases h0 : e = 0
      · subst h0
        refine ro_ach (X1 := some (2, C1)) rfl ?_
        refine achE (rows := [(2, 13), (0, 17)]) (pre := [(2, 13)]) (suf := []) (E := 10) hX rfl rfl rfl (by decide) (by decide) (by decide) (fun q => ?_)
        refine r_astore (lo2 := [(4, .ref q), (0, .ref a0), (1, wi a1), (2, wi a2), (3, .ref a3)]) dL_inLanguage_17 (by decide) rfl ?_
        refine ro_iconst (v := 2) dL_inLanguage_19 rfl ?_
        exact r_iret rfl dL_inLanguage_20
      · exact Or.inl (by unfold wrapK; dsimp only; simp only [h2, h0, ↓reduceIte]; rfl)
def k_L_isOutdated : Kd := (yL_isOutdated, cL_isOutdated, 5, some .int, tableOf [(0, 17, 20, 24), (0, 17, 24, 13)])
theorem kv_L_isOutdated : KSH k_L_isOutdated [(0, 17, 20, 24), (0, 17, 24, 13)] 4 := ⟨uw_mem 1645 (by decide +kernel) rfl, uw_mem 160 (by decide +kernel) rfl, uw_mem 1644 (by decide +kernel) rfl, ⟨by decide +kernel, by decide +kernel⟩, by decide +kernel, by decide +kernel⟩
theorem um_L_101 : Cond.methodLink RL 101 yX11_isOutdated ∈ uw := uw_mem 1646 (by decide +kernel) rfl
def fL_isOutdated (a0 : Nat) (a1 : Int) (a2 : Int) (a3 : Nat) (C : Cd) : Option (Int × Cd) := if isO C a0 14 then (fX11_isOutdated a0 a1 a2 C).bind (fun q => wrapZ a3 (fun e => if e = 2 then some 1 else if e = 0 then some 2 else none) q.1 q.2) else none
set_option maxHeartbeats 8000000 in
set_option maxRecDepth 100000 in
theorem c_L_isOutdated {l : Launch} {Γ : Cx} {M0 : Md} (hG : GK Γ l) (hX : XN Γ) (a0 : Nat) (a1 : Int) (a2 : Int) (a3 : Nat) (C : Cd) : CtH l Γ k_L_isOutdated [(0, 17, 20, 24), (0, 17, 24, 13)] 8 encI (emC M0) [.ref a0, wi a1, wi a2, .ref a3] C (fL_isOutdated a0 a1 a2 a3 C) := by
  refine ctH_of (by decide +kernel) rfl (Nat.le_of_ble_eq_true rfl) ?_
  refine r_lo [0, 1, 2, 3] (lo2 := [(0, .ref a0), (1, wi a1), (2, wi a2), (3, .ref a3)]) rfl ?_
  unfold fL_isOutdated
  refine r_aload_n (x := a3) dL_isOutdated_0 rfl rfl ?_
  refine ro_iconst (v := 0) dL_isOutdated_1 rfl ?_
  refine r_aload_n (x := a0) dL_isOutdated_2 rfl rfl ?_
  refine r_iload_n (x := a1) dL_isOutdated_3 rfl rfl ?_
  refine r_iload_n (x := a2) dL_isOutdated_4 rfl rfl ?_
  refine r_cxH (k2 := k_X11_isOutdated) (c := 14) (T := TX11) (N := 10) (n := 2) (rest := [wi 0, .ref a3]) (f := wrapZ a3 (fun e => if e = 2 then some 1 else if e = 0 then some 2 else none)) hG um_L_101 kv_X11_isOutdated hc_X11 (by decide) (c_X11_isOutdated hG a0 a1 a2 C) (by decide) rfl (Nat.le_of_ble_eq_true rfl) dL_isOutdated_5 rfl (fun x C1 => ?_) (fun e C1 => ?_)
  · unfold wrapZ
    dsimp only
    refine r_if_eq (tgt := 15) dL_isOutdated_8 (by decide) ?_ ?_
    · refine r_lconst (x := 0) dL_isOutdated_15 (by decide) ?_
      refine r_clast dL_isOutdated_16 (fun C2 _ _ => ?_)
      refine r_goto (tgt := 28) dL_isOutdated_17 (by decide) ?_
      refine ro_iconst (v := 0) dL_isOutdated_28 rfl ?_
      exact r_iret rfl dL_isOutdated_29
    · refine r_lconst (x := 1) dL_isOutdated_11 (by decide) ?_
      refine r_goto (tgt := 16) dL_isOutdated_12 (by decide) ?_
      refine r_clast dL_isOutdated_16 (fun C2 _ _ => ?_)
      refine r_goto (tgt := 28) dL_isOutdated_17 (by decide) ?_
      refine ro_iconst (v := 0) dL_isOutdated_28 rfl ?_
      exact r_iret rfl dL_isOutdated_29
  · by_cases h2 : e = 2
    · subst h2
      refine ro_ach (X1 := some (1, C1)) rfl ?_
      refine achE (rows := [(2, 20), (0, 24)]) (pre := []) (suf := [(0, 24)]) (E := 17) hX rfl rfl rfl (by decide) (by decide) (by decide) (fun q => ?_)
      refine r_astore (lo2 := [(4, .ref q), (0, .ref a0), (1, wi a1), (2, wi a2), (3, .ref a3)]) dL_isOutdated_20 (by decide) rfl ?_
      refine ro_iconst (v := 1) dL_isOutdated_22 rfl ?_
      exact r_iret rfl dL_isOutdated_23
    · by_cases h0 : e = 0
      · subst h0
        refine ro_ach (X1 := some (2, C1)) rfl ?_
        refine achE (rows := [(2, 20), (0, 24)]) (pre := [(2, 20)]) (suf := []) (E := 17) hX rfl rfl rfl (by decide) (by decide) (by decide) (fun q => ?_)
        refine r_astore (lo2 := [(4, .ref q), (0, .ref a0), (1, wi a1), (2, wi a2), (3, .ref a3)]) dL_isOutdated_24 (by decide) rfl ?_
        refine ro_iconst (v := 2) dL_isOutdated_26 rfl ?_
        exact r_iret rfl dL_isOutdated_27
      · exact Or.inl (by unfold wrapZ; dsimp only; simp only [h2, h0, ↓reduceIte]; rfl)
