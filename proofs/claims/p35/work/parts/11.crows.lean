/-! THE CLASS'S OBJECTS: reads, writes -/
def fOf (Γ : Cx) (C : Cd) (a c : Nat) : List Value := (List.range (nF c)).map (fun k => fV Γ C a c k)
theorem rN_ne {Γ : Cx} {key : Nat} {r : Option Nat} (h : key ≠ 201) : rN Γ key r = r := by unfold rN; rw [if_neg (fun q => h q.1)]
theorem rN_none {Γ : Cx} {key : Nat} : rN Γ key none = none := by unfold rN; rw [if_neg (fun q => by cases q.2)]
abbrev emC (M0 : Md) : Cd → St := fun C => (M0, C)
theorem fOf_at (Γ : Cx) (C : Cd) (a c k : Nat) (hk : k < nF c) : (fOf Γ C a c)[k]? = some (fV Γ C a c k) := by
  unfold fOf
  rw [List.getElem?_map, List.getElem?_range hk]
  rfl
theorem fOf_len (Γ : Cx) (C : Cd) (a c : Nat) : (fOf Γ C a c).length = nF c := by
  unfold fOf
  rw [List.length_map, List.length_range]
theorem cfE_o {Γ : Cx} {C : Cd} {a c : Nat} (h : cty C a = c) (hc : c < 100) : cfE Γ C a = .inr (c, fOf Γ C a c) := by
  subst h
  unfold cfE
  rw [if_pos hc]
  rfl
theorem fOf_set {Γ : Cx} {C C' : Cd} {a c k : Nat} {v : Value} (hk : k < nF c) (h1 : fV Γ C' a c k = v) (h2 : ∀ j, j < nF c → j ≠ k → fV Γ C' a c j = fV Γ C a c j) : (fOf Γ C a c).set k v = fOf Γ C' a c := by
  apply List.ext_getElem?
  intro j
  rw [List.getElem?_set]
  by_cases hj : k = j
  · subst hj
    rw [if_pos rfl, if_pos (by rw [fOf_len]; exact hk), fOf_at _ _ _ _ _ hk, h1]
  · rw [if_neg hj]
    by_cases h3 : j < nF c
    · rw [fOf_at _ _ _ _ _ h3, fOf_at _ _ _ _ _ h3, h2 j h3 (Ne.symm hj)]
    · rw [List.getElem?_eq_none (by rw [fOf_len]; omega), List.getElem?_eq_none (by rw [fOf_len]; omega)]
theorem cw_at {Γ : Cx} {M0 : Md} {C : Cd} {a : Nat} (h : a ∈ cL C) : ∃ q : Nat, (wl Γ (M0, C))[q]? = some (a, cfE Γ C a) := va_pl_get h
theorem cw_set {Γ : Cx} {M0 : Md} {C C' : Cd} {a q : Nat} {e : va_E} (hD : va_D (inA Γ) (wl Γ (M0, C))) (h : a ∈ cL C) (hq : (wl Γ (M0, C))[q]? = some (a, cfE Γ C a)) (hL : cL C' = cL C) (he : ∀ b, va_up (cfE Γ C) a e b = cfE Γ C' b) : (wl Γ (M0, C)).set q (a, e) = wl Γ (M0, C') := by
  unfold wl at hD hq ⊢
  rw [va_pl_set hD h hq]
  show _ ++ va_pl (cL C) _ = _ ++ va_pl (cL C') _
  rw [hL]
  exact congrArg _ (va_pl_congr he)
theorem cfE_ne {Γ : Cx} {C C' : Cd} {b : Nat} (h1 : cty C' b = cty C b) (h2 : ∀ k, cI C' k b = cI C k b) (h3 : ∀ k, cR C' k b = cR C k b) (h4 : cE C' b = cE C b) (h5 : cP C' b = cP C b) (h6 : cn C' b = cn C b) : cfE Γ C' b = cfE Γ C b := by
  have e : (fun k => fV Γ C' b (cty C b) k) = (fun k => fV Γ C b (cty C b) k) := by
    funext k
    unfold fV
    rw [h2, h3]
  unfold cfE
  rw [h1, h4, h5, h6, e]
theorem cfE_setI {Γ : Cx} {C : Cd} {a c k : Nat} {x : Int} (h : cty C a = c) (hc : c < 100) (hk : k < nF c) (hr : isR (100 * c + k) = false) (b : Nat) : va_up (cfE Γ C) a (.inr (c, (fOf Γ C a c).set k (wi x))) b = cfE Γ (cSetI C (100 * c + k) a x) b := by
  by_cases hb : b = a
  · subst hb
    have e1 : cfE Γ (cSetI C (100 * c + k) b x) b = .inr (c, fOf Γ (cSetI C (100 * c + k) b x) b c) := cfE_o h hc
    rw [e1, fOf_set hk (C' := cSetI C (100 * c + k) b x)]
    · unfold va_up; rw [if_pos rfl]
    · have h8 : cI (cSetI C (100 * c + k) b x) (100 * c + k) b = x := by
        show (if 100 * c + k = 100 * c + k ∧ b = b then x else cI C (100 * c + k) b) = x
        rw [if_pos ⟨rfl, rfl⟩]
      unfold fV
      rw [hr, h8]
      rfl
    · intro j hj hne
      unfold fV
      have h9 : cI (cSetI C (100 * c + k) b x) (100 * c + j) b = cI C (100 * c + j) b := by
        show (if 100 * c + j = 100 * c + k ∧ b = b then x else cI C (100 * c + j) b) = _
        rw [if_neg (by omega)]
      rw [h9]
      rfl
  · have e2 : va_up (cfE Γ C) a (.inr (c, (fOf Γ C a c).set k (wi x))) b = cfE Γ C b := by unfold va_up; rw [if_neg hb]
    rw [e2]
    refine (cfE_ne (Γ := Γ) (C := C) (C' := cSetI C (100 * c + k) a x) (b := b) rfl (fun k' => ?_) (fun _ => rfl) rfl rfl rfl).symm
    show (if k' = 100 * c + k ∧ b = a then x else cI C k' b) = _
    rw [if_neg (fun q => hb q.2)]
theorem cfE_setR {Γ : Cx} {C : Cd} {a c k : Nat} {x : Option Nat} (h : cty C a = c) (hc : c < 100) (hk : k < nF c) (hr : isR (100 * c + k) = true) (h201 : 100 * c + k ≠ 201) (b : Nat) : va_up (cfE Γ C) a (.inr (c, (fOf Γ C a c).set k (va_rf x))) b = cfE Γ (cSetR C (100 * c + k) a x) b := by
  by_cases hb : b = a
  · subst hb
    have e1 : cfE Γ (cSetR C (100 * c + k) b x) b = .inr (c, fOf Γ (cSetR C (100 * c + k) b x) b c) := cfE_o h hc
    rw [e1, fOf_set hk (C' := cSetR C (100 * c + k) b x)]
    · unfold va_up; rw [if_pos rfl]
    · have h8 : cR (cSetR C (100 * c + k) b x) (100 * c + k) b = x := by
        show (if 100 * c + k = 100 * c + k ∧ b = b then x else cR C (100 * c + k) b) = x
        rw [if_pos ⟨rfl, rfl⟩]
      unfold fV
      rw [hr, h8, rN_ne h201]
      rfl
    · intro j hj hne
      unfold fV
      have h9 : cR (cSetR C (100 * c + k) b x) (100 * c + j) b = cR C (100 * c + j) b := by
        show (if 100 * c + j = 100 * c + k ∧ b = b then x else cR C (100 * c + j) b) = _
        rw [if_neg (by omega)]
      rw [h9]
      rfl
  · have e2 : va_up (cfE Γ C) a (.inr (c, (fOf Γ C a c).set k (va_rf x))) b = cfE Γ C b := by unfold va_up; rw [if_neg hb]
    rw [e2]
    refine (cfE_ne (Γ := Γ) (C := C) (C' := cSetR C (100 * c + k) a x) (b := b) rfl (fun _ => rfl) (fun k' => ?_) rfl rfl rfl).symm
    show (if k' = 100 * c + k ∧ b = a then x else cR C k' b) = _
    rw [if_neg (fun q => hb q.2)]
theorem rf_nar {fty : FieldType} (h : ∃ nm, fty = .object nm ∨ ∃ t9, fty = .array t9) (x : Option Nat) : narrow fty (va_rf x) = va_rf x := by
  obtain ⟨nm, rfl | ⟨t9, rfl⟩⟩ := h <;> cases x <;> rfl
theorem rf_fit {fty : FieldType} (h : ∃ nm, fty = .object nm ∨ ∃ t9, fty = .array t9) (x : Option Nat) : fits fty (va_rf x) = true := by
  obtain ⟨nm, rfl | ⟨t9, rfl⟩⟩ := h <;> cases x <;> rfl
section CROW
variable {ρ : Type} {l : Launch} {Γ : Cx} {k : Kd} {d : Nat} {enc : ρ → Out} {M0 : Md} {pc : Nat} {lo : List (Nat × Value)} {st rest : List Value} {C : Cd} {X X1 X2 : Option (ρ × Cd)}
theorem r_drf {r : Option Nat} {f : Nat → Option (ρ × Cd)} (K : ∀ a, r = some a → RunO l Γ k d enc (emC M0) pc lo st C (f a)) : RunO l Γ k d enc (emC M0) pc lo st C (drf r f) := by
  cases r with
  | none => exact ro_none
  | some a => exact K a rfl
theorem r_cgetI {i kk c a N : Nat} {Cn ref : String} {T : u_T} (hc : vwCl[c]? = some (Cn, T, N)) (hN : nF c = N) (hc2 : c < 100) (hin : ∀ w ∈ u_ws Cn T N, w ∈ uw) (hk : kk < N) (hu : Cond.fieldLink k.1.cls i ref (T kk).2.1 (T kk).2.2.1 ∈ uw) (hr : (T kk).1 = ref) (hI : isR (100 * c + kk) = false) (hd : decode k.2.1 pc = .ok (.getfield i, 3))
    (K : RunO l Γ k d enc (emC M0) (pc + 3) lo (wi (cI C (100 * c + kk) a) :: rest) C X) : RunO l Γ k d enc (emC M0) pc lo (.ref a :: rest) C (if isO C a c then X else none) := by
  refine ro_if (fun ho => ?_) (fun _ => ro_none)
  intro r σ' hX
  obtain ⟨h1, h2, h3⟩ := K r σ' hX
  refine ⟨h1, h2, fun p e R s m args below meth c0 hm z0 l0 H locs ls a1 a2 a3 a4 hR hS hl => ?_⟩
  have hK := hm.2.2.2.2.2.2.2.2.1
  obtain ⟨q, hq⟩ := cw_at (Γ := Γ) (M0 := M0) ho.1
  rw [cfE_o ho.2 hc2] at hq
  refine va_get (C := Cn) (ref := ref) (own := k.1.cls) hm.1 hm.2.1 hm.2.2.2.2.2.1 hin hm.2.2.2.2.1 hK hR.1 q hq hc kk hk (hm.2.2.2.2.2.1 _ hu) (fun x hx => by rw [hr] at hx; exact hx) (v := wi (cI C (100 * c + kk) a)) (by rw [fOf_at _ _ _ _ _ (by rw [hN]; exact hk)]; unfold fV; rw [hI]; rfl) hd ?_
  exact h3 p e R s m args below meth c0 hm z0 l0 H locs ls a1 a2 a3 a4 hR hS hl
theorem r_cgetR {i kk c a N : Nat} {Cn ref : String} {T : u_T} (hc : vwCl[c]? = some (Cn, T, N)) (hN : nF c = N) (hc2 : c < 100) (hin : ∀ w ∈ u_ws Cn T N, w ∈ uw) (hk : kk < N) (hu : Cond.fieldLink k.1.cls i ref (T kk).2.1 (T kk).2.2.1 ∈ uw) (hr : (T kk).1 = ref) {f : Option Nat → Option (ρ × Cd)} (hI : isR (100 * c + kk) = true ∧ 100 * c + kk ≠ 201) (hd : decode k.2.1 pc = .ok (.getfield i, 3))
    (K : ∀ z : Option Nat, RunO l Γ k d enc (emC M0) (pc + 3) lo (va_rf z :: rest) C (f z)) : RunO l Γ k d enc (emC M0) pc lo (.ref a :: rest) C (if isO C a c then bnd (cR C (100 * c + kk) a) f else none) := by
  refine ro_if (fun ho => ?_) (fun _ => ro_none)
  intro r σ' hX
  obtain ⟨h1, h2, h3⟩ := K (cR C (100 * c + kk) a) r σ' hX
  refine ⟨h1, h2, fun p e R s m args below meth c0 hm z0 l0 H locs ls a1 a2 a3 a4 hR hS hl => ?_⟩
  have hK := hm.2.2.2.2.2.2.2.2.1
  obtain ⟨q, hq⟩ := cw_at (Γ := Γ) (M0 := M0) ho.1
  rw [cfE_o ho.2 hc2] at hq
  refine va_get (C := Cn) (ref := ref) (own := k.1.cls) hm.1 hm.2.1 hm.2.2.2.2.2.1 hin hm.2.2.2.2.1 hK hR.1 q hq hc kk hk (hm.2.2.2.2.2.1 _ hu) (fun x hx => by rw [hr] at hx; exact hx) (v := va_rf (cR C (100 * c + kk) a)) (by rw [fOf_at _ _ _ _ _ (by rw [hN]; exact hk)]; unfold fV; rw [hI.1, rN_ne hI.2]; rfl) hd ?_
  exact h3 p e R s m args below meth c0 hm z0 l0 H locs ls a1 a2 a3 a4 hR hS hl
theorem r_cputI {i kk c a N : Nat} {Cn ref : String} {T : u_T} (hc : vwCl[c]? = some (Cn, T, N)) (hN : nF c = N) (hc2 : c < 100) (hin : ∀ w ∈ u_ws Cn T N, w ∈ uw) (hk : kk < N) (hu : Cond.fieldLink k.1.cls i ref (T kk).2.1 (T kk).2.2.1 ∈ uw) (hr : (T kk).1 = ref) (tyT : Nat → FieldType) (htyT : ∀ k, k < N → parseFieldDescriptor (T k).2.2.1 = some (tyT k)) (hnm : ∀ a, a < N → ∀ b, b < N → a ≠ b → (T a).2.1 ≠ (T b).2.1) {x : Int} {fty : FieldType} {f : Cd → Option (ρ × Cd)} (hI : isR (100 * c + kk) = false) (hfin : (T kk).2.2.2 = false) (hfd : parseFieldDescriptor (T kk).2.2.1 = some fty) (hnar : narrow fty (wi x) = wi x) (hfit : fits fty (wi x) = true) (hd : decode k.2.1 pc = .ok (.putfield i, 3))
    (K : ∀ C' : Cd, csz C' = csz C → csl C' = csl C → RunO l Γ k d enc (emC M0) (pc + 3) lo rest C' (f C')) : RunO l Γ k d enc (emC M0) pc lo (wi x :: .ref a :: rest) C (if isO C a c then bnd (cSetI C (100 * c + kk) a x) f else none) := by
  refine ro_if (fun ho => ?_) (fun _ => ro_none)
  intro r σ' hX
  obtain ⟨h1, h2, h3⟩ := K (cSetI C (100 * c + kk) a x) rfl rfl r σ' hX
  refine ⟨h1, h2, fun p e R s m args below meth c0 hm z0 l0 H locs ls a1 a2 a3 a4 hR hS hl => ?_⟩
  have hK := hm.2.2.2.2.2.2.2.2.1
  obtain ⟨q, hq⟩ := cw_at (Γ := Γ) (M0 := M0) ho.1
  have hq0 := hq
  rw [cfE_o ho.2 hc2] at hq
  refine va_put (C := Cn) (ref := ref) (own := k.1.cls) (ty := fty) (v := wi x) hm.1 hm.2.1 hm.2.2.2.2.2.1 hin tyT htyT hnm hm.2.2.2.2.1 hK hR.1 hR.2.1 (H0 := H) (locs := locs) ⟨Nat.le_refl _, fun _ _ _ => rfl, hS.2.2⟩ q hq hc kk hk (hm.2.2.2.2.2.1 _ hu) (fun x hx => by rw [hr] at hx; exact hx) hfin hfd hnar hfit (by rw [fOf_len, hN]; exact hk) hd (fun H1 locs1 hP hD hS1 => ?_)
  have e9 := cw_set (M0 := M0) (C' := cSetI C (100 * c + kk) a x) hR.2.1 ho.1 hq0 rfl (cfE_setI ho.2 hc2 (by rw [hN]; exact hk) hI)
  rw [e9] at hP hD
  exact w_bd (fun hb => h3 p e R s m args below meth c0 hm z0 l0 H1 locs1 ls a1 a2 a3 a4 ⟨hP, hD, m_sz hR.2.2 a1 hS.1 hS1.1 hb⟩ (vs_tr hS hS1) hl)
theorem r_cputR {i kk c a N : Nat} {Cn ref : String} {T : u_T} (hc : vwCl[c]? = some (Cn, T, N)) (hN : nF c = N) (hc2 : c < 100) (hin : ∀ w ∈ u_ws Cn T N, w ∈ uw) (hk : kk < N) (hu : Cond.fieldLink k.1.cls i ref (T kk).2.1 (T kk).2.2.1 ∈ uw) (hr : (T kk).1 = ref) (tyT : Nat → FieldType) (htyT : ∀ k, k < N → parseFieldDescriptor (T k).2.2.1 = some (tyT k)) (hnm : ∀ a, a < N → ∀ b, b < N → a ≠ b → (T a).2.1 ≠ (T b).2.1) {x : Option Nat} {fty : FieldType} {f : Cd → Option (ρ × Cd)} (hI : isR (100 * c + kk) = true ∧ 100 * c + kk ≠ 201) (hfin : (T kk).2.2.2 = false) (hfd : parseFieldDescriptor (T kk).2.2.1 = some fty) (hob : ∃ nm, fty = .object nm ∨ ∃ t9, fty = .array t9) (hd : decode k.2.1 pc = .ok (.putfield i, 3))
    (K : ∀ C' : Cd, csz C' = csz C → csl C' = csl C → RunO l Γ k d enc (emC M0) (pc + 3) lo rest C' (f C')) : RunO l Γ k d enc (emC M0) pc lo (va_rf x :: .ref a :: rest) C (if isO C a c then bnd (cSetR C (100 * c + kk) a x) f else none) := by
  refine ro_if (fun ho => ?_) (fun _ => ro_none)
  intro r σ' hX
  obtain ⟨h1, h2, h3⟩ := K (cSetR C (100 * c + kk) a x) rfl rfl r σ' hX
  refine ⟨h1, h2, fun p e R s m args below meth c0 hm z0 l0 H locs ls a1 a2 a3 a4 hR hS hl => ?_⟩
  have hK := hm.2.2.2.2.2.2.2.2.1
  obtain ⟨q, hq⟩ := cw_at (Γ := Γ) (M0 := M0) ho.1
  have hq0 := hq
  rw [cfE_o ho.2 hc2] at hq
  refine va_put (C := Cn) (ref := ref) (own := k.1.cls) (ty := fty) (v := va_rf x) hm.1 hm.2.1 hm.2.2.2.2.2.1 hin tyT htyT hnm hm.2.2.2.2.1 hK hR.1 hR.2.1 (H0 := H) (locs := locs) ⟨Nat.le_refl _, fun _ _ _ => rfl, hS.2.2⟩ q hq hc kk hk (hm.2.2.2.2.2.1 _ hu) (fun x hx => by rw [hr] at hx; exact hx) hfin hfd (rf_nar hob x) (rf_fit hob x) (by rw [fOf_len, hN]; exact hk) hd (fun H1 locs1 hP hD hS1 => ?_)
  have e9 := cw_set (M0 := M0) (C' := cSetR C (100 * c + kk) a x) hR.2.1 ho.1 hq0 rfl (cfE_setR ho.2 hc2 (by rw [hN]; exact hk) hI.1 hI.2)
  rw [e9] at hP hD
  exact w_bd (fun hb => h3 p e R s m args below meth c0 hm z0 l0 H1 locs1 ls a1 a2 a3 a4 ⟨hP, hD, m_sz hR.2.2 a1 hS.1 hS1.1 hb⟩ (vs_tr hS hS1) hl)
theorem r_cputIF {i kk c a N : Nat} {Cn ref : String} {T : u_T} (hc : vwCl[c]? = some (Cn, T, N)) (hN : nF c = N) (hc2 : c < 100) (hin : ∀ w ∈ u_ws Cn T N, w ∈ uw) (hk : kk < N) (hu : Cond.fieldLink k.1.cls i ref (T kk).2.1 (T kk).2.2.1 ∈ uw) (hr : (T kk).1 = ref) (tyT : Nat → FieldType) (htyT : ∀ k, k < N → parseFieldDescriptor (T k).2.2.1 = some (tyT k)) (hnm : ∀ a, a < N → ∀ b, b < N → a ≠ b → (T a).2.1 ≠ (T b).2.1) {x : Int} {fty : FieldType} {f : Cd → Option (ρ × Cd)} (hI : isR (100 * c + kk) = false) (hfin : (T kk).2.2.2 = true) (hin2 : k.1.name = "<init>") (hdecl : (T kk).1 = k.1.cls) (hfd : parseFieldDescriptor (T kk).2.2.1 = some fty) (hnar : narrow fty (wi x) = wi x) (hfit : fits fty (wi x) = true) (hd : decode k.2.1 pc = .ok (.putfield i, 3))
    (K : ∀ C' : Cd, csz C' = csz C → csl C' = csl C → RunO l Γ k d enc (emC M0) (pc + 3) lo rest C' (f C')) : RunO l Γ k d enc (emC M0) pc lo (wi x :: .ref a :: rest) C (if isO C a c then bnd (cSetI C (100 * c + kk) a x) f else none) := by
  refine ro_if (fun ho => ?_) (fun _ => ro_none)
  intro r σ' hX
  obtain ⟨h1, h2, h3⟩ := K (cSetI C (100 * c + kk) a x) rfl rfl r σ' hX
  refine ⟨h1, h2, fun p e R s m args below meth c0 hm z0 l0 H locs ls a1 a2 a3 a4 hR hS hl => ?_⟩
  have hK := hm.2.2.2.2.2.2.2.2.1
  obtain ⟨q, hq⟩ := cw_at (Γ := Γ) (M0 := M0) ho.1
  have hq0 := hq
  rw [cfE_o ho.2 hc2] at hq
  refine va_putF (C := Cn) (ref := ref) (own := k.1.cls) (ty := fty) (v := wi x) hm.1 hm.2.1 hm.2.2.2.2.2.1 hin tyT htyT hnm hm.2.2.2.2.1 hK hR.1 hR.2.1 (H0 := H) (locs := locs) ⟨Nat.le_refl _, fun _ _ _ => rfl, hS.2.2⟩ q hq hc kk hk (hm.2.2.2.2.2.1 _ hu) (fun x hx => by rw [hr] at hx; exact hx) hfin (hm.2.2.2.2.2.2.2.2.2.2.2.1.trans hin2) hdecl hfd hnar hfit (by rw [fOf_len, hN]; exact hk) hd (fun H1 locs1 hP hD hS1 => ?_)
  have e9 := cw_set (M0 := M0) (C' := cSetI C (100 * c + kk) a x) hR.2.1 ho.1 hq0 rfl (cfE_setI ho.2 hc2 (by rw [hN]; exact hk) hI)
  rw [e9] at hP hD
  exact w_bd (fun hb => h3 p e R s m args below meth c0 hm z0 l0 H1 locs1 ls a1 a2 a3 a4 ⟨hP, hD, m_sz hR.2.2 a1 hS.1 hS1.1 hb⟩ (vs_tr hS hS1) hl)
theorem r_cputRF {i kk c a N : Nat} {Cn ref : String} {T : u_T} (hc : vwCl[c]? = some (Cn, T, N)) (hN : nF c = N) (hc2 : c < 100) (hin : ∀ w ∈ u_ws Cn T N, w ∈ uw) (hk : kk < N) (hu : Cond.fieldLink k.1.cls i ref (T kk).2.1 (T kk).2.2.1 ∈ uw) (hr : (T kk).1 = ref) (tyT : Nat → FieldType) (htyT : ∀ k, k < N → parseFieldDescriptor (T k).2.2.1 = some (tyT k)) (hnm : ∀ a, a < N → ∀ b, b < N → a ≠ b → (T a).2.1 ≠ (T b).2.1) {x : Option Nat} {fty : FieldType} {f : Cd → Option (ρ × Cd)} (hI : isR (100 * c + kk) = true ∧ 100 * c + kk ≠ 201) (hfin : (T kk).2.2.2 = true) (hin2 : k.1.name = "<init>") (hdecl : (T kk).1 = k.1.cls) (hfd : parseFieldDescriptor (T kk).2.2.1 = some fty) (hob : ∃ nm, fty = .object nm ∨ ∃ t9, fty = .array t9) (hd : decode k.2.1 pc = .ok (.putfield i, 3))
    (K : ∀ C' : Cd, csz C' = csz C → csl C' = csl C → RunO l Γ k d enc (emC M0) (pc + 3) lo rest C' (f C')) : RunO l Γ k d enc (emC M0) pc lo (va_rf x :: .ref a :: rest) C (if isO C a c then bnd (cSetR C (100 * c + kk) a x) f else none) := by
  refine ro_if (fun ho => ?_) (fun _ => ro_none)
  intro r σ' hX
  obtain ⟨h1, h2, h3⟩ := K (cSetR C (100 * c + kk) a x) rfl rfl r σ' hX
  refine ⟨h1, h2, fun p e R s m args below meth c0 hm z0 l0 H locs ls a1 a2 a3 a4 hR hS hl => ?_⟩
  have hK := hm.2.2.2.2.2.2.2.2.1
  obtain ⟨q, hq⟩ := cw_at (Γ := Γ) (M0 := M0) ho.1
  have hq0 := hq
  rw [cfE_o ho.2 hc2] at hq
  refine va_putF (C := Cn) (ref := ref) (own := k.1.cls) (ty := fty) (v := va_rf x) hm.1 hm.2.1 hm.2.2.2.2.2.1 hin tyT htyT hnm hm.2.2.2.2.1 hK hR.1 hR.2.1 (H0 := H) (locs := locs) ⟨Nat.le_refl _, fun _ _ _ => rfl, hS.2.2⟩ q hq hc kk hk (hm.2.2.2.2.2.1 _ hu) (fun x hx => by rw [hr] at hx; exact hx) hfin (hm.2.2.2.2.2.2.2.2.2.2.2.1.trans hin2) hdecl hfd (rf_nar hob x) (rf_fit hob x) (by rw [fOf_len, hN]; exact hk) hd (fun H1 locs1 hP hD hS1 => ?_)
  have e9 := cw_set (M0 := M0) (C' := cSetR C (100 * c + kk) a x) hR.2.1 ho.1 hq0 rfl (cfE_setR ho.2 hc2 (by rw [hN]; exact hk) hI.1 hI.2)
  rw [e9] at hP hD
  exact w_bd (fun hb => h3 p e R s m args below meth c0 hm z0 l0 H1 locs1 ls a1 a2 a3 a4 ⟨hP, hD, m_sz hR.2.2 a1 hS.1 hS1.1 hb⟩ (vs_tr hS hS1) hl)
theorem r_cgetIN {i kk c a N : Nat} {Cn ref : String} {T : u_T} {host : String} (hc : vwCl[c]? = some (Cn, T, N)) (hN : nF c = N) (hc2 : c < 100) (hin : ∀ w ∈ u_ws Cn T N, w ∈ uw) (hk : kk < N) (hG : GK Γ l) (hu : Cond.fieldLinkNest k.1.cls i ref (T kk).2.1 (T kk).2.2.1 host ∈ ux) (hr : (T kk).1 = ref) (hI : isR (100 * c + kk) = false) (hd : decode k.2.1 pc = .ok (.getfield i, 3))
    (K : RunO l Γ k d enc (emC M0) (pc + 3) lo (wi (cI C (100 * c + kk) a) :: rest) C X) : RunO l Γ k d enc (emC M0) pc lo (.ref a :: rest) C (if isO C a c then X else none) := by
  refine ro_if (fun ho => ?_) (fun _ => ro_none)
  intro r σ' hX
  obtain ⟨h1, h2, h3⟩ := K r σ' hX
  refine ⟨h1, h2, fun p e R s m args below meth c0 hm z0 l0 H locs ls a1 a2 a3 a4 hR hS hl => ?_⟩
  have hK := hm.2.2.2.2.2.2.2.2.1
  obtain ⟨q, hq⟩ := cw_at (Γ := Γ) (M0 := M0) ho.1
  rw [cfE_o ho.2 hc2] at hq
  refine va_getN (C := Cn) (ref := ref) (own := k.1.cls) hm.1 hm.2.1 hm.2.2.2.2.2.1 hin hm.2.2.2.2.1 hK hR.1 q hq hc kk hk (ux_at hG hu hm.2.2.2.2.2.2.2.2.2.2.2.2.2.2) (fun x hx => by rw [hr] at hx; exact hx) (v := wi (cI C (100 * c + kk) a)) (by rw [fOf_at _ _ _ _ _ (by rw [hN]; exact hk)]; unfold fV; rw [hI]; rfl) hd ?_
  exact h3 p e R s m args below meth c0 hm z0 l0 H locs ls a1 a2 a3 a4 hR hS hl
theorem r_cgetRN {i kk c a N : Nat} {Cn ref : String} {T : u_T} {host : String} (hc : vwCl[c]? = some (Cn, T, N)) (hN : nF c = N) (hc2 : c < 100) (hin : ∀ w ∈ u_ws Cn T N, w ∈ uw) (hk : kk < N) (hG : GK Γ l) (hu : Cond.fieldLinkNest k.1.cls i ref (T kk).2.1 (T kk).2.2.1 host ∈ ux) (hr : (T kk).1 = ref) {f : Option Nat → Option (ρ × Cd)} (hI : isR (100 * c + kk) = true ∧ 100 * c + kk ≠ 201) (hd : decode k.2.1 pc = .ok (.getfield i, 3))
    (K : ∀ z : Option Nat, RunO l Γ k d enc (emC M0) (pc + 3) lo (va_rf z :: rest) C (f z)) : RunO l Γ k d enc (emC M0) pc lo (.ref a :: rest) C (if isO C a c then bnd (cR C (100 * c + kk) a) f else none) := by
  refine ro_if (fun ho => ?_) (fun _ => ro_none)
  intro r σ' hX
  obtain ⟨h1, h2, h3⟩ := K (cR C (100 * c + kk) a) r σ' hX
  refine ⟨h1, h2, fun p e R s m args below meth c0 hm z0 l0 H locs ls a1 a2 a3 a4 hR hS hl => ?_⟩
  have hK := hm.2.2.2.2.2.2.2.2.1
  obtain ⟨q, hq⟩ := cw_at (Γ := Γ) (M0 := M0) ho.1
  rw [cfE_o ho.2 hc2] at hq
  refine va_getN (C := Cn) (ref := ref) (own := k.1.cls) hm.1 hm.2.1 hm.2.2.2.2.2.1 hin hm.2.2.2.2.1 hK hR.1 q hq hc kk hk (ux_at hG hu hm.2.2.2.2.2.2.2.2.2.2.2.2.2.2) (fun x hx => by rw [hr] at hx; exact hx) (v := va_rf (cR C (100 * c + kk) a)) (by rw [fOf_at _ _ _ _ _ (by rw [hN]; exact hk)]; unfold fV; rw [hI.1, rN_ne hI.2]; rfl) hd ?_
  exact h3 p e R s m args below meth c0 hm z0 l0 H locs ls a1 a2 a3 a4 hR hS hl
theorem r_cputIN {i kk c a N : Nat} {Cn ref : String} {T : u_T} {host : String} (hc : vwCl[c]? = some (Cn, T, N)) (hN : nF c = N) (hc2 : c < 100) (hin : ∀ w ∈ u_ws Cn T N, w ∈ uw) (hk : kk < N) (hG : GK Γ l) (hu : Cond.fieldLinkNest k.1.cls i ref (T kk).2.1 (T kk).2.2.1 host ∈ ux) (hr : (T kk).1 = ref) (tyT : Nat → FieldType) (htyT : ∀ k, k < N → parseFieldDescriptor (T k).2.2.1 = some (tyT k)) (hnm : ∀ a, a < N → ∀ b, b < N → a ≠ b → (T a).2.1 ≠ (T b).2.1) {x : Int} {fty : FieldType} {f : Cd → Option (ρ × Cd)} (hI : isR (100 * c + kk) = false) (hfin : (T kk).2.2.2 = false) (hfd : parseFieldDescriptor (T kk).2.2.1 = some fty) (hnar : narrow fty (wi x) = wi x) (hfit : fits fty (wi x) = true) (hd : decode k.2.1 pc = .ok (.putfield i, 3))
    (K : ∀ C' : Cd, csz C' = csz C → csl C' = csl C → RunO l Γ k d enc (emC M0) (pc + 3) lo rest C' (f C')) : RunO l Γ k d enc (emC M0) pc lo (wi x :: .ref a :: rest) C (if isO C a c then bnd (cSetI C (100 * c + kk) a x) f else none) := by
  refine ro_if (fun ho => ?_) (fun _ => ro_none)
  intro r σ' hX
  obtain ⟨h1, h2, h3⟩ := K (cSetI C (100 * c + kk) a x) rfl rfl r σ' hX
  refine ⟨h1, h2, fun p e R s m args below meth c0 hm z0 l0 H locs ls a1 a2 a3 a4 hR hS hl => ?_⟩
  have hK := hm.2.2.2.2.2.2.2.2.1
  obtain ⟨q, hq⟩ := cw_at (Γ := Γ) (M0 := M0) ho.1
  have hq0 := hq
  rw [cfE_o ho.2 hc2] at hq
  refine va_putN (C := Cn) (ref := ref) (own := k.1.cls) (ty := fty) (v := wi x) hm.1 hm.2.1 hm.2.2.2.2.2.1 hin tyT htyT hnm hm.2.2.2.2.1 hK hR.1 hR.2.1 (H0 := H) (locs := locs) ⟨Nat.le_refl _, fun _ _ _ => rfl, hS.2.2⟩ q hq hc kk hk (ux_at hG hu hm.2.2.2.2.2.2.2.2.2.2.2.2.2.2) (fun x hx => by rw [hr] at hx; exact hx) hfin hfd hnar hfit (by rw [fOf_len, hN]; exact hk) hd (fun H1 locs1 hP hD hS1 => ?_)
  have e9 := cw_set (M0 := M0) (C' := cSetI C (100 * c + kk) a x) hR.2.1 ho.1 hq0 rfl (cfE_setI ho.2 hc2 (by rw [hN]; exact hk) hI)
  rw [e9] at hP hD
  exact w_bd (fun hb => h3 p e R s m args below meth c0 hm z0 l0 H1 locs1 ls a1 a2 a3 a4 ⟨hP, hD, m_sz hR.2.2 a1 hS.1 hS1.1 hb⟩ (vs_tr hS hS1) hl)
theorem r_cputRN {i kk c a N : Nat} {Cn ref : String} {T : u_T} {host : String} (hc : vwCl[c]? = some (Cn, T, N)) (hN : nF c = N) (hc2 : c < 100) (hin : ∀ w ∈ u_ws Cn T N, w ∈ uw) (hk : kk < N) (hG : GK Γ l) (hu : Cond.fieldLinkNest k.1.cls i ref (T kk).2.1 (T kk).2.2.1 host ∈ ux) (hr : (T kk).1 = ref) (tyT : Nat → FieldType) (htyT : ∀ k, k < N → parseFieldDescriptor (T k).2.2.1 = some (tyT k)) (hnm : ∀ a, a < N → ∀ b, b < N → a ≠ b → (T a).2.1 ≠ (T b).2.1) {x : Option Nat} {fty : FieldType} {f : Cd → Option (ρ × Cd)} (hI : isR (100 * c + kk) = true ∧ 100 * c + kk ≠ 201) (hfin : (T kk).2.2.2 = false) (hfd : parseFieldDescriptor (T kk).2.2.1 = some fty) (hob : ∃ nm, fty = .object nm ∨ ∃ t9, fty = .array t9) (hd : decode k.2.1 pc = .ok (.putfield i, 3))
    (K : ∀ C' : Cd, csz C' = csz C → csl C' = csl C → RunO l Γ k d enc (emC M0) (pc + 3) lo rest C' (f C')) : RunO l Γ k d enc (emC M0) pc lo (va_rf x :: .ref a :: rest) C (if isO C a c then bnd (cSetR C (100 * c + kk) a x) f else none) := by
  refine ro_if (fun ho => ?_) (fun _ => ro_none)
  intro r σ' hX
  obtain ⟨h1, h2, h3⟩ := K (cSetR C (100 * c + kk) a x) rfl rfl r σ' hX
  refine ⟨h1, h2, fun p e R s m args below meth c0 hm z0 l0 H locs ls a1 a2 a3 a4 hR hS hl => ?_⟩
  have hK := hm.2.2.2.2.2.2.2.2.1
  obtain ⟨q, hq⟩ := cw_at (Γ := Γ) (M0 := M0) ho.1
  have hq0 := hq
  rw [cfE_o ho.2 hc2] at hq
  refine va_putN (C := Cn) (ref := ref) (own := k.1.cls) (ty := fty) (v := va_rf x) hm.1 hm.2.1 hm.2.2.2.2.2.1 hin tyT htyT hnm hm.2.2.2.2.1 hK hR.1 hR.2.1 (H0 := H) (locs := locs) ⟨Nat.le_refl _, fun _ _ _ => rfl, hS.2.2⟩ q hq hc kk hk (ux_at hG hu hm.2.2.2.2.2.2.2.2.2.2.2.2.2.2) (fun x hx => by rw [hr] at hx; exact hx) hfin hfd (rf_nar hob x) (rf_fit hob x) (by rw [fOf_len, hN]; exact hk) hd (fun H1 locs1 hP hD hS1 => ?_)
  have e9 := cw_set (M0 := M0) (C' := cSetR C (100 * c + kk) a x) hR.2.1 ho.1 hq0 rfl (cfE_setR ho.2 hc2 (by rw [hN]; exact hk) hI.1 hI.2)
  rw [e9] at hP hD
  exact w_bd (fun hb => h3 p e R s m args below meth c0 hm z0 l0 H1 locs1 ls a1 a2 a3 a4 ⟨hP, hD, m_sz hR.2.2 a1 hS.1 hS1.1 hb⟩ (vs_tr hS hS1) hl)
end CROW
