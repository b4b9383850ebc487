/-! THE CLASS'S ROWS, what is made, references -/
theorem cfE_i {Γ : Cx} {C : Cd} {a : Nat} (t : Nat) (h : cty C a = t) (h1 : ¬ t < 100) (h2 : t < 102) : cfE Γ C a = .inl (Γ.2.2.1 (t - 100), cn C a, .inl (fun j => Int32.ofInt (cE C a j))) := by
  subst h
  unfold cfE
  rw [if_neg h1, if_pos h2]
theorem cfE_l {Γ : Cx} {C : Cd} {a : Nat} (h : cty C a = 108) : cfE Γ C a = .inl (Γ.2.2.1 8, cn C a, .inr (.inl (fun j => Int64.ofInt (cE C a j)))) := by
  unfold cfE
  rw [if_neg (by rw [h]; decide), if_neg (by rw [h]; decide), if_pos h, h]
theorem cfE_q {Γ : Cx} {C : Cd} {a : Nat} (t : Nat) (h : cty C a = t) (h1 : ¬ t < 102) (h2 : ¬ t = 108) : cfE Γ C a = .inl (Γ.2.2.1 (t - 100), cn C a, .inr (.inr (.inr (.inr (cP C a))))) := by
  subst h
  unfold cfE
  rw [if_neg (by omega), if_neg h1, if_neg h2]
theorem cfE_setE {Γ : Cx} {C : Cd} {a i : Nat} {x : Int} (t : Nat) (h : cty C a = t) (h1 : ¬ t < 100) (h2 : t < 102) (b : Nat) : va_up (cfE Γ C) a (.inl (Γ.2.2.1 (t - 100), cn C a, .inl (fun j => Int32.ofInt (if j = i then x else cE C a j)))) b = cfE Γ (cSetE C a i x) b := by
  by_cases hb : b = a
  · subst hb
    have e1 : cfE Γ (cSetE C b i x) b = _ := cfE_i t h h1 h2
    rw [e1]
    unfold va_up
    rw [if_pos rfl]
    have e2 : (fun j => Int32.ofInt (if j = i then x else cE C b j)) = fun j => Int32.ofInt (cE (cSetE C b i x) b j) := by
      funext j
      show _ = Int32.ofInt (if b = b ∧ j = i then x else cE C b j)
      simp only [true_and]
    rw [e2]
    rfl
  · have e2 : va_up (cfE Γ C) a (.inl (Γ.2.2.1 (t - 100), cn C a, .inl (fun j => Int32.ofInt (if j = i then x else cE C a j)))) b = cfE Γ C b := by unfold va_up; rw [if_neg hb]
    rw [e2]
    refine (cfE_ne (Γ := Γ) (C := C) (C' := cSetE C a i x) (b := b) rfl (fun _ => rfl) (fun _ => rfl) ?_ rfl rfl).symm
    funext j
    show (if b = a ∧ j = i then x else cE C b j) = _
    rw [if_neg (fun q => hb q.1)]
theorem cfE_setL {Γ : Cx} {C : Cd} {a i : Nat} {x : Int} (h : cty C a = 108) (b : Nat) : va_up (cfE Γ C) a (.inl (Γ.2.2.1 8, cn C a, .inr (.inl (fun j => Int64.ofInt (if j = i then x else cE C a j))))) b = cfE Γ (cSetE C a i x) b := by
  by_cases hb : b = a
  · subst hb
    have e1 : cfE Γ (cSetE C b i x) b = _ := cfE_l h
    rw [e1]
    unfold va_up
    rw [if_pos rfl]
    have e2 : (fun j => Int64.ofInt (if j = i then x else cE C b j)) = fun j => Int64.ofInt (cE (cSetE C b i x) b j) := by
      funext j
      show _ = Int64.ofInt (if b = b ∧ j = i then x else cE C b j)
      simp only [true_and]
    rw [e2]
    rfl
  · have e2 : va_up (cfE Γ C) a (.inl (Γ.2.2.1 8, cn C a, .inr (.inl (fun j => Int64.ofInt (if j = i then x else cE C a j))))) b = cfE Γ C b := by unfold va_up; rw [if_neg hb]
    rw [e2]
    refine (cfE_ne (Γ := Γ) (C := C) (C' := cSetE C a i x) (b := b) rfl (fun _ => rfl) (fun _ => rfl) ?_ rfl rfl).symm
    funext j
    show (if b = a ∧ j = i then x else cE C b j) = _
    rw [if_neg (fun q => hb q.1)]
theorem cfE_setP {Γ : Cx} {C : Cd} {a i : Nat} {x : Option Nat} (t : Nat) (h : cty C a = t) (h1 : ¬ t < 102) (h2 : ¬ t = 108) (b : Nat) : va_up (cfE Γ C) a (.inl (Γ.2.2.1 (t - 100), cn C a, .inr (.inr (.inr (.inr (va_up (cP C a) i x)))))) b = cfE Γ (cSetP C a i x) b := by
  by_cases hb : b = a
  · subst hb
    have e1 : cfE Γ (cSetP C b i x) b = _ := cfE_q t h h1 h2
    rw [e1]
    unfold va_up
    rw [if_pos rfl]
    have e2 : (fun j => if j = i then x else cP C b j) = cP (cSetP C b i x) b := by
      funext j
      show _ = (if b = b ∧ j = i then x else cP C b j)
      simp only [true_and]
    rw [e2]
    rfl
  · have e2 : va_up (cfE Γ C) a (.inl (Γ.2.2.1 (t - 100), cn C a, .inr (.inr (.inr (.inr (va_up (cP C a) i x)))))) b = cfE Γ C b := by show (if b = a then _ else cfE Γ C b) = _; rw [if_neg hb]
    rw [e2]
    refine (cfE_ne (Γ := Γ) (C := C) (C' := cSetP C a i x) (b := b) rfl (fun _ => rfl) (fun _ => rfl) rfl ?_ rfl).symm
    funext j
    show (if b = a ∧ j = i then x else cP C b j) = _
    rw [if_neg (fun q => hb q.1)]
theorem cfE_new {Γ : Cx} {C : Cd} {c : Nat} (hc : c < 100) (b : Nat) : va_up (cfE Γ C) (csz C) (.inr (c, (List.range (nF c)).map (fun k => if isR (100 * c + k) then Value.null else wi 0))) b = cfE Γ (cNew C c) b := by
  by_cases hb : b = csz C
  · subst hb
    have e0 : cty (cNew C c) (csz C) = c := by show (if csz C = csz C then c else _) = c; rw [if_pos rfl]
    rw [cfE_o e0 hc]
    unfold va_up
    rw [if_pos rfl]
    unfold fOf fV
    have e1 : (fun k => if isR (100 * c + k) = true then Value.null else wi 0) = fun k => if isR (100 * c + k) = true then va_rf (rN Γ (100 * c + k) (cR (cNew C c) (100 * c + k) (csz C))) else wi (cI (cNew C c) (100 * c + k) (csz C)) := by
      funext k
      have e2 : cR (cNew C c) (100 * c + k) (csz C) = none := by show (if csz C = csz C then none else _) = none; rw [if_pos rfl]
      have e3 : cI (cNew C c) (100 * c + k) (csz C) = 0 := by show (if csz C = csz C then (0 : Int) else _) = 0; rw [if_pos rfl]
      rw [e2, e3, rN_none]
      rfl
    rw [e1]
  · have e2 : va_up (cfE Γ C) (csz C) (.inr (c, (List.range (nF c)).map (fun k => if isR (100 * c + k) then Value.null else wi 0))) b = cfE Γ C b := by show (if b = csz C then _ else cfE Γ C b) = _; rw [if_neg hb]
    rw [e2]
    refine (cfE_ne (Γ := Γ) (C := C) (C' := cNew C c) (b := b) ?_ (fun k => ?_) (fun k => ?_) rfl rfl rfl).symm
    · show (if b = csz C then c else cty C b) = _
      rw [if_neg hb]
    · show (if b = csz C then 0 else cI C k b) = _
      rw [if_neg hb]
    · show (if b = csz C then none else cR C k b) = _
      rw [if_neg hb]
def newA (Γ : Cx) (t n : Nat) : va_E := .inl (Γ.2.2.1 (t - 100), n, if t < 102 then .inl (fun _ => 0) else if t = 108 then .inr (.inl (fun _ => 0)) else .inr (.inr (.inr (.inr (fun _ => none)))))
theorem cfE_newA {Γ : Cx} {C : Cd} {t n : Nat} (hc : ¬ t < 100) (b : Nat) : va_up (cfE Γ C) (csz C) (newA Γ t n) b = cfE Γ (cNewA C t n) b := by
  by_cases hb : b = csz C
  · subst hb
    have e0 : cty (cNewA C t n) (csz C) = t := by show (if csz C = csz C then t else _) = t; rw [if_pos rfl]
    have e3 : cn (cNewA C t n) (csz C) = n := by show (if csz C = csz C then n else _) = n; rw [if_pos rfl]
    have e4 : cE (cNewA C t n) (csz C) = fun _ => 0 := by funext j; show (if csz C = csz C then (0 : Int) else _) = 0; rw [if_pos rfl]
    have e5 : cP (cNewA C t n) (csz C) = fun _ => none := by funext j; show (if csz C = csz C then none else _) = none; rw [if_pos rfl]
    unfold va_up newA cfE
    rw [if_pos rfl, e0, if_neg hc, e3, e4, e5]
    rfl
  · have e2 : va_up (cfE Γ C) (csz C) (newA Γ t n) b = cfE Γ C b := by unfold va_up; rw [if_neg hb]
    rw [e2]
    refine (cfE_ne (Γ := Γ) (C := C) (C' := cNewA C t n) (b := b) ?_ (fun k => rfl) (fun k => rfl) ?_ ?_ ?_).symm
    · show (if b = csz C then t else cty C b) = _
      rw [if_neg hb]
    · funext j
      show (if b = csz C then 0 else cE C b j) = _
      rw [if_neg hb]
    · funext j
      show (if b = csz C then none else cP C b j) = _
      rw [if_neg hb]
    · show (if b = csz C then n else cn C b) = _
      rw [if_neg hb]
abbrev vl (x : Int) : Value := .long (Int64.ofInt x)
section CARR
variable {ρ : Type} {l : Launch} {Γ : Cx} {k : Kd} {d : Nat} {enc : ρ → Out} {M0 : Md} {pc : Nat} {lo : List (Nat × Value)} {st rest : List Value} {C : Cd} {X X1 X2 : Option (ρ × Cd)}
theorem r_ciald {i : Int} {a : Nat} (hd : decode k.2.1 pc = .ok (.iaload, 1))
    (K : RunO l Γ k d enc (emC M0) (pc + 1) lo (wi (cE C a (ix i)) :: rest) C X) : RunO l Γ k d enc (emC M0) pc lo (wi i :: .ref a :: rest) C (if isO C a 100 ∧ inR i (cn C a) then X else none) := by
  refine ro_if (fun ho => ?_) (fun _ => ro_none)
  obtain ⟨e1, e2⟩ := ix_in ho.2
  intro r σ' hX
  obtain ⟨h1, h2, h3⟩ := K r σ' hX
  refine ⟨h1, h2, fun p e R s m args below meth c0 hm z0 l0 H locs ls a1 a2 a3 a4 hR hS hl => ?_⟩
  have hK := hm.2.2.2.2.2.2.2.2.1
  obtain ⟨q, hq⟩ := cw_at (Γ := Γ) (M0 := M0) ho.1.1
  rw [cfE_i 100 ho.1.2 (by decide) (by decide)] at hq
  refine va_iald hm.1 hm.2.1 hK hR.1 q 0 hq rfl e1 hd ?_
  rw [e2]
  exact h3 p e R s m args below meth c0 hm z0 l0 H locs ls a1 a2 a3 a4 hR hS hl
theorem r_czald {i : Int} {a : Nat} (hd : decode k.2.1 pc = .ok (.baload, 1))
    (K : RunO l Γ k d enc (emC M0) (pc + 1) lo (wi (cE C a (ix i)) :: rest) C X) : RunO l Γ k d enc (emC M0) pc lo (wi i :: .ref a :: rest) C (if isO C a 101 ∧ inR i (cn C a) then X else none) := by
  refine ro_if (fun ho => ?_) (fun _ => ro_none)
  obtain ⟨e1, e2⟩ := ix_in ho.2
  intro r σ' hX
  obtain ⟨h1, h2, h3⟩ := K r σ' hX
  refine ⟨h1, h2, fun p e R s m args below meth c0 hm z0 l0 H locs ls a1 a2 a3 a4 hR hS hl => ?_⟩
  have hK := hm.2.2.2.2.2.2.2.2.1
  obtain ⟨q, hq⟩ := cw_at (Γ := Γ) (M0 := M0) ho.1.1
  rw [cfE_i 101 ho.1.2 (by decide) (by decide)] at hq
  refine va_zald hm.1 hm.2.1 hK hR.1 q 1 hq rfl e1 hd ?_
  rw [e2]
  exact h3 p e R s m args below meth c0 hm z0 l0 H locs ls a1 a2 a3 a4 hR hS hl
theorem r_clald {i : Int} {a : Nat} (hd : decode k.2.1 pc = .ok (.laload, 1))
    (K : RunO l Γ k d enc (emC M0) (pc + 1) lo (vl (cE C a (ix i)) :: rest) C X) : RunO l Γ k d enc (emC M0) pc lo (wi i :: .ref a :: rest) C (if isO C a 108 ∧ inR i (cn C a) then X else none) := by
  refine ro_if (fun ho => ?_) (fun _ => ro_none)
  obtain ⟨e1, e2⟩ := ix_in ho.2
  intro r σ' hX
  obtain ⟨h1, h2, h3⟩ := K r σ' hX
  refine ⟨h1, h2, fun p e R s m args below meth c0 hm z0 l0 H locs ls a1 a2 a3 a4 hR hS hl => ?_⟩
  have hK := hm.2.2.2.2.2.2.2.2.1
  obtain ⟨q, hq⟩ := cw_at (Γ := Γ) (M0 := M0) ho.1.1
  rw [cfE_l ho.1.2] at hq
  refine va_lald hm.1 hm.2.1 hK hR.1 q 8 hq rfl e1 hd ?_
  rw [e2]
  exact h3 p e R s m args below meth c0 hm z0 l0 H locs ls a1 a2 a3 a4 hR hS hl
theorem r_caald {i : Int} {a t : Nat} {Cn : String} {f : Option Nat → Option (ρ × Cd)} (ht : (tysOf Γ.2.2.1)[t - 100]? = some (Γ.2.2.1 (t - 100), .object Cn)) (ht1 : ¬ t < 102) (ht2 : ¬ t = 108) (hd : decode k.2.1 pc = .ok (.aaload, 1))
    (K : ∀ z : Option Nat, RunO l Γ k d enc (emC M0) (pc + 1) lo (va_rf z :: rest) C (f z)) : RunO l Γ k d enc (emC M0) pc lo (wi i :: .ref a :: rest) C (if isO C a t ∧ inR i (cn C a) then bnd (cP C a (ix i)) f else none) := by
  refine ro_if (fun ho => ?_) (fun _ => ro_none)
  obtain ⟨e1, e2⟩ := ix_in ho.2
  intro r σ' hX
  obtain ⟨h1, h2, h3⟩ := K (cP C a (ix i)) r σ' hX
  refine ⟨h1, h2, fun p e R s m args below meth c0 hm z0 l0 H locs ls a1 a2 a3 a4 hR hS hl => ?_⟩
  have hK := hm.2.2.2.2.2.2.2.2.1
  obtain ⟨q, hq⟩ := cw_at (Γ := Γ) (M0 := M0) ho.1.1
  rw [cfE_q t ho.1.2 ht1 ht2] at hq
  refine va_aldq hm.1 hm.2.1 hK hR.1 q (t - 100) hq ht e1 hd ?_
  rw [e2]
  exact h3 p e R s m args below meth c0 hm z0 l0 H locs ls a1 a2 a3 a4 hR hS hl
theorem r_calen {a t : Nat} {ty : FieldType} (ht : (tysOf Γ.2.2.1)[t - 100]? = some (Γ.2.2.1 (t - 100), ty)) (ht1 : ¬ t < 100) (hd : decode k.2.1 pc = .ok (.arraylength, 1))
    (K : RunO l Γ k d enc (emC M0) (pc + 1) lo (wi (cn C a : Int) :: rest) C X) : RunO l Γ k d enc (emC M0) pc lo (.ref a :: rest) C (if isO C a t then X else none) := by
  refine ro_if (fun ho => ?_) (fun _ => ro_none)
  intro r σ' hX
  obtain ⟨h1, h2, h3⟩ := K r σ' hX
  refine ⟨h1, h2, fun p e R s m args below meth c0 hm z0 l0 H locs ls a1 a2 a3 a4 hR hS hl => ?_⟩
  have hK := hm.2.2.2.2.2.2.2.2.1
  obtain ⟨q, hq⟩ := cw_at (Γ := Γ) (M0 := M0) ho.1
  obtain ⟨x, hx, hx1⟩ : ∃ x : vp_A, cfE Γ C a = .inl (Γ.2.2.1 (t - 100), x) ∧ x.1 = cn C a := by
    unfold cfE
    rw [ho.2, if_neg ht1]
    exact ⟨_, rfl, rfl⟩
  rw [hx] at hq
  refine va_alen (v := Int32.ofInt (cn C a : Int)) hm.1 hm.2.1 hK hR.1 q (t - 100) hq ht (by rw [hx1]; exact (Int32.ofInt_eq_ofNat).symm) hd ?_
  exact h3 p e R s m args below meth c0 hm z0 l0 H locs ls a1 a2 a3 a4 hR hS hl
theorem r_ciast {i x : Int} {a : Nat} {f : Cd → Option (ρ × Cd)} (hd : decode k.2.1 pc = .ok (.iastore, 1))
    (K : ∀ C' : Cd, csz C' = csz C → csl C' = csl C → RunO l Γ k d enc (emC M0) (pc + 1) lo rest C' (f C')) : RunO l Γ k d enc (emC M0) pc lo (wi x :: wi i :: .ref a :: rest) C (if isO C a 100 ∧ inR i (cn C a) then bnd (cSetE C a (ix i) x) f else none) := by
  refine ro_if (fun ho => ?_) (fun _ => ro_none)
  obtain ⟨e1, e2⟩ := ix_in ho.2
  intro r σ' hX
  obtain ⟨h1, h2, h3⟩ := K (cSetE C a (ix i) x) rfl rfl r σ' hX
  refine ⟨h1, h2, fun p e R s m args below meth c0 hm z0 l0 H locs ls a1 a2 a3 a4 hR hS hl => ?_⟩
  have hK := hm.2.2.2.2.2.2.2.2.1
  obtain ⟨q, hq⟩ := cw_at (Γ := Γ) (M0 := M0) ho.1.1
  have hq0 := hq
  rw [cfE_i 100 ho.1.2 (by decide) (by decide)] at hq
  refine va_iast hm.1 hm.2.1 hK hR.1 hR.2.1 (H0 := H) (locs := locs) ⟨Nat.le_refl _, fun _ _ _ => rfl, hS.2.2⟩ q 0 hq rfl e1 hd (fun H1 locs1 hP hD hS1 => ?_)
  have e4 : upd (fun j => Int32.ofInt (cE C a j)) (Int32.ofInt i).toNatClampNeg (Int32.ofInt x) = fun j => Int32.ofInt (if j = ix i then x else cE C a j) := by
    funext j
    rw [e2]
    unfold upd
    split <;> rfl
  have e9 := cw_set (M0 := M0) (C' := cSetE C a (ix i) x) hR.2.1 ho.1.1 hq0 rfl (cfE_setE 100 ho.1.2 (by decide) (by decide))
  rw [e4, e9] at hP hD
  exact w_bd (fun hb => h3 p e R s m args below meth c0 hm z0 l0 H1 locs1 ls a1 a2 a3 a4 ⟨hP, hD, m_sz hR.2.2 a1 hS.1 hS1.1 hb⟩ (vs_tr hS hS1) hl)
theorem r_czast {i x : Int} {a : Nat} {f : Cd → Option (ρ × Cd)} (hx : w32 x = 0 ∨ w32 x = 1) (hd : decode k.2.1 pc = .ok (.bastore, 1))
    (K : ∀ C' : Cd, csz C' = csz C → csl C' = csl C → RunO l Γ k d enc (emC M0) (pc + 1) lo rest C' (f C')) : RunO l Γ k d enc (emC M0) pc lo (wi x :: wi i :: .ref a :: rest) C (if isO C a 101 ∧ inR i (cn C a) then bnd (cSetE C a (ix i) x) f else none) := by
  refine ro_if (fun ho => ?_) (fun _ => ro_none)
  obtain ⟨e1, e2⟩ := ix_in ho.2
  intro r σ' hX
  obtain ⟨h1, h2, h3⟩ := K (cSetE C a (ix i) x) rfl rfl r σ' hX
  refine ⟨h1, h2, fun p e R s m args below meth c0 hm z0 l0 H locs ls a1 a2 a3 a4 hR hS hl => ?_⟩
  have hK := hm.2.2.2.2.2.2.2.2.1
  obtain ⟨q, hq⟩ := cw_at (Γ := Γ) (M0 := M0) ho.1.1
  have hq0 := hq
  rw [cfE_i 101 ho.1.2 (by decide) (by decide)] at hq
  refine va_zast hm.1 hm.2.1 hK hR.1 hR.2.1 (H0 := H) (locs := locs) ⟨Nat.le_refl _, fun _ _ _ => rfl, hS.2.2⟩ q 1 hq rfl e1 hd (fun H1 locs1 hP hD hS1 => ?_)
  have e4 : upd (fun j => Int32.ofInt (cE C a j)) (Int32.ofInt i).toNatClampNeg (vp_nar .boolean (Int32.ofInt x)) = fun j => Int32.ofInt (if j = ix i then x else cE C a j) := by
    funext j
    rw [e2]
    unfold vp_nar
    rw [nar_z hx]
    unfold upd
    split <;> rfl
  have e9 := cw_set (M0 := M0) (C' := cSetE C a (ix i) x) hR.2.1 ho.1.1 hq0 rfl (cfE_setE 101 ho.1.2 (by decide) (by decide))
  rw [e4, e9] at hP hD
  exact w_bd (fun hb => h3 p e R s m args below meth c0 hm z0 l0 H1 locs1 ls a1 a2 a3 a4 ⟨hP, hD, m_sz hR.2.2 a1 hS.1 hS1.1 hb⟩ (vs_tr hS hS1) hl)
theorem r_clast {i x : Int} {a : Nat} {f : Cd → Option (ρ × Cd)} (hd : decode k.2.1 pc = .ok (.lastore, 1))
    (K : ∀ C' : Cd, csz C' = csz C → csl C' = csl C → RunO l Γ k d enc (emC M0) (pc + 1) lo rest C' (f C')) : RunO l Γ k d enc (emC M0) pc lo (vl x :: wi i :: .ref a :: rest) C (if isO C a 108 ∧ inR i (cn C a) then bnd (cSetE C a (ix i) x) f else none) := by
  refine ro_if (fun ho => ?_) (fun _ => ro_none)
  obtain ⟨e1, e2⟩ := ix_in ho.2
  intro r σ' hX
  obtain ⟨h1, h2, h3⟩ := K (cSetE C a (ix i) x) rfl rfl r σ' hX
  refine ⟨h1, h2, fun p e R s m args below meth c0 hm z0 l0 H locs ls a1 a2 a3 a4 hR hS hl => ?_⟩
  have hK := hm.2.2.2.2.2.2.2.2.1
  obtain ⟨q, hq⟩ := cw_at (Γ := Γ) (M0 := M0) ho.1.1
  have hq0 := hq
  rw [cfE_l ho.1.2] at hq
  refine va_last hm.1 hm.2.1 hK hR.1 hR.2.1 (H0 := H) (locs := locs) ⟨Nat.le_refl _, fun _ _ _ => rfl, hS.2.2⟩ q 8 hq rfl e1 hd (fun H1 locs1 hP hD hS1 => ?_)
  have e4 : vp_updL (fun j => Int64.ofInt (cE C a j)) (Int32.ofInt i).toNatClampNeg (Int64.ofInt x) = fun j => Int64.ofInt (if j = ix i then x else cE C a j) := by
    funext j
    rw [e2]
    unfold vp_updL
    split <;> rfl
  have e9 := cw_set (M0 := M0) (C' := cSetE C a (ix i) x) hR.2.1 ho.1.1 hq0 rfl (cfE_setL ho.1.2)
  rw [e4, e9] at hP hD
  exact w_bd (fun hb => h3 p e R s m args below meth c0 hm z0 l0 H1 locs1 ls a1 a2 a3 a4 ⟨hP, hD, m_sz hR.2.2 a1 hS.1 hS1.1 hb⟩ (vs_tr hS hS1) hl)
theorem r_caast {i : Int} {a v t c N : Nat} {Cn : String} {T : u_T} {f : Cd → Option (ρ × Cd)} (hc : vwCl[c]? = some (Cn, T, N)) (hc2 : c < 100) (ht : (tysOf Γ.2.2.1)[t - 100]? = some (Γ.2.2.1 (t - 100), .object Cn)) (ht1 : ¬ t < 102) (ht2 : ¬ t = 108) (hd : decode k.2.1 pc = .ok (.aastore, 1))
    (K : ∀ C' : Cd, csz C' = csz C → csl C' = csl C → RunO l Γ k d enc (emC M0) (pc + 1) lo rest C' (f C')) : RunO l Γ k d enc (emC M0) pc lo (.ref v :: wi i :: .ref a :: rest) C (if (isO C a t ∧ inR i (cn C a)) ∧ isO C v c then bnd (cSetP C a (ix i) (some v)) f else none) := by
  refine ro_if (fun ho => ?_) (fun _ => ro_none)
  obtain ⟨⟨ho, hi⟩, hv⟩ := ho
  obtain ⟨e1, e2⟩ := ix_in hi
  intro r σ' hX
  obtain ⟨h1, h2, h3⟩ := K (cSetP C a (ix i) (some v)) rfl rfl r σ' hX
  refine ⟨h1, h2, fun p e R s m args below meth c0 hm z0 l0 H locs ls a1 a2 a3 a4 hR hS hl => ?_⟩
  have hK := hm.2.2.2.2.2.2.2.2.1
  obtain ⟨q, hq⟩ := cw_at (Γ := Γ) (M0 := M0) ho.1
  obtain ⟨q2, hq2⟩ := cw_at (Γ := Γ) (M0 := M0) hv.1
  have hq0 := hq
  rw [cfE_q t ho.2 ht1 ht2] at hq
  rw [cfE_o hv.2 hc2] at hq2
  refine va_astq hm.1 hm.2.1 hK hR.1 hR.2.1 (H0 := H) (locs := locs) ⟨Nat.le_refl _, fun _ _ _ => rfl, hS.2.2⟩ q (t - 100) q2 c hq ht hq2 hc e1 hd (fun H1 locs1 hP hD hS1 => ?_)
  rw [e2] at hP hD
  have e9 := cw_set (M0 := M0) (C' := cSetP C a (ix i) (some v)) hR.2.1 ho.1 hq0 rfl (cfE_setP t ho.2 ht1 ht2)
  rw [e9] at hP hD
  exact w_bd (fun hb => h3 p e R s m args below meth c0 hm z0 l0 H1 locs1 ls a1 a2 a3 a4 ⟨hP, hD, m_sz hR.2.2 a1 hS.1 hS1.1 hb⟩ (vs_tr hS hS1) hl)
end CARR
