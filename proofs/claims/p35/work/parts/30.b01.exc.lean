/-! WHICH EXCEPTIONS COME -/
section EXC
def EO (S : List Nat) {ρ : Type} (X : Option ((ρ ⊕ Nat) × Cd)) : Prop := ∀ e C', X = some (.inr e, C') → e ∈ S
variable {S : List Nat} {ρ ρ2 : Type} {C : Cd}
theorem E_none : EO S (none : Option ((ρ ⊕ Nat) × Cd)) := fun _ _ h => by cases h
theorem E_inl {r : ρ} : EO S (some ((.inl r : ρ ⊕ Nat), C)) := fun _ _ e => by cases e
theorem E_inr {e : Nat} (h : e ∈ S) : EO S (some ((.inr e : ρ ⊕ Nat), C)) := fun _ _ q => by cases q; exact h
theorem E_retZX {x : Int} : EO S (retZX x C) := by
  unfold retZX; split
  · exact E_inl
  · exact E_none
theorem E_ite {c : Prop} [Decidable c] {A B : Option ((ρ ⊕ Nat) × Cd)} (h1 : EO S A) (h2 : EO S B) : EO S (if c then A else B) := by
  split
  · exact h1
  · exact h2
theorem E_drf {z : Option Nat} {f : Nat → Option ((ρ ⊕ Nat) × Cd)} (K : ∀ p, EO S (f p)) : EO S (drf z f) := by
  cases z with
  | none => exact E_none
  | some p => exact K p
theorem E_opt {z : Option Nat} {x : Option ((ρ ⊕ Nat) × Cd)} {f : Nat → Option ((ρ ⊕ Nat) × Cd)} (h : EO S x) (K : ∀ p, EO S (f p)) : EO S (opt z x f) := by
  cases z with
  | none => exact h
  | some p => exact K p
theorem E_bndC {a : Cd} {f : Cd → Option ((ρ ⊕ Nat) × Cd)} (K : ∀ C, EO S (f C)) : EO S (bnd a f) := K a
theorem E_bndI {a : Int} {f : Int → Option ((ρ ⊕ Nat) × Cd)} (K : ∀ x, EO S (f x)) : EO S (bnd a f) := K a
theorem E_bndN {a : Nat} {f : Nat → Option ((ρ ⊕ Nat) × Cd)} (K : ∀ x, EO S (f x)) : EO S (bnd a f) := K a
theorem E_bndO {a : Option Nat} {f : Option Nat → Option ((ρ ⊕ Nat) × Cd)} (K : ∀ x, EO S (f x)) : EO S (bnd a f) := K a
theorem E_cal {X2 : Option (ρ2 × Cd)} {f : ρ2 → Cd → Option ((ρ ⊕ Nat) × Cd)} (K : ∀ r C', EO S (f r C')) : EO S (cal X2 f) := by
  intro r C' e
  obtain ⟨⟨r2, C2⟩, e2, e3⟩ := Option.bind_eq_some_iff.mp e
  exact K r2 C2 r C' e3
theorem E_calx {S2 : List Nat} {X2 : Option ((ρ2 ⊕ Nat) × Cd)} {f : ρ2 → Cd → Option ((ρ ⊕ Nat) × Cd)} (h : EO S2 X2) (hs : ∀ e ∈ S2, e ∈ S) (K : ∀ r C', EO S (f r C')) : EO S (calx X2 f) := by
  intro r C' e
  obtain ⟨⟨r2, C2⟩, e2, e3⟩ := Option.bind_eq_some_iff.mp e
  cases r2 with
  | inl x => exact K x C2 r C' e3
  | inr e4 =>
    cases e3
    exact hs _ (h _ _ e2)
theorem E_J_C {a : Cd → Option ((ρ ⊕ Nat) × Cd)} {f : (Cd → Option ((ρ ⊕ Nat) × Cd)) → Option ((ρ ⊕ Nat) × Cd)} (h : ∀ (x0 : Cd), EO S (a x0)) (K : ∀ J : Cd → Option ((ρ ⊕ Nat) × Cd), (∀ (x0 : Cd), EO S (J x0)) → EO S (f J)) : EO S (bnd a f) := K a h
theorem E_L_C {z : Cd → Option ((ρ ⊕ Nat) × Cd)} {body : (Cd → Option ((ρ ⊕ Nat) × Cd)) → (Cd → Option ((ρ ⊕ Nat) × Cd))} {n : Nat} {f : (Cd → Option ((ρ ⊕ Nat) × Cd)) → Option ((ρ ⊕ Nat) × Cd)} (hz : ∀ (x0 : Cd), EO S (z x0)) (hs : ∀ L : Cd → Option ((ρ ⊕ Nat) × Cd), (∀ (x0 : Cd), EO S (L x0)) → ∀ (x0 : Cd), EO S (body L x0)) (K : ∀ J : Cd → Option ((ρ ⊕ Nat) × Cd), (∀ (x0 : Cd), EO S (J x0)) → EO S (f J)) : EO S (bnd (lpn z body n) f) := K _ (lpn_rule (P := fun _ L => ∀ (x0 : Cd), EO S (L x0)) hz (fun _ L h => hs L h) n)
theorem E_J_IC {a : Int → Cd → Option ((ρ ⊕ Nat) × Cd)} {f : (Int → Cd → Option ((ρ ⊕ Nat) × Cd)) → Option ((ρ ⊕ Nat) × Cd)} (h : ∀ (x0 : Int) (x1 : Cd), EO S (a x0 x1)) (K : ∀ J : Int → Cd → Option ((ρ ⊕ Nat) × Cd), (∀ (x0 : Int) (x1 : Cd), EO S (J x0 x1)) → EO S (f J)) : EO S (bnd a f) := K a h
theorem E_L_IC {z : Int → Cd → Option ((ρ ⊕ Nat) × Cd)} {body : (Int → Cd → Option ((ρ ⊕ Nat) × Cd)) → (Int → Cd → Option ((ρ ⊕ Nat) × Cd))} {n : Nat} {f : (Int → Cd → Option ((ρ ⊕ Nat) × Cd)) → Option ((ρ ⊕ Nat) × Cd)} (hz : ∀ (x0 : Int) (x1 : Cd), EO S (z x0 x1)) (hs : ∀ L : Int → Cd → Option ((ρ ⊕ Nat) × Cd), (∀ (x0 : Int) (x1 : Cd), EO S (L x0 x1)) → ∀ (x0 : Int) (x1 : Cd), EO S (body L x0 x1)) (K : ∀ J : Int → Cd → Option ((ρ ⊕ Nat) × Cd), (∀ (x0 : Int) (x1 : Cd), EO S (J x0 x1)) → EO S (f J)) : EO S (bnd (lpn z body n) f) := K _ (lpn_rule (P := fun _ L => ∀ (x0 : Int) (x1 : Cd), EO S (L x0 x1)) hz (fun _ L h => hs L h) n)
theorem E_J_IIC {a : Int → Int → Cd → Option ((ρ ⊕ Nat) × Cd)} {f : (Int → Int → Cd → Option ((ρ ⊕ Nat) × Cd)) → Option ((ρ ⊕ Nat) × Cd)} (h : ∀ (x0 : Int) (x1 : Int) (x2 : Cd), EO S (a x0 x1 x2)) (K : ∀ J : Int → Int → Cd → Option ((ρ ⊕ Nat) × Cd), (∀ (x0 : Int) (x1 : Int) (x2 : Cd), EO S (J x0 x1 x2)) → EO S (f J)) : EO S (bnd a f) := K a h
theorem E_L_IIC {z : Int → Int → Cd → Option ((ρ ⊕ Nat) × Cd)} {body : (Int → Int → Cd → Option ((ρ ⊕ Nat) × Cd)) → (Int → Int → Cd → Option ((ρ ⊕ Nat) × Cd))} {n : Nat} {f : (Int → Int → Cd → Option ((ρ ⊕ Nat) × Cd)) → Option ((ρ ⊕ Nat) × Cd)} (hz : ∀ (x0 : Int) (x1 : Int) (x2 : Cd), EO S (z x0 x1 x2)) (hs : ∀ L : Int → Int → Cd → Option ((ρ ⊕ Nat) × Cd), (∀ (x0 : Int) (x1 : Int) (x2 : Cd), EO S (L x0 x1 x2)) → ∀ (x0 : Int) (x1 : Int) (x2 : Cd), EO S (body L x0 x1 x2)) (K : ∀ J : Int → Int → Cd → Option ((ρ ⊕ Nat) × Cd), (∀ (x0 : Int) (x1 : Int) (x2 : Cd), EO S (J x0 x1 x2)) → EO S (f J)) : EO S (bnd (lpn z body n) f) := K _ (lpn_rule (P := fun _ L => ∀ (x0 : Int) (x1 : Int) (x2 : Cd), EO S (L x0 x1 x2)) hz (fun _ L h => hs L h) n)
theorem E_J_OC {a : Option Nat → Cd → Option ((ρ ⊕ Nat) × Cd)} {f : (Option Nat → Cd → Option ((ρ ⊕ Nat) × Cd)) → Option ((ρ ⊕ Nat) × Cd)} (h : ∀ (x0 : Option Nat) (x1 : Cd), EO S (a x0 x1)) (K : ∀ J : Option Nat → Cd → Option ((ρ ⊕ Nat) × Cd), (∀ (x0 : Option Nat) (x1 : Cd), EO S (J x0 x1)) → EO S (f J)) : EO S (bnd a f) := K a h
theorem E_L_OC {z : Option Nat → Cd → Option ((ρ ⊕ Nat) × Cd)} {body : (Option Nat → Cd → Option ((ρ ⊕ Nat) × Cd)) → (Option Nat → Cd → Option ((ρ ⊕ Nat) × Cd))} {n : Nat} {f : (Option Nat → Cd → Option ((ρ ⊕ Nat) × Cd)) → Option ((ρ ⊕ Nat) × Cd)} (hz : ∀ (x0 : Option Nat) (x1 : Cd), EO S (z x0 x1)) (hs : ∀ L : Option Nat → Cd → Option ((ρ ⊕ Nat) × Cd), (∀ (x0 : Option Nat) (x1 : Cd), EO S (L x0 x1)) → ∀ (x0 : Option Nat) (x1 : Cd), EO S (body L x0 x1)) (K : ∀ J : Option Nat → Cd → Option ((ρ ⊕ Nat) × Cd), (∀ (x0 : Option Nat) (x1 : Cd), EO S (J x0 x1)) → EO S (f J)) : EO S (bnd (lpn z body n) f) := K _ (lpn_rule (P := fun _ L => ∀ (x0 : Option Nat) (x1 : Cd), EO S (L x0 x1)) hz (fun _ L h => hs L h) n)
theorem E_J_OIC {a : Option Nat → Int → Cd → Option ((ρ ⊕ Nat) × Cd)} {f : (Option Nat → Int → Cd → Option ((ρ ⊕ Nat) × Cd)) → Option ((ρ ⊕ Nat) × Cd)} (h : ∀ (x0 : Option Nat) (x1 : Int) (x2 : Cd), EO S (a x0 x1 x2)) (K : ∀ J : Option Nat → Int → Cd → Option ((ρ ⊕ Nat) × Cd), (∀ (x0 : Option Nat) (x1 : Int) (x2 : Cd), EO S (J x0 x1 x2)) → EO S (f J)) : EO S (bnd a f) := K a h
theorem E_L_OIC {z : Option Nat → Int → Cd → Option ((ρ ⊕ Nat) × Cd)} {body : (Option Nat → Int → Cd → Option ((ρ ⊕ Nat) × Cd)) → (Option Nat → Int → Cd → Option ((ρ ⊕ Nat) × Cd))} {n : Nat} {f : (Option Nat → Int → Cd → Option ((ρ ⊕ Nat) × Cd)) → Option ((ρ ⊕ Nat) × Cd)} (hz : ∀ (x0 : Option Nat) (x1 : Int) (x2 : Cd), EO S (z x0 x1 x2)) (hs : ∀ L : Option Nat → Int → Cd → Option ((ρ ⊕ Nat) × Cd), (∀ (x0 : Option Nat) (x1 : Int) (x2 : Cd), EO S (L x0 x1 x2)) → ∀ (x0 : Option Nat) (x1 : Int) (x2 : Cd), EO S (body L x0 x1 x2)) (K : ∀ J : Option Nat → Int → Cd → Option ((ρ ⊕ Nat) × Cd), (∀ (x0 : Option Nat) (x1 : Int) (x2 : Cd), EO S (J x0 x1 x2)) → EO S (f J)) : EO S (bnd (lpn z body n) f) := K _ (lpn_rule (P := fun _ L => ∀ (x0 : Option Nat) (x1 : Int) (x2 : Cd), EO S (L x0 x1 x2)) hz (fun _ L h => hs L h) n)

set_option maxRecDepth 10000 in
theorem ex_fX11_act (a0 : Nat) (a1 : Int) (C : Cd) : EO [0] (fX11_act a0 a1 C) := by
  unfold fX11_act
  repeat' (with_reducible first
    | exact E_none
    | exact E_inl
    | exact E_inr (by decide)
    | refine E_ite ?_ ?_
    | refine E_bndC (fun _ => ?_)
    | refine E_drf (fun _ => ?_)
    | refine E_bndO (fun _ => ?_)
    | refine E_bndI (fun _ => ?_)
    | refine E_bndN (fun _ => ?_)
    | refine E_opt ?_ (fun _ => ?_)
    | exact E_retZX
    | refine E_L_C (fun _ => ?_) (fun _ _ _ => ?_) (fun _ _ => ?_)
    | refine E_J_C (fun _ => ?_) (fun _ _ => ?_)
    | refine E_cal (fun _ _ => ?_)
    | solve_by_elim (maxDepth := 3))
set_option maxRecDepth 10000 in
theorem ex_fX11_titleOf (a0 : Nat) (a1 : Int) (C : Cd) : EO [2] (fX11_titleOf a0 a1 C) := by
  unfold fX11_titleOf
  repeat' (with_reducible first
    | exact E_none
    | exact E_inl
    | exact E_inr (by decide)
    | refine E_ite ?_ ?_
    | refine E_bndC (fun _ => ?_)
    | refine E_drf (fun _ => ?_)
    | refine E_bndO (fun _ => ?_)
    | refine E_bndI (fun _ => ?_)
    | refine E_bndN (fun _ => ?_)
    | refine E_opt ?_ (fun _ => ?_)
    | exact E_retZX
    | refine E_L_C (fun _ => ?_) (fun _ _ _ => ?_) (fun _ _ => ?_)
    | refine E_J_C (fun _ => ?_) (fun _ _ => ?_)
    | refine E_cal (fun _ _ => ?_)
    | solve_by_elim (maxDepth := 3))
set_option maxRecDepth 10000 in
theorem ex_fX11_pageOf (a0 : Nat) (a1 : Int) (C : Cd) : EO [2] (fX11_pageOf a0 a1 C) := by
  unfold fX11_pageOf
  repeat' (with_reducible first
    | exact E_none
    | exact E_inl
    | exact E_inr (by decide)
    | refine E_ite ?_ ?_
    | refine E_bndC (fun _ => ?_)
    | refine E_drf (fun _ => ?_)
    | refine E_bndO (fun _ => ?_)
    | refine E_bndI (fun _ => ?_)
    | refine E_bndN (fun _ => ?_)
    | refine E_opt ?_ (fun _ => ?_)
    | exact E_retZX
    | refine E_calx (ex_fX11_titleOf _ _ _) (by decide) (fun _ _ => ?_)
    | exact ex_fX11_titleOf _ _ _
    | refine E_cal (fun _ _ => ?_)
    | solve_by_elim (maxDepth := 3))
set_option maxRecDepth 10000 in
theorem ex_fX11_approve (a0 : Nat) (a1 : Int) (C : Cd) : EO [1, 2] (fX11_approve a0 a1 C) := by
  unfold fX11_approve
  repeat' (with_reducible first
    | exact E_none
    | exact E_inl
    | exact E_inr (by decide)
    | refine E_ite ?_ ?_
    | refine E_bndC (fun _ => ?_)
    | refine E_drf (fun _ => ?_)
    | refine E_bndO (fun _ => ?_)
    | refine E_bndI (fun _ => ?_)
    | refine E_bndN (fun _ => ?_)
    | refine E_opt ?_ (fun _ => ?_)
    | exact E_retZX
    | refine E_L_C (fun _ => ?_) (fun _ _ _ => ?_) (fun _ _ => ?_)
    | refine E_J_C (fun _ => ?_) (fun _ _ => ?_)
    | refine E_calx (ex_fX11_pageOf _ _ _) (by decide) (fun _ _ => ?_)
    | exact ex_fX11_pageOf _ _ _
    | refine E_cal (fun _ _ => ?_)
    | solve_by_elim (maxDepth := 3))
set_option maxRecDepth 10000 in
theorem ex_fX11_refuseBelowZero (a0 : Nat) (a1 : Int) (C : Cd) : EO [2] (fX11_refuseBelowZero a0 a1 C) := by
  unfold fX11_refuseBelowZero
  repeat' (with_reducible first
    | exact E_none
    | exact E_inl
    | exact E_inr (by decide)
    | refine E_ite ?_ ?_
    | refine E_bndC (fun _ => ?_)
    | refine E_drf (fun _ => ?_)
    | refine E_bndO (fun _ => ?_)
    | refine E_bndI (fun _ => ?_)
    | refine E_bndN (fun _ => ?_)
    | refine E_opt ?_ (fun _ => ?_)
    | exact E_retZX
    | refine E_cal (fun _ _ => ?_)
    | solve_by_elim (maxDepth := 3))
set_option maxRecDepth 10000 in
theorem ex_fX11_approvedAt (a0 : Nat) (a1 : Int) (a2 : Int) (C : Cd) : EO [2] (fX11_approvedAt a0 a1 a2 C) := by
  unfold fX11_approvedAt
  repeat' (with_reducible first
    | exact E_none
    | exact E_inl
    | exact E_inr (by decide)
    | refine E_ite ?_ ?_
    | refine E_bndC (fun _ => ?_)
    | refine E_drf (fun _ => ?_)
    | refine E_bndO (fun _ => ?_)
    | refine E_bndI (fun _ => ?_)
    | refine E_bndN (fun _ => ?_)
    | refine E_opt ?_ (fun _ => ?_)
    | exact E_retZX
    | refine E_calx (ex_fX11_pageOf _ _ _) (by decide) (fun _ _ => ?_)
    | exact ex_fX11_pageOf _ _ _
    | refine E_calx (ex_fX11_refuseBelowZero _ _ _) (by decide) (fun _ _ => ?_)
    | exact ex_fX11_refuseBelowZero _ _ _
    | refine E_cal (fun _ _ => ?_)
    | solve_by_elim (maxDepth := 3))
set_option maxRecDepth 10000 in
theorem ex_fX11_bringIn (a0 : Nat) (a1 : Int) (a2 : Int) (C : Cd) : EO [0, 1, 2] (fX11_bringIn a0 a1 a2 C) := by
  unfold fX11_bringIn
  repeat' (with_reducible first
    | exact E_none
    | exact E_inl
    | exact E_inr (by decide)
    | refine E_ite ?_ ?_
    | refine E_bndC (fun _ => ?_)
    | refine E_drf (fun _ => ?_)
    | refine E_bndO (fun _ => ?_)
    | refine E_bndI (fun _ => ?_)
    | refine E_bndN (fun _ => ?_)
    | refine E_opt ?_ (fun _ => ?_)
    | exact E_retZX
    | refine E_L_C (fun _ => ?_) (fun _ _ _ => ?_) (fun _ _ => ?_)
    | refine E_J_C (fun _ => ?_) (fun _ _ => ?_)
    | refine E_calx (ex_fX11_pageOf _ _ _) (by decide) (fun _ _ => ?_)
    | exact ex_fX11_pageOf _ _ _
    | refine E_cal (fun _ _ => ?_)
    | solve_by_elim (maxDepth := 3))
set_option maxRecDepth 10000 in
theorem ex_fX11_bringOver (a0 : Nat) (a1 : Int) (a2 : Int) (C : Cd) : EO [2] (fX11_bringOver a0 a1 a2 C) := by
  unfold fX11_bringOver
  repeat' (with_reducible first
    | exact E_none
    | exact E_inl
    | exact E_inr (by decide)
    | refine E_ite ?_ ?_
    | refine E_bndC (fun _ => ?_)
    | refine E_drf (fun _ => ?_)
    | refine E_bndO (fun _ => ?_)
    | refine E_bndI (fun _ => ?_)
    | refine E_bndN (fun _ => ?_)
    | refine E_opt ?_ (fun _ => ?_)
    | exact E_retZX
    | refine E_calx (ex_fX11_titleOf _ _ _) (by decide) (fun _ _ => ?_)
    | exact ex_fX11_titleOf _ _ _
    | refine E_cal (fun _ _ => ?_)
    | solve_by_elim (maxDepth := 3))
set_option maxRecDepth 10000 in
theorem ex_fX11_create (a0 : Nat) (a1 : Int) (C : Cd) : EO [1, 2] (fX11_create a0 a1 C) := by
  unfold fX11_create
  repeat' (with_reducible first
    | exact E_none
    | exact E_inl
    | exact E_inr (by decide)
    | refine E_ite ?_ ?_
    | refine E_bndC (fun _ => ?_)
    | refine E_drf (fun _ => ?_)
    | refine E_bndO (fun _ => ?_)
    | refine E_bndI (fun _ => ?_)
    | refine E_bndN (fun _ => ?_)
    | refine E_opt ?_ (fun _ => ?_)
    | exact E_retZX
    | refine E_L_C (fun _ => ?_) (fun _ _ _ => ?_) (fun _ _ => ?_)
    | refine E_J_C (fun _ => ?_) (fun _ _ => ?_)
    | refine E_calx (ex_fX11_titleOf _ _ _) (by decide) (fun _ _ => ?_)
    | exact ex_fX11_titleOf _ _ _
    | refine E_cal (fun _ _ => ?_)
    | solve_by_elim (maxDepth := 3))
set_option maxRecDepth 10000 in
theorem ex_fX11_edit (a0 : Nat) (a1 : Int) (a2 : Int) (a3 : Int) (C : Cd) : EO [1, 2] (fX11_edit a0 a1 a2 a3 C) := by
  unfold fX11_edit
  repeat' (with_reducible first
    | exact E_none
    | exact E_inl
    | exact E_inr (by decide)
    | refine E_ite ?_ ?_
    | refine E_bndC (fun _ => ?_)
    | refine E_drf (fun _ => ?_)
    | refine E_bndO (fun _ => ?_)
    | refine E_bndI (fun _ => ?_)
    | refine E_bndN (fun _ => ?_)
    | refine E_opt ?_ (fun _ => ?_)
    | exact E_retZX
    | refine E_L_C (fun _ => ?_) (fun _ _ _ => ?_) (fun _ _ => ?_)
    | refine E_J_C (fun _ => ?_) (fun _ _ => ?_)
    | refine E_L_IC (fun _ _ => ?_) (fun _ _ _ _ => ?_) (fun _ _ => ?_)
    | refine E_J_IC (fun _ _ => ?_) (fun _ _ => ?_)
    | refine E_L_OIC (fun _ _ _ => ?_) (fun _ _ _ _ _ => ?_) (fun _ _ => ?_)
    | refine E_J_OIC (fun _ _ _ => ?_) (fun _ _ => ?_)
    | refine E_calx (ex_fX11_pageOf _ _ _) (by decide) (fun _ _ => ?_)
    | exact ex_fX11_pageOf _ _ _
    | refine E_cal (fun _ _ => ?_)
    | solve_by_elim (maxDepth := 3))
set_option maxRecDepth 10000 in
theorem ex_fX11_moduleOf (a0 : Nat) (a1 : Int) (C : Cd) : EO [2] (fX11_moduleOf a0 a1 C) := by
  unfold fX11_moduleOf
  repeat' (with_reducible first
    | exact E_none
    | exact E_inl
    | exact E_inr (by decide)
    | refine E_ite ?_ ?_
    | refine E_bndC (fun _ => ?_)
    | refine E_drf (fun _ => ?_)
    | refine E_bndO (fun _ => ?_)
    | refine E_bndI (fun _ => ?_)
    | refine E_bndN (fun _ => ?_)
    | refine E_opt ?_ (fun _ => ?_)
    | exact E_retZX
    | refine E_L_C (fun _ => ?_) (fun _ _ _ => ?_) (fun _ _ => ?_)
    | refine E_J_C (fun _ => ?_) (fun _ _ => ?_)
    | refine E_cal (fun _ _ => ?_)
    | solve_by_elim (maxDepth := 3))
set_option maxRecDepth 10000 in
theorem ex_fX11_empty (a0 : Nat) (a1 : Int) (C : Cd) : EO [2] (fX11_empty a0 a1 C) := by
  unfold fX11_empty
  repeat' (with_reducible first
    | exact E_none
    | exact E_inl
    | exact E_inr (by decide)
    | refine E_ite ?_ ?_
    | refine E_bndC (fun _ => ?_)
    | refine E_drf (fun _ => ?_)
    | refine E_bndO (fun _ => ?_)
    | refine E_bndI (fun _ => ?_)
    | refine E_bndN (fun _ => ?_)
    | refine E_opt ?_ (fun _ => ?_)
    | exact E_retZX
    | refine E_L_C (fun _ => ?_) (fun _ _ _ => ?_) (fun _ _ => ?_)
    | refine E_J_C (fun _ => ?_) (fun _ _ => ?_)
    | refine E_calx (ex_fX11_moduleOf _ _ _) (by decide) (fun _ _ => ?_)
    | exact ex_fX11_moduleOf _ _ _
    | refine E_cal (fun _ _ => ?_)
    | solve_by_elim (maxDepth := 3))
set_option maxRecDepth 10000 in
theorem ex_fX11_refuseOtherLanguages (a0 : Nat) (a1 : Int) (C : Cd) : EO [0] (fX11_refuseOtherLanguages a0 a1 C) := by
  unfold fX11_refuseOtherLanguages
  repeat' (with_reducible first
    | exact E_none
    | exact E_inl
    | exact E_inr (by decide)
    | refine E_ite ?_ ?_
    | refine E_bndC (fun _ => ?_)
    | refine E_drf (fun _ => ?_)
    | refine E_bndO (fun _ => ?_)
    | refine E_bndI (fun _ => ?_)
    | refine E_bndN (fun _ => ?_)
    | refine E_opt ?_ (fun _ => ?_)
    | exact E_retZX
    | refine E_L_C (fun _ => ?_) (fun _ _ _ => ?_) (fun _ _ => ?_)
    | refine E_J_C (fun _ => ?_) (fun _ _ => ?_)
    | refine E_cal (fun _ _ => ?_)
    | solve_by_elim (maxDepth := 3))
set_option maxRecDepth 10000 in
theorem ex_fX11_inLanguage (a0 : Nat) (a1 : Int) (a2 : Int) (C : Cd) : EO [0, 2] (fX11_inLanguage a0 a1 a2 C) := by
  unfold fX11_inLanguage
  repeat' (with_reducible first
    | exact E_none
    | exact E_inl
    | exact E_inr (by decide)
    | refine E_ite ?_ ?_
    | refine E_bndC (fun _ => ?_)
    | refine E_drf (fun _ => ?_)
    | refine E_bndO (fun _ => ?_)
    | refine E_bndI (fun _ => ?_)
    | refine E_bndN (fun _ => ?_)
    | refine E_opt ?_ (fun _ => ?_)
    | exact E_retZX
    | refine E_L_C (fun _ => ?_) (fun _ _ _ => ?_) (fun _ _ => ?_)
    | refine E_J_C (fun _ => ?_) (fun _ _ => ?_)
    | refine E_L_IC (fun _ _ => ?_) (fun _ _ _ _ => ?_) (fun _ _ => ?_)
    | refine E_J_IC (fun _ _ => ?_) (fun _ _ => ?_)
    | refine E_calx (ex_fX11_titleOf _ _ _) (by decide) (fun _ _ => ?_)
    | exact ex_fX11_titleOf _ _ _
    | refine E_calx (ex_fX11_refuseOtherLanguages _ _ _) (by decide) (fun _ _ => ?_)
    | exact ex_fX11_refuseOtherLanguages _ _ _
    | refine E_cal (fun _ _ => ?_)
    | solve_by_elim (maxDepth := 3))
set_option maxRecDepth 10000 in
theorem ex_fX11_instruct (a0 : Nat) (a1 : Int) (a2 : Int) (a3 : Int) (C : Cd) : EO [0, 1, 2] (fX11_instruct a0 a1 a2 a3 C) := by
  unfold fX11_instruct
  repeat' (with_reducible first
    | exact E_none
    | exact E_inl
    | exact E_inr (by decide)
    | refine E_ite ?_ ?_
    | refine E_bndC (fun _ => ?_)
    | refine E_drf (fun _ => ?_)
    | refine E_bndO (fun _ => ?_)
    | refine E_bndI (fun _ => ?_)
    | refine E_bndN (fun _ => ?_)
    | refine E_opt ?_ (fun _ => ?_)
    | exact E_retZX
    | refine E_calx (ex_fX11_moduleOf _ _ _) (by decide) (fun _ _ => ?_)
    | exact ex_fX11_moduleOf _ _ _
    | refine E_cal (fun _ _ => ?_)
    | solve_by_elim (maxDepth := 3))
set_option maxRecDepth 10000 in
theorem ex_fX11_isOutdated (a0 : Nat) (a1 : Int) (a2 : Int) (C : Cd) : EO [0, 2] (fX11_isOutdated a0 a1 a2 C) := by
  unfold fX11_isOutdated
  repeat' (with_reducible first
    | exact E_none
    | exact E_inl
    | exact E_inr (by decide)
    | refine E_ite ?_ ?_
    | refine E_bndC (fun _ => ?_)
    | refine E_drf (fun _ => ?_)
    | refine E_bndO (fun _ => ?_)
    | refine E_bndI (fun _ => ?_)
    | refine E_bndN (fun _ => ?_)
    | refine E_opt ?_ (fun _ => ?_)
    | exact E_retZX
    | refine E_L_C (fun _ => ?_) (fun _ _ _ => ?_) (fun _ _ => ?_)
    | refine E_J_C (fun _ => ?_) (fun _ _ => ?_)
    | refine E_L_IC (fun _ _ => ?_) (fun _ _ _ _ => ?_) (fun _ _ => ?_)
    | refine E_J_IC (fun _ _ => ?_) (fun _ _ => ?_)
    | refine E_calx (ex_fX11_titleOf _ _ _) (by decide) (fun _ _ => ?_)
    | exact ex_fX11_titleOf _ _ _
    | refine E_calx (ex_fX11_refuseOtherLanguages _ _ _) (by decide) (fun _ _ => ?_)
    | exact ex_fX11_refuseOtherLanguages _ _ _
    | refine E_cal (fun _ _ => ?_)
    | solve_by_elim (maxDepth := 3))
set_option maxRecDepth 10000 in
theorem ex_fX11_isStale (a0 : Nat) (a1 : Int) (C : Cd) : EO [2] (fX11_isStale a0 a1 C) := by
  unfold fX11_isStale
  repeat' (with_reducible first
    | exact E_none
    | exact E_inl
    | exact E_inr (by decide)
    | refine E_ite ?_ ?_
    | refine E_bndC (fun _ => ?_)
    | refine E_drf (fun _ => ?_)
    | refine E_bndO (fun _ => ?_)
    | refine E_bndI (fun _ => ?_)
    | refine E_bndN (fun _ => ?_)
    | refine E_opt ?_ (fun _ => ?_)
    | exact E_retZX
    | refine E_calx (ex_fX11_pageOf _ _ _) (by decide) (fun _ _ => ?_)
    | exact ex_fX11_pageOf _ _ _
    | refine E_cal (fun _ _ => ?_)
    | solve_by_elim (maxDepth := 3))
set_option maxRecDepth 10000 in
theorem ex_fX11_leads (a0 : Nat) (a1 : Int) (C : Cd) : EO [2] (fX11_leads a0 a1 C) := by
  unfold fX11_leads
  repeat' (with_reducible first
    | exact E_none
    | exact E_inl
    | exact E_inr (by decide)
    | refine E_ite ?_ ?_
    | refine E_bndC (fun _ => ?_)
    | refine E_drf (fun _ => ?_)
    | refine E_bndO (fun _ => ?_)
    | refine E_bndI (fun _ => ?_)
    | refine E_bndN (fun _ => ?_)
    | refine E_opt ?_ (fun _ => ?_)
    | exact E_retZX
    | refine E_calx (ex_fX11_titleOf _ _ _) (by decide) (fun _ _ => ?_)
    | exact ex_fX11_titleOf _ _ _
    | refine E_cal (fun _ _ => ?_)
    | solve_by_elim (maxDepth := 3))
set_option maxRecDepth 10000 in
theorem ex_fX11_linked (a0 : Nat) (a1 : Int) (a2 : Int) (C : Cd) : EO [2] (fX11_linked a0 a1 a2 C) := by
  unfold fX11_linked
  repeat' (with_reducible first
    | exact E_none
    | exact E_inl
    | exact E_inr (by decide)
    | refine E_ite ?_ ?_
    | refine E_bndC (fun _ => ?_)
    | refine E_drf (fun _ => ?_)
    | refine E_bndO (fun _ => ?_)
    | refine E_bndI (fun _ => ?_)
    | refine E_bndN (fun _ => ?_)
    | refine E_opt ?_ (fun _ => ?_)
    | exact E_retZX
    | refine E_calx (ex_fX11_titleOf _ _ _) (by decide) (fun _ _ => ?_)
    | exact ex_fX11_titleOf _ _ _
    | refine E_cal (fun _ _ => ?_)
    | solve_by_elim (maxDepth := 3))
set_option maxRecDepth 10000 in
theorem ex_fX11_members (a0 : Nat) (a1 : Int) (C : Cd) : EO [2] (fX11_members a0 a1 C) := by
  unfold fX11_members
  repeat' (with_reducible first
    | exact E_none
    | exact E_inl
    | exact E_inr (by decide)
    | refine E_ite ?_ ?_
    | refine E_bndC (fun _ => ?_)
    | refine E_drf (fun _ => ?_)
    | refine E_bndO (fun _ => ?_)
    | refine E_bndI (fun _ => ?_)
    | refine E_bndN (fun _ => ?_)
    | refine E_opt ?_ (fun _ => ?_)
    | exact E_retZX
    | refine E_L_C (fun _ => ?_) (fun _ _ _ => ?_) (fun _ _ => ?_)
    | refine E_J_C (fun _ => ?_) (fun _ _ => ?_)
    | refine E_cal (fun _ _ => ?_)
    | solve_by_elim (maxDepth := 3))
set_option maxRecDepth 10000 in
theorem ex_fX11_move (a0 : Nat) (a1 : Int) (a2 : Int) (C : Cd) : EO [1, 2] (fX11_move a0 a1 a2 C) := by
  unfold fX11_move
  repeat' (with_reducible first
    | exact E_none
    | exact E_inl
    | exact E_inr (by decide)
    | refine E_ite ?_ ?_
    | refine E_bndC (fun _ => ?_)
    | refine E_drf (fun _ => ?_)
    | refine E_bndO (fun _ => ?_)
    | refine E_bndI (fun _ => ?_)
    | refine E_bndN (fun _ => ?_)
    | refine E_opt ?_ (fun _ => ?_)
    | exact E_retZX
    | refine E_L_C (fun _ => ?_) (fun _ _ _ => ?_) (fun _ _ => ?_)
    | refine E_J_C (fun _ => ?_) (fun _ _ => ?_)
    | refine E_calx (ex_fX11_titleOf _ _ _) (by decide) (fun _ _ => ?_)
    | exact ex_fX11_titleOf _ _ _
    | refine E_calx (ex_fX11_bringOver _ _ _ _) (by decide) (fun _ _ => ?_)
    | exact ex_fX11_bringOver _ _ _ _
    | refine E_cal (fun _ _ => ?_)
    | solve_by_elim (maxDepth := 3))
set_option maxRecDepth 10000 in
theorem ex_fX11_moveTree (a0 : Nat) (a1 : Int) (a2 : Int) (C : Cd) : EO [1, 2] (fX11_moveTree a0 a1 a2 C) := by
  unfold fX11_moveTree
  repeat' (with_reducible first
    | exact E_none
    | exact E_inl
    | exact E_inr (by decide)
    | refine E_ite ?_ ?_
    | refine E_bndC (fun _ => ?_)
    | refine E_drf (fun _ => ?_)
    | refine E_bndO (fun _ => ?_)
    | refine E_bndI (fun _ => ?_)
    | refine E_bndN (fun _ => ?_)
    | refine E_opt ?_ (fun _ => ?_)
    | exact E_retZX
    | refine E_L_C (fun _ => ?_) (fun _ _ _ => ?_) (fun _ _ => ?_)
    | refine E_J_C (fun _ => ?_) (fun _ _ => ?_)
    | refine E_L_IC (fun _ _ => ?_) (fun _ _ _ _ => ?_) (fun _ _ => ?_)
    | refine E_J_IC (fun _ _ => ?_) (fun _ _ => ?_)
    | refine E_calx (ex_fX11_bringOver _ _ _ _) (by decide) (fun _ _ => ?_)
    | exact ex_fX11_bringOver _ _ _ _
    | refine E_cal (fun _ _ => ?_)
    | solve_by_elim (maxDepth := 3))
set_option maxRecDepth 10000 in
theorem ex_fX11_protect (a0 : Nat) (a1 : Int) (a2 : Int) (C : Cd) : EO [0, 1, 2] (fX11_protect a0 a1 a2 C) := by
  unfold fX11_protect
  repeat' (with_reducible first
    | exact E_none
    | exact E_inl
    | exact E_inr (by decide)
    | refine E_ite ?_ ?_
    | refine E_bndC (fun _ => ?_)
    | refine E_drf (fun _ => ?_)
    | refine E_bndO (fun _ => ?_)
    | refine E_bndI (fun _ => ?_)
    | refine E_bndN (fun _ => ?_)
    | refine E_opt ?_ (fun _ => ?_)
    | exact E_retZX
    | refine E_L_C (fun _ => ?_) (fun _ _ _ => ?_) (fun _ _ => ?_)
    | refine E_J_C (fun _ => ?_) (fun _ _ => ?_)
    | refine E_calx (ex_fX11_titleOf _ _ _) (by decide) (fun _ _ => ?_)
    | exact ex_fX11_titleOf _ _ _
    | refine E_cal (fun _ _ => ?_)
    | solve_by_elim (maxDepth := 3))
set_option maxRecDepth 10000 in
theorem ex_fX11_rank (a0 : Nat) (a1 : Int) (a2 : Int) (C : Cd) : EO [0, 2] (fX11_rank a0 a1 a2 C) := by
  unfold fX11_rank
  repeat' (with_reducible first
    | exact E_none
    | exact E_inl
    | exact E_inr (by decide)
    | refine E_ite ?_ ?_
    | refine E_bndC (fun _ => ?_)
    | refine E_drf (fun _ => ?_)
    | refine E_bndO (fun _ => ?_)
    | refine E_bndI (fun _ => ?_)
    | refine E_bndN (fun _ => ?_)
    | refine E_opt ?_ (fun _ => ?_)
    | exact E_retZX
    | refine E_L_C (fun _ => ?_) (fun _ _ _ => ?_) (fun _ _ => ?_)
    | refine E_J_C (fun _ => ?_) (fun _ _ => ?_)
    | refine E_calx (ex_fX11_titleOf _ _ _) (by decide) (fun _ _ => ?_)
    | exact ex_fX11_titleOf _ _ _
    | refine E_cal (fun _ _ => ?_)
    | solve_by_elim (maxDepth := 3))
set_option maxRecDepth 10000 in
theorem ex_fX11_read (a0 : Nat) (a1 : Int) (a2 : Int) (C : Cd) : EO [2] (fX11_read a0 a1 a2 C) := by
  unfold fX11_read
  repeat' (with_reducible first
    | exact E_none
    | exact E_inl
    | exact E_inr (by decide)
    | refine E_ite ?_ ?_
    | refine E_bndC (fun _ => ?_)
    | refine E_drf (fun _ => ?_)
    | refine E_bndO (fun _ => ?_)
    | refine E_bndI (fun _ => ?_)
    | refine E_bndN (fun _ => ?_)
    | refine E_opt ?_ (fun _ => ?_)
    | exact E_retZX
    | refine E_L_C (fun _ => ?_) (fun _ _ _ => ?_) (fun _ _ => ?_)
    | refine E_J_C (fun _ => ?_) (fun _ _ => ?_)
    | refine E_calx (ex_fX11_pageOf _ _ _) (by decide) (fun _ _ => ?_)
    | exact ex_fX11_pageOf _ _ _
    | refine E_cal (fun _ _ => ?_)
    | solve_by_elim (maxDepth := 3))
set_option maxRecDepth 10000 in
theorem ex_fX11_shown (a0 : Nat) (a1 : Int) (a2 : Int) (C : Cd) : EO [2] (fX11_shown a0 a1 a2 C) := by
  unfold fX11_shown
  repeat' (with_reducible first
    | exact E_none
    | exact E_inl
    | exact E_inr (by decide)
    | refine E_ite ?_ ?_
    | refine E_bndC (fun _ => ?_)
    | refine E_drf (fun _ => ?_)
    | refine E_bndO (fun _ => ?_)
    | refine E_bndI (fun _ => ?_)
    | refine E_bndN (fun _ => ?_)
    | refine E_opt ?_ (fun _ => ?_)
    | exact E_retZX
    | refine E_calx (ex_fX11_pageOf _ _ _) (by decide) (fun _ _ => ?_)
    | exact ex_fX11_pageOf _ _ _
    | refine E_calx (ex_fX11_refuseBelowZero _ _ _) (by decide) (fun _ _ => ?_)
    | exact ex_fX11_refuseBelowZero _ _ _
    | refine E_cal (fun _ _ => ?_)
    | solve_by_elim (maxDepth := 3))
set_option maxRecDepth 10000 in
theorem ex_fX11_shownAnew (a0 : Nat) (a1 : Int) (a2 : Int) (C : Cd) : EO [2] (fX11_shownAnew a0 a1 a2 C) := by
  unfold fX11_shownAnew
  repeat' (with_reducible first
    | exact E_none
    | exact E_inl
    | exact E_inr (by decide)
    | refine E_ite ?_ ?_
    | refine E_bndC (fun _ => ?_)
    | refine E_drf (fun _ => ?_)
    | refine E_bndO (fun _ => ?_)
    | refine E_bndI (fun _ => ?_)
    | refine E_bndN (fun _ => ?_)
    | refine E_opt ?_ (fun _ => ?_)
    | exact E_retZX
    | refine E_calx (ex_fX11_pageOf _ _ _) (by decide) (fun _ _ => ?_)
    | exact ex_fX11_pageOf _ _ _
    | refine E_calx (ex_fX11_refuseBelowZero _ _ _) (by decide) (fun _ _ => ?_)
    | exact ex_fX11_refuseBelowZero _ _ _
    | refine E_cal (fun _ _ => ?_)
    | solve_by_elim (maxDepth := 3))
set_option maxRecDepth 10000 in
theorem ex_fX11_token (a0 : Nat) (a1 : Int) (a2 : Int) (C : Cd) : EO [0, 1] (fX11_token a0 a1 a2 C) := by
  unfold fX11_token
  repeat' (with_reducible first
    | exact E_none
    | exact E_inl
    | exact E_inr (by decide)
    | refine E_ite ?_ ?_
    | refine E_bndC (fun _ => ?_)
    | refine E_drf (fun _ => ?_)
    | refine E_bndO (fun _ => ?_)
    | refine E_bndI (fun _ => ?_)
    | refine E_bndN (fun _ => ?_)
    | refine E_opt ?_ (fun _ => ?_)
    | exact E_retZX
    | refine E_cal (fun _ _ => ?_)
    | solve_by_elim (maxDepth := 3))
set_option maxRecDepth 10000 in
theorem ex_fX11_tokenAt (a0 : Nat) (a1 : Int) (a2 : Int) (C : Cd) : EO [2] (fX11_tokenAt a0 a1 a2 C) := by
  unfold fX11_tokenAt
  repeat' (with_reducible first
    | exact E_none
    | exact E_inl
    | exact E_inr (by decide)
    | refine E_ite ?_ ?_
    | refine E_bndC (fun _ => ?_)
    | refine E_drf (fun _ => ?_)
    | refine E_bndO (fun _ => ?_)
    | refine E_bndI (fun _ => ?_)
    | refine E_bndN (fun _ => ?_)
    | refine E_opt ?_ (fun _ => ?_)
    | exact E_retZX
    | refine E_calx (ex_fX11_pageOf _ _ _) (by decide) (fun _ _ => ?_)
    | exact ex_fX11_pageOf _ _ _
    | refine E_calx (ex_fX11_refuseBelowZero _ _ _) (by decide) (fun _ _ => ?_)
    | exact ex_fX11_refuseBelowZero _ _ _
    | refine E_cal (fun _ _ => ?_)
    | solve_by_elim (maxDepth := 3))
set_option maxRecDepth 10000 in
theorem ex_fX11_translate (a0 : Nat) (a1 : Int) (a2 : Int) (a3 : Int) (C : Cd) : EO [0, 2] (fX11_translate a0 a1 a2 a3 C) := by
  unfold fX11_translate
  repeat' (with_reducible first
    | exact E_none
    | exact E_inl
    | exact E_inr (by decide)
    | refine E_ite ?_ ?_
    | refine E_bndC (fun _ => ?_)
    | refine E_drf (fun _ => ?_)
    | refine E_bndO (fun _ => ?_)
    | refine E_bndI (fun _ => ?_)
    | refine E_bndN (fun _ => ?_)
    | refine E_opt ?_ (fun _ => ?_)
    | exact E_retZX
    | refine E_L_C (fun _ => ?_) (fun _ _ _ => ?_) (fun _ _ => ?_)
    | refine E_J_C (fun _ => ?_) (fun _ _ => ?_)
    | refine E_calx (ex_fX11_titleOf _ _ _) (by decide) (fun _ _ => ?_)
    | exact ex_fX11_titleOf _ _ _
    | refine E_calx (ex_fX11_pageOf _ _ _) (by decide) (fun _ _ => ?_)
    | exact ex_fX11_pageOf _ _ _
    | refine E_cal (fun _ _ => ?_)
    | solve_by_elim (maxDepth := 3))
set_option maxRecDepth 10000 in
theorem ex_fX11_undo (a0 : Nat) (a1 : Int) (a2 : Int) (C : Cd) : EO [1, 2] (fX11_undo a0 a1 a2 C) := by
  unfold fX11_undo
  repeat' (with_reducible first
    | exact E_none
    | exact E_inl
    | exact E_inr (by decide)
    | refine E_ite ?_ ?_
    | refine E_bndC (fun _ => ?_)
    | refine E_drf (fun _ => ?_)
    | refine E_bndO (fun _ => ?_)
    | refine E_bndI (fun _ => ?_)
    | refine E_bndN (fun _ => ?_)
    | refine E_opt ?_ (fun _ => ?_)
    | exact E_retZX
    | refine E_L_C (fun _ => ?_) (fun _ _ _ => ?_) (fun _ _ => ?_)
    | refine E_J_C (fun _ => ?_) (fun _ _ => ?_)
    | refine E_L_IC (fun _ _ => ?_) (fun _ _ _ _ => ?_) (fun _ _ => ?_)
    | refine E_J_IC (fun _ _ => ?_) (fun _ _ => ?_)
    | refine E_calx (ex_fX11_pageOf _ _ _) (by decide) (fun _ _ => ?_)
    | exact ex_fX11_pageOf _ _ _
    | refine E_cal (fun _ _ => ?_)
    | solve_by_elim (maxDepth := 3))
set_option maxRecDepth 10000 in
theorem ex_fX11_versionAt (a0 : Nat) (a1 : Int) (a2 : Int) (C : Cd) : EO [2] (fX11_versionAt a0 a1 a2 C) := by
  unfold fX11_versionAt
  repeat' (with_reducible first
    | exact E_none
    | exact E_inl
    | exact E_inr (by decide)
    | refine E_ite ?_ ?_
    | refine E_bndC (fun _ => ?_)
    | refine E_drf (fun _ => ?_)
    | refine E_bndO (fun _ => ?_)
    | refine E_bndI (fun _ => ?_)
    | refine E_bndN (fun _ => ?_)
    | refine E_opt ?_ (fun _ => ?_)
    | exact E_retZX
    | refine E_L_OC (fun _ _ => ?_) (fun _ _ _ _ => ?_) (fun _ _ => ?_)
    | refine E_J_OC (fun _ _ => ?_) (fun _ _ => ?_)
    | refine E_calx (ex_fX11_titleOf _ _ _) (by decide) (fun _ _ => ?_)
    | exact ex_fX11_titleOf _ _ _
    | refine E_cal (fun _ _ => ?_)
    | solve_by_elim (maxDepth := 3))
set_option maxRecDepth 10000 in
theorem ex_fX11_versions (a0 : Nat) (a1 : Int) (C : Cd) : EO [2] (fX11_versions a0 a1 C) := by
  unfold fX11_versions
  repeat' (with_reducible first
    | exact E_none
    | exact E_inl
    | exact E_inr (by decide)
    | refine E_ite ?_ ?_
    | refine E_bndC (fun _ => ?_)
    | refine E_drf (fun _ => ?_)
    | refine E_bndO (fun _ => ?_)
    | refine E_bndI (fun _ => ?_)
    | refine E_bndN (fun _ => ?_)
    | refine E_opt ?_ (fun _ => ?_)
    | exact E_retZX
    | refine E_L_IC (fun _ _ => ?_) (fun _ _ _ _ => ?_) (fun _ _ => ?_)
    | refine E_J_IC (fun _ _ => ?_) (fun _ _ => ?_)
    | refine E_calx (ex_fX11_titleOf _ _ _) (by decide) (fun _ _ => ?_)
    | exact ex_fX11_titleOf _ _ _
    | refine E_cal (fun _ _ => ?_)
    | solve_by_elim (maxDepth := 3))
set_option maxRecDepth 10000 in
theorem ex_fX11_work (a0 : Nat) (a1 : Int) (C : Cd) : EO [0] (fX11_work a0 a1 C) := by
  unfold fX11_work
  repeat' (with_reducible first
    | exact E_none
    | exact E_inl
    | exact E_inr (by decide)
    | refine E_ite ?_ ?_
    | refine E_bndC (fun _ => ?_)
    | refine E_drf (fun _ => ?_)
    | refine E_bndO (fun _ => ?_)
    | refine E_bndI (fun _ => ?_)
    | refine E_bndN (fun _ => ?_)
    | refine E_opt ?_ (fun _ => ?_)
    | exact E_retZX
    | refine E_L_C (fun _ => ?_) (fun _ _ _ => ?_) (fun _ _ => ?_)
    | refine E_J_C (fun _ => ?_) (fun _ _ => ?_)
    | refine E_L_IIC (fun _ _ _ => ?_) (fun _ _ _ _ _ => ?_) (fun _ _ => ?_)
    | refine E_J_IIC (fun _ _ _ => ?_) (fun _ _ => ?_)
    | refine E_cal (fun _ _ => ?_)
    | solve_by_elim (maxDepth := 3))
end EXC
