/-! WHAT IS MADE STAYS MADE -/
section GROW
def Gr (C C' : Cd) : Prop := Wf C → Wf C' ∧ ∀ a, a ∈ cL C → a ∈ cL C' ∧ cty C' a = cty C a ∧ cn C' a = cn C a
theorem Gr.rf (C : Cd) : Gr C C := fun W => ⟨W, fun a h => ⟨h, rfl, rfl⟩⟩
theorem Gr.tr {C C1 C2 : Cd} (h : Gr C C1) (h1 : Gr C1 C2) : Gr C C2 := fun W => ⟨(h1 (h W).1).1, fun a ha => by
  obtain ⟨a1, a2, a3⟩ := (h W).2 a ha
  obtain ⟨b1, b2, b3⟩ := (h1 (h W).1).2 a a1
  exact ⟨b1, b2.trans a2, b3.trans a3⟩⟩
theorem Gr.sI {C0 C : Cd} (h : Gr C0 C) (k a : Nat) (v : Int) : Gr C0 (cSetI C k a v) := h
theorem Gr.sR {C0 C : Cd} (h : Gr C0 C) (k a : Nat) (v : Option Nat) : Gr C0 (cSetR C k a v) := h
theorem Gr.sE {C0 C : Cd} (h : Gr C0 C) (a i : Nat) (v : Int) : Gr C0 (cSetE C a i v) := h
theorem Gr.sP {C0 C : Cd} (h : Gr C0 C) (a i : Nat) (v : Option Nat) : Gr C0 (cSetP C a i v) := h
theorem Gr.sS {C0 C : Cd} (h : Gr C0 C) (e i n : Nat) (v : Option Nat) : Gr C0 (alShift C e i n v) := h
theorem Gr.sB {C0 C : Cd} (h : Gr C0 C) : Gr C0 (cBump C) := fun W => ⟨fun a ha => Nat.lt_succ_of_lt ((h W).1 a ha), (h W).2⟩
theorem Gr.sN {C0 C : Cd} (h : Gr C0 C) (c : Nat) : Gr C0 (cNew C c) := h.tr (fun W => ⟨Wf_N W c, fun a ha => ⟨List.mem_append_left _ ha, if_neg (Nat.ne_of_lt (W a ha)), rfl⟩⟩)
theorem Gr.sA {C0 C : Cd} (h : Gr C0 C) (t n : Nat) : Gr C0 (cNewA C t n) := h.tr (fun W => ⟨Wf_A W t n, fun a ha => ⟨List.mem_append_left _ ha, if_neg (Nat.ne_of_lt (W a ha)), if_neg (Nat.ne_of_lt (W a ha))⟩⟩)
theorem Gr.sC {C0 C : Cd} (h : Gr C0 C) (e n : Nat) : Gr C0 (alCopy C e n) := h.tr (fun W => ⟨Wf_A W 107 n, fun a ha => ⟨List.mem_append_left _ ha, if_neg (Nat.ne_of_lt (W a ha)), if_neg (Nat.ne_of_lt (W a ha))⟩⟩)
def GO (C0 : Cd) {ρ : Type} (X : Option (ρ × Cd)) : Prop := ∀ r C', X = some (r, C') → Gr C0 C'
variable {C0 C : Cd} {ρ ρ2 : Type}
theorem G_of {X : Option (ρ × Cd)} (h : ∀ r C', X = some (r, C') → Gr C0 C') : GO C0 X := h
theorem G_none : GO C0 (none : Option (ρ × Cd)) := fun _ _ h => by cases h
theorem G_some {r : ρ} (h : Gr C0 C) : GO C0 (some (r, C)) := fun _ _ e => by cases e; exact h
theorem G_retZ {x : Int} (h : Gr C0 C) : GO C0 (retZ x C) := by
  unfold retZ; split
  · exact G_some h
  · exact G_none
theorem G_retZX {x : Int} (h : Gr C0 C) : GO C0 (retZX x C) := by
  unfold retZX; split
  · exact G_some h
  · exact G_none
theorem G_ite {c : Prop} [Decidable c] {A B : Option (ρ × Cd)} (h1 : GO C0 A) (h2 : GO C0 B) : GO C0 (if c then A else B) := by
  split
  · exact h1
  · exact h2
theorem G_drf {z : Option Nat} {f : Nat → Option (ρ × Cd)} (K : ∀ p, GO C0 (f p)) : GO C0 (drf z f) := by
  cases z with
  | none => exact G_none
  | some p => exact K p
theorem G_opt {z : Option Nat} {x : Option (ρ × Cd)} {f : Nat → Option (ρ × Cd)} (h : GO C0 x) (K : ∀ p, GO C0 (f p)) : GO C0 (opt z x f) := by
  cases z with
  | none => exact h
  | some p => exact K p
theorem G_bndC {a : Cd} {f : Cd → Option (ρ × Cd)} (h : Gr C0 a) (K : ∀ C, Gr C0 C → GO C0 (f C)) : GO C0 (bnd a f) := K a h
theorem G_bndI {a : Int} {f : Int → Option (ρ × Cd)} (K : ∀ x, GO C0 (f x)) : GO C0 (bnd a f) := K a
theorem G_bndN {a : Nat} {f : Nat → Option (ρ × Cd)} (K : ∀ x, GO C0 (f x)) : GO C0 (bnd a f) := K a
theorem G_bndO {a : Option Nat} {f : Option Nat → Option (ρ × Cd)} (K : ∀ x, GO C0 (f x)) : GO C0 (bnd a f) := K a
theorem G_cal {X2 : Option (ρ2 × Cd)} {f : ρ2 → Cd → Option (ρ × Cd)} (h : GO C X2) (hC : Gr C0 C) (K : ∀ r C', Gr C0 C' → GO C0 (f r C')) : GO C0 (cal X2 f) := by
  intro r C' e
  obtain ⟨⟨r2, C2⟩, e2, e3⟩ := Option.bind_eq_some_iff.mp e
  exact K r2 C2 (hC.tr (h r2 C2 e2)) r C' e3
theorem G_calx {X2 : Option ((ρ2 ⊕ Nat) × Cd)} {f : ρ2 → Cd → Option ((ρ ⊕ Nat) × Cd)} (h : GO C X2) (hC : Gr C0 C) (K : ∀ r C', Gr C0 C' → GO C0 (f r C')) : GO C0 (calx X2 f) := by
  refine G_cal h hC (fun r C' hg => ?_)
  cases r with
  | inl x => exact K x C' hg
  | inr e => exact G_some hg
theorem gr_fAL_init (a : Nat) (C : Cd) : GO C (fAL_init a C) := G_ite (G_some ((Gr.rf C).sR _ _ _)) G_none
theorem gr_fAL_size (a : Nat) (C : Cd) : GO C (fAL_size a C) := G_ite (G_some (Gr.rf C)) G_none
theorem gr_fAL_get (a : Nat) (i : Int) (C : Cd) : GO C (fAL_get a i C) := G_ite (G_drf (fun _ => G_ite (G_some (Gr.rf C)) G_none)) G_none
theorem gr_fbitCount (x : Int) (C : Cd) : GO C (fbitCount x C) := G_ite (G_some (Gr.rf C)) G_none
theorem gr_alGrow {a : Nat} {C0 C C' : Cd} (h : Gr C0 C) (e : (if alFull a C = true then alGrow a C else some C) = some C') : Gr C0 C' := by
  split at e
  · unfold alGrow at e
    split at e
    · split at e
      · cases e
        exact (h.sA _ _).sR _ _ _
      · cases e
    · cases hz : cR C 201 a with
      | none => rw [hz] at e; cases e
      | some x =>
        rw [hz, drf_some] at e
        split at e
        · cases e
          exact (Gr.sC h _ _).sR _ _ _
        · cases e
  · cases e
    exact h
theorem gr_fAL_add (a : Nat) (v : Option Nat) (C : Cd) : GO C (fAL_add a v C) := by
  refine G_ite (G_bndC ((Gr.rf C).sI _ _ _) (fun C1 h1 => G_of (fun r C' e => ?_))) G_none
  obtain ⟨C2, e2, e3⟩ := Option.bind_eq_some_iff.mp e
  have h2 := gr_alGrow h1 e2
  obtain ⟨C3, e4, e5⟩ := Option.map_eq_some_iff.mp e3
  cases e5
  unfold alPut at e4
  cases hz : cR C2 201 a with
  | none => rw [hz] at e4; cases e4
  | some x =>
    rw [hz, drf_some] at e4
    split at e4
    · cases e4
      exact (h2.sP _ _ _).sI _ _ _
    · cases e4
theorem gr_fAL_addAt (a : Nat) (i : Int) (v : Option Nat) (C : Cd) : GO C (fAL_addAt a i v C) := by
  refine G_ite (G_bndC ((Gr.rf C).sI _ _ _) (fun C1 h1 => G_of (fun r C' e => ?_))) G_none
  obtain ⟨C2, e2, e3⟩ := Option.bind_eq_some_iff.mp e
  have h2 := gr_alGrow h1 e2
  cases hz : cR C2 201 a with
  | none => rw [hz] at e3; cases e3
  | some x =>
    rw [hz, drf_some] at e3
    split at e3
    · cases e3
      exact (h2.sS _ _ _ _).sI _ _ _
    · cases e3
theorem G_J_C {a : Cd → Option (ρ × Cd)} {f : (Cd → Option (ρ × Cd)) → Option (ρ × Cd)} (h : ∀ (x0 : Cd), Gr C0 x0 → GO C0 (a x0)) (K : ∀ J : Cd → Option (ρ × Cd), (∀ (x0 : Cd), Gr C0 x0 → GO C0 (J x0)) → GO C0 (f J)) : GO C0 (bnd a f) := K a h
theorem G_L_C {z : Cd → Option (ρ × Cd)} {body : (Cd → Option (ρ × Cd)) → (Cd → Option (ρ × Cd))} {n : Nat} {f : (Cd → Option (ρ × Cd)) → Option (ρ × Cd)} (hz : ∀ (x0 : Cd), Gr C0 x0 → GO C0 (z x0)) (hs : ∀ L : Cd → Option (ρ × Cd), (∀ (x0 : Cd), Gr C0 x0 → GO C0 (L x0)) → ∀ (x0 : Cd), Gr C0 x0 → GO C0 (body L x0)) (K : ∀ J : Cd → Option (ρ × Cd), (∀ (x0 : Cd), Gr C0 x0 → GO C0 (J x0)) → GO C0 (f J)) : GO C0 (bnd (lpn z body n) f) := K _ (lpn_rule (P := fun _ L => ∀ (x0 : Cd), Gr C0 x0 → GO C0 (L x0)) hz (fun _ L h => hs L h) n)
theorem G_J_IC {a : Int → Cd → Option (ρ × Cd)} {f : (Int → Cd → Option (ρ × Cd)) → Option (ρ × Cd)} (h : ∀ (x0 : Int) (x1 : Cd), Gr C0 x1 → GO C0 (a x0 x1)) (K : ∀ J : Int → Cd → Option (ρ × Cd), (∀ (x0 : Int) (x1 : Cd), Gr C0 x1 → GO C0 (J x0 x1)) → GO C0 (f J)) : GO C0 (bnd a f) := K a h
theorem G_L_IC {z : Int → Cd → Option (ρ × Cd)} {body : (Int → Cd → Option (ρ × Cd)) → (Int → Cd → Option (ρ × Cd))} {n : Nat} {f : (Int → Cd → Option (ρ × Cd)) → Option (ρ × Cd)} (hz : ∀ (x0 : Int) (x1 : Cd), Gr C0 x1 → GO C0 (z x0 x1)) (hs : ∀ L : Int → Cd → Option (ρ × Cd), (∀ (x0 : Int) (x1 : Cd), Gr C0 x1 → GO C0 (L x0 x1)) → ∀ (x0 : Int) (x1 : Cd), Gr C0 x1 → GO C0 (body L x0 x1)) (K : ∀ J : Int → Cd → Option (ρ × Cd), (∀ (x0 : Int) (x1 : Cd), Gr C0 x1 → GO C0 (J x0 x1)) → GO C0 (f J)) : GO C0 (bnd (lpn z body n) f) := K _ (lpn_rule (P := fun _ L => ∀ (x0 : Int) (x1 : Cd), Gr C0 x1 → GO C0 (L x0 x1)) hz (fun _ L h => hs L h) n)
theorem G_J_IIC {a : Int → Int → Cd → Option (ρ × Cd)} {f : (Int → Int → Cd → Option (ρ × Cd)) → Option (ρ × Cd)} (h : ∀ (x0 : Int) (x1 : Int) (x2 : Cd), Gr C0 x2 → GO C0 (a x0 x1 x2)) (K : ∀ J : Int → Int → Cd → Option (ρ × Cd), (∀ (x0 : Int) (x1 : Int) (x2 : Cd), Gr C0 x2 → GO C0 (J x0 x1 x2)) → GO C0 (f J)) : GO C0 (bnd a f) := K a h
theorem G_L_IIC {z : Int → Int → Cd → Option (ρ × Cd)} {body : (Int → Int → Cd → Option (ρ × Cd)) → (Int → Int → Cd → Option (ρ × Cd))} {n : Nat} {f : (Int → Int → Cd → Option (ρ × Cd)) → Option (ρ × Cd)} (hz : ∀ (x0 : Int) (x1 : Int) (x2 : Cd), Gr C0 x2 → GO C0 (z x0 x1 x2)) (hs : ∀ L : Int → Int → Cd → Option (ρ × Cd), (∀ (x0 : Int) (x1 : Int) (x2 : Cd), Gr C0 x2 → GO C0 (L x0 x1 x2)) → ∀ (x0 : Int) (x1 : Int) (x2 : Cd), Gr C0 x2 → GO C0 (body L x0 x1 x2)) (K : ∀ J : Int → Int → Cd → Option (ρ × Cd), (∀ (x0 : Int) (x1 : Int) (x2 : Cd), Gr C0 x2 → GO C0 (J x0 x1 x2)) → GO C0 (f J)) : GO C0 (bnd (lpn z body n) f) := K _ (lpn_rule (P := fun _ L => ∀ (x0 : Int) (x1 : Int) (x2 : Cd), Gr C0 x2 → GO C0 (L x0 x1 x2)) hz (fun _ L h => hs L h) n)
theorem G_J_IIIC {a : Int → Int → Int → Cd → Option (ρ × Cd)} {f : (Int → Int → Int → Cd → Option (ρ × Cd)) → Option (ρ × Cd)} (h : ∀ (x0 : Int) (x1 : Int) (x2 : Int) (x3 : Cd), Gr C0 x3 → GO C0 (a x0 x1 x2 x3)) (K : ∀ J : Int → Int → Int → Cd → Option (ρ × Cd), (∀ (x0 : Int) (x1 : Int) (x2 : Int) (x3 : Cd), Gr C0 x3 → GO C0 (J x0 x1 x2 x3)) → GO C0 (f J)) : GO C0 (bnd a f) := K a h
theorem G_L_IIIC {z : Int → Int → Int → Cd → Option (ρ × Cd)} {body : (Int → Int → Int → Cd → Option (ρ × Cd)) → (Int → Int → Int → Cd → Option (ρ × Cd))} {n : Nat} {f : (Int → Int → Int → Cd → Option (ρ × Cd)) → Option (ρ × Cd)} (hz : ∀ (x0 : Int) (x1 : Int) (x2 : Int) (x3 : Cd), Gr C0 x3 → GO C0 (z x0 x1 x2 x3)) (hs : ∀ L : Int → Int → Int → Cd → Option (ρ × Cd), (∀ (x0 : Int) (x1 : Int) (x2 : Int) (x3 : Cd), Gr C0 x3 → GO C0 (L x0 x1 x2 x3)) → ∀ (x0 : Int) (x1 : Int) (x2 : Int) (x3 : Cd), Gr C0 x3 → GO C0 (body L x0 x1 x2 x3)) (K : ∀ J : Int → Int → Int → Cd → Option (ρ × Cd), (∀ (x0 : Int) (x1 : Int) (x2 : Int) (x3 : Cd), Gr C0 x3 → GO C0 (J x0 x1 x2 x3)) → GO C0 (f J)) : GO C0 (bnd (lpn z body n) f) := K _ (lpn_rule (P := fun _ L => ∀ (x0 : Int) (x1 : Int) (x2 : Int) (x3 : Cd), Gr C0 x3 → GO C0 (L x0 x1 x2 x3)) hz (fun _ L h => hs L h) n)
theorem G_J_OC {a : Option Nat → Cd → Option (ρ × Cd)} {f : (Option Nat → Cd → Option (ρ × Cd)) → Option (ρ × Cd)} (h : ∀ (x0 : Option Nat) (x1 : Cd), Gr C0 x1 → GO C0 (a x0 x1)) (K : ∀ J : Option Nat → Cd → Option (ρ × Cd), (∀ (x0 : Option Nat) (x1 : Cd), Gr C0 x1 → GO C0 (J x0 x1)) → GO C0 (f J)) : GO C0 (bnd a f) := K a h
theorem G_L_OC {z : Option Nat → Cd → Option (ρ × Cd)} {body : (Option Nat → Cd → Option (ρ × Cd)) → (Option Nat → Cd → Option (ρ × Cd))} {n : Nat} {f : (Option Nat → Cd → Option (ρ × Cd)) → Option (ρ × Cd)} (hz : ∀ (x0 : Option Nat) (x1 : Cd), Gr C0 x1 → GO C0 (z x0 x1)) (hs : ∀ L : Option Nat → Cd → Option (ρ × Cd), (∀ (x0 : Option Nat) (x1 : Cd), Gr C0 x1 → GO C0 (L x0 x1)) → ∀ (x0 : Option Nat) (x1 : Cd), Gr C0 x1 → GO C0 (body L x0 x1)) (K : ∀ J : Option Nat → Cd → Option (ρ × Cd), (∀ (x0 : Option Nat) (x1 : Cd), Gr C0 x1 → GO C0 (J x0 x1)) → GO C0 (f J)) : GO C0 (bnd (lpn z body n) f) := K _ (lpn_rule (P := fun _ L => ∀ (x0 : Option Nat) (x1 : Cd), Gr C0 x1 → GO C0 (L x0 x1)) hz (fun _ L h => hs L h) n)
theorem G_J_OIC {a : Option Nat → Int → Cd → Option (ρ × Cd)} {f : (Option Nat → Int → Cd → Option (ρ × Cd)) → Option (ρ × Cd)} (h : ∀ (x0 : Option Nat) (x1 : Int) (x2 : Cd), Gr C0 x2 → GO C0 (a x0 x1 x2)) (K : ∀ J : Option Nat → Int → Cd → Option (ρ × Cd), (∀ (x0 : Option Nat) (x1 : Int) (x2 : Cd), Gr C0 x2 → GO C0 (J x0 x1 x2)) → GO C0 (f J)) : GO C0 (bnd a f) := K a h
theorem G_L_OIC {z : Option Nat → Int → Cd → Option (ρ × Cd)} {body : (Option Nat → Int → Cd → Option (ρ × Cd)) → (Option Nat → Int → Cd → Option (ρ × Cd))} {n : Nat} {f : (Option Nat → Int → Cd → Option (ρ × Cd)) → Option (ρ × Cd)} (hz : ∀ (x0 : Option Nat) (x1 : Int) (x2 : Cd), Gr C0 x2 → GO C0 (z x0 x1 x2)) (hs : ∀ L : Option Nat → Int → Cd → Option (ρ × Cd), (∀ (x0 : Option Nat) (x1 : Int) (x2 : Cd), Gr C0 x2 → GO C0 (L x0 x1 x2)) → ∀ (x0 : Option Nat) (x1 : Int) (x2 : Cd), Gr C0 x2 → GO C0 (body L x0 x1 x2)) (K : ∀ J : Option Nat → Int → Cd → Option (ρ × Cd), (∀ (x0 : Option Nat) (x1 : Int) (x2 : Cd), Gr C0 x2 → GO C0 (J x0 x1 x2)) → GO C0 (f J)) : GO C0 (bnd (lpn z body n) f) := K _ (lpn_rule (P := fun _ L => ∀ (x0 : Option Nat) (x1 : Int) (x2 : Cd), Gr C0 x2 → GO C0 (L x0 x1 x2)) hz (fun _ L h => hs L h) n)
set_option maxHeartbeats 16000000 in
set_option maxRecDepth 100000 in
theorem gr_fX0_init (a0 : Nat) (a1 : Int) (a2 : Option Nat) (a3 : Option Nat) (C : Cd) : GO C (fX0_init a0 a1 a2 a3 C) := by
  unfold fX0_init
  have hC0 : Gr C C := Gr.rf C
  repeat' (with_reducible first
    | exact G_none
    | exact G_some (by assumption)
    | exact G_some (Gr.sB (by assumption))
    | refine G_ite ?_ ?_
    | refine G_bndC (by first | assumption | exact Gr.sI (by assumption) _ _ _ | exact Gr.sR (by assumption) _ _ _ | exact Gr.sE (by assumption) _ _ _ | exact Gr.sP (by assumption) _ _ _ | exact Gr.sN (by assumption) _ | exact Gr.sA (by assumption) _ _ | exact Gr.sB (by assumption) | exact Gr.sS (by assumption) _ _ _ _) (fun _ _ => ?_)
    | refine G_drf (fun _ => ?_)
    | refine G_bndO (fun _ => ?_)
    | refine G_bndI (fun _ => ?_)
    | refine G_bndN (fun _ => ?_)
    | refine G_opt ?_ (fun _ => ?_)
    | exact G_retZ (by assumption)
    | exact G_retZX (by assumption)
    | solve_by_elim (maxDepth := 3))
set_option maxHeartbeats 16000000 in
set_option maxRecDepth 100000 in
theorem gr_fX1_combined (a0 : Nat) (a1 : Int) (a2 : Int) (a3 : Int) (C : Cd) : GO C (fX1_combined a0 a1 a2 a3 C) := by
  unfold fX1_combined
  have hC0 : Gr C C := Gr.rf C
  repeat' (with_reducible first
    | exact G_none
    | exact G_some (by assumption)
    | exact G_some (Gr.sB (by assumption))
    | refine G_ite ?_ ?_
    | refine G_bndC (by first | assumption | exact Gr.sI (by assumption) _ _ _ | exact Gr.sR (by assumption) _ _ _ | exact Gr.sE (by assumption) _ _ _ | exact Gr.sP (by assumption) _ _ _ | exact Gr.sN (by assumption) _ | exact Gr.sA (by assumption) _ _ | exact Gr.sB (by assumption) | exact Gr.sS (by assumption) _ _ _ _) (fun _ _ => ?_)
    | refine G_drf (fun _ => ?_)
    | refine G_bndO (fun _ => ?_)
    | refine G_bndI (fun _ => ?_)
    | refine G_bndN (fun _ => ?_)
    | refine G_opt ?_ (fun _ => ?_)
    | exact G_retZ (by assumption)
    | exact G_retZX (by assumption)
    | refine G_L_IC (fun _ _ _ => ?_) (fun _ _ _ _ _ => ?_) (fun _ _ => ?_)
    | refine G_J_IC (fun _ _ _ => ?_) (fun _ _ => ?_)
    | solve_by_elim (maxDepth := 3))
set_option maxHeartbeats 16000000 in
set_option maxRecDepth 100000 in
theorem gr_fX11_has (a0 : Int) (a1 : Int) (C : Cd) : GO C (fX11_has a0 a1 C) := by
  unfold fX11_has
  have hC0 : Gr C C := Gr.rf C
  repeat' (with_reducible first
    | exact G_none
    | exact G_some (by assumption)
    | exact G_some (Gr.sB (by assumption))
    | refine G_ite ?_ ?_
    | refine G_bndC (by first | assumption | exact Gr.sI (by assumption) _ _ _ | exact Gr.sR (by assumption) _ _ _ | exact Gr.sE (by assumption) _ _ _ | exact Gr.sP (by assumption) _ _ _ | exact Gr.sN (by assumption) _ | exact Gr.sA (by assumption) _ _ | exact Gr.sB (by assumption) | exact Gr.sS (by assumption) _ _ _ _) (fun _ _ => ?_)
    | refine G_drf (fun _ => ?_)
    | refine G_bndO (fun _ => ?_)
    | refine G_bndI (fun _ => ?_)
    | refine G_bndN (fun _ => ?_)
    | refine G_opt ?_ (fun _ => ?_)
    | exact G_retZ (by assumption)
    | exact G_retZX (by assumption)
    | refine G_L_IC (fun _ _ _ => ?_) (fun _ _ _ _ _ => ?_) (fun _ _ => ?_)
    | refine G_J_IC (fun _ _ _ => ?_) (fun _ _ => ?_)
    | solve_by_elim (maxDepth := 3))
set_option maxHeartbeats 16000000 in
set_option maxRecDepth 100000 in
theorem gr_fX11_membersOf (a0 : Option Nat) (a1 : Int) (C : Cd) : GO C (fX11_membersOf a0 a1 C) := by
  unfold fX11_membersOf
  have hC0 : Gr C C := Gr.rf C
  repeat' (with_reducible first
    | exact G_none
    | exact G_some (by assumption)
    | exact G_some (Gr.sB (by assumption))
    | refine G_ite ?_ ?_
    | refine G_bndC (by first | assumption | exact Gr.sI (by assumption) _ _ _ | exact Gr.sR (by assumption) _ _ _ | exact Gr.sE (by assumption) _ _ _ | exact Gr.sP (by assumption) _ _ _ | exact Gr.sN (by assumption) _ | exact Gr.sA (by assumption) _ _ | exact Gr.sB (by assumption) | exact Gr.sS (by assumption) _ _ _ _) (fun _ _ => ?_)
    | refine G_drf (fun _ => ?_)
    | refine G_bndO (fun _ => ?_)
    | refine G_bndI (fun _ => ?_)
    | refine G_bndN (fun _ => ?_)
    | refine G_opt ?_ (fun _ => ?_)
    | exact G_retZ (by assumption)
    | exact G_retZX (by assumption)
    | refine G_L_IC (fun _ _ _ => ?_) (fun _ _ _ _ _ => ?_) (fun _ _ => ?_)
    | refine G_J_IC (fun _ _ _ => ?_) (fun _ _ => ?_)
    | refine G_L_IIC (fun _ _ _ _ => ?_) (fun _ _ _ _ _ _ => ?_) (fun _ _ => ?_)
    | refine G_J_IIC (fun _ _ _ _ => ?_) (fun _ _ => ?_)
    | refine G_cal (gr_fX11_has _ _ _) (by assumption) (fun _ _ _ => ?_)
    | refine G_calx (gr_fX11_has _ _ _) (by assumption) (fun _ _ _ => ?_)
    | exact gr_fX11_has _ _ _
    | solve_by_elim (maxDepth := 3))
set_option maxHeartbeats 16000000 in
set_option maxRecDepth 100000 in
theorem gr_fX1_countedMembers (a0 : Nat) (a1 : Int) (C : Cd) : GO C (fX1_countedMembers a0 a1 C) := by
  unfold fX1_countedMembers
  have hC0 : Gr C C := Gr.rf C
  repeat' (with_reducible first
    | exact G_none
    | exact G_some (by assumption)
    | exact G_some (Gr.sB (by assumption))
    | refine G_ite ?_ ?_
    | refine G_bndC (by first | assumption | exact Gr.sI (by assumption) _ _ _ | exact Gr.sR (by assumption) _ _ _ | exact Gr.sE (by assumption) _ _ _ | exact Gr.sP (by assumption) _ _ _ | exact Gr.sN (by assumption) _ | exact Gr.sA (by assumption) _ _ | exact Gr.sB (by assumption) | exact Gr.sS (by assumption) _ _ _ _) (fun _ _ => ?_)
    | refine G_drf (fun _ => ?_)
    | refine G_bndO (fun _ => ?_)
    | refine G_bndI (fun _ => ?_)
    | refine G_bndN (fun _ => ?_)
    | refine G_opt ?_ (fun _ => ?_)
    | exact G_retZ (by assumption)
    | exact G_retZX (by assumption)
    | refine G_L_C (fun _ _ => ?_) (fun _ _ _ _ => ?_) (fun _ _ => ?_)
    | refine G_J_C (fun _ _ => ?_) (fun _ _ => ?_)
    | refine G_cal (gr_fX11_membersOf _ _ _) (by assumption) (fun _ _ _ => ?_)
    | refine G_calx (gr_fX11_membersOf _ _ _) (by assumption) (fun _ _ _ => ?_)
    | exact gr_fX11_membersOf _ _ _
    | solve_by_elim (maxDepth := 3))
set_option maxHeartbeats 16000000 in
set_option maxRecDepth 100000 in
theorem gr_fX5_clear (a0 : Nat) (C : Cd) : GO C (fX5_clear a0 C) := by
  unfold fX5_clear
  have hC0 : Gr C C := Gr.rf C
  repeat' (with_reducible first
    | exact G_none
    | exact G_some (by assumption)
    | exact G_some (Gr.sB (by assumption))
    | refine G_ite ?_ ?_
    | refine G_bndC (by first | assumption | exact Gr.sI (by assumption) _ _ _ | exact Gr.sR (by assumption) _ _ _ | exact Gr.sE (by assumption) _ _ _ | exact Gr.sP (by assumption) _ _ _ | exact Gr.sN (by assumption) _ | exact Gr.sA (by assumption) _ _ | exact Gr.sB (by assumption) | exact Gr.sS (by assumption) _ _ _ _) (fun _ _ => ?_)
    | refine G_drf (fun _ => ?_)
    | refine G_bndO (fun _ => ?_)
    | refine G_bndI (fun _ => ?_)
    | refine G_bndN (fun _ => ?_)
    | refine G_opt ?_ (fun _ => ?_)
    | exact G_retZ (by assumption)
    | exact G_retZX (by assumption)
    | solve_by_elim (maxDepth := 3))
set_option maxHeartbeats 16000000 in
set_option maxRecDepth 100000 in
theorem gr_fX4_clear (a0 : Nat) (C : Cd) : GO C (fX4_clear a0 C) := by
  unfold fX4_clear
  have hC0 : Gr C C := Gr.rf C
  repeat' (with_reducible first
    | exact G_none
    | exact G_some (by assumption)
    | exact G_some (Gr.sB (by assumption))
    | refine G_ite ?_ ?_
    | refine G_bndC (by first | assumption | exact Gr.sI (by assumption) _ _ _ | exact Gr.sR (by assumption) _ _ _ | exact Gr.sE (by assumption) _ _ _ | exact Gr.sP (by assumption) _ _ _ | exact Gr.sN (by assumption) _ | exact Gr.sA (by assumption) _ _ | exact Gr.sB (by assumption) | exact Gr.sS (by assumption) _ _ _ _) (fun _ _ => ?_)
    | refine G_drf (fun _ => ?_)
    | refine G_bndO (fun _ => ?_)
    | refine G_bndI (fun _ => ?_)
    | refine G_bndN (fun _ => ?_)
    | refine G_opt ?_ (fun _ => ?_)
    | exact G_retZ (by assumption)
    | exact G_retZX (by assumption)
    | refine G_cal (gr_fX5_clear _ _) (by assumption) (fun _ _ _ => ?_)
    | refine G_calx (gr_fX5_clear _ _) (by assumption) (fun _ _ _ => ?_)
    | exact gr_fX5_clear _ _
    | solve_by_elim (maxDepth := 3))
set_option maxHeartbeats 16000000 in
set_option maxRecDepth 100000 in
theorem gr_fX2_begin (a0 : Nat) (a1 : Int) (a2 : Option Nat) (a3 : Option Nat) (C : Cd) : GO C (fX2_begin a0 a1 a2 a3 C) := by
  unfold fX2_begin
  have hC0 : Gr C C := Gr.rf C
  repeat' (with_reducible first
    | exact G_none
    | exact G_some (by assumption)
    | exact G_some (Gr.sB (by assumption))
    | refine G_ite ?_ ?_
    | refine G_bndC (by first | assumption | exact Gr.sI (by assumption) _ _ _ | exact Gr.sR (by assumption) _ _ _ | exact Gr.sE (by assumption) _ _ _ | exact Gr.sP (by assumption) _ _ _ | exact Gr.sN (by assumption) _ | exact Gr.sA (by assumption) _ _ | exact Gr.sB (by assumption) | exact Gr.sS (by assumption) _ _ _ _) (fun _ _ => ?_)
    | refine G_drf (fun _ => ?_)
    | refine G_bndO (fun _ => ?_)
    | refine G_bndI (fun _ => ?_)
    | refine G_bndN (fun _ => ?_)
    | refine G_opt ?_ (fun _ => ?_)
    | exact G_retZ (by assumption)
    | exact G_retZX (by assumption)
    | refine G_L_IC (fun _ _ _ => ?_) (fun _ _ _ _ _ => ?_) (fun _ _ => ?_)
    | refine G_J_IC (fun _ _ _ => ?_) (fun _ _ => ?_)
    | solve_by_elim (maxDepth := 3))
set_option maxHeartbeats 16000000 in
set_option maxRecDepth 100000 in
theorem gr_fX1_openRun (a0 : Nat) (a1 : Option Nat) (a2 : Int) (a3 : Int) (a4 : Option Nat) (C : Cd) : GO C (fX1_openRun a0 a1 a2 a3 a4 C) := by
  unfold fX1_openRun
  have hC0 : Gr C C := Gr.rf C
  repeat' (with_reducible first
    | exact G_none
    | exact G_some (by assumption)
    | exact G_some (Gr.sB (by assumption))
    | refine G_ite ?_ ?_
    | refine G_bndC (by first | assumption | exact Gr.sI (by assumption) _ _ _ | exact Gr.sR (by assumption) _ _ _ | exact Gr.sE (by assumption) _ _ _ | exact Gr.sP (by assumption) _ _ _ | exact Gr.sN (by assumption) _ | exact Gr.sA (by assumption) _ _ | exact Gr.sB (by assumption) | exact Gr.sS (by assumption) _ _ _ _) (fun _ _ => ?_)
    | refine G_drf (fun _ => ?_)
    | refine G_bndO (fun _ => ?_)
    | refine G_bndI (fun _ => ?_)
    | refine G_bndN (fun _ => ?_)
    | refine G_opt ?_ (fun _ => ?_)
    | exact G_retZ (by assumption)
    | exact G_retZX (by assumption)
    | refine G_L_C (fun _ _ => ?_) (fun _ _ _ _ => ?_) (fun _ _ => ?_)
    | refine G_J_C (fun _ _ => ?_) (fun _ _ => ?_)
    | solve_by_elim (maxDepth := 3))
set_option maxHeartbeats 16000000 in
set_option maxRecDepth 100000 in
theorem gr_fX1_openFrame (a0 : Nat) (a1 : Int) (a2 : Option Nat) (a3 : Option Nat) (a4 : Option Nat) (C : Cd) : GO C (fX1_openFrame a0 a1 a2 a3 a4 C) := by
  unfold fX1_openFrame
  have hC0 : Gr C C := Gr.rf C
  repeat' (with_reducible first
    | exact G_none
    | exact G_some (by assumption)
    | exact G_some (Gr.sB (by assumption))
    | refine G_ite ?_ ?_
    | refine G_bndC (by first | assumption | exact Gr.sI (by assumption) _ _ _ | exact Gr.sR (by assumption) _ _ _ | exact Gr.sE (by assumption) _ _ _ | exact Gr.sP (by assumption) _ _ _ | exact Gr.sN (by assumption) _ | exact Gr.sA (by assumption) _ _ | exact Gr.sB (by assumption) | exact Gr.sS (by assumption) _ _ _ _) (fun _ _ => ?_)
    | refine G_drf (fun _ => ?_)
    | refine G_bndO (fun _ => ?_)
    | refine G_bndI (fun _ => ?_)
    | refine G_bndN (fun _ => ?_)
    | refine G_opt ?_ (fun _ => ?_)
    | exact G_retZ (by assumption)
    | exact G_retZX (by assumption)
    | refine G_L_C (fun _ _ => ?_) (fun _ _ _ _ => ?_) (fun _ _ => ?_)
    | refine G_J_C (fun _ _ => ?_) (fun _ _ => ?_)
    | refine G_cal (gr_fX2_begin _ _ _ _ _) (by assumption) (fun _ _ _ => ?_)
    | refine G_calx (gr_fX2_begin _ _ _ _ _) (by assumption) (fun _ _ _ => ?_)
    | exact gr_fX2_begin _ _ _ _ _
    | refine G_cal (gr_fX1_openRun _ _ _ _ _ _) (by assumption) (fun _ _ _ => ?_)
    | refine G_calx (gr_fX1_openRun _ _ _ _ _ _) (by assumption) (fun _ _ _ => ?_)
    | exact gr_fX1_openRun _ _ _ _ _ _
    | solve_by_elim (maxDepth := 3))
set_option maxHeartbeats 16000000 in
set_option maxRecDepth 100000 in
theorem gr_fX8_valueAt (a0 : Nat) (a1 : Int) (C : Cd) : GO C (fX8_valueAt a0 a1 C) := by
  unfold fX8_valueAt
  have hC0 : Gr C C := Gr.rf C
  repeat' (with_reducible first
    | exact G_none
    | exact G_some (by assumption)
    | exact G_some (Gr.sB (by assumption))
    | refine G_ite ?_ ?_
    | refine G_bndC (by first | assumption | exact Gr.sI (by assumption) _ _ _ | exact Gr.sR (by assumption) _ _ _ | exact Gr.sE (by assumption) _ _ _ | exact Gr.sP (by assumption) _ _ _ | exact Gr.sN (by assumption) _ | exact Gr.sA (by assumption) _ _ | exact Gr.sB (by assumption) | exact Gr.sS (by assumption) _ _ _ _) (fun _ _ => ?_)
    | refine G_drf (fun _ => ?_)
    | refine G_bndO (fun _ => ?_)
    | refine G_bndI (fun _ => ?_)
    | refine G_bndN (fun _ => ?_)
    | refine G_opt ?_ (fun _ => ?_)
    | exact G_retZ (by assumption)
    | exact G_retZX (by assumption)
    | refine G_L_C (fun _ _ => ?_) (fun _ _ _ _ => ?_) (fun _ _ => ?_)
    | refine G_J_C (fun _ _ => ?_) (fun _ _ => ?_)
    | refine G_L_IC (fun _ _ _ => ?_) (fun _ _ _ _ _ => ?_) (fun _ _ => ?_)
    | refine G_J_IC (fun _ _ _ => ?_) (fun _ _ => ?_)
    | solve_by_elim (maxDepth := 3))
set_option maxHeartbeats 16000000 in
set_option maxRecDepth 100000 in
theorem gr_fX8_kindAt (a0 : Nat) (a1 : Int) (C : Cd) : GO C (fX8_kindAt a0 a1 C) := by
  unfold fX8_kindAt
  have hC0 : Gr C C := Gr.rf C
  repeat' (with_reducible first
    | exact G_none
    | exact G_some (by assumption)
    | exact G_some (Gr.sB (by assumption))
    | refine G_ite ?_ ?_
    | refine G_bndC (by first | assumption | exact Gr.sI (by assumption) _ _ _ | exact Gr.sR (by assumption) _ _ _ | exact Gr.sE (by assumption) _ _ _ | exact Gr.sP (by assumption) _ _ _ | exact Gr.sN (by assumption) _ | exact Gr.sA (by assumption) _ _ | exact Gr.sB (by assumption) | exact Gr.sS (by assumption) _ _ _ _) (fun _ _ => ?_)
    | refine G_drf (fun _ => ?_)
    | refine G_bndO (fun _ => ?_)
    | refine G_bndI (fun _ => ?_)
    | refine G_bndN (fun _ => ?_)
    | refine G_opt ?_ (fun _ => ?_)
    | exact G_retZ (by assumption)
    | exact G_retZX (by assumption)
    | refine G_L_C (fun _ _ => ?_) (fun _ _ _ _ => ?_) (fun _ _ => ?_)
    | refine G_J_C (fun _ _ => ?_) (fun _ _ => ?_)
    | refine G_L_IC (fun _ _ _ => ?_) (fun _ _ _ _ _ => ?_) (fun _ _ => ?_)
    | refine G_J_IC (fun _ _ _ => ?_) (fun _ _ => ?_)
    | solve_by_elim (maxDepth := 3))
set_option maxHeartbeats 16000000 in
set_option maxRecDepth 100000 in
theorem gr_fX5_add (a0 : Nat) (a1 : Int) (C : Cd) : GO C (fX5_add a0 a1 C) := by
  unfold fX5_add
  have hC0 : Gr C C := Gr.rf C
  repeat' (with_reducible first
    | exact G_none
    | exact G_some (by assumption)
    | exact G_some (Gr.sB (by assumption))
    | refine G_ite ?_ ?_
    | refine G_bndC (by first | assumption | exact Gr.sI (by assumption) _ _ _ | exact Gr.sR (by assumption) _ _ _ | exact Gr.sE (by assumption) _ _ _ | exact Gr.sP (by assumption) _ _ _ | exact Gr.sN (by assumption) _ | exact Gr.sA (by assumption) _ _ | exact Gr.sB (by assumption) | exact Gr.sS (by assumption) _ _ _ _) (fun _ _ => ?_)
    | refine G_drf (fun _ => ?_)
    | refine G_bndO (fun _ => ?_)
    | refine G_bndI (fun _ => ?_)
    | refine G_bndN (fun _ => ?_)
    | refine G_opt ?_ (fun _ => ?_)
    | exact G_retZ (by assumption)
    | exact G_retZX (by assumption)
    | refine G_L_C (fun _ _ => ?_) (fun _ _ _ _ => ?_) (fun _ _ => ?_)
    | refine G_J_C (fun _ _ => ?_) (fun _ _ => ?_)
    | refine G_L_IC (fun _ _ _ => ?_) (fun _ _ _ _ _ => ?_) (fun _ _ => ?_)
    | refine G_J_IC (fun _ _ _ => ?_) (fun _ _ => ?_)
    | solve_by_elim (maxDepth := 3))
set_option maxHeartbeats 16000000 in
set_option maxRecDepth 100000 in
theorem gr_fX8_endAt (a0 : Nat) (a1 : Int) (C : Cd) : GO C (fX8_endAt a0 a1 C) := by
  unfold fX8_endAt
  have hC0 : Gr C C := Gr.rf C
  repeat' (with_reducible first
    | exact G_none
    | exact G_some (by assumption)
    | exact G_some (Gr.sB (by assumption))
    | refine G_ite ?_ ?_
    | refine G_bndC (by first | assumption | exact Gr.sI (by assumption) _ _ _ | exact Gr.sR (by assumption) _ _ _ | exact Gr.sE (by assumption) _ _ _ | exact Gr.sP (by assumption) _ _ _ | exact Gr.sN (by assumption) _ | exact Gr.sA (by assumption) _ _ | exact Gr.sB (by assumption) | exact Gr.sS (by assumption) _ _ _ _) (fun _ _ => ?_)
    | refine G_drf (fun _ => ?_)
    | refine G_bndO (fun _ => ?_)
    | refine G_bndI (fun _ => ?_)
    | refine G_bndN (fun _ => ?_)
    | refine G_opt ?_ (fun _ => ?_)
    | exact G_retZ (by assumption)
    | exact G_retZX (by assumption)
    | refine G_L_C (fun _ _ => ?_) (fun _ _ _ _ => ?_) (fun _ _ => ?_)
    | refine G_J_C (fun _ _ => ?_) (fun _ _ => ?_)
    | refine G_L_IC (fun _ _ _ => ?_) (fun _ _ _ _ _ => ?_) (fun _ _ => ?_)
    | refine G_J_IC (fun _ _ _ => ?_) (fun _ _ => ?_)
    | solve_by_elim (maxDepth := 3))
set_option maxHeartbeats 16000000 in
set_option maxRecDepth 100000 in
theorem gr_fX2_argumentAt (a0 : Nat) (a1 : Int) (C : Cd) : GO C (fX2_argumentAt a0 a1 C) := by
  unfold fX2_argumentAt
  have hC0 : Gr C C := Gr.rf C
  repeat' (with_reducible first
    | exact G_none
    | exact G_some (by assumption)
    | exact G_some (Gr.sB (by assumption))
    | refine G_ite ?_ ?_
    | refine G_bndC (by first | assumption | exact Gr.sI (by assumption) _ _ _ | exact Gr.sR (by assumption) _ _ _ | exact Gr.sE (by assumption) _ _ _ | exact Gr.sP (by assumption) _ _ _ | exact Gr.sN (by assumption) _ | exact Gr.sA (by assumption) _ _ | exact Gr.sB (by assumption) | exact Gr.sS (by assumption) _ _ _ _) (fun _ _ => ?_)
    | refine G_drf (fun _ => ?_)
    | refine G_bndO (fun _ => ?_)
    | refine G_bndI (fun _ => ?_)
    | refine G_bndN (fun _ => ?_)
    | refine G_opt ?_ (fun _ => ?_)
    | exact G_retZ (by assumption)
    | exact G_retZX (by assumption)
    | refine G_L_C (fun _ _ => ?_) (fun _ _ _ _ => ?_) (fun _ _ => ?_)
    | refine G_J_C (fun _ _ => ?_) (fun _ _ => ?_)
    | refine G_L_IC (fun _ _ _ => ?_) (fun _ _ _ _ _ => ?_) (fun _ _ => ?_)
    | refine G_J_IC (fun _ _ _ => ?_) (fun _ _ => ?_)
    | solve_by_elim (maxDepth := 3))
set_option maxHeartbeats 16000000 in
set_option maxRecDepth 100000 in
theorem gr_fX2_rowAt (a0 : Nat) (a1 : Int) (C : Cd) : GO C (fX2_rowAt a0 a1 C) := by
  unfold fX2_rowAt
  have hC0 : Gr C C := Gr.rf C
  repeat' (with_reducible first
    | exact G_none
    | exact G_some (by assumption)
    | exact G_some (Gr.sB (by assumption))
    | refine G_ite ?_ ?_
    | refine G_bndC (by first | assumption | exact Gr.sI (by assumption) _ _ _ | exact Gr.sR (by assumption) _ _ _ | exact Gr.sE (by assumption) _ _ _ | exact Gr.sP (by assumption) _ _ _ | exact Gr.sN (by assumption) _ | exact Gr.sA (by assumption) _ _ | exact Gr.sB (by assumption) | exact Gr.sS (by assumption) _ _ _ _) (fun _ _ => ?_)
    | refine G_drf (fun _ => ?_)
    | refine G_bndO (fun _ => ?_)
    | refine G_bndI (fun _ => ?_)
    | refine G_bndN (fun _ => ?_)
    | refine G_opt ?_ (fun _ => ?_)
    | exact G_retZ (by assumption)
    | exact G_retZX (by assumption)
    | refine G_L_C (fun _ _ => ?_) (fun _ _ _ _ => ?_) (fun _ _ => ?_)
    | refine G_J_C (fun _ _ => ?_) (fun _ _ => ?_)
    | refine G_L_OC (fun _ _ _ => ?_) (fun _ _ _ _ _ => ?_) (fun _ _ => ?_)
    | refine G_J_OC (fun _ _ _ => ?_) (fun _ _ => ?_)
    | solve_by_elim (maxDepth := 3))
set_option maxHeartbeats 16000000 in
set_option maxRecDepth 100000 in
theorem gr_fX5_init (a0 : Nat) (C : Cd) : GO C (fX5_init a0 C) := by
  unfold fX5_init
  have hC0 : Gr C C := Gr.rf C
  repeat' (with_reducible first
    | exact G_none
    | exact G_some (by assumption)
    | exact G_some (Gr.sB (by assumption))
    | refine G_ite ?_ ?_
    | refine G_bndC (by first | assumption | exact Gr.sI (by assumption) _ _ _ | exact Gr.sR (by assumption) _ _ _ | exact Gr.sE (by assumption) _ _ _ | exact Gr.sP (by assumption) _ _ _ | exact Gr.sN (by assumption) _ | exact Gr.sA (by assumption) _ _ | exact Gr.sB (by assumption) | exact Gr.sS (by assumption) _ _ _ _) (fun _ _ => ?_)
    | refine G_drf (fun _ => ?_)
    | refine G_bndO (fun _ => ?_)
    | refine G_bndI (fun _ => ?_)
    | refine G_bndN (fun _ => ?_)
    | refine G_opt ?_ (fun _ => ?_)
    | exact G_retZ (by assumption)
    | exact G_retZX (by assumption)
    | solve_by_elim (maxDepth := 3))
set_option maxHeartbeats 16000000 in
set_option maxRecDepth 100000 in
theorem gr_fX1_openPart (a0 : Nat) (a1 : Option Nat) (a2 : Int) (C : Cd) : GO C (fX1_openPart a0 a1 a2 C) := by
  unfold fX1_openPart
  have hC0 : Gr C C := Gr.rf C
  repeat' (with_reducible first
    | exact G_none
    | exact G_some (by assumption)
    | exact G_some (Gr.sB (by assumption))
    | refine G_ite ?_ ?_
    | refine G_bndC (by first | assumption | exact Gr.sI (by assumption) _ _ _ | exact Gr.sR (by assumption) _ _ _ | exact Gr.sE (by assumption) _ _ _ | exact Gr.sP (by assumption) _ _ _ | exact Gr.sN (by assumption) _ | exact Gr.sA (by assumption) _ _ | exact Gr.sB (by assumption) | exact Gr.sS (by assumption) _ _ _ _) (fun _ _ => ?_)
    | refine G_drf (fun _ => ?_)
    | refine G_bndO (fun _ => ?_)
    | refine G_bndI (fun _ => ?_)
    | refine G_bndN (fun _ => ?_)
    | refine G_opt ?_ (fun _ => ?_)
    | exact G_retZ (by assumption)
    | exact G_retZX (by assumption)
    | refine G_L_C (fun _ _ => ?_) (fun _ _ _ _ => ?_) (fun _ _ => ?_)
    | refine G_J_C (fun _ _ => ?_) (fun _ _ => ?_)
    | refine G_L_OC (fun _ _ _ => ?_) (fun _ _ _ _ _ => ?_) (fun _ _ => ?_)
    | refine G_J_OC (fun _ _ _ => ?_) (fun _ _ => ?_)
    | refine G_cal (gr_fX5_clear _ _) (by assumption) (fun _ _ _ => ?_)
    | refine G_calx (gr_fX5_clear _ _) (by assumption) (fun _ _ _ => ?_)
    | exact gr_fX5_clear _ _
    | refine G_cal (gr_fX8_endAt _ _ _) (by assumption) (fun _ _ _ => ?_)
    | refine G_calx (gr_fX8_endAt _ _ _) (by assumption) (fun _ _ _ => ?_)
    | exact gr_fX8_endAt _ _ _
    | refine G_cal (gr_fX1_openRun _ _ _ _ _ _) (by assumption) (fun _ _ _ => ?_)
    | refine G_calx (gr_fX1_openRun _ _ _ _ _ _) (by assumption) (fun _ _ _ => ?_)
    | exact gr_fX1_openRun _ _ _ _ _ _
    | refine G_cal (gr_fX5_init _ _) (by assumption) (fun _ _ _ => ?_)
    | refine G_calx (gr_fX5_init _ _) (by assumption) (fun _ _ _ => ?_)
    | exact gr_fX5_init _ _
    | solve_by_elim (maxDepth := 3))
set_option maxHeartbeats 16000000 in
set_option maxRecDepth 100000 in
theorem gr_fX5_at (a0 : Nat) (a1 : Int) (C : Cd) : GO C (fX5_at a0 a1 C) := by
  unfold fX5_at
  have hC0 : Gr C C := Gr.rf C
  repeat' (with_reducible first
    | exact G_none
    | exact G_some (by assumption)
    | exact G_some (Gr.sB (by assumption))
    | refine G_ite ?_ ?_
    | refine G_bndC (by first | assumption | exact Gr.sI (by assumption) _ _ _ | exact Gr.sR (by assumption) _ _ _ | exact Gr.sE (by assumption) _ _ _ | exact Gr.sP (by assumption) _ _ _ | exact Gr.sN (by assumption) _ | exact Gr.sA (by assumption) _ _ | exact Gr.sB (by assumption) | exact Gr.sS (by assumption) _ _ _ _) (fun _ _ => ?_)
    | refine G_drf (fun _ => ?_)
    | refine G_bndO (fun _ => ?_)
    | refine G_bndI (fun _ => ?_)
    | refine G_bndN (fun _ => ?_)
    | refine G_opt ?_ (fun _ => ?_)
    | exact G_retZ (by assumption)
    | exact G_retZX (by assumption)
    | refine G_L_C (fun _ _ => ?_) (fun _ _ _ _ => ?_) (fun _ _ => ?_)
    | refine G_J_C (fun _ _ => ?_) (fun _ _ => ?_)
    | refine G_L_IC (fun _ _ _ => ?_) (fun _ _ _ _ _ => ?_) (fun _ _ => ?_)
    | refine G_J_IC (fun _ _ _ => ?_) (fun _ _ => ?_)
    | solve_by_elim (maxDepth := 3))
set_option maxHeartbeats 16000000 in
set_option maxRecDepth 100000 in
theorem gr_fX5_addAll (a0 : Nat) (a1 : Option Nat) (C : Cd) : GO C (fX5_addAll a0 a1 C) := by
  unfold fX5_addAll
  have hC0 : Gr C C := Gr.rf C
  repeat' (with_reducible first
    | exact G_none
    | exact G_some (by assumption)
    | exact G_some (Gr.sB (by assumption))
    | refine G_ite ?_ ?_
    | refine G_bndC (by first | assumption | exact Gr.sI (by assumption) _ _ _ | exact Gr.sR (by assumption) _ _ _ | exact Gr.sE (by assumption) _ _ _ | exact Gr.sP (by assumption) _ _ _ | exact Gr.sN (by assumption) _ | exact Gr.sA (by assumption) _ _ | exact Gr.sB (by assumption) | exact Gr.sS (by assumption) _ _ _ _) (fun _ _ => ?_)
    | refine G_drf (fun _ => ?_)
    | refine G_bndO (fun _ => ?_)
    | refine G_bndI (fun _ => ?_)
    | refine G_bndN (fun _ => ?_)
    | refine G_opt ?_ (fun _ => ?_)
    | exact G_retZ (by assumption)
    | exact G_retZX (by assumption)
    | refine G_L_IC (fun _ _ _ => ?_) (fun _ _ _ _ _ => ?_) (fun _ _ => ?_)
    | refine G_J_IC (fun _ _ _ => ?_) (fun _ _ => ?_)
    | refine G_cal (gr_fX5_at _ _ _) (by assumption) (fun _ _ _ => ?_)
    | refine G_calx (gr_fX5_at _ _ _) (by assumption) (fun _ _ _ => ?_)
    | exact gr_fX5_at _ _ _
    | refine G_cal (gr_fX5_add _ _ _) (by assumption) (fun _ _ _ => ?_)
    | refine G_calx (gr_fX5_add _ _ _) (by assumption) (fun _ _ _ => ?_)
    | exact gr_fX5_add _ _ _
    | solve_by_elim (maxDepth := 3))
set_option maxHeartbeats 16000000 in
set_option maxRecDepth 100000 in
theorem gr_fX1_giveArgument (a0 : Nat) (a1 : Option Nat) (a2 : Int) (C : Cd) : GO C (fX1_giveArgument a0 a1 a2 C) := by
  unfold fX1_giveArgument
  have hC0 : Gr C C := Gr.rf C
  repeat' (with_reducible first
    | exact G_none
    | exact G_some (by assumption)
    | exact G_some (Gr.sB (by assumption))
    | refine G_ite ?_ ?_
    | refine G_bndC (by first | assumption | exact Gr.sI (by assumption) _ _ _ | exact Gr.sR (by assumption) _ _ _ | exact Gr.sE (by assumption) _ _ _ | exact Gr.sP (by assumption) _ _ _ | exact Gr.sN (by assumption) _ | exact Gr.sA (by assumption) _ _ | exact Gr.sB (by assumption) | exact Gr.sS (by assumption) _ _ _ _) (fun _ _ => ?_)
    | refine G_drf (fun _ => ?_)
    | refine G_bndO (fun _ => ?_)
    | refine G_bndI (fun _ => ?_)
    | refine G_bndN (fun _ => ?_)
    | refine G_opt ?_ (fun _ => ?_)
    | exact G_retZ (by assumption)
    | exact G_retZX (by assumption)
    | refine G_L_C (fun _ _ => ?_) (fun _ _ _ _ => ?_) (fun _ _ => ?_)
    | refine G_J_C (fun _ _ => ?_) (fun _ _ => ?_)
    | refine G_cal (gr_fX2_argumentAt _ _ _) (by assumption) (fun _ _ _ => ?_)
    | refine G_calx (gr_fX2_argumentAt _ _ _) (by assumption) (fun _ _ _ => ?_)
    | exact gr_fX2_argumentAt _ _ _
    | refine G_cal (gr_fX2_rowAt _ _ _) (by assumption) (fun _ _ _ => ?_)
    | refine G_calx (gr_fX2_rowAt _ _ _) (by assumption) (fun _ _ _ => ?_)
    | exact gr_fX2_rowAt _ _ _
    | refine G_cal (gr_fX1_openPart _ _ _ _) (by assumption) (fun _ _ _ => ?_)
    | refine G_calx (gr_fX1_openPart _ _ _ _) (by assumption) (fun _ _ _ => ?_)
    | exact gr_fX1_openPart _ _ _ _
    | refine G_cal (gr_fX5_addAll _ _ _) (by assumption) (fun _ _ _ => ?_)
    | refine G_calx (gr_fX5_addAll _ _ _) (by assumption) (fun _ _ _ => ?_)
    | exact gr_fX5_addAll _ _ _
    | refine G_cal (gr_fX8_endAt _ _ _) (by assumption) (fun _ _ _ => ?_)
    | refine G_calx (gr_fX8_endAt _ _ _) (by assumption) (fun _ _ _ => ?_)
    | exact gr_fX8_endAt _ _ _
    | solve_by_elim (maxDepth := 3))
set_option maxHeartbeats 16000000 in
set_option maxRecDepth 100000 in
theorem gr_fX8_startsPart (a0 : Nat) (a1 : Int) (C : Cd) : GO C (fX8_startsPart a0 a1 C) := by
  unfold fX8_startsPart
  have hC0 : Gr C C := Gr.rf C
  repeat' (with_reducible first
    | exact G_none
    | exact G_some (by assumption)
    | exact G_some (Gr.sB (by assumption))
    | refine G_ite ?_ ?_
    | refine G_bndC (by first | assumption | exact Gr.sI (by assumption) _ _ _ | exact Gr.sR (by assumption) _ _ _ | exact Gr.sE (by assumption) _ _ _ | exact Gr.sP (by assumption) _ _ _ | exact Gr.sN (by assumption) _ | exact Gr.sA (by assumption) _ _ | exact Gr.sB (by assumption) | exact Gr.sS (by assumption) _ _ _ _) (fun _ _ => ?_)
    | refine G_drf (fun _ => ?_)
    | refine G_bndO (fun _ => ?_)
    | refine G_bndI (fun _ => ?_)
    | refine G_bndN (fun _ => ?_)
    | refine G_opt ?_ (fun _ => ?_)
    | exact G_retZ (by assumption)
    | exact G_retZX (by assumption)
    | refine G_L_C (fun _ _ => ?_) (fun _ _ _ _ => ?_) (fun _ _ => ?_)
    | refine G_J_C (fun _ _ => ?_) (fun _ _ => ?_)
    | refine G_L_IC (fun _ _ _ => ?_) (fun _ _ _ _ _ => ?_) (fun _ _ => ?_)
    | refine G_J_IC (fun _ _ _ => ?_) (fun _ _ => ?_)
    | refine G_cal (gr_fX8_kindAt _ _ _) (by assumption) (fun _ _ _ => ?_)
    | refine G_calx (gr_fX8_kindAt _ _ _) (by assumption) (fun _ _ _ => ?_)
    | exact gr_fX8_kindAt _ _ _
    | solve_by_elim (maxDepth := 3))
set_option maxHeartbeats 16000000 in
set_option maxRecDepth 100000 in
theorem gr_fX1_listParts (a0 : Nat) (a1 : Option Nat) (a2 : Int) (C : Cd) : GO C (fX1_listParts a0 a1 a2 C) := by
  unfold fX1_listParts
  have hC0 : Gr C C := Gr.rf C
  repeat' (with_reducible first
    | exact G_none
    | exact G_some (by assumption)
    | exact G_some (Gr.sB (by assumption))
    | refine G_ite ?_ ?_
    | refine G_bndC (by first | assumption | exact Gr.sI (by assumption) _ _ _ | exact Gr.sR (by assumption) _ _ _ | exact Gr.sE (by assumption) _ _ _ | exact Gr.sP (by assumption) _ _ _ | exact Gr.sN (by assumption) _ | exact Gr.sA (by assumption) _ _ | exact Gr.sB (by assumption) | exact Gr.sS (by assumption) _ _ _ _) (fun _ _ => ?_)
    | refine G_drf (fun _ => ?_)
    | refine G_bndO (fun _ => ?_)
    | refine G_bndI (fun _ => ?_)
    | refine G_bndN (fun _ => ?_)
    | refine G_opt ?_ (fun _ => ?_)
    | exact G_retZ (by assumption)
    | exact G_retZX (by assumption)
    | refine G_L_C (fun _ _ => ?_) (fun _ _ _ _ => ?_) (fun _ _ => ?_)
    | refine G_J_C (fun _ _ => ?_) (fun _ _ => ?_)
    | refine G_L_IIC (fun _ _ _ _ => ?_) (fun _ _ _ _ _ _ => ?_) (fun _ _ => ?_)
    | refine G_J_IIC (fun _ _ _ _ => ?_) (fun _ _ => ?_)
    | refine G_cal (gr_fX8_startsPart _ _ _) (by assumption) (fun _ _ _ => ?_)
    | refine G_calx (gr_fX8_startsPart _ _ _) (by assumption) (fun _ _ _ => ?_)
    | exact gr_fX8_startsPart _ _ _
    | refine G_cal (gr_fX8_endAt _ _ _) (by assumption) (fun _ _ _ => ?_)
    | refine G_calx (gr_fX8_endAt _ _ _) (by assumption) (fun _ _ _ => ?_)
    | exact gr_fX8_endAt _ _ _
    | solve_by_elim (maxDepth := 3))
set_option maxHeartbeats 16000000 in
set_option maxRecDepth 100000 in
theorem gr_fX1_partOf (a0 : Nat) (a1 : Option Nat) (a2 : Int) (C : Cd) : GO C (fX1_partOf a0 a1 a2 C) := by
  unfold fX1_partOf
  have hC0 : Gr C C := Gr.rf C
  repeat' (with_reducible first
    | exact G_none
    | exact G_some (by assumption)
    | exact G_some (Gr.sB (by assumption))
    | refine G_ite ?_ ?_
    | refine G_bndC (by first | assumption | exact Gr.sI (by assumption) _ _ _ | exact Gr.sR (by assumption) _ _ _ | exact Gr.sE (by assumption) _ _ _ | exact Gr.sP (by assumption) _ _ _ | exact Gr.sN (by assumption) _ | exact Gr.sA (by assumption) _ _ | exact Gr.sB (by assumption) | exact Gr.sS (by assumption) _ _ _ _) (fun _ _ => ?_)
    | refine G_drf (fun _ => ?_)
    | refine G_bndO (fun _ => ?_)
    | refine G_bndI (fun _ => ?_)
    | refine G_bndN (fun _ => ?_)
    | refine G_opt ?_ (fun _ => ?_)
    | exact G_retZ (by assumption)
    | exact G_retZX (by assumption)
    | refine G_L_C (fun _ _ => ?_) (fun _ _ _ _ => ?_) (fun _ _ => ?_)
    | refine G_J_C (fun _ _ => ?_) (fun _ _ => ?_)
    | refine G_L_IC (fun _ _ _ => ?_) (fun _ _ _ _ _ => ?_) (fun _ _ => ?_)
    | refine G_J_IC (fun _ _ _ => ?_) (fun _ _ => ?_)
    | solve_by_elim (maxDepth := 3))
set_option maxHeartbeats 16000000 in
set_option maxRecDepth 100000 in
theorem gr_fX1_giveSum (a0 : Nat) (a1 : Option Nat) (C : Cd) : GO C (fX1_giveSum a0 a1 C) := by
  unfold fX1_giveSum
  have hC0 : Gr C C := Gr.rf C
  repeat' (with_reducible first
    | exact G_none
    | exact G_some (by assumption)
    | exact G_some (Gr.sB (by assumption))
    | refine G_ite ?_ ?_
    | refine G_bndC (by first | assumption | exact Gr.sI (by assumption) _ _ _ | exact Gr.sR (by assumption) _ _ _ | exact Gr.sE (by assumption) _ _ _ | exact Gr.sP (by assumption) _ _ _ | exact Gr.sN (by assumption) _ | exact Gr.sA (by assumption) _ _ | exact Gr.sB (by assumption) | exact Gr.sS (by assumption) _ _ _ _) (fun _ _ => ?_)
    | refine G_drf (fun _ => ?_)
    | refine G_bndO (fun _ => ?_)
    | refine G_bndI (fun _ => ?_)
    | refine G_bndN (fun _ => ?_)
    | refine G_opt ?_ (fun _ => ?_)
    | exact G_retZ (by assumption)
    | exact G_retZX (by assumption)
    | refine G_L_IIC (fun _ _ _ _ => ?_) (fun _ _ _ _ _ _ => ?_) (fun _ _ => ?_)
    | refine G_J_IIC (fun _ _ _ _ => ?_) (fun _ _ => ?_)
    | refine G_cal (gr_fX5_add _ _ _) (by assumption) (fun _ _ _ => ?_)
    | refine G_calx (gr_fX5_add _ _ _) (by assumption) (fun _ _ _ => ?_)
    | exact gr_fX5_add _ _ _
    | refine G_cal (gr_fX1_partOf _ _ _ _) (by assumption) (fun _ _ _ => ?_)
    | refine G_calx (gr_fX1_partOf _ _ _ _) (by assumption) (fun _ _ _ => ?_)
    | exact gr_fX1_partOf _ _ _ _
    | solve_by_elim (maxDepth := 3))
set_option maxHeartbeats 16000000 in
set_option maxRecDepth 100000 in
theorem gr_fX5_hasOtherThanZero (a0 : Nat) (C : Cd) : GO C (fX5_hasOtherThanZero a0 C) := by
  unfold fX5_hasOtherThanZero
  have hC0 : Gr C C := Gr.rf C
  repeat' (with_reducible first
    | exact G_none
    | exact G_some (by assumption)
    | exact G_some (Gr.sB (by assumption))
    | refine G_ite ?_ ?_
    | refine G_bndC (by first | assumption | exact Gr.sI (by assumption) _ _ _ | exact Gr.sR (by assumption) _ _ _ | exact Gr.sE (by assumption) _ _ _ | exact Gr.sP (by assumption) _ _ _ | exact Gr.sN (by assumption) _ | exact Gr.sA (by assumption) _ _ | exact Gr.sB (by assumption) | exact Gr.sS (by assumption) _ _ _ _) (fun _ _ => ?_)
    | refine G_drf (fun _ => ?_)
    | refine G_bndO (fun _ => ?_)
    | refine G_bndI (fun _ => ?_)
    | refine G_bndN (fun _ => ?_)
    | refine G_opt ?_ (fun _ => ?_)
    | exact G_retZ (by assumption)
    | exact G_retZX (by assumption)
    | refine G_L_IC (fun _ _ _ => ?_) (fun _ _ _ _ _ => ?_) (fun _ _ => ?_)
    | refine G_J_IC (fun _ _ _ => ?_) (fun _ _ => ?_)
    | refine G_cal (gr_fX5_at _ _ _) (by assumption) (fun _ _ _ => ?_)
    | refine G_calx (gr_fX5_at _ _ _) (by assumption) (fun _ _ _ => ?_)
    | exact gr_fX5_at _ _ _
    | solve_by_elim (maxDepth := 3))
set_option maxHeartbeats 16000000 in
set_option maxRecDepth 100000 in
theorem gr_fX1_givePart (a0 : Nat) (a1 : Option Nat) (a2 : Int) (C : Cd) : GO C (fX1_givePart a0 a1 a2 C) := by
  unfold fX1_givePart
  have hC0 : Gr C C := Gr.rf C
  repeat' (with_reducible first
    | exact G_none
    | exact G_some (by assumption)
    | exact G_some (Gr.sB (by assumption))
    | refine G_ite ?_ ?_
    | refine G_bndC (by first | assumption | exact Gr.sI (by assumption) _ _ _ | exact Gr.sR (by assumption) _ _ _ | exact Gr.sE (by assumption) _ _ _ | exact Gr.sP (by assumption) _ _ _ | exact Gr.sN (by assumption) _ | exact Gr.sA (by assumption) _ _ | exact Gr.sB (by assumption) | exact Gr.sS (by assumption) _ _ _ _) (fun _ _ => ?_)
    | refine G_drf (fun _ => ?_)
    | refine G_bndO (fun _ => ?_)
    | refine G_bndI (fun _ => ?_)
    | refine G_bndN (fun _ => ?_)
    | refine G_opt ?_ (fun _ => ?_)
    | exact G_retZ (by assumption)
    | exact G_retZX (by assumption)
    | refine G_cal (gr_fX1_partOf _ _ _ _) (by assumption) (fun _ _ _ => ?_)
    | refine G_calx (gr_fX1_partOf _ _ _ _) (by assumption) (fun _ _ _ => ?_)
    | exact gr_fX1_partOf _ _ _ _
    | refine G_cal (gr_fX5_addAll _ _ _) (by assumption) (fun _ _ _ => ?_)
    | refine G_calx (gr_fX5_addAll _ _ _) (by assumption) (fun _ _ _ => ?_)
    | exact gr_fX5_addAll _ _ _
    | solve_by_elim (maxDepth := 3))
set_option maxHeartbeats 16000000 in
set_option maxRecDepth 100000 in
theorem gr_fX5_sameAs (a0 : Nat) (a1 : Option Nat) (C : Cd) : GO C (fX5_sameAs a0 a1 C) := by
  unfold fX5_sameAs
  have hC0 : Gr C C := Gr.rf C
  repeat' (with_reducible first
    | exact G_none
    | exact G_some (by assumption)
    | exact G_some (Gr.sB (by assumption))
    | refine G_ite ?_ ?_
    | refine G_bndC (by first | assumption | exact Gr.sI (by assumption) _ _ _ | exact Gr.sR (by assumption) _ _ _ | exact Gr.sE (by assumption) _ _ _ | exact Gr.sP (by assumption) _ _ _ | exact Gr.sN (by assumption) _ | exact Gr.sA (by assumption) _ _ | exact Gr.sB (by assumption) | exact Gr.sS (by assumption) _ _ _ _) (fun _ _ => ?_)
    | refine G_drf (fun _ => ?_)
    | refine G_bndO (fun _ => ?_)
    | refine G_bndI (fun _ => ?_)
    | refine G_bndN (fun _ => ?_)
    | refine G_opt ?_ (fun _ => ?_)
    | exact G_retZ (by assumption)
    | exact G_retZX (by assumption)
    | refine G_L_IC (fun _ _ _ => ?_) (fun _ _ _ _ _ => ?_) (fun _ _ => ?_)
    | refine G_J_IC (fun _ _ _ => ?_) (fun _ _ => ?_)
    | refine G_cal (gr_fX5_at _ _ _) (by assumption) (fun _ _ _ => ?_)
    | refine G_calx (gr_fX5_at _ _ _) (by assumption) (fun _ _ _ => ?_)
    | exact gr_fX5_at _ _ _
    | solve_by_elim (maxDepth := 3))
set_option maxHeartbeats 16000000 in
set_option maxRecDepth 100000 in
theorem gr_fX5_number (a0 : Nat) (C : Cd) : GO C (fX5_number a0 C) := by
  unfold fX5_number
  have hC0 : Gr C C := Gr.rf C
  repeat' (with_reducible first
    | exact G_none
    | exact G_some (by assumption)
    | exact G_some (Gr.sB (by assumption))
    | refine G_ite ?_ ?_
    | refine G_bndC (by first | assumption | exact Gr.sI (by assumption) _ _ _ | exact Gr.sR (by assumption) _ _ _ | exact Gr.sE (by assumption) _ _ _ | exact Gr.sP (by assumption) _ _ _ | exact Gr.sN (by assumption) _ | exact Gr.sA (by assumption) _ _ | exact Gr.sB (by assumption) | exact Gr.sS (by assumption) _ _ _ _) (fun _ _ => ?_)
    | refine G_drf (fun _ => ?_)
    | refine G_bndO (fun _ => ?_)
    | refine G_bndI (fun _ => ?_)
    | refine G_bndN (fun _ => ?_)
    | refine G_opt ?_ (fun _ => ?_)
    | exact G_retZ (by assumption)
    | exact G_retZX (by assumption)
    | refine G_L_C (fun _ _ => ?_) (fun _ _ _ _ => ?_) (fun _ _ => ?_)
    | refine G_J_C (fun _ _ => ?_) (fun _ _ => ?_)
    | refine G_L_IC (fun _ _ _ => ?_) (fun _ _ _ _ _ => ?_) (fun _ _ => ?_)
    | refine G_J_IC (fun _ _ _ => ?_) (fun _ _ => ?_)
    | solve_by_elim (maxDepth := 3))
set_option maxHeartbeats 16000000 in
set_option maxRecDepth 100000 in
theorem gr_fX3_textUpTo (a0 : Nat) (a1 : Int) (C : Cd) : GO C (fX3_textUpTo a0 a1 C) := by
  unfold fX3_textUpTo
  have hC0 : Gr C C := Gr.rf C
  repeat' (with_reducible first
    | exact G_none
    | exact G_some (by assumption)
    | exact G_some (Gr.sB (by assumption))
    | refine G_ite ?_ ?_
    | refine G_bndC (by first | assumption | exact Gr.sI (by assumption) _ _ _ | exact Gr.sR (by assumption) _ _ _ | exact Gr.sE (by assumption) _ _ _ | exact Gr.sP (by assumption) _ _ _ | exact Gr.sN (by assumption) _ | exact Gr.sA (by assumption) _ _ | exact Gr.sB (by assumption) | exact Gr.sS (by assumption) _ _ _ _) (fun _ _ => ?_)
    | refine G_drf (fun _ => ?_)
    | refine G_bndO (fun _ => ?_)
    | refine G_bndI (fun _ => ?_)
    | refine G_bndN (fun _ => ?_)
    | refine G_opt ?_ (fun _ => ?_)
    | exact G_retZ (by assumption)
    | exact G_retZX (by assumption)
    | refine G_L_OC (fun _ _ _ => ?_) (fun _ _ _ _ _ => ?_) (fun _ _ => ?_)
    | refine G_J_OC (fun _ _ _ => ?_) (fun _ _ => ?_)
    | solve_by_elim (maxDepth := 3))
set_option maxHeartbeats 16000000 in
set_option maxRecDepth 100000 in
theorem gr_fX1_textAt (a0 : Nat) (a1 : Int) (a2 : Int) (C : Cd) : GO C (fX1_textAt a0 a1 a2 C) := by
  unfold fX1_textAt
  have hC0 : Gr C C := Gr.rf C
  repeat' (with_reducible first
    | exact G_none
    | exact G_some (by assumption)
    | exact G_some (Gr.sB (by assumption))
    | refine G_ite ?_ ?_
    | refine G_bndC (by first | assumption | exact Gr.sI (by assumption) _ _ _ | exact Gr.sR (by assumption) _ _ _ | exact Gr.sE (by assumption) _ _ _ | exact Gr.sP (by assumption) _ _ _ | exact Gr.sN (by assumption) _ | exact Gr.sA (by assumption) _ _ | exact Gr.sB (by assumption) | exact Gr.sS (by assumption) _ _ _ _) (fun _ _ => ?_)
    | refine G_drf (fun _ => ?_)
    | refine G_bndO (fun _ => ?_)
    | refine G_bndI (fun _ => ?_)
    | refine G_bndN (fun _ => ?_)
    | refine G_opt ?_ (fun _ => ?_)
    | exact G_retZ (by assumption)
    | exact G_retZX (by assumption)
    | refine G_L_C (fun _ _ => ?_) (fun _ _ _ _ => ?_) (fun _ _ => ?_)
    | refine G_J_C (fun _ _ => ?_) (fun _ _ => ?_)
    | refine G_L_OC (fun _ _ _ => ?_) (fun _ _ _ _ _ => ?_) (fun _ _ => ?_)
    | refine G_J_OC (fun _ _ _ => ?_) (fun _ _ => ?_)
    | refine G_cal (gr_fX3_textUpTo _ _ _) (by assumption) (fun _ _ _ => ?_)
    | refine G_calx (gr_fX3_textUpTo _ _ _) (by assumption) (fun _ _ _ => ?_)
    | exact gr_fX3_textUpTo _ _ _
    | solve_by_elim (maxDepth := 3))
set_option maxHeartbeats 16000000 in
set_option maxRecDepth 100000 in
theorem gr_fX1_giveExists (a0 : Nat) (a1 : Option Nat) (a2 : Int) (C : Cd) : GO C (fX1_giveExists a0 a1 a2 C) := by
  unfold fX1_giveExists
  have hC0 : Gr C C := Gr.rf C
  repeat' (with_reducible first
    | exact G_none
    | exact G_some (by assumption)
    | exact G_some (Gr.sB (by assumption))
    | refine G_ite ?_ ?_
    | refine G_bndC (by first | assumption | exact Gr.sI (by assumption) _ _ _ | exact Gr.sR (by assumption) _ _ _ | exact Gr.sE (by assumption) _ _ _ | exact Gr.sP (by assumption) _ _ _ | exact Gr.sN (by assumption) _ | exact Gr.sA (by assumption) _ _ | exact Gr.sB (by assumption) | exact Gr.sS (by assumption) _ _ _ _) (fun _ _ => ?_)
    | refine G_drf (fun _ => ?_)
    | refine G_bndO (fun _ => ?_)
    | refine G_bndI (fun _ => ?_)
    | refine G_bndN (fun _ => ?_)
    | refine G_opt ?_ (fun _ => ?_)
    | exact G_retZ (by assumption)
    | exact G_retZX (by assumption)
    | refine G_L_C (fun _ _ => ?_) (fun _ _ _ _ => ?_) (fun _ _ => ?_)
    | refine G_J_C (fun _ _ => ?_) (fun _ _ => ?_)
    | refine G_L_IC (fun _ _ _ => ?_) (fun _ _ _ _ _ => ?_) (fun _ _ => ?_)
    | refine G_J_IC (fun _ _ _ => ?_) (fun _ _ => ?_)
    | refine G_cal (gr_fX5_add _ _ _) (by assumption) (fun _ _ _ => ?_)
    | refine G_calx (gr_fX5_add _ _ _) (by assumption) (fun _ _ _ => ?_)
    | exact gr_fX5_add _ _ _
    | refine G_cal (gr_fX1_textAt _ _ _ _) (by assumption) (fun _ _ _ => ?_)
    | refine G_calx (gr_fX1_textAt _ _ _ _) (by assumption) (fun _ _ _ => ?_)
    | exact gr_fX1_textAt _ _ _ _
    | solve_by_elim (maxDepth := 3))
set_option maxHeartbeats 16000000 in
set_option maxRecDepth 100000 in
theorem gr_fX1_giveList (a0 : Nat) (a1 : Option Nat) (a2 : Int) (C : Cd) : GO C (fX1_giveList a0 a1 a2 C) := by
  unfold fX1_giveList
  have hC0 : Gr C C := Gr.rf C
  repeat' (with_reducible first
    | exact G_none
    | exact G_some (by assumption)
    | exact G_some (Gr.sB (by assumption))
    | refine G_ite ?_ ?_
    | refine G_bndC (by first | assumption | exact Gr.sI (by assumption) _ _ _ | exact Gr.sR (by assumption) _ _ _ | exact Gr.sE (by assumption) _ _ _ | exact Gr.sP (by assumption) _ _ _ | exact Gr.sN (by assumption) _ | exact Gr.sA (by assumption) _ _ | exact Gr.sB (by assumption) | exact Gr.sS (by assumption) _ _ _ _) (fun _ _ => ?_)
    | refine G_drf (fun _ => ?_)
    | refine G_bndO (fun _ => ?_)
    | refine G_bndI (fun _ => ?_)
    | refine G_bndN (fun _ => ?_)
    | refine G_opt ?_ (fun _ => ?_)
    | exact G_retZ (by assumption)
    | exact G_retZX (by assumption)
    | refine G_L_C (fun _ _ => ?_) (fun _ _ _ _ => ?_) (fun _ _ => ?_)
    | refine G_J_C (fun _ _ => ?_) (fun _ _ => ?_)
    | refine G_L_IC (fun _ _ _ => ?_) (fun _ _ _ _ _ => ?_) (fun _ _ => ?_)
    | refine G_J_IC (fun _ _ _ => ?_) (fun _ _ => ?_)
    | refine G_cal (gr_fX11_has _ _ _) (by assumption) (fun _ _ _ => ?_)
    | refine G_calx (gr_fX11_has _ _ _) (by assumption) (fun _ _ _ => ?_)
    | exact gr_fX11_has _ _ _
    | refine G_cal (gr_fX5_add _ _ _) (by assumption) (fun _ _ _ => ?_)
    | refine G_calx (gr_fX5_add _ _ _) (by assumption) (fun _ _ _ => ?_)
    | exact gr_fX5_add _ _ _
    | solve_by_elim (maxDepth := 3))
set_option maxHeartbeats 16000000 in
set_option maxRecDepth 100000 in
theorem gr_fX7_instructionAt (a0 : Nat) (a1 : Int) (C : Cd) : GO C (fX7_instructionAt a0 a1 C) := by
  unfold fX7_instructionAt
  have hC0 : Gr C C := Gr.rf C
  repeat' (with_reducible first
    | exact G_none
    | exact G_some (by assumption)
    | exact G_some (Gr.sB (by assumption))
    | refine G_ite ?_ ?_
    | refine G_bndC (by first | assumption | exact Gr.sI (by assumption) _ _ _ | exact Gr.sR (by assumption) _ _ _ | exact Gr.sE (by assumption) _ _ _ | exact Gr.sP (by assumption) _ _ _ | exact Gr.sN (by assumption) _ | exact Gr.sA (by assumption) _ _ | exact Gr.sB (by assumption) | exact Gr.sS (by assumption) _ _ _ _) (fun _ _ => ?_)
    | refine G_drf (fun _ => ?_)
    | refine G_bndO (fun _ => ?_)
    | refine G_bndI (fun _ => ?_)
    | refine G_bndN (fun _ => ?_)
    | refine G_opt ?_ (fun _ => ?_)
    | exact G_retZ (by assumption)
    | exact G_retZX (by assumption)
    | refine G_L_C (fun _ _ => ?_) (fun _ _ _ _ => ?_) (fun _ _ => ?_)
    | refine G_J_C (fun _ _ => ?_) (fun _ _ => ?_)
    | refine G_L_IC (fun _ _ _ => ?_) (fun _ _ _ _ _ => ?_) (fun _ _ => ?_)
    | refine G_J_IC (fun _ _ _ => ?_) (fun _ _ => ?_)
    | solve_by_elim (maxDepth := 3))
set_option maxHeartbeats 16000000 in
set_option maxRecDepth 100000 in
theorem gr_fX7_valueAt (a0 : Nat) (a1 : Int) (C : Cd) : GO C (fX7_valueAt a0 a1 C) := by
  unfold fX7_valueAt
  have hC0 : Gr C C := Gr.rf C
  repeat' (with_reducible first
    | exact G_none
    | exact G_some (by assumption)
    | exact G_some (Gr.sB (by assumption))
    | refine G_ite ?_ ?_
    | refine G_bndC (by first | assumption | exact Gr.sI (by assumption) _ _ _ | exact Gr.sR (by assumption) _ _ _ | exact Gr.sE (by assumption) _ _ _ | exact Gr.sP (by assumption) _ _ _ | exact Gr.sN (by assumption) _ | exact Gr.sA (by assumption) _ _ | exact Gr.sB (by assumption) | exact Gr.sS (by assumption) _ _ _ _) (fun _ _ => ?_)
    | refine G_drf (fun _ => ?_)
    | refine G_bndO (fun _ => ?_)
    | refine G_bndI (fun _ => ?_)
    | refine G_bndN (fun _ => ?_)
    | refine G_opt ?_ (fun _ => ?_)
    | exact G_retZ (by assumption)
    | exact G_retZX (by assumption)
    | refine G_L_C (fun _ _ => ?_) (fun _ _ _ _ => ?_) (fun _ _ => ?_)
    | refine G_J_C (fun _ _ => ?_) (fun _ _ => ?_)
    | refine G_L_IC (fun _ _ _ => ?_) (fun _ _ _ _ _ => ?_) (fun _ _ => ?_)
    | refine G_J_IC (fun _ _ _ => ?_) (fun _ _ => ?_)
    | solve_by_elim (maxDepth := 3))
set_option maxHeartbeats 16000000 in
set_option maxRecDepth 100000 in
theorem gr_fX1_takenBy (a0 : Nat) (a1 : Int) (C : Cd) : GO C (fX1_takenBy a0 a1 C) := by
  unfold fX1_takenBy
  have hC0 : Gr C C := Gr.rf C
  repeat' (with_reducible first
    | exact G_none
    | exact G_some (by assumption)
    | exact G_some (Gr.sB (by assumption))
    | refine G_ite ?_ ?_
    | refine G_bndC (by first | assumption | exact Gr.sI (by assumption) _ _ _ | exact Gr.sR (by assumption) _ _ _ | exact Gr.sE (by assumption) _ _ _ | exact Gr.sP (by assumption) _ _ _ | exact Gr.sN (by assumption) _ | exact Gr.sA (by assumption) _ _ | exact Gr.sB (by assumption) | exact Gr.sS (by assumption) _ _ _ _) (fun _ _ => ?_)
    | refine G_drf (fun _ => ?_)
    | refine G_bndO (fun _ => ?_)
    | refine G_bndI (fun _ => ?_)
    | refine G_bndN (fun _ => ?_)
    | refine G_opt ?_ (fun _ => ?_)
    | exact G_retZ (by assumption)
    | exact G_retZX (by assumption)
    | refine G_L_C (fun _ _ => ?_) (fun _ _ _ _ => ?_) (fun _ _ => ?_)
    | refine G_J_C (fun _ _ => ?_) (fun _ _ => ?_)
    | solve_by_elim (maxDepth := 3))
set_option maxHeartbeats 16000000 in
set_option maxRecDepth 100000 in
theorem gr_fX1_stackAt (a0 : Nat) (a1 : Int) (C : Cd) : GO C (fX1_stackAt a0 a1 C) := by
  unfold fX1_stackAt
  have hC0 : Gr C C := Gr.rf C
  repeat' (with_reducible first
    | exact G_none
    | exact G_some (by assumption)
    | exact G_some (Gr.sB (by assumption))
    | refine G_ite ?_ ?_
    | refine G_bndC (by first | assumption | exact Gr.sI (by assumption) _ _ _ | exact Gr.sR (by assumption) _ _ _ | exact Gr.sE (by assumption) _ _ _ | exact Gr.sP (by assumption) _ _ _ | exact Gr.sN (by assumption) _ | exact Gr.sA (by assumption) _ _ | exact Gr.sB (by assumption) | exact Gr.sS (by assumption) _ _ _ _) (fun _ _ => ?_)
    | refine G_drf (fun _ => ?_)
    | refine G_bndO (fun _ => ?_)
    | refine G_bndI (fun _ => ?_)
    | refine G_bndN (fun _ => ?_)
    | refine G_opt ?_ (fun _ => ?_)
    | exact G_retZ (by assumption)
    | exact G_retZX (by assumption)
    | refine G_L_C (fun _ _ => ?_) (fun _ _ _ _ => ?_) (fun _ _ => ?_)
    | refine G_J_C (fun _ _ => ?_) (fun _ _ => ?_)
    | refine G_L_IC (fun _ _ _ => ?_) (fun _ _ _ _ _ => ?_) (fun _ _ => ?_)
    | refine G_J_IC (fun _ _ _ => ?_) (fun _ _ => ?_)
    | solve_by_elim (maxDepth := 3))
set_option maxHeartbeats 16000000 in
set_option maxRecDepth 100000 in
theorem gr_fX1_outOf (a0 : Nat) (a1 : Option Nat) (a2 : Option Nat) (C : Cd) : GO C (fX1_outOf a0 a1 a2 C) := by
  unfold fX1_outOf
  have hC0 : Gr C C := Gr.rf C
  repeat' (with_reducible first
    | exact G_none
    | exact G_some (by assumption)
    | exact G_some (Gr.sB (by assumption))
    | refine G_ite ?_ ?_
    | refine G_bndC (by first | assumption | exact Gr.sI (by assumption) _ _ _ | exact Gr.sR (by assumption) _ _ _ | exact Gr.sE (by assumption) _ _ _ | exact Gr.sP (by assumption) _ _ _ | exact Gr.sN (by assumption) _ | exact Gr.sA (by assumption) _ _ | exact Gr.sB (by assumption) | exact Gr.sS (by assumption) _ _ _ _) (fun _ _ => ?_)
    | refine G_drf (fun _ => ?_)
    | refine G_bndO (fun _ => ?_)
    | refine G_bndI (fun _ => ?_)
    | refine G_bndN (fun _ => ?_)
    | refine G_opt ?_ (fun _ => ?_)
    | exact G_retZ (by assumption)
    | exact G_retZX (by assumption)
    | refine G_L_C (fun _ _ => ?_) (fun _ _ _ _ => ?_) (fun _ _ => ?_)
    | refine G_J_C (fun _ _ => ?_) (fun _ _ => ?_)
    | refine G_L_IC (fun _ _ _ => ?_) (fun _ _ _ _ _ => ?_) (fun _ _ => ?_)
    | refine G_J_IC (fun _ _ _ => ?_) (fun _ _ => ?_)
    | refine G_L_IIIC (fun _ _ _ _ _ => ?_) (fun _ _ _ _ _ _ _ => ?_) (fun _ _ => ?_)
    | refine G_J_IIIC (fun _ _ _ _ _ => ?_) (fun _ _ => ?_)
    | refine G_cal (gr_fX7_instructionAt _ _ _) (by assumption) (fun _ _ _ => ?_)
    | refine G_calx (gr_fX7_instructionAt _ _ _) (by assumption) (fun _ _ _ => ?_)
    | exact gr_fX7_instructionAt _ _ _
    | refine G_cal (gr_fX7_valueAt _ _ _) (by assumption) (fun _ _ _ => ?_)
    | refine G_calx (gr_fX7_valueAt _ _ _) (by assumption) (fun _ _ _ => ?_)
    | exact gr_fX7_valueAt _ _ _
    | refine G_cal (gr_fX1_takenBy _ _ _) (by assumption) (fun _ _ _ => ?_)
    | refine G_calx (gr_fX1_takenBy _ _ _) (by assumption) (fun _ _ _ => ?_)
    | exact gr_fX1_takenBy _ _ _
    | refine G_cal (gr_fX1_stackAt _ _ _) (by assumption) (fun _ _ _ => ?_)
    | refine G_calx (gr_fX1_stackAt _ _ _) (by assumption) (fun _ _ _ => ?_)
    | exact gr_fX1_stackAt _ _ _
    | refine G_cal (gr_fX1_partOf _ _ _ _) (by assumption) (fun _ _ _ => ?_)
    | refine G_calx (gr_fX1_partOf _ _ _ _) (by assumption) (fun _ _ _ => ?_)
    | exact gr_fX1_partOf _ _ _ _
    | refine G_cal (gr_fX5_number _ _) (by assumption) (fun _ _ _ => ?_)
    | refine G_calx (gr_fX5_number _ _) (by assumption) (fun _ _ _ => ?_)
    | exact gr_fX5_number _ _
    | refine G_cal (gr_fX1_combined _ _ _ _ _) (by assumption) (fun _ _ _ => ?_)
    | refine G_calx (gr_fX1_combined _ _ _ _ _) (by assumption) (fun _ _ _ => ?_)
    | exact gr_fX1_combined _ _ _ _ _
    | solve_by_elim (maxDepth := 3))
set_option maxHeartbeats 16000000 in
set_option maxRecDepth 100000 in
theorem gr_fX1_giveModule (a0 : Nat) (a1 : Option Nat) (a2 : Int) (C : Cd) : GO C (fX1_giveModule a0 a1 a2 C) := by
  unfold fX1_giveModule
  have hC0 : Gr C C := Gr.rf C
  repeat' (with_reducible first
    | exact G_none
    | exact G_some (by assumption)
    | exact G_some (Gr.sB (by assumption))
    | refine G_ite ?_ ?_
    | refine G_bndC (by first | assumption | exact Gr.sI (by assumption) _ _ _ | exact Gr.sR (by assumption) _ _ _ | exact Gr.sE (by assumption) _ _ _ | exact Gr.sP (by assumption) _ _ _ | exact Gr.sN (by assumption) _ | exact Gr.sA (by assumption) _ _ | exact Gr.sB (by assumption) | exact Gr.sS (by assumption) _ _ _ _) (fun _ _ => ?_)
    | refine G_drf (fun _ => ?_)
    | refine G_bndO (fun _ => ?_)
    | refine G_bndI (fun _ => ?_)
    | refine G_bndN (fun _ => ?_)
    | refine G_opt ?_ (fun _ => ?_)
    | exact G_retZ (by assumption)
    | exact G_retZX (by assumption)
    | refine G_L_IC (fun _ _ _ => ?_) (fun _ _ _ _ _ => ?_) (fun _ _ => ?_)
    | refine G_J_IC (fun _ _ _ => ?_) (fun _ _ => ?_)
    | refine G_cal (gr_fX5_add _ _ _) (by assumption) (fun _ _ _ => ?_)
    | refine G_calx (gr_fX5_add _ _ _) (by assumption) (fun _ _ _ => ?_)
    | exact gr_fX5_add _ _ _
    | refine G_cal (gr_fX1_outOf _ _ _ _) (by assumption) (fun _ _ _ => ?_)
    | refine G_calx (gr_fX1_outOf _ _ _ _) (by assumption) (fun _ _ _ => ?_)
    | exact gr_fX1_outOf _ _ _ _
    | solve_by_elim (maxDepth := 3))
set_option maxHeartbeats 16000000 in
set_option maxRecDepth 100000 in
theorem gr_fX1_giveFunction (a0 : Nat) (a1 : Option Nat) (a2 : Int) (C : Cd) : GO C (fX1_giveFunction a0 a1 a2 C) := by
  unfold fX1_giveFunction
  have hC0 : Gr C C := Gr.rf C
  repeat' (with_reducible first
    | exact G_none
    | exact G_some (by assumption)
    | exact G_some (Gr.sB (by assumption))
    | refine G_ite ?_ ?_
    | refine G_bndC (by first | assumption | exact Gr.sI (by assumption) _ _ _ | exact Gr.sR (by assumption) _ _ _ | exact Gr.sE (by assumption) _ _ _ | exact Gr.sP (by assumption) _ _ _ | exact Gr.sN (by assumption) _ | exact Gr.sA (by assumption) _ _ | exact Gr.sB (by assumption) | exact Gr.sS (by assumption) _ _ _ _) (fun _ _ => ?_)
    | refine G_drf (fun _ => ?_)
    | refine G_bndO (fun _ => ?_)
    | refine G_bndI (fun _ => ?_)
    | refine G_bndN (fun _ => ?_)
    | refine G_opt ?_ (fun _ => ?_)
    | exact G_retZ (by assumption)
    | exact G_retZX (by assumption)
    | refine G_L_C (fun _ _ => ?_) (fun _ _ _ _ => ?_) (fun _ _ => ?_)
    | refine G_J_C (fun _ _ => ?_) (fun _ _ => ?_)
    | refine G_L_IC (fun _ _ _ => ?_) (fun _ _ _ _ _ => ?_) (fun _ _ => ?_)
    | refine G_J_IC (fun _ _ _ => ?_) (fun _ _ => ?_)
    | refine G_cal (gr_fX1_partOf _ _ _ _) (by assumption) (fun _ _ _ => ?_)
    | refine G_calx (gr_fX1_partOf _ _ _ _) (by assumption) (fun _ _ _ => ?_)
    | exact gr_fX1_partOf _ _ _ _
    | refine G_cal (gr_fX5_hasOtherThanZero _ _) (by assumption) (fun _ _ _ => ?_)
    | refine G_calx (gr_fX5_hasOtherThanZero _ _) (by assumption) (fun _ _ _ => ?_)
    | exact gr_fX5_hasOtherThanZero _ _
    | refine G_cal (gr_fX1_givePart _ _ _ _) (by assumption) (fun _ _ _ => ?_)
    | refine G_calx (gr_fX1_givePart _ _ _ _) (by assumption) (fun _ _ _ => ?_)
    | exact gr_fX1_givePart _ _ _ _
    | refine G_cal (gr_fX5_sameAs _ _ _) (by assumption) (fun _ _ _ => ?_)
    | refine G_calx (gr_fX5_sameAs _ _ _) (by assumption) (fun _ _ _ => ?_)
    | exact gr_fX5_sameAs _ _ _
    | refine G_cal (gr_fX5_number _ _) (by assumption) (fun _ _ _ => ?_)
    | refine G_calx (gr_fX5_number _ _) (by assumption) (fun _ _ _ => ?_)
    | exact gr_fX5_number _ _
    | refine G_cal (gr_fX1_giveExists _ _ _ _) (by assumption) (fun _ _ _ => ?_)
    | refine G_calx (gr_fX1_giveExists _ _ _ _) (by assumption) (fun _ _ _ => ?_)
    | exact gr_fX1_giveExists _ _ _ _
    | refine G_cal (gr_fX1_countedMembers _ _ _) (by assumption) (fun _ _ _ => ?_)
    | refine G_calx (gr_fX1_countedMembers _ _ _) (by assumption) (fun _ _ _ => ?_)
    | exact gr_fX1_countedMembers _ _ _
    | refine G_cal (gr_fbitCount _ _) (by assumption) (fun _ _ _ => ?_)
    | refine G_calx (gr_fbitCount _ _) (by assumption) (fun _ _ _ => ?_)
    | exact gr_fbitCount _ _
    | refine G_cal (gr_fX5_add _ _ _) (by assumption) (fun _ _ _ => ?_)
    | refine G_calx (gr_fX5_add _ _ _) (by assumption) (fun _ _ _ => ?_)
    | exact gr_fX5_add _ _ _
    | refine G_cal (gr_fX1_giveList _ _ _ _) (by assumption) (fun _ _ _ => ?_)
    | refine G_calx (gr_fX1_giveList _ _ _ _) (by assumption) (fun _ _ _ => ?_)
    | exact gr_fX1_giveList _ _ _ _
    | refine G_cal (gr_fX1_giveModule _ _ _ _) (by assumption) (fun _ _ _ => ?_)
    | refine G_calx (gr_fX1_giveModule _ _ _ _) (by assumption) (fun _ _ _ => ?_)
    | exact gr_fX1_giveModule _ _ _ _
    | refine G_cal (gr_fX1_giveSum _ _ _) (by assumption) (fun _ _ _ => ?_)
    | refine G_calx (gr_fX1_giveSum _ _ _) (by assumption) (fun _ _ _ => ?_)
    | exact gr_fX1_giveSum _ _ _
    | solve_by_elim (maxDepth := 3))
set_option maxHeartbeats 16000000 in
set_option maxRecDepth 100000 in
theorem gr_fX8_isRedirect (a0 : Nat) (C : Cd) : GO C (fX8_isRedirect a0 C) := by
  unfold fX8_isRedirect
  have hC0 : Gr C C := Gr.rf C
  repeat' (with_reducible first
    | exact G_none
    | exact G_some (by assumption)
    | exact G_some (Gr.sB (by assumption))
    | refine G_ite ?_ ?_
    | refine G_bndC (by first | assumption | exact Gr.sI (by assumption) _ _ _ | exact Gr.sR (by assumption) _ _ _ | exact Gr.sE (by assumption) _ _ _ | exact Gr.sP (by assumption) _ _ _ | exact Gr.sN (by assumption) _ | exact Gr.sA (by assumption) _ _ | exact Gr.sB (by assumption) | exact Gr.sS (by assumption) _ _ _ _) (fun _ _ => ?_)
    | refine G_drf (fun _ => ?_)
    | refine G_bndO (fun _ => ?_)
    | refine G_bndI (fun _ => ?_)
    | refine G_bndN (fun _ => ?_)
    | refine G_opt ?_ (fun _ => ?_)
    | exact G_retZ (by assumption)
    | exact G_retZX (by assumption)
    | refine G_L_IC (fun _ _ _ => ?_) (fun _ _ _ _ _ => ?_) (fun _ _ => ?_)
    | refine G_J_IC (fun _ _ _ => ?_) (fun _ _ => ?_)
    | refine G_cal (gr_fX8_kindAt _ _ _) (by assumption) (fun _ _ _ => ?_)
    | refine G_calx (gr_fX8_kindAt _ _ _) (by assumption) (fun _ _ _ => ?_)
    | exact gr_fX8_kindAt _ _ _
    | solve_by_elim (maxDepth := 3))
set_option maxHeartbeats 16000000 in
set_option maxRecDepth 100000 in
theorem gr_fX1_goalOf (a0 : Nat) (a1 : Int) (a2 : Int) (C : Cd) : GO C (fX1_goalOf a0 a1 a2 C) := by
  unfold fX1_goalOf
  have hC0 : Gr C C := Gr.rf C
  repeat' (with_reducible first
    | exact G_none
    | exact G_some (by assumption)
    | exact G_some (Gr.sB (by assumption))
    | refine G_ite ?_ ?_
    | refine G_bndC (by first | assumption | exact Gr.sI (by assumption) _ _ _ | exact Gr.sR (by assumption) _ _ _ | exact Gr.sE (by assumption) _ _ _ | exact Gr.sP (by assumption) _ _ _ | exact Gr.sN (by assumption) _ | exact Gr.sA (by assumption) _ _ | exact Gr.sB (by assumption) | exact Gr.sS (by assumption) _ _ _ _) (fun _ _ => ?_)
    | refine G_drf (fun _ => ?_)
    | refine G_bndO (fun _ => ?_)
    | refine G_bndI (fun _ => ?_)
    | refine G_bndN (fun _ => ?_)
    | refine G_opt ?_ (fun _ => ?_)
    | exact G_retZ (by assumption)
    | exact G_retZX (by assumption)
    | refine G_L_IIC (fun _ _ _ _ => ?_) (fun _ _ _ _ _ _ => ?_) (fun _ _ => ?_)
    | refine G_J_IIC (fun _ _ _ _ => ?_) (fun _ _ => ?_)
    | refine G_cal (gr_fX1_textAt _ _ _ _) (by assumption) (fun _ _ _ => ?_)
    | refine G_calx (gr_fX1_textAt _ _ _ _) (by assumption) (fun _ _ _ => ?_)
    | exact gr_fX1_textAt _ _ _ _
    | refine G_cal (gr_fX8_isRedirect _ _) (by assumption) (fun _ _ _ => ?_)
    | refine G_calx (gr_fX8_isRedirect _ _) (by assumption) (fun _ _ _ => ?_)
    | exact gr_fX8_isRedirect _ _
    | refine G_cal (gr_fX8_valueAt _ _ _) (by assumption) (fun _ _ _ => ?_)
    | refine G_calx (gr_fX8_valueAt _ _ _) (by assumption) (fun _ _ _ => ?_)
    | exact gr_fX8_valueAt _ _ _
    | solve_by_elim (maxDepth := 3))
set_option maxHeartbeats 16000000 in
set_option maxRecDepth 100000 in
theorem gr_fX2_comesFrom (a0 : Nat) (a1 : Int) (C : Cd) : GO C (fX2_comesFrom a0 a1 C) := by
  unfold fX2_comesFrom
  have hC0 : Gr C C := Gr.rf C
  repeat' (with_reducible first
    | exact G_none
    | exact G_some (by assumption)
    | exact G_some (Gr.sB (by assumption))
    | refine G_ite ?_ ?_
    | refine G_bndC (by first | assumption | exact Gr.sI (by assumption) _ _ _ | exact Gr.sR (by assumption) _ _ _ | exact Gr.sE (by assumption) _ _ _ | exact Gr.sP (by assumption) _ _ _ | exact Gr.sN (by assumption) _ | exact Gr.sA (by assumption) _ _ | exact Gr.sB (by assumption) | exact Gr.sS (by assumption) _ _ _ _) (fun _ _ => ?_)
    | refine G_drf (fun _ => ?_)
    | refine G_bndO (fun _ => ?_)
    | refine G_bndI (fun _ => ?_)
    | refine G_bndN (fun _ => ?_)
    | refine G_opt ?_ (fun _ => ?_)
    | exact G_retZ (by assumption)
    | exact G_retZX (by assumption)
    | refine G_L_OC (fun _ _ _ => ?_) (fun _ _ _ _ _ => ?_) (fun _ _ => ?_)
    | refine G_J_OC (fun _ _ _ => ?_) (fun _ _ => ?_)
    | solve_by_elim (maxDepth := 3))
set_option maxHeartbeats 16000000 in
set_option maxRecDepth 100000 in
theorem gr_fX2_takeArguments (a0 : Nat) (a1 : Option Nat) (a2 : Int) (C : Cd) : GO C (fX2_takeArguments a0 a1 a2 C) := by
  unfold fX2_takeArguments
  have hC0 : Gr C C := Gr.rf C
  repeat' (with_reducible first
    | exact G_none
    | exact G_some (by assumption)
    | exact G_some (Gr.sB (by assumption))
    | refine G_ite ?_ ?_
    | refine G_bndC (by first | assumption | exact Gr.sI (by assumption) _ _ _ | exact Gr.sR (by assumption) _ _ _ | exact Gr.sE (by assumption) _ _ _ | exact Gr.sP (by assumption) _ _ _ | exact Gr.sN (by assumption) _ | exact Gr.sA (by assumption) _ _ | exact Gr.sB (by assumption) | exact Gr.sS (by assumption) _ _ _ _) (fun _ _ => ?_)
    | refine G_drf (fun _ => ?_)
    | refine G_bndO (fun _ => ?_)
    | refine G_bndI (fun _ => ?_)
    | refine G_bndN (fun _ => ?_)
    | refine G_opt ?_ (fun _ => ?_)
    | exact G_retZ (by assumption)
    | exact G_retZX (by assumption)
    | refine G_L_C (fun _ _ => ?_) (fun _ _ _ _ => ?_) (fun _ _ => ?_)
    | refine G_J_C (fun _ _ => ?_) (fun _ _ => ?_)
    | refine G_L_IIC (fun _ _ _ _ => ?_) (fun _ _ _ _ _ _ => ?_) (fun _ _ => ?_)
    | refine G_J_IIC (fun _ _ _ _ => ?_) (fun _ _ => ?_)
    | refine G_L_IIIC (fun _ _ _ _ _ => ?_) (fun _ _ _ _ _ _ _ => ?_) (fun _ _ => ?_)
    | refine G_J_IIIC (fun _ _ _ _ _ => ?_) (fun _ _ => ?_)
    | refine G_cal (gr_fX8_startsPart _ _ _) (by assumption) (fun _ _ _ => ?_)
    | refine G_calx (gr_fX8_startsPart _ _ _) (by assumption) (fun _ _ _ => ?_)
    | exact gr_fX8_startsPart _ _ _
    | refine G_cal (gr_fX8_valueAt _ _ _) (by assumption) (fun _ _ _ => ?_)
    | refine G_calx (gr_fX8_valueAt _ _ _) (by assumption) (fun _ _ _ => ?_)
    | exact gr_fX8_valueAt _ _ _
    | refine G_cal (gr_fX8_kindAt _ _ _) (by assumption) (fun _ _ _ => ?_)
    | refine G_calx (gr_fX8_kindAt _ _ _) (by assumption) (fun _ _ _ => ?_)
    | exact gr_fX8_kindAt _ _ _
    | refine G_cal (gr_fX8_endAt _ _ _) (by assumption) (fun _ _ _ => ?_)
    | refine G_calx (gr_fX8_endAt _ _ _) (by assumption) (fun _ _ _ => ?_)
    | exact gr_fX8_endAt _ _ _
    | solve_by_elim (maxDepth := 3))
set_option maxHeartbeats 16000000 in
set_option maxRecDepth 100000 in
theorem gr_fX1_giveCall (a0 : Nat) (a1 : Option Nat) (a2 : Int) (a3 : Int) (C : Cd) : GO C (fX1_giveCall a0 a1 a2 a3 C) := by
  unfold fX1_giveCall
  have hC0 : Gr C C := Gr.rf C
  repeat' (with_reducible first
    | exact G_none
    | exact G_some (by assumption)
    | exact G_some (Gr.sB (by assumption))
    | refine G_ite ?_ ?_
    | refine G_bndC (by first | assumption | exact Gr.sI (by assumption) _ _ _ | exact Gr.sR (by assumption) _ _ _ | exact Gr.sE (by assumption) _ _ _ | exact Gr.sP (by assumption) _ _ _ | exact Gr.sN (by assumption) _ | exact Gr.sA (by assumption) _ _ | exact Gr.sB (by assumption) | exact Gr.sS (by assumption) _ _ _ _) (fun _ _ => ?_)
    | refine G_drf (fun _ => ?_)
    | refine G_bndO (fun _ => ?_)
    | refine G_bndI (fun _ => ?_)
    | refine G_bndN (fun _ => ?_)
    | refine G_opt ?_ (fun _ => ?_)
    | exact G_retZ (by assumption)
    | exact G_retZX (by assumption)
    | refine G_L_C (fun _ _ => ?_) (fun _ _ _ _ => ?_) (fun _ _ => ?_)
    | refine G_J_C (fun _ _ => ?_) (fun _ _ => ?_)
    | refine G_cal (gr_fX1_goalOf _ _ _ _) (by assumption) (fun _ _ _ => ?_)
    | refine G_calx (gr_fX1_goalOf _ _ _ _) (by assumption) (fun _ _ _ => ?_)
    | exact gr_fX1_goalOf _ _ _ _
    | refine G_cal (gr_fX2_comesFrom _ _ _) (by assumption) (fun _ _ _ => ?_)
    | refine G_calx (gr_fX2_comesFrom _ _ _) (by assumption) (fun _ _ _ => ?_)
    | exact gr_fX2_comesFrom _ _ _
    | refine G_cal (gr_fX1_textAt _ _ _ _) (by assumption) (fun _ _ _ => ?_)
    | refine G_calx (gr_fX1_textAt _ _ _ _) (by assumption) (fun _ _ _ => ?_)
    | exact gr_fX1_textAt _ _ _ _
    | refine G_cal (gr_fX1_openFrame _ _ _ _ _ _) (by assumption) (fun _ _ _ => ?_)
    | refine G_calx (gr_fX1_openFrame _ _ _ _ _ _) (by assumption) (fun _ _ _ => ?_)
    | exact gr_fX1_openFrame _ _ _ _ _ _
    | refine G_cal (gr_fX2_takeArguments _ _ _ _) (by assumption) (fun _ _ _ => ?_)
    | refine G_calx (gr_fX2_takeArguments _ _ _ _) (by assumption) (fun _ _ _ => ?_)
    | exact gr_fX2_takeArguments _ _ _ _
    | refine G_cal (gr_fX5_add _ _ _) (by assumption) (fun _ _ _ => ?_)
    | refine G_calx (gr_fX5_add _ _ _) (by assumption) (fun _ _ _ => ?_)
    | exact gr_fX5_add _ _ _
    | solve_by_elim (maxDepth := 3))
set_option maxHeartbeats 16000000 in
set_option maxRecDepth 100000 in
theorem gr_fX1_stepOn (a0 : Nat) (a1 : Option Nat) (C : Cd) : GO C (fX1_stepOn a0 a1 C) := by
  unfold fX1_stepOn
  have hC0 : Gr C C := Gr.rf C
  repeat' (with_reducible first
    | exact G_none
    | exact G_some (by assumption)
    | exact G_some (Gr.sB (by assumption))
    | refine G_ite ?_ ?_
    | refine G_bndC (by first | assumption | exact Gr.sI (by assumption) _ _ _ | exact Gr.sR (by assumption) _ _ _ | exact Gr.sE (by assumption) _ _ _ | exact Gr.sP (by assumption) _ _ _ | exact Gr.sN (by assumption) _ | exact Gr.sA (by assumption) _ _ | exact Gr.sB (by assumption) | exact Gr.sS (by assumption) _ _ _ _) (fun _ _ => ?_)
    | refine G_drf (fun _ => ?_)
    | refine G_bndO (fun _ => ?_)
    | refine G_bndI (fun _ => ?_)
    | refine G_bndN (fun _ => ?_)
    | refine G_opt ?_ (fun _ => ?_)
    | exact G_retZ (by assumption)
    | exact G_retZX (by assumption)
    | refine G_L_C (fun _ _ => ?_) (fun _ _ _ _ => ?_) (fun _ _ => ?_)
    | refine G_J_C (fun _ _ => ?_) (fun _ _ => ?_)
    | refine G_L_IC (fun _ _ _ => ?_) (fun _ _ _ _ _ => ?_) (fun _ _ => ?_)
    | refine G_J_IC (fun _ _ _ => ?_) (fun _ _ => ?_)
    | refine G_cal (gr_fX8_valueAt _ _ _) (by assumption) (fun _ _ _ => ?_)
    | refine G_calx (gr_fX8_valueAt _ _ _) (by assumption) (fun _ _ _ => ?_)
    | exact gr_fX8_valueAt _ _ _
    | refine G_cal (gr_fX8_kindAt _ _ _) (by assumption) (fun _ _ _ => ?_)
    | refine G_calx (gr_fX8_kindAt _ _ _) (by assumption) (fun _ _ _ => ?_)
    | exact gr_fX8_kindAt _ _ _
    | refine G_cal (gr_fX5_add _ _ _) (by assumption) (fun _ _ _ => ?_)
    | refine G_calx (gr_fX5_add _ _ _) (by assumption) (fun _ _ _ => ?_)
    | exact gr_fX5_add _ _ _
    | refine G_cal (gr_fX8_endAt _ _ _) (by assumption) (fun _ _ _ => ?_)
    | refine G_calx (gr_fX8_endAt _ _ _) (by assumption) (fun _ _ _ => ?_)
    | exact gr_fX8_endAt _ _ _
    | refine G_cal (gr_fX1_giveCall _ _ _ _ _) (by assumption) (fun _ _ _ => ?_)
    | refine G_calx (gr_fX1_giveCall _ _ _ _ _) (by assumption) (fun _ _ _ => ?_)
    | exact gr_fX1_giveCall _ _ _ _ _
    | refine G_cal (gr_fX1_giveArgument _ _ _ _) (by assumption) (fun _ _ _ => ?_)
    | refine G_calx (gr_fX1_giveArgument _ _ _ _) (by assumption) (fun _ _ _ => ?_)
    | exact gr_fX1_giveArgument _ _ _ _
    | refine G_cal (gr_fX1_listParts _ _ _ _) (by assumption) (fun _ _ _ => ?_)
    | refine G_calx (gr_fX1_listParts _ _ _ _) (by assumption) (fun _ _ _ => ?_)
    | exact gr_fX1_listParts _ _ _ _
    | refine G_cal (gr_fX1_giveFunction _ _ _ _) (by assumption) (fun _ _ _ => ?_)
    | refine G_calx (gr_fX1_giveFunction _ _ _ _) (by assumption) (fun _ _ _ => ?_)
    | exact gr_fX1_giveFunction _ _ _ _
    | refine G_cal (gr_fX1_openPart _ _ _ _) (by assumption) (fun _ _ _ => ?_)
    | refine G_calx (gr_fX1_openPart _ _ _ _) (by assumption) (fun _ _ _ => ?_)
    | exact gr_fX1_openPart _ _ _ _
    | solve_by_elim (maxDepth := 3))
end GROW
