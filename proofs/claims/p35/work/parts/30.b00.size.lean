/-! QUESTIONS TAKE NO ROOM -/
section SIZE
def Sz (C C' : Cd) : Prop := csz C' = csz C ∧ csl C' = csl C ∧ cP C' = cP C
theorem Sz.rf (C : Cd) : Sz C C := ⟨rfl, rfl, rfl⟩
theorem Sz.tr {C C1 C2 : Cd} (h : Sz C C1) (h1 : Sz C1 C2) : Sz C C2 := ⟨h1.1.trans h.1, h1.2.1.trans h.2.1, h1.2.2.trans h.2.2⟩
theorem Sz.sI {C0 C : Cd} (h : Sz C0 C) (k a : Nat) (v : Int) : Sz C0 (cSetI C k a v) := h
theorem Sz.sR {C0 C : Cd} (h : Sz C0 C) (k a : Nat) (v : Option Nat) : Sz C0 (cSetR C k a v) := h
theorem Sz.sE {C0 C : Cd} (h : Sz C0 C) (a i : Nat) (v : Int) : Sz C0 (cSetE C a i v) := h
/-- no room; an exception's own -/
def SZ (C0 : Cd) {ρ : Type} (X : Option (ρ × Cd)) : Prop := ∀ r C', X = some (r, C') → Sz C0 C'
def SX (C0 : Cd) {ρ : Type} (X : Option ((ρ ⊕ Nat) × Cd)) : Prop := ∀ r C', X = some (r, C') → match r with | .inl _ => Sz C0 C' | .inr _ => csz C' = csz C0 + 1 ∧ csl C' = csl C0 + 6 ∧ cP C' = cP C0
variable {C0 C : Cd} {ρ ρ2 : Type}
theorem S_none : SZ C0 (none : Option (ρ × Cd)) := fun _ _ h => by cases h
theorem S_some {r : ρ} (h : Sz C0 C) : SZ C0 (some (r, C)) := fun _ _ e => by cases e; exact h
theorem S_retZ {x : Int} (h : Sz C0 C) : SZ C0 (retZ x C) := by
  unfold retZ; split
  · exact S_some h
  · exact S_none
theorem X_none : SX C0 (none : Option ((ρ ⊕ Nat) × Cd)) := fun _ _ h => by cases h
theorem X_inl {r : ρ} (h : Sz C0 C) : SX C0 (some (.inl r, C)) := fun _ _ e => by cases e; exact h
theorem X_inr {e : Nat} (h : Sz C0 C) : SX C0 (some ((.inr e : ρ ⊕ Nat), cBump C)) := fun _ _ e => by cases e; exact ⟨congrArg (· + 1) h.1, congrArg (· + 6) h.2.1, h.2.2⟩
theorem X_retZ {x : Int} (h : Sz C0 C) : SX C0 (retZX x C) := by
  unfold retZX; split
  · exact X_inl h
  · exact X_none
theorem S_cal {X2 : Option (ρ2 × Cd)} {f : ρ2 → Cd → Option (ρ × Cd)} (h : SZ C X2) (hC : Sz C0 C) (K : ∀ r C', Sz C0 C' → SZ C0 (f r C')) : SZ C0 (cal X2 f) := by
  intro r C' e
  obtain ⟨⟨r2, C2⟩, e2, e3⟩ := Option.bind_eq_some_iff.mp e
  exact K r2 C2 (hC.tr (h r2 C2 e2)) r C' e3
theorem X_cal {X2 : Option (ρ2 × Cd)} {f : ρ2 → Cd → Option ((ρ ⊕ Nat) × Cd)} (h : SZ C X2) (hC : Sz C0 C) (K : ∀ r C', Sz C0 C' → SX C0 (f r C')) : SX C0 (cal X2 f) := by
  intro r C' e
  obtain ⟨⟨r2, C2⟩, e2, e3⟩ := Option.bind_eq_some_iff.mp e
  exact K r2 C2 (hC.tr (h r2 C2 e2)) r C' e3
theorem X_calx {X2 : Option ((ρ2 ⊕ Nat) × Cd)} {f : ρ2 → Cd → Option ((ρ ⊕ Nat) × Cd)} (h : SX C X2) (hC : Sz C0 C) (K : ∀ r C', Sz C0 C' → SX C0 (f r C')) : SX C0 (calx X2 f) := by
  intro r C' e
  obtain ⟨⟨r2, C2⟩, e2, e3⟩ := Option.bind_eq_some_iff.mp e
  have h2 := h r2 C2 e2
  cases r2 with
  | inl x => exact K x C2 (hC.tr h2) r C' e3
  | inr e =>
    cases e3
    exact ⟨h2.1.trans (congrArg (· + 1) hC.1), h2.2.1.trans (congrArg (· + 6) hC.2.1), h2.2.2.trans hC.2.2⟩
theorem sz_fAL_size (a : Nat) (C : Cd) : SZ C (fAL_size a C) := by
  unfold fAL_size; split
  · exact S_some (Sz.rf C)
  · exact S_none
theorem sz_fAL_get (a : Nat) (i : Int) (C : Cd) : SZ C (fAL_get a i C) := by
  unfold fAL_get; split
  · cases cR C 201 a with
    | none => exact S_none
    | some p =>
      rw [drf_some]
      split
      · exact S_some (Sz.rf C)
      · exact S_none
  · exact S_none
theorem sz_fbitCount (x : Int) (C : Cd) : SZ C (fbitCount x C) := by
  unfold fbitCount; split
  · exact S_some (Sz.rf C)
  · exact S_none
theorem S_ite {c : Prop} [Decidable c] {A B : Option (ρ × Cd)} (h1 : SZ C0 A) (h2 : SZ C0 B) : SZ C0 (if c then A else B) := by
  split
  · exact h1
  · exact h2
theorem S_drf {z : Option Nat} {f : Nat → Option (ρ × Cd)} (K : ∀ p, SZ C0 (f p)) : SZ C0 (drf z f) := by
  cases z with
  | none => exact S_none
  | some p => exact K p
theorem S_opt {z : Option Nat} {x : Option (ρ × Cd)} {f : Nat → Option (ρ × Cd)} (h : SZ C0 x) (K : ∀ p, SZ C0 (f p)) : SZ C0 (opt z x f) := by
  cases z with
  | none => exact h
  | some p => exact K p
theorem S_bndC {a : Cd} {f : Cd → Option (ρ × Cd)} (h : Sz C0 a) (K : ∀ C, Sz C0 C → SZ C0 (f C)) : SZ C0 (bnd a f) := K a h
theorem S_bndI {a : Int} {f : Int → Option (ρ × Cd)} (K : ∀ x, SZ C0 (f x)) : SZ C0 (bnd a f) := K a
theorem S_bndN {a : Nat} {f : Nat → Option (ρ × Cd)} (K : ∀ x, SZ C0 (f x)) : SZ C0 (bnd a f) := K a
theorem S_bndO {a : Option Nat} {f : Option Nat → Option (ρ × Cd)} (K : ∀ x, SZ C0 (f x)) : SZ C0 (bnd a f) := K a
theorem S_J_C {a : Cd → Option (ρ × Cd)} {f : (Cd → Option (ρ × Cd)) → Option (ρ × Cd)} (h : ∀ (x0 : Cd), Sz C0 x0 → SZ C0 (a x0)) (K : ∀ J : Cd → Option (ρ × Cd), (∀ (x0 : Cd), Sz C0 x0 → SZ C0 (J x0)) → SZ C0 (f J)) : SZ C0 (bnd a f) := K a h
theorem S_L_C {z : Cd → Option (ρ × Cd)} {body : (Cd → Option (ρ × Cd)) → (Cd → Option (ρ × Cd))} {n : Nat} {f : (Cd → Option (ρ × Cd)) → Option (ρ × Cd)} (hz : ∀ (x0 : Cd), Sz C0 x0 → SZ C0 (z x0)) (hs : ∀ L : Cd → Option (ρ × Cd), (∀ (x0 : Cd), Sz C0 x0 → SZ C0 (L x0)) → ∀ (x0 : Cd), Sz C0 x0 → SZ C0 (body L x0)) (K : ∀ J : Cd → Option (ρ × Cd), (∀ (x0 : Cd), Sz C0 x0 → SZ C0 (J x0)) → SZ C0 (f J)) : SZ C0 (bnd (lpn z body n) f) := K _ (lpn_rule (P := fun _ L => ∀ (x0 : Cd), Sz C0 x0 → SZ C0 (L x0)) hz (fun _ L h => hs L h) n)
theorem S_J_IC {a : Int → Cd → Option (ρ × Cd)} {f : (Int → Cd → Option (ρ × Cd)) → Option (ρ × Cd)} (h : ∀ (x0 : Int) (x1 : Cd), Sz C0 x1 → SZ C0 (a x0 x1)) (K : ∀ J : Int → Cd → Option (ρ × Cd), (∀ (x0 : Int) (x1 : Cd), Sz C0 x1 → SZ C0 (J x0 x1)) → SZ C0 (f J)) : SZ C0 (bnd a f) := K a h
theorem S_L_IC {z : Int → Cd → Option (ρ × Cd)} {body : (Int → Cd → Option (ρ × Cd)) → (Int → Cd → Option (ρ × Cd))} {n : Nat} {f : (Int → Cd → Option (ρ × Cd)) → Option (ρ × Cd)} (hz : ∀ (x0 : Int) (x1 : Cd), Sz C0 x1 → SZ C0 (z x0 x1)) (hs : ∀ L : Int → Cd → Option (ρ × Cd), (∀ (x0 : Int) (x1 : Cd), Sz C0 x1 → SZ C0 (L x0 x1)) → ∀ (x0 : Int) (x1 : Cd), Sz C0 x1 → SZ C0 (body L x0 x1)) (K : ∀ J : Int → Cd → Option (ρ × Cd), (∀ (x0 : Int) (x1 : Cd), Sz C0 x1 → SZ C0 (J x0 x1)) → SZ C0 (f J)) : SZ C0 (bnd (lpn z body n) f) := K _ (lpn_rule (P := fun _ L => ∀ (x0 : Int) (x1 : Cd), Sz C0 x1 → SZ C0 (L x0 x1)) hz (fun _ L h => hs L h) n)
theorem S_J_IIC {a : Int → Int → Cd → Option (ρ × Cd)} {f : (Int → Int → Cd → Option (ρ × Cd)) → Option (ρ × Cd)} (h : ∀ (x0 : Int) (x1 : Int) (x2 : Cd), Sz C0 x2 → SZ C0 (a x0 x1 x2)) (K : ∀ J : Int → Int → Cd → Option (ρ × Cd), (∀ (x0 : Int) (x1 : Int) (x2 : Cd), Sz C0 x2 → SZ C0 (J x0 x1 x2)) → SZ C0 (f J)) : SZ C0 (bnd a f) := K a h
theorem S_L_IIC {z : Int → Int → Cd → Option (ρ × Cd)} {body : (Int → Int → Cd → Option (ρ × Cd)) → (Int → Int → Cd → Option (ρ × Cd))} {n : Nat} {f : (Int → Int → Cd → Option (ρ × Cd)) → Option (ρ × Cd)} (hz : ∀ (x0 : Int) (x1 : Int) (x2 : Cd), Sz C0 x2 → SZ C0 (z x0 x1 x2)) (hs : ∀ L : Int → Int → Cd → Option (ρ × Cd), (∀ (x0 : Int) (x1 : Int) (x2 : Cd), Sz C0 x2 → SZ C0 (L x0 x1 x2)) → ∀ (x0 : Int) (x1 : Int) (x2 : Cd), Sz C0 x2 → SZ C0 (body L x0 x1 x2)) (K : ∀ J : Int → Int → Cd → Option (ρ × Cd), (∀ (x0 : Int) (x1 : Int) (x2 : Cd), Sz C0 x2 → SZ C0 (J x0 x1 x2)) → SZ C0 (f J)) : SZ C0 (bnd (lpn z body n) f) := K _ (lpn_rule (P := fun _ L => ∀ (x0 : Int) (x1 : Int) (x2 : Cd), Sz C0 x2 → SZ C0 (L x0 x1 x2)) hz (fun _ L h => hs L h) n)
theorem S_J_OC {a : Option Nat → Cd → Option (ρ × Cd)} {f : (Option Nat → Cd → Option (ρ × Cd)) → Option (ρ × Cd)} (h : ∀ (x0 : Option Nat) (x1 : Cd), Sz C0 x1 → SZ C0 (a x0 x1)) (K : ∀ J : Option Nat → Cd → Option (ρ × Cd), (∀ (x0 : Option Nat) (x1 : Cd), Sz C0 x1 → SZ C0 (J x0 x1)) → SZ C0 (f J)) : SZ C0 (bnd a f) := K a h
theorem S_L_OC {z : Option Nat → Cd → Option (ρ × Cd)} {body : (Option Nat → Cd → Option (ρ × Cd)) → (Option Nat → Cd → Option (ρ × Cd))} {n : Nat} {f : (Option Nat → Cd → Option (ρ × Cd)) → Option (ρ × Cd)} (hz : ∀ (x0 : Option Nat) (x1 : Cd), Sz C0 x1 → SZ C0 (z x0 x1)) (hs : ∀ L : Option Nat → Cd → Option (ρ × Cd), (∀ (x0 : Option Nat) (x1 : Cd), Sz C0 x1 → SZ C0 (L x0 x1)) → ∀ (x0 : Option Nat) (x1 : Cd), Sz C0 x1 → SZ C0 (body L x0 x1)) (K : ∀ J : Option Nat → Cd → Option (ρ × Cd), (∀ (x0 : Option Nat) (x1 : Cd), Sz C0 x1 → SZ C0 (J x0 x1)) → SZ C0 (f J)) : SZ C0 (bnd (lpn z body n) f) := K _ (lpn_rule (P := fun _ L => ∀ (x0 : Option Nat) (x1 : Cd), Sz C0 x1 → SZ C0 (L x0 x1)) hz (fun _ L h => hs L h) n)
theorem X_ite {c : Prop} [Decidable c] {A B : Option ((ρ ⊕ Nat) × Cd)} (h1 : SX C0 A) (h2 : SX C0 B) : SX C0 (if c then A else B) := by
  split
  · exact h1
  · exact h2
theorem X_drf {z : Option Nat} {f : Nat → Option ((ρ ⊕ Nat) × Cd)} (K : ∀ p, SX C0 (f p)) : SX C0 (drf z f) := by
  cases z with
  | none => exact X_none
  | some p => exact K p
theorem X_opt {z : Option Nat} {x : Option ((ρ ⊕ Nat) × Cd)} {f : Nat → Option ((ρ ⊕ Nat) × Cd)} (h : SX C0 x) (K : ∀ p, SX C0 (f p)) : SX C0 (opt z x f) := by
  cases z with
  | none => exact h
  | some p => exact K p
theorem X_bndC {a : Cd} {f : Cd → Option ((ρ ⊕ Nat) × Cd)} (h : Sz C0 a) (K : ∀ C, Sz C0 C → SX C0 (f C)) : SX C0 (bnd a f) := K a h
theorem X_bndI {a : Int} {f : Int → Option ((ρ ⊕ Nat) × Cd)} (K : ∀ x, SX C0 (f x)) : SX C0 (bnd a f) := K a
theorem X_bndN {a : Nat} {f : Nat → Option ((ρ ⊕ Nat) × Cd)} (K : ∀ x, SX C0 (f x)) : SX C0 (bnd a f) := K a
theorem X_bndO {a : Option Nat} {f : Option Nat → Option ((ρ ⊕ Nat) × Cd)} (K : ∀ x, SX C0 (f x)) : SX C0 (bnd a f) := K a
theorem X_J_C {a : Cd → Option ((ρ ⊕ Nat) × Cd)} {f : (Cd → Option ((ρ ⊕ Nat) × Cd)) → Option ((ρ ⊕ Nat) × Cd)} (h : ∀ (x0 : Cd), Sz C0 x0 → SX C0 (a x0)) (K : ∀ J : Cd → Option ((ρ ⊕ Nat) × Cd), (∀ (x0 : Cd), Sz C0 x0 → SX C0 (J x0)) → SX C0 (f J)) : SX C0 (bnd a f) := K a h
theorem X_L_C {z : Cd → Option ((ρ ⊕ Nat) × Cd)} {body : (Cd → Option ((ρ ⊕ Nat) × Cd)) → (Cd → Option ((ρ ⊕ Nat) × Cd))} {n : Nat} {f : (Cd → Option ((ρ ⊕ Nat) × Cd)) → Option ((ρ ⊕ Nat) × Cd)} (hz : ∀ (x0 : Cd), Sz C0 x0 → SX C0 (z x0)) (hs : ∀ L : Cd → Option ((ρ ⊕ Nat) × Cd), (∀ (x0 : Cd), Sz C0 x0 → SX C0 (L x0)) → ∀ (x0 : Cd), Sz C0 x0 → SX C0 (body L x0)) (K : ∀ J : Cd → Option ((ρ ⊕ Nat) × Cd), (∀ (x0 : Cd), Sz C0 x0 → SX C0 (J x0)) → SX C0 (f J)) : SX C0 (bnd (lpn z body n) f) := K _ (lpn_rule (P := fun _ L => ∀ (x0 : Cd), Sz C0 x0 → SX C0 (L x0)) hz (fun _ L h => hs L h) n)
theorem X_J_IC {a : Int → Cd → Option ((ρ ⊕ Nat) × Cd)} {f : (Int → Cd → Option ((ρ ⊕ Nat) × Cd)) → Option ((ρ ⊕ Nat) × Cd)} (h : ∀ (x0 : Int) (x1 : Cd), Sz C0 x1 → SX C0 (a x0 x1)) (K : ∀ J : Int → Cd → Option ((ρ ⊕ Nat) × Cd), (∀ (x0 : Int) (x1 : Cd), Sz C0 x1 → SX C0 (J x0 x1)) → SX C0 (f J)) : SX C0 (bnd a f) := K a h
theorem X_L_IC {z : Int → Cd → Option ((ρ ⊕ Nat) × Cd)} {body : (Int → Cd → Option ((ρ ⊕ Nat) × Cd)) → (Int → Cd → Option ((ρ ⊕ Nat) × Cd))} {n : Nat} {f : (Int → Cd → Option ((ρ ⊕ Nat) × Cd)) → Option ((ρ ⊕ Nat) × Cd)} (hz : ∀ (x0 : Int) (x1 : Cd), Sz C0 x1 → SX C0 (z x0 x1)) (hs : ∀ L : Int → Cd → Option ((ρ ⊕ Nat) × Cd), (∀ (x0 : Int) (x1 : Cd), Sz C0 x1 → SX C0 (L x0 x1)) → ∀ (x0 : Int) (x1 : Cd), Sz C0 x1 → SX C0 (body L x0 x1)) (K : ∀ J : Int → Cd → Option ((ρ ⊕ Nat) × Cd), (∀ (x0 : Int) (x1 : Cd), Sz C0 x1 → SX C0 (J x0 x1)) → SX C0 (f J)) : SX C0 (bnd (lpn z body n) f) := K _ (lpn_rule (P := fun _ L => ∀ (x0 : Int) (x1 : Cd), Sz C0 x1 → SX C0 (L x0 x1)) hz (fun _ L h => hs L h) n)
theorem X_J_IIC {a : Int → Int → Cd → Option ((ρ ⊕ Nat) × Cd)} {f : (Int → Int → Cd → Option ((ρ ⊕ Nat) × Cd)) → Option ((ρ ⊕ Nat) × Cd)} (h : ∀ (x0 : Int) (x1 : Int) (x2 : Cd), Sz C0 x2 → SX C0 (a x0 x1 x2)) (K : ∀ J : Int → Int → Cd → Option ((ρ ⊕ Nat) × Cd), (∀ (x0 : Int) (x1 : Int) (x2 : Cd), Sz C0 x2 → SX C0 (J x0 x1 x2)) → SX C0 (f J)) : SX C0 (bnd a f) := K a h
theorem X_L_IIC {z : Int → Int → Cd → Option ((ρ ⊕ Nat) × Cd)} {body : (Int → Int → Cd → Option ((ρ ⊕ Nat) × Cd)) → (Int → Int → Cd → Option ((ρ ⊕ Nat) × Cd))} {n : Nat} {f : (Int → Int → Cd → Option ((ρ ⊕ Nat) × Cd)) → Option ((ρ ⊕ Nat) × Cd)} (hz : ∀ (x0 : Int) (x1 : Int) (x2 : Cd), Sz C0 x2 → SX C0 (z x0 x1 x2)) (hs : ∀ L : Int → Int → Cd → Option ((ρ ⊕ Nat) × Cd), (∀ (x0 : Int) (x1 : Int) (x2 : Cd), Sz C0 x2 → SX C0 (L x0 x1 x2)) → ∀ (x0 : Int) (x1 : Int) (x2 : Cd), Sz C0 x2 → SX C0 (body L x0 x1 x2)) (K : ∀ J : Int → Int → Cd → Option ((ρ ⊕ Nat) × Cd), (∀ (x0 : Int) (x1 : Int) (x2 : Cd), Sz C0 x2 → SX C0 (J x0 x1 x2)) → SX C0 (f J)) : SX C0 (bnd (lpn z body n) f) := K _ (lpn_rule (P := fun _ L => ∀ (x0 : Int) (x1 : Int) (x2 : Cd), Sz C0 x2 → SX C0 (L x0 x1 x2)) hz (fun _ L h => hs L h) n)
theorem X_J_OC {a : Option Nat → Cd → Option ((ρ ⊕ Nat) × Cd)} {f : (Option Nat → Cd → Option ((ρ ⊕ Nat) × Cd)) → Option ((ρ ⊕ Nat) × Cd)} (h : ∀ (x0 : Option Nat) (x1 : Cd), Sz C0 x1 → SX C0 (a x0 x1)) (K : ∀ J : Option Nat → Cd → Option ((ρ ⊕ Nat) × Cd), (∀ (x0 : Option Nat) (x1 : Cd), Sz C0 x1 → SX C0 (J x0 x1)) → SX C0 (f J)) : SX C0 (bnd a f) := K a h
theorem X_L_OC {z : Option Nat → Cd → Option ((ρ ⊕ Nat) × Cd)} {body : (Option Nat → Cd → Option ((ρ ⊕ Nat) × Cd)) → (Option Nat → Cd → Option ((ρ ⊕ Nat) × Cd))} {n : Nat} {f : (Option Nat → Cd → Option ((ρ ⊕ Nat) × Cd)) → Option ((ρ ⊕ Nat) × Cd)} (hz : ∀ (x0 : Option Nat) (x1 : Cd), Sz C0 x1 → SX C0 (z x0 x1)) (hs : ∀ L : Option Nat → Cd → Option ((ρ ⊕ Nat) × Cd), (∀ (x0 : Option Nat) (x1 : Cd), Sz C0 x1 → SX C0 (L x0 x1)) → ∀ (x0 : Option Nat) (x1 : Cd), Sz C0 x1 → SX C0 (body L x0 x1)) (K : ∀ J : Option Nat → Cd → Option ((ρ ⊕ Nat) × Cd), (∀ (x0 : Option Nat) (x1 : Cd), Sz C0 x1 → SX C0 (J x0 x1)) → SX C0 (f J)) : SX C0 (bnd (lpn z body n) f) := K _ (lpn_rule (P := fun _ L => ∀ (x0 : Option Nat) (x1 : Cd), Sz C0 x1 → SX C0 (L x0 x1)) hz (fun _ L h => hs L h) n)
set_option maxHeartbeats 16000000 in
set_option maxRecDepth 100000 in
theorem sz_fX11_has (a0 : Int) (a1 : Int) (C : Cd) : SZ C (fX11_has a0 a1 C) := by
  unfold fX11_has
  have hC0 : Sz C C := Sz.rf C
  repeat' (with_reducible first
    | exact S_none
    | exact S_some (by assumption)
    | exact S_retZ (by assumption)
    | refine S_ite ?_ ?_
    | refine S_bndC (by first | assumption | exact Sz.sI (by assumption) _ _ _ | exact Sz.sR (by assumption) _ _ _ | exact Sz.sE (by assumption) _ _ _) (fun _ _ => ?_)
    | refine S_drf (fun _ => ?_)
    | refine S_bndO (fun _ => ?_)
    | refine S_bndI (fun _ => ?_)
    | refine S_bndN (fun _ => ?_)
    | refine S_opt ?_ (fun _ => ?_)
    | refine S_L_IC (fun _ _ _ => ?_) (fun _ _ _ _ _ => ?_) (fun _ _ => ?_)
    | refine S_J_IC (fun _ _ _ => ?_) (fun _ _ => ?_)
    | solve_by_elim (maxDepth := 3))
set_option maxHeartbeats 16000000 in
set_option maxRecDepth 100000 in
theorem sz_fX11_membersOf (a0 : Option Nat) (a1 : Int) (C : Cd) : SZ C (fX11_membersOf a0 a1 C) := by
  unfold fX11_membersOf
  have hC0 : Sz C C := Sz.rf C
  repeat' (with_reducible first
    | exact S_none
    | exact S_some (by assumption)
    | exact S_retZ (by assumption)
    | refine S_ite ?_ ?_
    | refine S_bndC (by first | assumption | exact Sz.sI (by assumption) _ _ _ | exact Sz.sR (by assumption) _ _ _ | exact Sz.sE (by assumption) _ _ _) (fun _ _ => ?_)
    | refine S_drf (fun _ => ?_)
    | refine S_bndO (fun _ => ?_)
    | refine S_bndI (fun _ => ?_)
    | refine S_bndN (fun _ => ?_)
    | refine S_opt ?_ (fun _ => ?_)
    | refine S_L_IC (fun _ _ _ => ?_) (fun _ _ _ _ _ => ?_) (fun _ _ => ?_)
    | refine S_J_IC (fun _ _ _ => ?_) (fun _ _ => ?_)
    | refine S_L_IIC (fun _ _ _ _ => ?_) (fun _ _ _ _ _ _ => ?_) (fun _ _ => ?_)
    | refine S_J_IIC (fun _ _ _ _ => ?_) (fun _ _ => ?_)
    | refine S_cal (sz_fX11_has _ _ _) (by assumption) (fun _ _ _ => ?_)
    | exact sz_fX11_has _ _ _
    | solve_by_elim (maxDepth := 3))
set_option maxHeartbeats 16000000 in
set_option maxRecDepth 100000 in
theorem sz_fX8_valueAt (a0 : Nat) (a1 : Int) (C : Cd) : SZ C (fX8_valueAt a0 a1 C) := by
  unfold fX8_valueAt
  have hC0 : Sz C C := Sz.rf C
  repeat' (with_reducible first
    | exact S_none
    | exact S_some (by assumption)
    | exact S_retZ (by assumption)
    | refine S_ite ?_ ?_
    | refine S_bndC (by first | assumption | exact Sz.sI (by assumption) _ _ _ | exact Sz.sR (by assumption) _ _ _ | exact Sz.sE (by assumption) _ _ _) (fun _ _ => ?_)
    | refine S_drf (fun _ => ?_)
    | refine S_bndO (fun _ => ?_)
    | refine S_bndI (fun _ => ?_)
    | refine S_bndN (fun _ => ?_)
    | refine S_opt ?_ (fun _ => ?_)
    | refine S_L_C (fun _ _ => ?_) (fun _ _ _ _ => ?_) (fun _ _ => ?_)
    | refine S_J_C (fun _ _ => ?_) (fun _ _ => ?_)
    | refine S_L_IC (fun _ _ _ => ?_) (fun _ _ _ _ _ => ?_) (fun _ _ => ?_)
    | refine S_J_IC (fun _ _ _ => ?_) (fun _ _ => ?_)
    | solve_by_elim (maxDepth := 3))
set_option maxHeartbeats 16000000 in
set_option maxRecDepth 100000 in
theorem sz_fX8_kindAt (a0 : Nat) (a1 : Int) (C : Cd) : SZ C (fX8_kindAt a0 a1 C) := by
  unfold fX8_kindAt
  have hC0 : Sz C C := Sz.rf C
  repeat' (with_reducible first
    | exact S_none
    | exact S_some (by assumption)
    | exact S_retZ (by assumption)
    | refine S_ite ?_ ?_
    | refine S_bndC (by first | assumption | exact Sz.sI (by assumption) _ _ _ | exact Sz.sR (by assumption) _ _ _ | exact Sz.sE (by assumption) _ _ _) (fun _ _ => ?_)
    | refine S_drf (fun _ => ?_)
    | refine S_bndO (fun _ => ?_)
    | refine S_bndI (fun _ => ?_)
    | refine S_bndN (fun _ => ?_)
    | refine S_opt ?_ (fun _ => ?_)
    | refine S_L_C (fun _ _ => ?_) (fun _ _ _ _ => ?_) (fun _ _ => ?_)
    | refine S_J_C (fun _ _ => ?_) (fun _ _ => ?_)
    | refine S_L_IC (fun _ _ _ => ?_) (fun _ _ _ _ _ => ?_) (fun _ _ => ?_)
    | refine S_J_IC (fun _ _ _ => ?_) (fun _ _ => ?_)
    | solve_by_elim (maxDepth := 3))
set_option maxHeartbeats 16000000 in
set_option maxRecDepth 100000 in
theorem sz_fX5_at (a0 : Nat) (a1 : Int) (C : Cd) : SZ C (fX5_at a0 a1 C) := by
  unfold fX5_at
  have hC0 : Sz C C := Sz.rf C
  repeat' (with_reducible first
    | exact S_none
    | exact S_some (by assumption)
    | exact S_retZ (by assumption)
    | refine S_ite ?_ ?_
    | refine S_bndC (by first | assumption | exact Sz.sI (by assumption) _ _ _ | exact Sz.sR (by assumption) _ _ _ | exact Sz.sE (by assumption) _ _ _) (fun _ _ => ?_)
    | refine S_drf (fun _ => ?_)
    | refine S_bndO (fun _ => ?_)
    | refine S_bndI (fun _ => ?_)
    | refine S_bndN (fun _ => ?_)
    | refine S_opt ?_ (fun _ => ?_)
    | refine S_L_C (fun _ _ => ?_) (fun _ _ _ _ => ?_) (fun _ _ => ?_)
    | refine S_J_C (fun _ _ => ?_) (fun _ _ => ?_)
    | refine S_L_IC (fun _ _ _ => ?_) (fun _ _ _ _ _ => ?_) (fun _ _ => ?_)
    | refine S_J_IC (fun _ _ _ => ?_) (fun _ _ => ?_)
    | solve_by_elim (maxDepth := 3))
set_option maxHeartbeats 16000000 in
set_option maxRecDepth 100000 in
theorem sz_fX3_textUpTo (a0 : Nat) (a1 : Int) (C : Cd) : SZ C (fX3_textUpTo a0 a1 C) := by
  unfold fX3_textUpTo
  have hC0 : Sz C C := Sz.rf C
  repeat' (with_reducible first
    | exact S_none
    | exact S_some (by assumption)
    | exact S_retZ (by assumption)
    | refine S_ite ?_ ?_
    | refine S_bndC (by first | assumption | exact Sz.sI (by assumption) _ _ _ | exact Sz.sR (by assumption) _ _ _ | exact Sz.sE (by assumption) _ _ _) (fun _ _ => ?_)
    | refine S_drf (fun _ => ?_)
    | refine S_bndO (fun _ => ?_)
    | refine S_bndI (fun _ => ?_)
    | refine S_bndN (fun _ => ?_)
    | refine S_opt ?_ (fun _ => ?_)
    | refine S_L_OC (fun _ _ _ => ?_) (fun _ _ _ _ _ => ?_) (fun _ _ => ?_)
    | refine S_J_OC (fun _ _ _ => ?_) (fun _ _ => ?_)
    | solve_by_elim (maxDepth := 3))
set_option maxHeartbeats 16000000 in
set_option maxRecDepth 100000 in
theorem sz_fX1_textAt (a0 : Nat) (a1 : Int) (a2 : Int) (C : Cd) : SZ C (fX1_textAt a0 a1 a2 C) := by
  unfold fX1_textAt
  have hC0 : Sz C C := Sz.rf C
  repeat' (with_reducible first
    | exact S_none
    | exact S_some (by assumption)
    | exact S_retZ (by assumption)
    | refine S_ite ?_ ?_
    | refine S_bndC (by first | assumption | exact Sz.sI (by assumption) _ _ _ | exact Sz.sR (by assumption) _ _ _ | exact Sz.sE (by assumption) _ _ _) (fun _ _ => ?_)
    | refine S_drf (fun _ => ?_)
    | refine S_bndO (fun _ => ?_)
    | refine S_bndI (fun _ => ?_)
    | refine S_bndN (fun _ => ?_)
    | refine S_opt ?_ (fun _ => ?_)
    | refine S_L_C (fun _ _ => ?_) (fun _ _ _ _ => ?_) (fun _ _ => ?_)
    | refine S_J_C (fun _ _ => ?_) (fun _ _ => ?_)
    | refine S_L_OC (fun _ _ _ => ?_) (fun _ _ _ _ _ => ?_) (fun _ _ => ?_)
    | refine S_J_OC (fun _ _ _ => ?_) (fun _ _ => ?_)
    | refine S_cal (sz_fX3_textUpTo _ _ _) (by assumption) (fun _ _ _ => ?_)
    | exact sz_fX3_textUpTo _ _ _
    | solve_by_elim (maxDepth := 3))
set_option maxHeartbeats 16000000 in
set_option maxRecDepth 100000 in
theorem sz_fX8_isRedirect (a0 : Nat) (C : Cd) : SZ C (fX8_isRedirect a0 C) := by
  unfold fX8_isRedirect
  have hC0 : Sz C C := Sz.rf C
  repeat' (with_reducible first
    | exact S_none
    | exact S_some (by assumption)
    | exact S_retZ (by assumption)
    | refine S_ite ?_ ?_
    | refine S_bndC (by first | assumption | exact Sz.sI (by assumption) _ _ _ | exact Sz.sR (by assumption) _ _ _ | exact Sz.sE (by assumption) _ _ _) (fun _ _ => ?_)
    | refine S_drf (fun _ => ?_)
    | refine S_bndO (fun _ => ?_)
    | refine S_bndI (fun _ => ?_)
    | refine S_bndN (fun _ => ?_)
    | refine S_opt ?_ (fun _ => ?_)
    | refine S_L_IC (fun _ _ _ => ?_) (fun _ _ _ _ _ => ?_) (fun _ _ => ?_)
    | refine S_J_IC (fun _ _ _ => ?_) (fun _ _ => ?_)
    | refine S_cal (sz_fX8_kindAt _ _ _) (by assumption) (fun _ _ _ => ?_)
    | exact sz_fX8_kindAt _ _ _
    | solve_by_elim (maxDepth := 3))
set_option maxHeartbeats 16000000 in
set_option maxRecDepth 100000 in
theorem sz_fX1_goalOf (a0 : Nat) (a1 : Int) (a2 : Int) (C : Cd) : SZ C (fX1_goalOf a0 a1 a2 C) := by
  unfold fX1_goalOf
  have hC0 : Sz C C := Sz.rf C
  repeat' (with_reducible first
    | exact S_none
    | exact S_some (by assumption)
    | exact S_retZ (by assumption)
    | refine S_ite ?_ ?_
    | refine S_bndC (by first | assumption | exact Sz.sI (by assumption) _ _ _ | exact Sz.sR (by assumption) _ _ _ | exact Sz.sE (by assumption) _ _ _) (fun _ _ => ?_)
    | refine S_drf (fun _ => ?_)
    | refine S_bndO (fun _ => ?_)
    | refine S_bndI (fun _ => ?_)
    | refine S_bndN (fun _ => ?_)
    | refine S_opt ?_ (fun _ => ?_)
    | refine S_L_IIC (fun _ _ _ _ => ?_) (fun _ _ _ _ _ _ => ?_) (fun _ _ => ?_)
    | refine S_J_IIC (fun _ _ _ _ => ?_) (fun _ _ => ?_)
    | refine S_cal (sz_fX1_textAt _ _ _ _) (by assumption) (fun _ _ _ => ?_)
    | exact sz_fX1_textAt _ _ _ _
    | refine S_cal (sz_fX8_isRedirect _ _) (by assumption) (fun _ _ _ => ?_)
    | exact sz_fX8_isRedirect _ _
    | refine S_cal (sz_fX8_valueAt _ _ _) (by assumption) (fun _ _ _ => ?_)
    | exact sz_fX8_valueAt _ _ _
    | solve_by_elim (maxDepth := 3))
set_option maxHeartbeats 16000000 in
set_option maxRecDepth 100000 in
theorem sz_fX3_versionAtIndex (a0 : Nat) (a1 : Int) (C : Cd) : SZ C (fX3_versionAtIndex a0 a1 C) := by
  unfold fX3_versionAtIndex
  have hC0 : Sz C C := Sz.rf C
  repeat' (with_reducible first
    | exact S_none
    | exact S_some (by assumption)
    | exact S_retZ (by assumption)
    | refine S_ite ?_ ?_
    | refine S_bndC (by first | assumption | exact Sz.sI (by assumption) _ _ _ | exact Sz.sR (by assumption) _ _ _ | exact Sz.sE (by assumption) _ _ _) (fun _ _ => ?_)
    | refine S_drf (fun _ => ?_)
    | refine S_bndO (fun _ => ?_)
    | refine S_bndI (fun _ => ?_)
    | refine S_bndN (fun _ => ?_)
    | refine S_opt ?_ (fun _ => ?_)
    | refine S_L_C (fun _ _ => ?_) (fun _ _ _ _ => ?_) (fun _ _ => ?_)
    | refine S_J_C (fun _ _ => ?_) (fun _ _ => ?_)
    | refine S_L_OC (fun _ _ _ => ?_) (fun _ _ _ _ _ => ?_) (fun _ _ => ?_)
    | refine S_J_OC (fun _ _ _ => ?_) (fun _ _ => ?_)
    | refine S_cal (sz_fAL_size _ _) (by assumption) (fun _ _ _ => ?_)
    | exact sz_fAL_size _ _
    | refine S_cal (sz_fAL_get _ _ _) (by assumption) (fun _ _ _ => ?_)
    | exact sz_fAL_get _ _ _
    | solve_by_elim (maxDepth := 3))
set_option maxHeartbeats 16000000 in
set_option maxRecDepth 100000 in
theorem sz_fX8_add (a0 : Nat) (a1 : Int) (C : Cd) : SZ C (fX8_add a0 a1 C) := by
  unfold fX8_add
  have hC0 : Sz C C := Sz.rf C
  repeat' (with_reducible first
    | exact S_none
    | exact S_some (by assumption)
    | exact S_retZ (by assumption)
    | refine S_ite ?_ ?_
    | refine S_bndC (by first | assumption | exact Sz.sI (by assumption) _ _ _ | exact Sz.sR (by assumption) _ _ _ | exact Sz.sE (by assumption) _ _ _) (fun _ _ => ?_)
    | refine S_drf (fun _ => ?_)
    | refine S_bndO (fun _ => ?_)
    | refine S_bndI (fun _ => ?_)
    | refine S_bndN (fun _ => ?_)
    | refine S_opt ?_ (fun _ => ?_)
    | refine S_L_C (fun _ _ => ?_) (fun _ _ _ _ => ?_) (fun _ _ => ?_)
    | refine S_J_C (fun _ _ => ?_) (fun _ _ => ?_)
    | solve_by_elim (maxDepth := 3))
set_option maxHeartbeats 16000000 in
set_option maxRecDepth 100000 in
theorem sz_fX8_codeAt (a0 : Nat) (a1 : Int) (C : Cd) : SZ C (fX8_codeAt a0 a1 C) := by
  unfold fX8_codeAt
  have hC0 : Sz C C := Sz.rf C
  repeat' (with_reducible first
    | exact S_none
    | exact S_some (by assumption)
    | exact S_retZ (by assumption)
    | refine S_ite ?_ ?_
    | refine S_bndC (by first | assumption | exact Sz.sI (by assumption) _ _ _ | exact Sz.sR (by assumption) _ _ _ | exact Sz.sE (by assumption) _ _ _) (fun _ _ => ?_)
    | refine S_drf (fun _ => ?_)
    | refine S_bndO (fun _ => ?_)
    | refine S_bndI (fun _ => ?_)
    | refine S_bndN (fun _ => ?_)
    | refine S_opt ?_ (fun _ => ?_)
    | refine S_L_C (fun _ _ => ?_) (fun _ _ _ _ => ?_) (fun _ _ => ?_)
    | refine S_J_C (fun _ _ => ?_) (fun _ _ => ?_)
    | refine S_L_IC (fun _ _ _ => ?_) (fun _ _ _ _ _ => ?_) (fun _ _ => ?_)
    | refine S_J_IC (fun _ _ _ => ?_) (fun _ _ => ?_)
    | solve_by_elim (maxDepth := 3))
set_option maxHeartbeats 16000000 in
set_option maxRecDepth 100000 in
theorem sz_fX8_clear (a0 : Nat) (C : Cd) : SZ C (fX8_clear a0 C) := by
  unfold fX8_clear
  have hC0 : Sz C C := Sz.rf C
  repeat' (with_reducible first
    | exact S_none
    | exact S_some (by assumption)
    | exact S_retZ (by assumption)
    | refine S_ite ?_ ?_
    | refine S_bndC (by first | assumption | exact Sz.sI (by assumption) _ _ _ | exact Sz.sR (by assumption) _ _ _ | exact Sz.sE (by assumption) _ _ _) (fun _ _ => ?_)
    | refine S_drf (fun _ => ?_)
    | refine S_bndO (fun _ => ?_)
    | refine S_bndI (fun _ => ?_)
    | refine S_bndN (fun _ => ?_)
    | refine S_opt ?_ (fun _ => ?_)
    | solve_by_elim (maxDepth := 3))
set_option maxHeartbeats 16000000 in
set_option maxRecDepth 100000 in
theorem sz_fX9_waits (a0 : Nat) (C : Cd) : SZ C (fX9_waits a0 C) := by
  unfold fX9_waits
  have hC0 : Sz C C := Sz.rf C
  repeat' (with_reducible first
    | exact S_none
    | exact S_some (by assumption)
    | exact S_retZ (by assumption)
    | refine S_ite ?_ ?_
    | refine S_bndC (by first | assumption | exact Sz.sI (by assumption) _ _ _ | exact Sz.sR (by assumption) _ _ _ | exact Sz.sE (by assumption) _ _ _) (fun _ _ => ?_)
    | refine S_drf (fun _ => ?_)
    | refine S_bndO (fun _ => ?_)
    | refine S_bndI (fun _ => ?_)
    | refine S_bndN (fun _ => ?_)
    | refine S_opt ?_ (fun _ => ?_)
    | refine S_L_C (fun _ _ => ?_) (fun _ _ _ _ => ?_) (fun _ _ => ?_)
    | refine S_J_C (fun _ _ => ?_) (fun _ _ => ?_)
    | refine S_L_IC (fun _ _ _ => ?_) (fun _ _ _ _ _ => ?_) (fun _ _ => ?_)
    | refine S_J_IC (fun _ _ _ => ?_) (fun _ _ => ?_)
    | solve_by_elim (maxDepth := 3))
set_option maxHeartbeats 16000000 in
set_option maxRecDepth 100000 in
theorem sz_fX11_titleOf (a0 : Nat) (a1 : Int) (C : Cd) : SX C (fX11_titleOf a0 a1 C) := by
  unfold fX11_titleOf
  have hC0 : Sz C C := Sz.rf C
  repeat' (with_reducible first
    | exact X_none
    | exact X_inl (by assumption)
    | exact X_inr (by assumption)
    | exact X_retZ (by assumption)
    | refine X_ite ?_ ?_
    | refine X_bndC (by first | assumption | exact Sz.sI (by assumption) _ _ _ | exact Sz.sR (by assumption) _ _ _ | exact Sz.sE (by assumption) _ _ _) (fun _ _ => ?_)
    | refine X_drf (fun _ => ?_)
    | refine X_bndO (fun _ => ?_)
    | refine X_bndI (fun _ => ?_)
    | refine X_bndN (fun _ => ?_)
    | refine X_opt ?_ (fun _ => ?_)
    | refine X_L_C (fun _ _ => ?_) (fun _ _ _ _ => ?_) (fun _ _ => ?_)
    | refine X_J_C (fun _ _ => ?_) (fun _ _ => ?_)
    | solve_by_elim (maxDepth := 3))
set_option maxHeartbeats 16000000 in
set_option maxRecDepth 100000 in
theorem sz_fX11_pageOf (a0 : Nat) (a1 : Int) (C : Cd) : SX C (fX11_pageOf a0 a1 C) := by
  unfold fX11_pageOf
  have hC0 : Sz C C := Sz.rf C
  repeat' (with_reducible first
    | exact X_none
    | exact X_inl (by assumption)
    | exact X_inr (by assumption)
    | exact X_retZ (by assumption)
    | refine X_ite ?_ ?_
    | refine X_bndC (by first | assumption | exact Sz.sI (by assumption) _ _ _ | exact Sz.sR (by assumption) _ _ _ | exact Sz.sE (by assumption) _ _ _) (fun _ _ => ?_)
    | refine X_drf (fun _ => ?_)
    | refine X_bndO (fun _ => ?_)
    | refine X_bndI (fun _ => ?_)
    | refine X_bndN (fun _ => ?_)
    | refine X_opt ?_ (fun _ => ?_)
    | refine X_cal (sz_fX11_titleOf _ _ _) (by assumption) (fun _ _ _ => ?_)
    | refine X_calx (sz_fX11_titleOf _ _ _) (by assumption) (fun _ _ _ => ?_)
    | exact sz_fX11_titleOf _ _ _
    | solve_by_elim (maxDepth := 3))
set_option maxHeartbeats 16000000 in
set_option maxRecDepth 100000 in
theorem sz_fX11_refuseBelowZero (a0 : Nat) (a1 : Int) (C : Cd) : SX C (fX11_refuseBelowZero a0 a1 C) := by
  unfold fX11_refuseBelowZero
  have hC0 : Sz C C := Sz.rf C
  repeat' (with_reducible first
    | exact X_none
    | exact X_inl (by assumption)
    | exact X_inr (by assumption)
    | exact X_retZ (by assumption)
    | refine X_ite ?_ ?_
    | refine X_bndC (by first | assumption | exact Sz.sI (by assumption) _ _ _ | exact Sz.sR (by assumption) _ _ _ | exact Sz.sE (by assumption) _ _ _) (fun _ _ => ?_)
    | refine X_drf (fun _ => ?_)
    | refine X_bndO (fun _ => ?_)
    | refine X_bndI (fun _ => ?_)
    | refine X_bndN (fun _ => ?_)
    | refine X_opt ?_ (fun _ => ?_)
    | solve_by_elim (maxDepth := 3))
set_option maxHeartbeats 16000000 in
set_option maxRecDepth 100000 in
theorem sz_fX11_clock (a0 : Nat) (C : Cd) : SZ C (fX11_clock a0 C) := by
  unfold fX11_clock
  have hC0 : Sz C C := Sz.rf C
  repeat' (with_reducible first
    | exact S_none
    | exact S_some (by assumption)
    | exact S_retZ (by assumption)
    | refine S_ite ?_ ?_
    | refine S_bndC (by first | assumption | exact Sz.sI (by assumption) _ _ _ | exact Sz.sR (by assumption) _ _ _ | exact Sz.sE (by assumption) _ _ _) (fun _ _ => ?_)
    | refine S_drf (fun _ => ?_)
    | refine S_bndO (fun _ => ?_)
    | refine S_bndI (fun _ => ?_)
    | refine S_bndN (fun _ => ?_)
    | refine S_opt ?_ (fun _ => ?_)
    | solve_by_elim (maxDepth := 3))
set_option maxHeartbeats 16000000 in
set_option maxRecDepth 100000 in
theorem sz_fX11_refuseOtherLanguages (a0 : Nat) (a1 : Int) (C : Cd) : SX C (fX11_refuseOtherLanguages a0 a1 C) := by
  unfold fX11_refuseOtherLanguages
  have hC0 : Sz C C := Sz.rf C
  repeat' (with_reducible first
    | exact X_none
    | exact X_inl (by assumption)
    | exact X_inr (by assumption)
    | exact X_retZ (by assumption)
    | refine X_ite ?_ ?_
    | refine X_bndC (by first | assumption | exact Sz.sI (by assumption) _ _ _ | exact Sz.sR (by assumption) _ _ _ | exact Sz.sE (by assumption) _ _ _) (fun _ _ => ?_)
    | refine X_drf (fun _ => ?_)
    | refine X_bndO (fun _ => ?_)
    | refine X_bndI (fun _ => ?_)
    | refine X_bndN (fun _ => ?_)
    | refine X_opt ?_ (fun _ => ?_)
    | refine X_L_C (fun _ _ => ?_) (fun _ _ _ _ => ?_) (fun _ _ => ?_)
    | refine X_J_C (fun _ _ => ?_) (fun _ _ => ?_)
    | solve_by_elim (maxDepth := 3))
set_option maxHeartbeats 16000000 in
set_option maxRecDepth 100000 in
theorem sz_fX11_inLanguage (a0 : Nat) (a1 : Int) (a2 : Int) (C : Cd) : SX C (fX11_inLanguage a0 a1 a2 C) := by
  unfold fX11_inLanguage
  have hC0 : Sz C C := Sz.rf C
  repeat' (with_reducible first
    | exact X_none
    | exact X_inl (by assumption)
    | exact X_inr (by assumption)
    | exact X_retZ (by assumption)
    | refine X_ite ?_ ?_
    | refine X_bndC (by first | assumption | exact Sz.sI (by assumption) _ _ _ | exact Sz.sR (by assumption) _ _ _ | exact Sz.sE (by assumption) _ _ _) (fun _ _ => ?_)
    | refine X_drf (fun _ => ?_)
    | refine X_bndO (fun _ => ?_)
    | refine X_bndI (fun _ => ?_)
    | refine X_bndN (fun _ => ?_)
    | refine X_opt ?_ (fun _ => ?_)
    | refine X_L_C (fun _ _ => ?_) (fun _ _ _ _ => ?_) (fun _ _ => ?_)
    | refine X_J_C (fun _ _ => ?_) (fun _ _ => ?_)
    | refine X_L_IC (fun _ _ _ => ?_) (fun _ _ _ _ _ => ?_) (fun _ _ => ?_)
    | refine X_J_IC (fun _ _ _ => ?_) (fun _ _ => ?_)
    | refine X_cal (sz_fX11_titleOf _ _ _) (by assumption) (fun _ _ _ => ?_)
    | refine X_calx (sz_fX11_titleOf _ _ _) (by assumption) (fun _ _ _ => ?_)
    | exact sz_fX11_titleOf _ _ _
    | refine X_cal (sz_fX11_refuseOtherLanguages _ _ _) (by assumption) (fun _ _ _ => ?_)
    | refine X_calx (sz_fX11_refuseOtherLanguages _ _ _) (by assumption) (fun _ _ _ => ?_)
    | exact sz_fX11_refuseOtherLanguages _ _ _
    | solve_by_elim (maxDepth := 3))
set_option maxHeartbeats 16000000 in
set_option maxRecDepth 100000 in
theorem sz_fX11_isAmong (a0 : Nat) (a1 : Nat) (a2 : Int) (a3 : Int) (C : Cd) : SZ C (fX11_isAmong a0 a1 a2 a3 C) := by
  unfold fX11_isAmong
  have hC0 : Sz C C := Sz.rf C
  repeat' (with_reducible first
    | exact S_none
    | exact S_some (by assumption)
    | exact S_retZ (by assumption)
    | refine S_ite ?_ ?_
    | refine S_bndC (by first | assumption | exact Sz.sI (by assumption) _ _ _ | exact Sz.sR (by assumption) _ _ _ | exact Sz.sE (by assumption) _ _ _) (fun _ _ => ?_)
    | refine S_drf (fun _ => ?_)
    | refine S_bndO (fun _ => ?_)
    | refine S_bndI (fun _ => ?_)
    | refine S_bndN (fun _ => ?_)
    | refine S_opt ?_ (fun _ => ?_)
    | refine S_L_C (fun _ _ => ?_) (fun _ _ _ _ => ?_) (fun _ _ => ?_)
    | refine S_J_C (fun _ _ => ?_) (fun _ _ => ?_)
    | refine S_L_IC (fun _ _ _ => ?_) (fun _ _ _ _ _ => ?_) (fun _ _ => ?_)
    | refine S_J_IC (fun _ _ _ => ?_) (fun _ _ => ?_)
    | solve_by_elim (maxDepth := 3))
set_option maxHeartbeats 16000000 in
set_option maxRecDepth 100000 in
theorem sz_fX11_isOutdated (a0 : Nat) (a1 : Int) (a2 : Int) (C : Cd) : SX C (fX11_isOutdated a0 a1 a2 C) := by
  unfold fX11_isOutdated
  have hC0 : Sz C C := Sz.rf C
  repeat' (with_reducible first
    | exact X_none
    | exact X_inl (by assumption)
    | exact X_inr (by assumption)
    | exact X_retZ (by assumption)
    | refine X_ite ?_ ?_
    | refine X_bndC (by first | assumption | exact Sz.sI (by assumption) _ _ _ | exact Sz.sR (by assumption) _ _ _ | exact Sz.sE (by assumption) _ _ _) (fun _ _ => ?_)
    | refine X_drf (fun _ => ?_)
    | refine X_bndO (fun _ => ?_)
    | refine X_bndI (fun _ => ?_)
    | refine X_bndN (fun _ => ?_)
    | refine X_opt ?_ (fun _ => ?_)
    | refine X_L_C (fun _ _ => ?_) (fun _ _ _ _ => ?_) (fun _ _ => ?_)
    | refine X_J_C (fun _ _ => ?_) (fun _ _ => ?_)
    | refine X_L_IC (fun _ _ _ => ?_) (fun _ _ _ _ _ => ?_) (fun _ _ => ?_)
    | refine X_J_IC (fun _ _ _ => ?_) (fun _ _ => ?_)
    | refine X_cal (sz_fX11_titleOf _ _ _) (by assumption) (fun _ _ _ => ?_)
    | refine X_calx (sz_fX11_titleOf _ _ _) (by assumption) (fun _ _ _ => ?_)
    | exact sz_fX11_titleOf _ _ _
    | refine X_cal (sz_fX11_refuseOtherLanguages _ _ _) (by assumption) (fun _ _ _ => ?_)
    | refine X_calx (sz_fX11_refuseOtherLanguages _ _ _) (by assumption) (fun _ _ _ => ?_)
    | exact sz_fX11_refuseOtherLanguages _ _ _
    | solve_by_elim (maxDepth := 3))
set_option maxHeartbeats 16000000 in
set_option maxRecDepth 100000 in
theorem sz_fX11_isStale (a0 : Nat) (a1 : Int) (C : Cd) : SX C (fX11_isStale a0 a1 C) := by
  unfold fX11_isStale
  have hC0 : Sz C C := Sz.rf C
  repeat' (with_reducible first
    | exact X_none
    | exact X_inl (by assumption)
    | exact X_inr (by assumption)
    | exact X_retZ (by assumption)
    | refine X_ite ?_ ?_
    | refine X_bndC (by first | assumption | exact Sz.sI (by assumption) _ _ _ | exact Sz.sR (by assumption) _ _ _ | exact Sz.sE (by assumption) _ _ _) (fun _ _ => ?_)
    | refine X_drf (fun _ => ?_)
    | refine X_bndO (fun _ => ?_)
    | refine X_bndI (fun _ => ?_)
    | refine X_bndN (fun _ => ?_)
    | refine X_opt ?_ (fun _ => ?_)
    | refine X_cal (sz_fX11_pageOf _ _ _) (by assumption) (fun _ _ _ => ?_)
    | refine X_calx (sz_fX11_pageOf _ _ _) (by assumption) (fun _ _ _ => ?_)
    | exact sz_fX11_pageOf _ _ _
    | refine X_cal (sz_fX9_waits _ _) (by assumption) (fun _ _ _ => ?_)
    | refine X_calx (sz_fX9_waits _ _) (by assumption) (fun _ _ _ => ?_)
    | exact sz_fX9_waits _ _
    | solve_by_elim (maxDepth := 3))
set_option maxHeartbeats 16000000 in
set_option maxRecDepth 100000 in
theorem sz_fX11_leads (a0 : Nat) (a1 : Int) (C : Cd) : SX C (fX11_leads a0 a1 C) := by
  unfold fX11_leads
  have hC0 : Sz C C := Sz.rf C
  repeat' (with_reducible first
    | exact X_none
    | exact X_inl (by assumption)
    | exact X_inr (by assumption)
    | exact X_retZ (by assumption)
    | refine X_ite ?_ ?_
    | refine X_bndC (by first | assumption | exact Sz.sI (by assumption) _ _ _ | exact Sz.sR (by assumption) _ _ _ | exact Sz.sE (by assumption) _ _ _) (fun _ _ => ?_)
    | refine X_drf (fun _ => ?_)
    | refine X_bndO (fun _ => ?_)
    | refine X_bndI (fun _ => ?_)
    | refine X_bndN (fun _ => ?_)
    | refine X_opt ?_ (fun _ => ?_)
    | refine X_cal (sz_fX11_titleOf _ _ _) (by assumption) (fun _ _ _ => ?_)
    | refine X_calx (sz_fX11_titleOf _ _ _) (by assumption) (fun _ _ _ => ?_)
    | exact sz_fX11_titleOf _ _ _
    | refine X_cal (sz_fX1_goalOf _ _ _ _) (by assumption) (fun _ _ _ => ?_)
    | refine X_calx (sz_fX1_goalOf _ _ _ _) (by assumption) (fun _ _ _ => ?_)
    | exact sz_fX1_goalOf _ _ _ _
    | solve_by_elim (maxDepth := 3))
set_option maxHeartbeats 16000000 in
set_option maxRecDepth 100000 in
theorem sz_fX11_linkingTo (a0 : Nat) (a1 : Int) (C : Cd) : SZ C (fX11_linkingTo a0 a1 C) := by
  unfold fX11_linkingTo
  have hC0 : Sz C C := Sz.rf C
  repeat' (with_reducible first
    | exact S_none
    | exact S_some (by assumption)
    | exact S_retZ (by assumption)
    | refine S_ite ?_ ?_
    | refine S_bndC (by first | assumption | exact Sz.sI (by assumption) _ _ _ | exact Sz.sR (by assumption) _ _ _ | exact Sz.sE (by assumption) _ _ _) (fun _ _ => ?_)
    | refine S_drf (fun _ => ?_)
    | refine S_bndO (fun _ => ?_)
    | refine S_bndI (fun _ => ?_)
    | refine S_bndN (fun _ => ?_)
    | refine S_opt ?_ (fun _ => ?_)
    | refine S_L_IC (fun _ _ _ => ?_) (fun _ _ _ _ _ => ?_) (fun _ _ => ?_)
    | refine S_J_IC (fun _ _ _ => ?_) (fun _ _ => ?_)
    | refine S_L_IIC (fun _ _ _ _ => ?_) (fun _ _ _ _ _ _ => ?_) (fun _ _ => ?_)
    | refine S_J_IIC (fun _ _ _ _ => ?_) (fun _ _ => ?_)
    | refine S_cal (sz_fX11_has _ _ _) (by assumption) (fun _ _ _ => ?_)
    | exact sz_fX11_has _ _ _
    | solve_by_elim (maxDepth := 3))
set_option maxHeartbeats 16000000 in
set_option maxRecDepth 100000 in
theorem sz_fX11_linked (a0 : Nat) (a1 : Int) (a2 : Int) (C : Cd) : SX C (fX11_linked a0 a1 a2 C) := by
  unfold fX11_linked
  have hC0 : Sz C C := Sz.rf C
  repeat' (with_reducible first
    | exact X_none
    | exact X_inl (by assumption)
    | exact X_inr (by assumption)
    | exact X_retZ (by assumption)
    | refine X_ite ?_ ?_
    | refine X_bndC (by first | assumption | exact Sz.sI (by assumption) _ _ _ | exact Sz.sR (by assumption) _ _ _ | exact Sz.sE (by assumption) _ _ _) (fun _ _ => ?_)
    | refine X_drf (fun _ => ?_)
    | refine X_bndO (fun _ => ?_)
    | refine X_bndI (fun _ => ?_)
    | refine X_bndN (fun _ => ?_)
    | refine X_opt ?_ (fun _ => ?_)
    | refine X_cal (sz_fX11_titleOf _ _ _) (by assumption) (fun _ _ _ => ?_)
    | refine X_calx (sz_fX11_titleOf _ _ _) (by assumption) (fun _ _ _ => ?_)
    | exact sz_fX11_titleOf _ _ _
    | refine X_cal (sz_fX11_linkingTo _ _ _) (by assumption) (fun _ _ _ => ?_)
    | refine X_calx (sz_fX11_linkingTo _ _ _) (by assumption) (fun _ _ _ => ?_)
    | exact sz_fX11_linkingTo _ _ _
    | solve_by_elim (maxDepth := 3))
set_option maxHeartbeats 16000000 in
set_option maxRecDepth 100000 in
theorem sz_fX11_lonelyTitles (a0 : Nat) (C : Cd) : SZ C (fX11_lonelyTitles a0 C) := by
  unfold fX11_lonelyTitles
  have hC0 : Sz C C := Sz.rf C
  repeat' (with_reducible first
    | exact S_none
    | exact S_some (by assumption)
    | exact S_retZ (by assumption)
    | refine S_ite ?_ ?_
    | refine S_bndC (by first | assumption | exact Sz.sI (by assumption) _ _ _ | exact Sz.sR (by assumption) _ _ _ | exact Sz.sE (by assumption) _ _ _) (fun _ _ => ?_)
    | refine S_drf (fun _ => ?_)
    | refine S_bndO (fun _ => ?_)
    | refine S_bndI (fun _ => ?_)
    | refine S_bndN (fun _ => ?_)
    | refine S_opt ?_ (fun _ => ?_)
    | refine S_L_IC (fun _ _ _ => ?_) (fun _ _ _ _ _ => ?_) (fun _ _ => ?_)
    | refine S_J_IC (fun _ _ _ => ?_) (fun _ _ => ?_)
    | refine S_L_IIC (fun _ _ _ _ => ?_) (fun _ _ _ _ _ _ => ?_) (fun _ _ => ?_)
    | refine S_J_IIC (fun _ _ _ _ => ?_) (fun _ _ => ?_)
    | refine S_cal (sz_fX1_goalOf _ _ _ _) (by assumption) (fun _ _ _ => ?_)
    | exact sz_fX1_goalOf _ _ _ _
    | refine S_cal (sz_fX11_linkingTo _ _ _) (by assumption) (fun _ _ _ => ?_)
    | exact sz_fX11_linkingTo _ _ _
    | refine S_cal (sz_fX8_isRedirect _ _) (by assumption) (fun _ _ _ => ?_)
    | exact sz_fX8_isRedirect _ _
    | solve_by_elim (maxDepth := 3))
set_option maxHeartbeats 16000000 in
set_option maxRecDepth 100000 in
theorem sz_fX11_members (a0 : Nat) (a1 : Int) (C : Cd) : SX C (fX11_members a0 a1 C) := by
  unfold fX11_members
  have hC0 : Sz C C := Sz.rf C
  repeat' (with_reducible first
    | exact X_none
    | exact X_inl (by assumption)
    | exact X_inr (by assumption)
    | exact X_retZ (by assumption)
    | refine X_ite ?_ ?_
    | refine X_bndC (by first | assumption | exact Sz.sI (by assumption) _ _ _ | exact Sz.sR (by assumption) _ _ _ | exact Sz.sE (by assumption) _ _ _) (fun _ _ => ?_)
    | refine X_drf (fun _ => ?_)
    | refine X_bndO (fun _ => ?_)
    | refine X_bndI (fun _ => ?_)
    | refine X_bndN (fun _ => ?_)
    | refine X_opt ?_ (fun _ => ?_)
    | refine X_L_C (fun _ _ => ?_) (fun _ _ _ _ => ?_) (fun _ _ => ?_)
    | refine X_J_C (fun _ _ => ?_) (fun _ _ => ?_)
    | refine X_cal (sz_fX11_membersOf _ _ _) (by assumption) (fun _ _ _ => ?_)
    | refine X_calx (sz_fX11_membersOf _ _ _) (by assumption) (fun _ _ _ => ?_)
    | exact sz_fX11_membersOf _ _ _
    | solve_by_elim (maxDepth := 3))
set_option maxHeartbeats 16000000 in
set_option maxRecDepth 100000 in
theorem sz_fX11_wantedTitles (a0 : Nat) (C : Cd) : SZ C (fX11_wantedTitles a0 C) := by
  unfold fX11_wantedTitles
  have hC0 : Sz C C := Sz.rf C
  repeat' (with_reducible first
    | exact S_none
    | exact S_some (by assumption)
    | exact S_retZ (by assumption)
    | refine S_ite ?_ ?_
    | refine S_bndC (by first | assumption | exact Sz.sI (by assumption) _ _ _ | exact Sz.sR (by assumption) _ _ _ | exact Sz.sE (by assumption) _ _ _) (fun _ _ => ?_)
    | refine S_drf (fun _ => ?_)
    | refine S_bndO (fun _ => ?_)
    | refine S_bndI (fun _ => ?_)
    | refine S_bndN (fun _ => ?_)
    | refine S_opt ?_ (fun _ => ?_)
    | refine S_L_IC (fun _ _ _ => ?_) (fun _ _ _ _ _ => ?_) (fun _ _ => ?_)
    | refine S_J_IC (fun _ _ _ => ?_) (fun _ _ => ?_)
    | refine S_L_IIC (fun _ _ _ _ => ?_) (fun _ _ _ _ _ _ => ?_) (fun _ _ => ?_)
    | refine S_J_IIC (fun _ _ _ _ => ?_) (fun _ _ => ?_)
    | refine S_cal (sz_fX11_linkingTo _ _ _) (by assumption) (fun _ _ _ => ?_)
    | exact sz_fX11_linkingTo _ _ _
    | solve_by_elim (maxDepth := 3))
set_option maxHeartbeats 16000000 in
set_option maxRecDepth 100000 in
theorem sz_fX11_odd (a0 : Nat) (a1 : Int) (C : Cd) : SZ C (fX11_odd a0 a1 C) := by
  unfold fX11_odd
  have hC0 : Sz C C := Sz.rf C
  repeat' (with_reducible first
    | exact S_none
    | exact S_some (by assumption)
    | exact S_retZ (by assumption)
    | refine S_ite ?_ ?_
    | refine S_bndC (by first | assumption | exact Sz.sI (by assumption) _ _ _ | exact Sz.sR (by assumption) _ _ _ | exact Sz.sE (by assumption) _ _ _) (fun _ _ => ?_)
    | refine S_drf (fun _ => ?_)
    | refine S_bndO (fun _ => ?_)
    | refine S_bndI (fun _ => ?_)
    | refine S_bndN (fun _ => ?_)
    | refine S_opt ?_ (fun _ => ?_)
    | refine S_L_IC (fun _ _ _ => ?_) (fun _ _ _ _ _ => ?_) (fun _ _ => ?_)
    | refine S_J_IC (fun _ _ _ => ?_) (fun _ _ => ?_)
    | refine S_cal (sz_fX11_lonelyTitles _ _) (by assumption) (fun _ _ _ => ?_)
    | exact sz_fX11_lonelyTitles _ _
    | refine S_cal (sz_fX11_wantedTitles _ _) (by assumption) (fun _ _ _ => ?_)
    | exact sz_fX11_wantedTitles _ _
    | solve_by_elim (maxDepth := 3))
set_option maxHeartbeats 16000000 in
set_option maxRecDepth 100000 in
theorem sz_fX11_queued (a0 : Nat) (C : Cd) : SZ C (fX11_queued a0 C) := by
  unfold fX11_queued
  have hC0 : Sz C C := Sz.rf C
  repeat' (with_reducible first
    | exact S_none
    | exact S_some (by assumption)
    | exact S_retZ (by assumption)
    | refine S_ite ?_ ?_
    | refine S_bndC (by first | assumption | exact Sz.sI (by assumption) _ _ _ | exact Sz.sR (by assumption) _ _ _ | exact Sz.sE (by assumption) _ _ _) (fun _ _ => ?_)
    | refine S_drf (fun _ => ?_)
    | refine S_bndO (fun _ => ?_)
    | refine S_bndI (fun _ => ?_)
    | refine S_bndN (fun _ => ?_)
    | refine S_opt ?_ (fun _ => ?_)
    | refine S_L_IC (fun _ _ _ => ?_) (fun _ _ _ _ _ => ?_) (fun _ _ => ?_)
    | refine S_J_IC (fun _ _ _ => ?_) (fun _ _ => ?_)
    | refine S_L_IIC (fun _ _ _ _ => ?_) (fun _ _ _ _ _ _ => ?_) (fun _ _ => ?_)
    | refine S_J_IIC (fun _ _ _ _ => ?_) (fun _ _ => ?_)
    | refine S_cal (sz_fX9_waits _ _) (by assumption) (fun _ _ _ => ?_)
    | exact sz_fX9_waits _ _
    | solve_by_elim (maxDepth := 3))
set_option maxHeartbeats 16000000 in
set_option maxRecDepth 100000 in
theorem sz_fX11_shown (a0 : Nat) (a1 : Int) (a2 : Int) (C : Cd) : SX C (fX11_shown a0 a1 a2 C) := by
  unfold fX11_shown
  have hC0 : Sz C C := Sz.rf C
  repeat' (with_reducible first
    | exact X_none
    | exact X_inl (by assumption)
    | exact X_inr (by assumption)
    | exact X_retZ (by assumption)
    | refine X_ite ?_ ?_
    | refine X_bndC (by first | assumption | exact Sz.sI (by assumption) _ _ _ | exact Sz.sR (by assumption) _ _ _ | exact Sz.sE (by assumption) _ _ _) (fun _ _ => ?_)
    | refine X_drf (fun _ => ?_)
    | refine X_bndO (fun _ => ?_)
    | refine X_bndI (fun _ => ?_)
    | refine X_bndN (fun _ => ?_)
    | refine X_opt ?_ (fun _ => ?_)
    | refine X_cal (sz_fX11_pageOf _ _ _) (by assumption) (fun _ _ _ => ?_)
    | refine X_calx (sz_fX11_pageOf _ _ _) (by assumption) (fun _ _ _ => ?_)
    | exact sz_fX11_pageOf _ _ _
    | refine X_cal (sz_fX11_refuseBelowZero _ _ _) (by assumption) (fun _ _ _ => ?_)
    | refine X_calx (sz_fX11_refuseBelowZero _ _ _) (by assumption) (fun _ _ _ => ?_)
    | exact sz_fX11_refuseBelowZero _ _ _
    | refine X_cal (sz_fX5_at _ _ _) (by assumption) (fun _ _ _ => ?_)
    | refine X_calx (sz_fX5_at _ _ _) (by assumption) (fun _ _ _ => ?_)
    | exact sz_fX5_at _ _ _
    | solve_by_elim (maxDepth := 3))
set_option maxHeartbeats 16000000 in
set_option maxRecDepth 100000 in
theorem sz_fX11_token (a0 : Nat) (a1 : Int) (a2 : Int) (C : Cd) : SX C (fX11_token a0 a1 a2 C) := by
  unfold fX11_token
  have hC0 : Sz C C := Sz.rf C
  repeat' (with_reducible first
    | exact X_none
    | exact X_inl (by assumption)
    | exact X_inr (by assumption)
    | exact X_retZ (by assumption)
    | refine X_ite ?_ ?_
    | refine X_bndC (by first | assumption | exact Sz.sI (by assumption) _ _ _ | exact Sz.sR (by assumption) _ _ _ | exact Sz.sE (by assumption) _ _ _) (fun _ _ => ?_)
    | refine X_drf (fun _ => ?_)
    | refine X_bndO (fun _ => ?_)
    | refine X_bndI (fun _ => ?_)
    | refine X_bndN (fun _ => ?_)
    | refine X_opt ?_ (fun _ => ?_)
    | refine X_cal (sz_fX11_isAmong _ _ _ _ _) (by assumption) (fun _ _ _ => ?_)
    | refine X_calx (sz_fX11_isAmong _ _ _ _ _) (by assumption) (fun _ _ _ => ?_)
    | exact sz_fX11_isAmong _ _ _ _ _
    | refine X_cal (sz_fX8_add _ _ _) (by assumption) (fun _ _ _ => ?_)
    | refine X_calx (sz_fX8_add _ _ _) (by assumption) (fun _ _ _ => ?_)
    | exact sz_fX8_add _ _ _
    | solve_by_elim (maxDepth := 3))
set_option maxHeartbeats 16000000 in
set_option maxRecDepth 100000 in
theorem sz_fX11_tokenAt (a0 : Nat) (a1 : Int) (a2 : Int) (C : Cd) : SX C (fX11_tokenAt a0 a1 a2 C) := by
  unfold fX11_tokenAt
  have hC0 : Sz C C := Sz.rf C
  repeat' (with_reducible first
    | exact X_none
    | exact X_inl (by assumption)
    | exact X_inr (by assumption)
    | exact X_retZ (by assumption)
    | refine X_ite ?_ ?_
    | refine X_bndC (by first | assumption | exact Sz.sI (by assumption) _ _ _ | exact Sz.sR (by assumption) _ _ _ | exact Sz.sE (by assumption) _ _ _) (fun _ _ => ?_)
    | refine X_drf (fun _ => ?_)
    | refine X_bndO (fun _ => ?_)
    | refine X_bndI (fun _ => ?_)
    | refine X_bndN (fun _ => ?_)
    | refine X_opt ?_ (fun _ => ?_)
    | refine X_cal (sz_fX11_pageOf _ _ _) (by assumption) (fun _ _ _ => ?_)
    | refine X_calx (sz_fX11_pageOf _ _ _) (by assumption) (fun _ _ _ => ?_)
    | exact sz_fX11_pageOf _ _ _
    | refine X_cal (sz_fX11_refuseBelowZero _ _ _) (by assumption) (fun _ _ _ => ?_)
    | refine X_calx (sz_fX11_refuseBelowZero _ _ _) (by assumption) (fun _ _ _ => ?_)
    | exact sz_fX11_refuseBelowZero _ _ _
    | refine X_cal (sz_fX8_codeAt _ _ _) (by assumption) (fun _ _ _ => ?_)
    | refine X_calx (sz_fX8_codeAt _ _ _) (by assumption) (fun _ _ _ => ?_)
    | exact sz_fX8_codeAt _ _ _
    | solve_by_elim (maxDepth := 3))
set_option maxHeartbeats 16000000 in
set_option maxRecDepth 100000 in
theorem sz_fX11_versionAt (a0 : Nat) (a1 : Int) (a2 : Int) (C : Cd) : SX C (fX11_versionAt a0 a1 a2 C) := by
  unfold fX11_versionAt
  have hC0 : Sz C C := Sz.rf C
  repeat' (with_reducible first
    | exact X_none
    | exact X_inl (by assumption)
    | exact X_inr (by assumption)
    | exact X_retZ (by assumption)
    | refine X_ite ?_ ?_
    | refine X_bndC (by first | assumption | exact Sz.sI (by assumption) _ _ _ | exact Sz.sR (by assumption) _ _ _ | exact Sz.sE (by assumption) _ _ _) (fun _ _ => ?_)
    | refine X_drf (fun _ => ?_)
    | refine X_bndO (fun _ => ?_)
    | refine X_bndI (fun _ => ?_)
    | refine X_bndN (fun _ => ?_)
    | refine X_opt ?_ (fun _ => ?_)
    | refine X_L_OC (fun _ _ _ => ?_) (fun _ _ _ _ _ => ?_) (fun _ _ => ?_)
    | refine X_J_OC (fun _ _ _ => ?_) (fun _ _ => ?_)
    | refine X_cal (sz_fX11_titleOf _ _ _) (by assumption) (fun _ _ _ => ?_)
    | refine X_calx (sz_fX11_titleOf _ _ _) (by assumption) (fun _ _ _ => ?_)
    | exact sz_fX11_titleOf _ _ _
    | refine X_cal (sz_fX3_versionAtIndex _ _ _) (by assumption) (fun _ _ _ => ?_)
    | refine X_calx (sz_fX3_versionAtIndex _ _ _) (by assumption) (fun _ _ _ => ?_)
    | exact sz_fX3_versionAtIndex _ _ _
    | solve_by_elim (maxDepth := 3))
set_option maxHeartbeats 16000000 in
set_option maxRecDepth 100000 in
theorem sz_fX11_versions (a0 : Nat) (a1 : Int) (C : Cd) : SX C (fX11_versions a0 a1 C) := by
  unfold fX11_versions
  have hC0 : Sz C C := Sz.rf C
  repeat' (with_reducible first
    | exact X_none
    | exact X_inl (by assumption)
    | exact X_inr (by assumption)
    | exact X_retZ (by assumption)
    | refine X_ite ?_ ?_
    | refine X_bndC (by first | assumption | exact Sz.sI (by assumption) _ _ _ | exact Sz.sR (by assumption) _ _ _ | exact Sz.sE (by assumption) _ _ _) (fun _ _ => ?_)
    | refine X_drf (fun _ => ?_)
    | refine X_bndO (fun _ => ?_)
    | refine X_bndI (fun _ => ?_)
    | refine X_bndN (fun _ => ?_)
    | refine X_opt ?_ (fun _ => ?_)
    | refine X_L_IC (fun _ _ _ => ?_) (fun _ _ _ _ _ => ?_) (fun _ _ => ?_)
    | refine X_J_IC (fun _ _ _ => ?_) (fun _ _ => ?_)
    | refine X_cal (sz_fX11_titleOf _ _ _) (by assumption) (fun _ _ _ => ?_)
    | refine X_calx (sz_fX11_titleOf _ _ _) (by assumption) (fun _ _ _ => ?_)
    | exact sz_fX11_titleOf _ _ _
    | refine X_cal (sz_fAL_size _ _) (by assumption) (fun _ _ _ => ?_)
    | refine X_calx (sz_fAL_size _ _) (by assumption) (fun _ _ _ => ?_)
    | exact sz_fAL_size _ _
    | solve_by_elim (maxDepth := 3))
set_option maxHeartbeats 16000000 in
set_option maxRecDepth 100000 in
theorem sz_fX11_wipe (a0 : Nat) (C : Cd) : SZ C (fX11_wipe a0 C) := by
  unfold fX11_wipe
  have hC0 : Sz C C := Sz.rf C
  repeat' (with_reducible first
    | exact S_none
    | exact S_some (by assumption)
    | exact S_retZ (by assumption)
    | refine S_ite ?_ ?_
    | refine S_bndC (by first | assumption | exact Sz.sI (by assumption) _ _ _ | exact Sz.sR (by assumption) _ _ _ | exact Sz.sE (by assumption) _ _ _) (fun _ _ => ?_)
    | refine S_drf (fun _ => ?_)
    | refine S_bndO (fun _ => ?_)
    | refine S_bndI (fun _ => ?_)
    | refine S_bndN (fun _ => ?_)
    | refine S_opt ?_ (fun _ => ?_)
    | refine S_cal (sz_fX8_clear _ _) (by assumption) (fun _ _ _ => ?_)
    | exact sz_fX8_clear _ _
    | solve_by_elim (maxDepth := 3))
end SIZE
