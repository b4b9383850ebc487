/-! WHICH EXCEPTIONS COME -/
section EXC
def EO (S : List Nat) {ρ : Type} (X : Option ((ρ ⊕ Nat) × Cd)) : Prop := ∀ e C', X = some (.inr e, C') → e ∈ S
class EP (S : List Nat) (α : Type) where P : α → Prop
instance {S : List Nat} {ρ : Type} : EP S (Option ((ρ ⊕ Nat) × Cd)) := ⟨EO S⟩
instance {S : List Nat} {α β : Type} [EP S α] : EP S (β → α) := ⟨fun f => ∀ x, EP.P S (f x)⟩
variable {S : List Nat} {ρ ρ2 : Type} {C : Cd}
theorem E_none : EO S (none : Option ((ρ ⊕ Nat) × Cd)) := fun _ _ h => by cases h
theorem E_inl {r : ρ} : EO S (some ((.inl r : ρ ⊕ Nat), C)) := fun _ _ e => by cases e
theorem E_inr {e : Nat} (h : e ∈ S) : EO S (some ((.inr e : ρ ⊕ Nat), C)) := fun _ _ q => by cases q; exact h
theorem E_retZX {x : Int} : EO S (retZX x C) := by
  unfold retZX; split
  · exact E_inl
  · exact E_none
theorem E_ite {c : Prop} [Decidable c] {A B : Option ((ρ ⊕ Nat) × Cd)} (h1 : EO S A) (h2 : EO S B) : EO S (if c then A else B) := by
  split
  · exact h1
  · exact h2
theorem E_drf {z : Option Nat} {f : Nat → Option ((ρ ⊕ Nat) × Cd)} (K : ∀ p, EO S (f p)) : EO S (drf z f) := by
  cases z with
  | none => exact E_none
  | some p => exact K p
theorem E_opt {z : Option Nat} {x : Option ((ρ ⊕ Nat) × Cd)} {f : Nat → Option ((ρ ⊕ Nat) × Cd)} (h : EO S x) (K : ∀ p, EO S (f p)) : EO S (opt z x f) := by
  cases z with
  | none => exact h
  | some p => exact K p
theorem E_bndC {a : Cd} {f : Cd → Option ((ρ ⊕ Nat) × Cd)} (K : ∀ C, EO S (f C)) : EO S (bnd a f) := K a
theorem E_bndI {a : Int} {f : Int → Option ((ρ ⊕ Nat) × Cd)} (K : ∀ x, EO S (f x)) : EO S (bnd a f) := K a
theorem E_bndN {a : Nat} {f : Nat → Option ((ρ ⊕ Nat) × Cd)} (K : ∀ x, EO S (f x)) : EO S (bnd a f) := K a
theorem E_bndO {a : Option Nat} {f : Option Nat → Option ((ρ ⊕ Nat) × Cd)} (K : ∀ x, EO S (f x)) : EO S (bnd a f) := K a
theorem E_lpn {α : Type} [EP S α] {z : α} {body : α → α} (hz : EP.P S z) (hs : ∀ L, EP.P S L → EP.P S (body L)) (n : Nat) : EP.P S (lpn z body n) := lpn_rule (P := fun _ L => EP.P S L) hz (fun _ L h => hs L h) n
theorem E_bndJ {α : Type} [EP S α] {a : α} {f : α → Option ((ρ ⊕ Nat) × Cd)} (h : EP.P S a) (K : ∀ J, EP.P S J → EO S (f J)) : EO S (bnd a f) := K a h
theorem E_bndL {α : Type} [EP S α] {z : α} {body : α → α} {n : Nat} {f : α → Option ((ρ ⊕ Nat) × Cd)} (hz : EP.P S z) (hs : ∀ L, EP.P S L → EP.P S (body L)) (K : ∀ J, EP.P S J → EO S (f J)) : EO S (bnd (lpn z body n) f) := K _ (E_lpn hz hs n)
theorem E_cal {X2 : Option (ρ2 × Cd)} {f : ρ2 → Cd → Option ((ρ ⊕ Nat) × Cd)} (K : ∀ r C', EO S (f r C')) : EO S (cal X2 f) := by
  intro r C' e
  obtain ⟨⟨r2, C2⟩, e2, e3⟩ := Option.bind_eq_some_iff.mp e
  exact K r2 C2 r C' e3
theorem E_calx {S2 : List Nat} {X2 : Option ((ρ2 ⊕ Nat) × Cd)} {f : ρ2 → Cd → Option ((ρ ⊕ Nat) × Cd)} (h : EO S2 X2) (hs : ∀ e ∈ S2, e ∈ S) (K : ∀ r C', EO S (f r C')) : EO S (calx X2 f) := by
  intro r C' e
  obtain ⟨⟨r2, C2⟩, e2, e3⟩ := Option.bind_eq_some_iff.mp e
  cases r2 with
  | inl x => exact K x C2 r C' e3
  | inr e4 =>
    cases e3
    exact hs _ (h _ _ e2)
attribute [irreducible] EO
macro "ex1" : tactic => `(tactic| with_reducible first
  | exact E_none
  | exact E_inl
  | exact E_inr (by decide)
  | refine E_ite ?_ ?_
  | refine E_bndC (fun _ => ?_)
  | refine E_drf (fun _ => ?_)
  | refine E_bndO (fun _ => ?_)
  | refine E_bndI (fun _ => ?_)
  | refine E_bndN (fun _ => ?_)
  | refine E_opt ?_ (fun _ => ?_)
  | exact E_retZX
  | refine E_bndL ?_ (fun _ _ => ?_) (fun _ _ => ?_)
  | refine E_bndJ ?_ (fun _ _ => ?_)
  | refine E_cal (fun _ _ => ?_))
macro "ex2" : tactic => `(tactic| first
  | (dsimp only [EP.P] at *; intros)
  | (intros; solve_by_elim (maxDepth := 3)))
set_option maxRecDepth 10000 in
theorem ex_fX11_act (a0 : Nat) (a1 : Int) (C : Cd) : EO [0] (fX11_act a0 a1 C) := by
  unfold fX11_act
  repeat' (first
    | ex1
    | ex2)
set_option maxRecDepth 10000 in
theorem ex_fX11_titleOf (a0 : Nat) (a1 : Int) (C : Cd) : EO [2] (fX11_titleOf a0 a1 C) := by
  unfold fX11_titleOf
  repeat' (first
    | ex1
    | ex2)
set_option maxRecDepth 10000 in
theorem ex_fX11_pageOf (a0 : Nat) (a1 : Int) (C : Cd) : EO [2] (fX11_pageOf a0 a1 C) := by
  unfold fX11_pageOf
  repeat' (first
    | ex1
    | with_reducible refine E_calx (ex_fX11_titleOf _ _ _) (by decide) (fun _ _ => ?_)
    | with_reducible exact ex_fX11_titleOf _ _ _
    | ex2)
set_option maxRecDepth 10000 in
theorem ex_fX11_approve (a0 : Nat) (a1 : Int) (C : Cd) : EO [1, 2] (fX11_approve a0 a1 C) := by
  unfold fX11_approve
  repeat' (first
    | ex1
    | with_reducible refine E_calx (ex_fX11_pageOf _ _ _) (by decide) (fun _ _ => ?_)
    | with_reducible exact ex_fX11_pageOf _ _ _
    | ex2)
set_option maxRecDepth 10000 in
theorem ex_fX11_refuseBelowZero (a0 : Nat) (a1 : Int) (C : Cd) : EO [2] (fX11_refuseBelowZero a0 a1 C) := by
  unfold fX11_refuseBelowZero
  repeat' (first
    | ex1
    | ex2)
set_option maxRecDepth 10000 in
theorem ex_fX11_approvedAt (a0 : Nat) (a1 : Int) (a2 : Int) (C : Cd) : EO [2] (fX11_approvedAt a0 a1 a2 C) := by
  unfold fX11_approvedAt
  repeat' (first
    | ex1
    | with_reducible refine E_calx (ex_fX11_pageOf _ _ _) (by decide) (fun _ _ => ?_)
    | with_reducible exact ex_fX11_pageOf _ _ _
    | with_reducible refine E_calx (ex_fX11_refuseBelowZero _ _ _) (by decide) (fun _ _ => ?_)
    | with_reducible exact ex_fX11_refuseBelowZero _ _ _
    | ex2)
set_option maxRecDepth 10000 in
theorem ex_fX11_bringIn (a0 : Nat) (a1 : Int) (a2 : Int) (C : Cd) : EO [0, 1, 2] (fX11_bringIn a0 a1 a2 C) := by
  unfold fX11_bringIn
  repeat' (first
    | ex1
    | with_reducible refine E_calx (ex_fX11_pageOf _ _ _) (by decide) (fun _ _ => ?_)
    | with_reducible exact ex_fX11_pageOf _ _ _
    | ex2)
set_option maxRecDepth 10000 in
theorem ex_fX11_bringOver (a0 : Nat) (a1 : Int) (a2 : Int) (C : Cd) : EO [2] (fX11_bringOver a0 a1 a2 C) := by
  unfold fX11_bringOver
  repeat' (first
    | ex1
    | with_reducible refine E_calx (ex_fX11_titleOf _ _ _) (by decide) (fun _ _ => ?_)
    | with_reducible exact ex_fX11_titleOf _ _ _
    | ex2)
set_option maxRecDepth 10000 in
theorem ex_fX11_create (a0 : Nat) (a1 : Int) (C : Cd) : EO [1, 2] (fX11_create a0 a1 C) := by
  unfold fX11_create
  repeat' (first
    | ex1
    | with_reducible refine E_calx (ex_fX11_titleOf _ _ _) (by decide) (fun _ _ => ?_)
    | with_reducible exact ex_fX11_titleOf _ _ _
    | ex2)
set_option maxRecDepth 10000 in
theorem ex_fX11_edit (a0 : Nat) (a1 : Int) (a2 : Int) (a3 : Int) (C : Cd) : EO [1, 2] (fX11_edit a0 a1 a2 a3 C) := by
  unfold fX11_edit
  repeat' (first
    | ex1
    | with_reducible refine E_calx (ex_fX11_pageOf _ _ _) (by decide) (fun _ _ => ?_)
    | with_reducible exact ex_fX11_pageOf _ _ _
    | ex2)
set_option maxRecDepth 10000 in
theorem ex_fX11_moduleOf (a0 : Nat) (a1 : Int) (C : Cd) : EO [2] (fX11_moduleOf a0 a1 C) := by
  unfold fX11_moduleOf
  repeat' (first
    | ex1
    | ex2)
set_option maxRecDepth 10000 in
theorem ex_fX11_empty (a0 : Nat) (a1 : Int) (C : Cd) : EO [2] (fX11_empty a0 a1 C) := by
  unfold fX11_empty
  repeat' (first
    | ex1
    | with_reducible refine E_calx (ex_fX11_moduleOf _ _ _) (by decide) (fun _ _ => ?_)
    | with_reducible exact ex_fX11_moduleOf _ _ _
    | ex2)
set_option maxRecDepth 10000 in
theorem ex_fX11_refuseOtherLanguages (a0 : Nat) (a1 : Int) (C : Cd) : EO [0] (fX11_refuseOtherLanguages a0 a1 C) := by
  unfold fX11_refuseOtherLanguages
  repeat' (first
    | ex1
    | ex2)
set_option maxRecDepth 10000 in
theorem ex_fX11_inLanguage (a0 : Nat) (a1 : Int) (a2 : Int) (C : Cd) : EO [0, 2] (fX11_inLanguage a0 a1 a2 C) := by
  unfold fX11_inLanguage
  repeat' (first
    | ex1
    | with_reducible refine E_calx (ex_fX11_titleOf _ _ _) (by decide) (fun _ _ => ?_)
    | with_reducible exact ex_fX11_titleOf _ _ _
    | with_reducible refine E_calx (ex_fX11_refuseOtherLanguages _ _ _) (by decide) (fun _ _ => ?_)
    | with_reducible exact ex_fX11_refuseOtherLanguages _ _ _
    | ex2)
set_option maxRecDepth 10000 in
theorem ex_fX11_instruct (a0 : Nat) (a1 : Int) (a2 : Int) (a3 : Int) (C : Cd) : EO [0, 1, 2] (fX11_instruct a0 a1 a2 a3 C) := by
  unfold fX11_instruct
  repeat' (first
    | ex1
    | with_reducible refine E_calx (ex_fX11_moduleOf _ _ _) (by decide) (fun _ _ => ?_)
    | with_reducible exact ex_fX11_moduleOf _ _ _
    | ex2)
set_option maxRecDepth 10000 in
theorem ex_fX11_isOutdated (a0 : Nat) (a1 : Int) (a2 : Int) (C : Cd) : EO [0, 2] (fX11_isOutdated a0 a1 a2 C) := by
  unfold fX11_isOutdated
  repeat' (first
    | ex1
    | with_reducible refine E_calx (ex_fX11_titleOf _ _ _) (by decide) (fun _ _ => ?_)
    | with_reducible exact ex_fX11_titleOf _ _ _
    | with_reducible refine E_calx (ex_fX11_refuseOtherLanguages _ _ _) (by decide) (fun _ _ => ?_)
    | with_reducible exact ex_fX11_refuseOtherLanguages _ _ _
    | ex2)
set_option maxRecDepth 10000 in
theorem ex_fX11_isStale (a0 : Nat) (a1 : Int) (C : Cd) : EO [2] (fX11_isStale a0 a1 C) := by
  unfold fX11_isStale
  repeat' (first
    | ex1
    | with_reducible refine E_calx (ex_fX11_pageOf _ _ _) (by decide) (fun _ _ => ?_)
    | with_reducible exact ex_fX11_pageOf _ _ _
    | ex2)
set_option maxRecDepth 10000 in
theorem ex_fX11_leads (a0 : Nat) (a1 : Int) (C : Cd) : EO [2] (fX11_leads a0 a1 C) := by
  unfold fX11_leads
  repeat' (first
    | ex1
    | with_reducible refine E_calx (ex_fX11_titleOf _ _ _) (by decide) (fun _ _ => ?_)
    | with_reducible exact ex_fX11_titleOf _ _ _
    | ex2)
set_option maxRecDepth 10000 in
theorem ex_fX11_linked (a0 : Nat) (a1 : Int) (a2 : Int) (C : Cd) : EO [2] (fX11_linked a0 a1 a2 C) := by
  unfold fX11_linked
  repeat' (first
    | ex1
    | with_reducible refine E_calx (ex_fX11_titleOf _ _ _) (by decide) (fun _ _ => ?_)
    | with_reducible exact ex_fX11_titleOf _ _ _
    | ex2)
set_option maxRecDepth 10000 in
theorem ex_fX11_members (a0 : Nat) (a1 : Int) (C : Cd) : EO [2] (fX11_members a0 a1 C) := by
  unfold fX11_members
  repeat' (first
    | ex1
    | ex2)
set_option maxRecDepth 10000 in
theorem ex_fX11_move (a0 : Nat) (a1 : Int) (a2 : Int) (C : Cd) : EO [1, 2] (fX11_move a0 a1 a2 C) := by
  unfold fX11_move
  repeat' (first
    | ex1
    | with_reducible refine E_calx (ex_fX11_titleOf _ _ _) (by decide) (fun _ _ => ?_)
    | with_reducible exact ex_fX11_titleOf _ _ _
    | with_reducible refine E_calx (ex_fX11_bringOver _ _ _ _) (by decide) (fun _ _ => ?_)
    | with_reducible exact ex_fX11_bringOver _ _ _ _
    | ex2)
set_option maxRecDepth 10000 in
theorem ex_fX11_moveTree (a0 : Nat) (a1 : Int) (a2 : Int) (C : Cd) : EO [1, 2] (fX11_moveTree a0 a1 a2 C) := by
  unfold fX11_moveTree
  repeat' (first
    | ex1
    | with_reducible refine E_calx (ex_fX11_bringOver _ _ _ _) (by decide) (fun _ _ => ?_)
    | with_reducible exact ex_fX11_bringOver _ _ _ _
    | ex2)
set_option maxRecDepth 10000 in
theorem ex_fX11_protect (a0 : Nat) (a1 : Int) (a2 : Int) (C : Cd) : EO [0, 1, 2] (fX11_protect a0 a1 a2 C) := by
  unfold fX11_protect
  repeat' (first
    | ex1
    | with_reducible refine E_calx (ex_fX11_titleOf _ _ _) (by decide) (fun _ _ => ?_)
    | with_reducible exact ex_fX11_titleOf _ _ _
    | ex2)
set_option maxRecDepth 10000 in
theorem ex_fX11_rank (a0 : Nat) (a1 : Int) (a2 : Int) (C : Cd) : EO [0, 2] (fX11_rank a0 a1 a2 C) := by
  unfold fX11_rank
  repeat' (first
    | ex1
    | with_reducible refine E_calx (ex_fX11_titleOf _ _ _) (by decide) (fun _ _ => ?_)
    | with_reducible exact ex_fX11_titleOf _ _ _
    | ex2)
set_option maxRecDepth 10000 in
theorem ex_fX11_read (a0 : Nat) (a1 : Int) (a2 : Int) (C : Cd) : EO [2] (fX11_read a0 a1 a2 C) := by
  unfold fX11_read
  repeat' (first
    | ex1
    | with_reducible refine E_calx (ex_fX11_pageOf _ _ _) (by decide) (fun _ _ => ?_)
    | with_reducible exact ex_fX11_pageOf _ _ _
    | ex2)
set_option maxRecDepth 10000 in
theorem ex_fX11_shown (a0 : Nat) (a1 : Int) (a2 : Int) (C : Cd) : EO [2] (fX11_shown a0 a1 a2 C) := by
  unfold fX11_shown
  repeat' (first
    | ex1
    | with_reducible refine E_calx (ex_fX11_pageOf _ _ _) (by decide) (fun _ _ => ?_)
    | with_reducible exact ex_fX11_pageOf _ _ _
    | with_reducible refine E_calx (ex_fX11_refuseBelowZero _ _ _) (by decide) (fun _ _ => ?_)
    | with_reducible exact ex_fX11_refuseBelowZero _ _ _
    | ex2)
set_option maxRecDepth 10000 in
theorem ex_fX11_shownAnew (a0 : Nat) (a1 : Int) (a2 : Int) (C : Cd) : EO [2] (fX11_shownAnew a0 a1 a2 C) := by
  unfold fX11_shownAnew
  repeat' (first
    | ex1
    | with_reducible refine E_calx (ex_fX11_pageOf _ _ _) (by decide) (fun _ _ => ?_)
    | with_reducible exact ex_fX11_pageOf _ _ _
    | with_reducible refine E_calx (ex_fX11_refuseBelowZero _ _ _) (by decide) (fun _ _ => ?_)
    | with_reducible exact ex_fX11_refuseBelowZero _ _ _
    | ex2)
set_option maxRecDepth 10000 in
theorem ex_fX11_token (a0 : Nat) (a1 : Int) (a2 : Int) (C : Cd) : EO [0, 1] (fX11_token a0 a1 a2 C) := by
  unfold fX11_token
  repeat' (first
    | ex1
    | ex2)
set_option maxRecDepth 10000 in
theorem ex_fX11_tokenAt (a0 : Nat) (a1 : Int) (a2 : Int) (C : Cd) : EO [2] (fX11_tokenAt a0 a1 a2 C) := by
  unfold fX11_tokenAt
  repeat' (first
    | ex1
    | with_reducible refine E_calx (ex_fX11_pageOf _ _ _) (by decide) (fun _ _ => ?_)
    | with_reducible exact ex_fX11_pageOf _ _ _
    | with_reducible refine E_calx (ex_fX11_refuseBelowZero _ _ _) (by decide) (fun _ _ => ?_)
    | with_reducible exact ex_fX11_refuseBelowZero _ _ _
    | ex2)
set_option maxRecDepth 10000 in
theorem ex_fX11_translate (a0 : Nat) (a1 : Int) (a2 : Int) (a3 : Int) (C : Cd) : EO [0, 2] (fX11_translate a0 a1 a2 a3 C) := by
  unfold fX11_translate
  repeat' (first
    | ex1
    | with_reducible refine E_calx (ex_fX11_titleOf _ _ _) (by decide) (fun _ _ => ?_)
    | with_reducible exact ex_fX11_titleOf _ _ _
    | with_reducible refine E_calx (ex_fX11_pageOf _ _ _) (by decide) (fun _ _ => ?_)
    | with_reducible exact ex_fX11_pageOf _ _ _
    | ex2)
set_option maxRecDepth 10000 in
theorem ex_fX11_undo (a0 : Nat) (a1 : Int) (a2 : Int) (C : Cd) : EO [1, 2] (fX11_undo a0 a1 a2 C) := by
  unfold fX11_undo
  repeat' (first
    | ex1
    | with_reducible refine E_calx (ex_fX11_pageOf _ _ _) (by decide) (fun _ _ => ?_)
    | with_reducible exact ex_fX11_pageOf _ _ _
    | ex2)
set_option maxRecDepth 10000 in
theorem ex_fX11_versionAt (a0 : Nat) (a1 : Int) (a2 : Int) (C : Cd) : EO [2] (fX11_versionAt a0 a1 a2 C) := by
  unfold fX11_versionAt
  repeat' (first
    | ex1
    | with_reducible refine E_calx (ex_fX11_titleOf _ _ _) (by decide) (fun _ _ => ?_)
    | with_reducible exact ex_fX11_titleOf _ _ _
    | ex2)
set_option maxRecDepth 10000 in
theorem ex_fX11_versions (a0 : Nat) (a1 : Int) (C : Cd) : EO [2] (fX11_versions a0 a1 C) := by
  unfold fX11_versions
  repeat' (first
    | ex1
    | with_reducible refine E_calx (ex_fX11_titleOf _ _ _) (by decide) (fun _ _ => ?_)
    | with_reducible exact ex_fX11_titleOf _ _ _
    | ex2)
set_option maxRecDepth 10000 in
theorem ex_fX11_work (a0 : Nat) (a1 : Int) (C : Cd) : EO [0] (fX11_work a0 a1 C) := by
  unfold fX11_work
  repeat' (first
    | ex1
    | ex2)
end EXC
