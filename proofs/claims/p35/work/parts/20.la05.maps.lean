/-! OTHER WAYS TO READ A STATE -/
section MAPS
variable {ρ S S' : Type} {l : Launch} {Γ : Cx} {k : Kd} {d : Nat} {enc : ρ → Out} {pc : Nat} {lo : List (Nat × Value)} {st : List Value}
theorem ct_map {em : S → St} {J : S' → S} {av : List Value} {σ : S'} {X : Option (ρ × S')} (h : Ct l Γ k d enc (fun σ => em (J σ)) av σ X) : Ct l Γ k d enc em av (J σ) (X.map (fun q => (q.1, J q.2))) := by
  intro r σ' hX
  obtain ⟨⟨r0, σ0⟩, hX0, e⟩ := Option.map_eq_some_iff.mp hX
  cases e
  exact h r0 σ0 hX0
theorem ro_rel {em : S → St} {σ1 σ2 : S} {X : Option (ρ × S)} (hz : csz (em σ1).2 = csz (em σ2).2) (hl : csl (em σ1).2 = csl (em σ2).2) (hR : ∀ H, RelE Γ (em σ1) H → RelE Γ (em σ2) H) (K : RunO l Γ k d enc em pc lo st σ2 X) : RunO l Γ k d enc em pc lo st σ1 X := by
  intro r σ' hX
  obtain ⟨h1, h2, h3⟩ := K r σ' hX
  refine ⟨by rw [hz]; exact h1, by rw [hl]; exact h2, fun p e R s m args below meth c hm z0 l0 H locs ls a1 a2 a3 a4 hR0 hS hl0 => ?_⟩
  rw [hz, hl]
  exact h3 p e R s m args below meth c hm z0 l0 H locs ls a1 (by rw [← hl]; exact a2) a3 a4 (hR H hR0) hS hl0
theorem ct_gam {em em' : S → St} {a : Nat} {b : va_G} {c : Nat → ClassId} {f f' : Md → va_W} {g : State → Heap → Prop} {av : List Value} {σ : S} {X : Option (ρ × S)} (hf : ∀ σ, f (em σ).1 = f' (em' σ).1 ∧ (em σ).2 = (em' σ).2)
    (h : Ct l (a, b, c, f, g) k d enc em av σ X) : Ct l (a, b, c, f', g) k d enc em' av σ X := by
  have eR : ∀ σ : S, RelE (a, b, c, f, g) (em σ) = RelE (a, b, c, f', g) (em' σ) := fun σ => by
    funext H
    have ew : wl (a, b, c, f, g) (em σ) = wl (a, b, c, f', g) (em' σ) := by
      show f (em σ).1 ++ va_pl (cL (em σ).2) (cfE (a, b, c, f, g) (em σ).2) = f' (em' σ).1 ++ va_pl (cL (em' σ).2) (cfE (a, b, c, f', g) (em' σ).2)
      rw [(hf σ).1, (hf σ).2]
      rfl
    unfold RelE
    rw [ew, (hf σ).2]
  have eq : ∀ (r : ρ) (σ : S), qc (a, b, c, f, g) enc em r σ = qc (a, b, c, f', g) enc em' r σ := fun r σ => by
    funext A st o t
    unfold qc
    rw [eR σ]
  have ex : ∀ (r : ρ) (σ : S), xc (a, b, c, f, g) enc em r σ = xc (a, b, c, f', g) enc em' r σ := fun r σ => by
    funext E st t
    unfold xc
    rw [eR σ]
  have eS : (fun U => RelS (a, b, c, f, g) (em σ) U) = fun U => RelS (a, b, c, f', g) (em' σ) U := by
    funext U
    unfold RelS
    rw [eR σ]
  intro r σ' hX
  obtain ⟨h1, h2, h3⟩ := h r σ' hX
  rw [eq, ex, eS, (hf σ).2, (hf σ').2] at h3
  rw [(hf σ).2, (hf σ').2] at h1 h2
  exact ⟨h1, h2, h3⟩
end MAPS
