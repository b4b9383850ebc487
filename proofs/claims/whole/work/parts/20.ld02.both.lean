/-! BOTH STATES IN ONE HEAP -/
section BOTH
variable {ρ S : Type} {l : Launch} {k : Kd} {d : Nat} {enc : ρ → Out} {pc : Nat} {lo : List (Nat × Value)} {st rest : List Value} {b0 : Nat} {bG : va_G} {cy : Nat → ClassId} {g : State → Heap → Prop} {mo : Nat}
/-- the reference's cells: none before it is made -/
def fS (cy : Nat → ClassId) (mo : Nat) : Md → va_W := fun M => if M.1 999 = 1 then mCells cy mo (maA mo) M else []
def mk1 (M : Md) : Md := (fun j => if j = 999 then 1 else M.1 j, M.2)
theorem fS_mk1 (M : Md) : fS cy mo (mk1 M) = mCells cy mo (maA mo) M := by
  unfold fS
  rw [if_pos (show (mk1 M).1 999 = 1 from rfl)]
  have e : mObj (maA mo) (mk1 M) = mObj (maA mo) M := by
    unfold mObj
    refine List.map_congr_left (fun k hk => ?_)
    have hk := List.mem_range.mp hk
    have : (mk1 M).1 k = M.1 k := if_neg (by omega)
    rw [this]
  unfold mCells
  rw [e]
  rfl
theorem m_ct {av : List Value} {M : Md} {K0 : Cd} {X : Option (ρ × Md)} (h : Ct l (b0, bG, cy, mCells cy mo (maA mo), g) k d enc (emM K0) av M X) : Ct l (b0, bG, cy, fS cy mo, g) k d enc emL av (mk1 M, K0) (X.map (fun q => (q.1, (mk1 q.2, K0)))) :=
  ct_map (em := emL) (J := fun M => (mk1 M, K0)) (ct_gam (em := emM K0) (em' := fun M => emL (mk1 M, K0)) (fun M => ⟨(fS_mk1 M).symm, rfl⟩) h)
theorem c_ct {Γ : Cx} {M0 : Md} {av : List Value} {C : Cd} {X : Option (ρ × Cd)} (h : Ct l Γ k d enc (emC M0) av C X) : Ct l Γ k d enc emL av (M0, C) (X.map (fun q => (q.1, (M0, q.2)))) := ct_map (em := emL) (J := fun C => (M0, C)) h
theorem w_ct {Γ : Cx} {hh : List (Nat × Nat × Nat × Nat)} {M0 : Md} {av : List Value} {C : Cd} {X : Option (ρ × Cd)} (h : CtH l Γ k hh d enc (emC M0) av C X) : CtH l Γ k hh d enc emL av (M0, C) (X.map (fun q => (q.1, (M0, q.2)))) := ctH_map (em := emL) (J := fun C => (M0, C)) h
theorem m_recL {M : Md} {C : Cd} (H : Heap) (s : State) (hK : va_K bG vwCl (tysOf cy) s) (hR : RelE (b0, bG, cy, fS cy mo, g) (emL (mk1 M, C)) H) : ∃ cell : Cell, H[mo]? = some cell ∧ cell.vm.isStatics = false ∧ s.vm.findClass RX12 = some cell.cls := by
  have hR2 : RelE (b0, bG, cy, mCells cy mo (maA mo), g) (emM C M) H := by
    have e : wl (b0, bG, cy, fS cy mo, g) (mk1 M, C) = wl (b0, bG, cy, mCells cy mo (maA mo), g) (M, C) := by
      show fS cy mo (mk1 M) ++ _ = mCells cy mo (maA mo) M ++ _
      rw [fS_mk1]
      rfl
    unfold RelE at hR ⊢
    show va_P _ _ (wl (b0, bG, cy, mCells cy mo (maA mo), g) (M, C)) H ∧ va_D _ (wl (b0, bG, cy, mCells cy mo (maA mo), g) (M, C)) ∧ _
    rw [← e]
    exact hR
  exact m_rec (Γ := (b0, bG, cy, mCells cy mo (maA mo), g)) rfl H s hK hR2
/-- the law -/
def kL (T : List ExceptionTableEntry) : Kd := (yL_law, cL_law, 7, some .boolean, T)
def loM (sb b mo out : Nat) (i : Int) : List (Nat × Value) := [(0, .ref sb), (1, .ref b), (2, .ref mo), (3, .ref out), (4, wi i)]
theorem ro_t {Γ : Cx} {em : S → St} {σ : S} {X : Option (ρ × S)} {c : Prop} [Decidable c] (h : c) (K : RunO l Γ k d enc em pc lo st σ (if c then X else none)) : RunO l Γ k d enc em pc lo st σ X := by
  rw [if_pos h] at K
  exact K
theorem ro_f {Γ : Cx} {em : S → St} {σ : S} {X : Option (ρ × S)} {c : Prop} [Decidable c] (h : ¬ c) (K : RunO l Γ k d enc em pc lo st σ (if c then none else X)) : RunO l Γ k d enc em pc lo st σ X := by
  rw [if_neg h] at K
  exact K
theorem EO.use {S : List Nat} {ρ : Type} {X : Option ((ρ ⊕ Nat) × Cd)} (h : EO S X) : ∀ e C', X = some (.inr e, C') → e ∈ S := by
  unfold EO at h
  exact h
theorem GO.use {C : Cd} {ρ : Type} {X : Option (ρ × Cd)} (h : GO C X) : ∀ r C', X = some (r, C') → Wf C → ∀ a, a ∈ cL C → a ∈ cL C' ∧ cty C' a = cty C a ∧ cn C' a = cn C a := by
  unfold GO at h
  intro r C' e W
  have := h r C' e
  unfold Gr at this
  exact (this W).2
end BOTH
