/-! CALLS, joins and loops -/
/-- what the tables say of an own method of n arguments -/
def KV (k2 : Kd) (n : Nat) : Prop := Cond.code k2.1 k2.2.1 k2.2.2.1 k2.2.2.2.1 ∈ uw ∧ Cond.initialized k2.1.cls ∈ uw ∧ Cond.instanceMethod k2.1 ∈ uw ∧ Cond.selects k2.1.cls k2.1 k2.1 ∈ uw ∧ (k2.1.cls ≠ "java/lang/invoke/MethodHandle" ∧ k2.1.cls ≠ "java/lang/invoke/VarHandle") ∧ (parseMethodDescriptor k2.1.desc).map (fun d => d.parameters.length) = some n ∧ k2.2.2.1 ≤ 80
def KS (k2 : Kd) (n : Nat) : Prop := Cond.code k2.1 k2.2.1 k2.2.2.1 k2.2.2.2.1 ∈ uw ∧ Cond.initialized k2.1.cls ∈ uw ∧ Cond.static k2.1 ∈ uw ∧ (k2.1.cls ≠ "java/lang/invoke/MethodHandle" ∧ k2.1.cls ≠ "java/lang/invoke/VarHandle") ∧ (parseMethodDescriptor k2.1.desc).map (fun d => d.parameters.length) = some n ∧ k2.2.2.1 ≤ 80
theorem psig {y : MethodName} {n : Nat} (h : (parseMethodDescriptor y.desc).map (fun d => d.parameters.length) = some n) : ∀ sig, parseMethodDescriptor y.desc = some sig → n = sig.parameters.length := by
  intro sig hs
  rw [hs] at h
  exact (Option.some.inj h).symm
section CALLS
variable {ρ S : Type} {l : Launch} {Γ : Cx} {k : Kd} {d : Nat} {enc : ρ → Out} {em : S → St} {pc : Nat} {lo : List (Nat × Value)} {st rest : List Value} {σ : S} {X : Option (ρ × S)} {k2 : Kd} {d2 n i b : Nat} {As : List Value}
theorem inv_V (hk : KV k2 n) (hd2 : d2 + 1 ≤ d) (ul : Cond.methodLink k.1.cls i k2.1 ∈ uw) (hn : As.length = n) (hW : (rest.map fun v => v.category).sum ≤ 8) (hd : decode k.2.1 pc = .ok (.invokevirtual i, 3))
    (hrec : ∀ (H : Heap) (s : State), va_K Γ.2.1 vwCl (tysOf Γ.2.2.1) s → RelE Γ (em σ) H → ∃ cell : Cell, H[b]? = some cell ∧ cell.vm.isStatics = false ∧ s.vm.findClass k2.1.cls = some cell.cls) :
    Inv l Γ k d k2 d2 (.ref b :: As) em σ pc (As.reverse ++ .ref b :: rest) rest := by
  obtain ⟨uc, ui, um, us, hy, hdesc, hmx⟩ := hk
  intro p e R s m args below meth c hm mc ms Qc XC H locs cells slots ls hM hR hrel hsz hc1 hc2
  have hts := hm.2.2.2.2.2.1
  have hK := hm.2.2.2.2.2.2.2.2.1
  have hdf := hm.2.2.2.2.2.2.2.2.2.1
  have hdl := hm.2.2.2.2.2.2.2.2.2.2.1
  refine vx_runV (Ts := uw) (own := k.1.cls) (C := k2.1.cls) (bytes := k2.2.1) (maxL := k2.2.2.1) (ret := k2.2.2.2.1) (nL := k.2.2.1) (n := n) (g := F0 m pc ls _) ⟨hm.1, hm.2.1, hm.2.2.2.1, hm.2.2.2.2.1, hts⟩ hM
    ⟨⟨rfl, rfl, ?_, ?_, pay_in hts (uw_in uc), List.mem_cons_self, hts _ uc, hts _ ui, hy, psig hdesc, hts _ ul⟩, hts _ um, hts _ us⟩
    ⟨fun a U g mk q => ?_, hrec H s hK hR, fun U hU hWm => ⟨rfl, hrel U hU hWm⟩⟩ rfl hn hsz rfl (lv_room hW) hd ⟨hc1, hc2⟩
  · show d2 + 1 ≤ R.frames
    omega
  · show 8 + (k2.2.2.1 + 11) + 100 * d2 ≤ R.locals
    omega
  · obtain ⟨q0, q1, q2, q3, q4⟩ := q
    exact ⟨q0, va_K.moved (u := U) (U := U.calling g mk a) (Vm.Alike.refl U.vm) q1, q2, q3, hm.2.2.2.2.2.2.2.2.2.2.2.2.1 U (U.calling g mk a) _ _ (State.WarmedH.refl U) (fun _ _ => rfl) q4⟩
theorem inv_S (hk : KS k2 n) (hd2 : d2 + 1 ≤ d) (ul : Cond.methodLink k.1.cls i k2.1 ∈ uw) (hn : As.length = n) (hW : (rest.map fun v => v.category).sum ≤ 8) (hd : decode k.2.1 pc = .ok (.invokestatic i, 3)) :
    Inv l Γ k d k2 d2 As em σ pc (As.reverse ++ rest) rest := by
  obtain ⟨uc, ui, um, hy, hdesc, hmx⟩ := hk
  intro p e R s m args below meth c hm mc ms Qc XC H locs cells slots ls hM hR hrel hsz hc1 hc2
  have hts := hm.2.2.2.2.2.1
  have hK := hm.2.2.2.2.2.2.2.2.1
  have hdf := hm.2.2.2.2.2.2.2.2.2.1
  have hdl := hm.2.2.2.2.2.2.2.2.2.2.1
  refine vx_runS (Ts := uw) (own := k.1.cls) (bytes := k2.2.1) (maxL := k2.2.2.1) (ret := k2.2.2.2.1) (nL := k.2.2.1) (n := n) (g := F0 m pc ls _) ⟨hm.1, hm.2.1, hm.2.2.2.1, hm.2.2.2.2.1, hts⟩ hM
    ⟨⟨rfl, rfl, ?_, ?_, pay_in hts (uw_in uc), List.mem_cons_self, hts _ uc, hts _ ui, hy, psig hdesc, hts _ ul⟩, hts _ um⟩
    ⟨fun a U g mk q => ?_, fun U hU hWm => ⟨rfl, hrel U hU hWm⟩⟩ rfl hn hsz rfl (lv_room hW) hd ⟨hc1, hc2⟩
  · show d2 + 1 ≤ R.frames
    omega
  · show 8 + (k2.2.2.1 + 11) + 100 * d2 ≤ R.locals
    omega
  · obtain ⟨q0, q1, q2, q3, q4⟩ := q
    exact ⟨q0, va_K.moved (u := U) (U := U.calling g mk a) (Vm.Alike.refl U.vm) q1, q2, q3, hm.2.2.2.2.2.2.2.2.2.2.2.2.1 U (U.calling g mk a) _ _ (State.WarmedH.refl U) (fun _ _ => rfl) q4⟩
/-- a static call that doesn't throw -/
theorem r_callS {ρ2 : Type} {enc2 : ρ2 → Out} {X2 : Option (ρ2 × S)} {f : ρ2 → S → Option (ρ × S)} (htb : k.2.2.2.2 = []) (hk : KS k2 n) (hct : Ct l Γ k2 d2 enc2 em As σ X2) (hd2 : d2 + 1 ≤ d) (ul : Cond.methodLink k.1.cls i k2.1 ∈ uw) (hn : As.length = n) (hW : (rest.map fun v => v.category).sum ≤ 8) (hd : decode k.2.1 pc = .ok (.invokestatic i, 3)) (hst : As.reverse ++ rest = st)
    (K : ∀ r2 σ1, AC l Γ k d enc em (pc + 3) lo rest σ1 (f r2 σ1) (enc2 r2)) : RunO l Γ k d enc em pc lo st σ (cal X2 f) := by
  subst hst
  exact ro_call htb hct (inv_S hk hd2 ul hn hW hd) K
theorem r_callV {ρ2 : Type} {enc2 : ρ2 → Out} {X2 : Option (ρ2 × S)} {f : ρ2 → S → Option (ρ × S)} (htb : k.2.2.2.2 = []) (hk : KV k2 n) (hct : Ct l Γ k2 d2 enc2 em (.ref b :: As) σ X2) (hd2 : d2 + 1 ≤ d) (ul : Cond.methodLink k.1.cls i k2.1 ∈ uw) (hn : As.length = n) (hW : (rest.map fun v => v.category).sum ≤ 8) (hd : decode k.2.1 pc = .ok (.invokevirtual i, 3))
    (hrec : ∀ (H : Heap) (s : State), va_K Γ.2.1 vwCl (tysOf Γ.2.2.1) s → RelE Γ (em σ) H → ∃ cell : Cell, H[b]? = some cell ∧ cell.vm.isStatics = false ∧ s.vm.findClass k2.1.cls = some cell.cls) (hst : As.reverse ++ .ref b :: rest = st)
    (K : ∀ r2 σ1, AC l Γ k d enc em (pc + 3) lo rest σ1 (f r2 σ1) (enc2 r2)) : RunO l Γ k d enc em pc lo st σ (cal X2 f) := by
  subst hst
  exact ro_call htb hct (inv_V hk hd2 ul hn hW hd hrec) K
theorem r_join {α : Type} {P : α → Prop} {J : α} {f : α → Option (ρ × S)} (hJ : P J) (K : ∀ J' : α, P J' → RunO l Γ k d enc em pc lo st σ (f J')) : RunO l Γ k d enc em pc lo st σ (bnd J f) := K J hJ
theorem r_loop {α : Type} {P : α → Prop} {z : α} {body : α → α} {n : Nat} {f : α → Option (ρ × S)} (h0 : P z) (hs : ∀ self : α, P self → P (body self)) (K : ∀ J' : α, P J' → RunO l Γ k d enc em pc lo st σ (f J')) : RunO l Γ k d enc em pc lo st σ (bnd (lpn z body n) f) := by
  refine K _ ?_
  induction n with
  | zero => exact h0
  | succ n ih => exact hs _ ih
end CALLS
