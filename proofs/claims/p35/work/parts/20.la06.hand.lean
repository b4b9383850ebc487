/-! CALLS WITH HANDLERS -/
section HAND
variable {ρ S : Type} {l : Launch} {Γ : Cx} {k : Kd} {d : Nat} {enc : ρ → Out} {em : S → St} {pc : Nat} {lo : List (Nat × Value)} {st rest : List Value} {σ : S} {X : Option (ρ × S)} {k2 : Kd} {d2 n i b : Nat} {As : List Value}
/-- the three that are thrown are apart -/
def XN (Γ : Cx) : Prop := ∀ (s : State) (H : Heap), Γ.2.2.2.2 s H → ∀ e e', e < 3 → e' < 3 → e ≠ e' → va_Nc (exN e) (exN e') s
/-- what is owed behind a call that may throw: where it goes on -/
def ACH (l : Launch) (Γ : Cx) (k : Kd) (d : Nat) (enc : ρ → Out) (em : S → St) (pc : Nat) (lo : List (Nat × Value)) (rest : List Value) (σ1 : S) (X1 : Option (ρ × S)) : Out → Prop
  | .inl v => RunO l Γ k d enc em (pc + 3) lo (v.toList ++ rest) σ1 X1
  | .inr E => X1 = none ∨ ∃ (pre : List ExceptionTableEntry) (x : ExceptionTableEntry) (suf : List ExceptionTableEntry) (nm : String), k.2.2.2.2 = pre ++ x :: suf ∧ (∀ z ∈ pre, covers z pc = false ∨ (z.catchType ≠ 0 ∧ ∃ nm' : String, Cond.classLink k.1.cls z.catchType nm' ∈ uw ∧ ∀ s : State, Γ.2.2.2.2 s s.heap → va_Nc E nm' s)) ∧ covers x pc = true ∧ x.catchType ≠ 0 ∧ Cond.classLink k.1.cls x.catchType nm ∈ uw ∧ Cond.castable E nm ∈ ux ∧ ∀ q : Nat, RunO l Γ k d enc em x.handlerPc lo [.ref q] σ1 X1
theorem ro_callH (hG : GK Γ l) {ρ2 : Type} {enc2 : ρ2 → Out} {X2 : Option (ρ2 × S)} {f : ρ2 → S → Option (ρ × S)} {av : List Value}
    (hct : Ct l Γ k2 d2 enc2 em av σ X2) (hin : Inv l Γ k d k2 d2 av em σ pc st rest)
    (K : ∀ r2 σ1, ACH l Γ k d enc em pc lo rest σ1 (f r2 σ1) (enc2 r2)) : RunO l Γ k d enc em pc lo st σ (X2.bind (fun q => f q.1 q.2)) := by
  intro r σ' hX
  obtain ⟨⟨r2, σ1⟩, hX2, hf⟩ := Option.bind_eq_some_iff.mp hX
  obtain ⟨c1, c2, hM⟩ := hct r2 σ1 hX2
  have hK := K r2 σ1
  have hmono : csz (em σ1).2 ≤ csz (em σ').2 ∧ csl (em σ1).2 ≤ csl (em σ').2 := by
    cases hE : enc2 r2 with
    | inl v =>
      rw [hE] at hK
      exact ⟨(hK r σ' hf).1, (hK r σ' hf).2.1⟩
    | inr E =>
      rw [hE] at hK
      rcases hK with hn | ⟨pre, x, suf, nm, _, _, _, _, _, _, kq⟩
      · dsimp only at hf
        rw [hn] at hf
        cases hf
      · exact ⟨(kq 0 r σ' hf).1, (kq 0 r σ' hf).2.1⟩
  refine ⟨Nat.le_trans c1 hmono.1, Nat.le_trans c2 hmono.2, fun p e R s m args below meth c hm z0 l0 H locs ls a1 a2 a3 a4 hR hS hl => ?_⟩
  have hz0 : z0 ≤ csz (em σ).2 := by rw [a1, ← hR.2.2]; exact hS.1
  have hOC : OC Γ := hm.2.2.2.2.2.2.2.2.2.2.2.2.1
  have hKs := hm.2.2.2.2.2.2.2.2.1
  have hbase := hm.2.2.2.2.2.2.2.2.2.2.2.2.2.1
  have hO := hm.2.2.2.2.2.2.2.2.2.2.2.2.2.2
  have hrels : ∀ U : State, U.heap = H → s.WarmedH U.vm → RelS Γ (em σ) U := by
    intro U hU hW
    refine ⟨va_K.moved hW.alike hKs, by rw [hU]; exact hR, by rw [hU]; exact Nat.le_trans hbase hS.1, ?_⟩
    rw [hU]
    exact hOC s U s.heap H hW (fun q hq => hS.2.1 q (Nat.lt_of_lt_of_le hq hbase) (Nat.not_le.mpr hq)) hO
  have e1 : csz (em σ).2 - z0 + (csz (em σ1).2 - csz (em σ).2) = csz (em σ1).2 - z0 := by omega
  have e2 : csl (em σ).2 - l0 + (csl (em σ1).2 - csl (em σ).2) = csl (em σ1).2 - l0 := by omega
  refine go_run (hin p e R s m args below meth c hm _ _ _ _ H locs _ _ ls (hM hOC) hR hrels hl.1 (by omega) (by omega)) ?_ ?_
  · intro v st0 t L H1 h0 h1 hA hq hL
    obtain ⟨⟨v', hv1, hv2⟩, hRt, hF⟩ := hq
    cases hv2
    rw [hv1] at hK
    obtain ⟨k1, k2, k3⟩ := hK r σ' hf
    obtain ⟨f1, f2, f3⟩ := vx_keep (T' := t) h0 rfl hS (fun _ _ h => h) (fun _ h => h) hL hF
    rw [e1, e2]
    refine k3 p e R s m args below meth c hm z0 l0 H1 (locs ++ L) ls a1 (by omega) a3 a4 ?_ ?_ hl
    · rw [h1]; exact hRt
    · rw [h1]; exact f3
  · intro q st0 t L H1 E ce h0 h1 hA hq hL hce hcv hcl
    obtain ⟨hv1, hRt, hF⟩ := hq
    rw [hv1] at hK
    rcases hK with hn | ⟨pre, x, suf, nm, hsp, hpre, hx, hx0, hlk, hcs, kq⟩
    · dsimp only at hf
      rw [hn] at hf
      cases hf
    · obtain ⟨k1, k2, k3⟩ := kq q r σ' hf
      obtain ⟨f1, f2, f3⟩ := vx_keep (T' := t) h0 rfl hS (fun _ _ h => h) (fun _ h => h) hL hF
      rw [e1, e2]
      have hts := hm.2.2.2.2.2.1
      refine vx_catch (own := k.1.cls) (E := E) (name := nm) hm.2.2.2.2.1 pre x suf (by rw [hm.2.2.2.2.2.2.1, hsp]) (fun z hz => ?_) hx hx0 (hts _ hlk) (ux_at hG hcs hO) hce hcv hcl ?_
      · rcases hpre z hz with g | ⟨g1, nm', g2, g3⟩
        · exact Or.inl g
        · exact Or.inr ⟨g1, nm', hts _ g2, g3 s hO⟩
      · refine k3 p e R s m args below meth c hm z0 l0 H1 (locs ++ L) ls a1 (by omega) a3 a4 ?_ ?_ hl
        · rw [h1]; exact hRt
        · rw [h1]; exact f3
/-- the contract of a method with handlers -/
def CtH (l : Launch) (Γ : Cx) (k : Kd) (hh : List (Nat × Nat × Nat × Nat)) (d : Nat) (enc : ρ → Out) (em : S → St) (av : List Value) (σ : S) (X : Option (ρ × S)) : Prop :=
  ∀ (r : ρ) (σ' : S), X = some (r, σ') → csz (em σ).2 ≤ csz (em σ').2 ∧ csl (em σ).2 ≤ csl (em σ').2 ∧ (OC Γ →
    vx_Met l k.1 (.codeWith k.1 k.2.1 k.2.2.1 k.2.2.2.1 hh :: uw) (rmOf d (csz (em σ').2 - csz (em σ).2) (csl (em σ').2 - csl (em σ).2)) (va_Pc av (fun U => RelS Γ (em σ) U)) (qc Γ enc em r σ') (xc Γ enc em r σ') (csz (em σ').2 - csz (em σ).2) (csl (em σ').2 - csl (em σ).2) (inA Γ))
theorem ctH_of {hh : List (Nat × Nat × Nat × Nat)} {av : List Value} (hy : plainName k.1.cls = true) (htb : k.2.2.2.2 = tableOf hh) (hsl : (lg_sl av).length ≤ k.2.2.1)
    (body : RunO l Γ k d enc em 0 (lv_args 0 av) [] σ X) : CtH l Γ k hh d enc em av σ X := by
  intro r σ' hX
  obtain ⟨h1, h2, h3⟩ := body r σ' hX
  refine ⟨h1, h2, fun hOC => ?_⟩
  refine vx_ofWH (cc := k.2.1) (maxL := k.2.2.1) (ret := k.2.2.2.1) (hh := hh) hy rfl ?_
  intro p e s m args below meth c s₁ B hml hv
  obtain ⟨rfl, hK, hR, hbase, hO⟩ := hv
  have hts := atoms_spec B.pre
  have hmc : MC l Γ k d p (headSpec (.codeWith k.1 k.2.1 k.2.2.1 k.2.2.2.1 hh :: uw) (rmOf d (csz (em σ').2 - csz (em σ).2) (csl (em σ').2 - csl (em σ).2))).room s m av.toArray meth c :=
    ⟨B.exec, B.bytes, B.returns, hml, findClass_of_methodNamed B.named, fun w hw => hts w (List.mem_cons_of_mem _ hw), by rw [htb]; exact vx_table (x := k.1) B (hts _ List.mem_cons_self), B.notSynchronized, hK, Nat.le_refl d, Nat.le_refl _, (name_of_methodNamed B.named B.method).1, hOC, hbase, hO⟩
  have hl := lv_entry av (n := k.2.2.1) hsl
  rw [lg_entry_eq]
  have h4 := h3 p e _ s m _ below meth c hmc (csz (em σ).2) (csl (em σ).2) s.heap [] _ hR.2.2.symm (Nat.le_refl _) (Nat.le_refl _) (Nat.le_refl _) hR va_S.rf hl
  rw [Nat.sub_self, Nat.sub_self] at h4
  exact h4
theorem ctH_map {S' : Type} {hh : List (Nat × Nat × Nat × Nat)} {J : S' → S} {av : List Value} {σ : S'} {X : Option (ρ × S')} (h : CtH l Γ k hh d enc (fun σ => em (J σ)) av σ X) : CtH l Γ k hh d enc em av (J σ) (X.map (fun q => (q.1, J q.2))) := by
  intro r σ' hX
  obtain ⟨⟨r0, σ0⟩, hX0, e⟩ := Option.map_eq_some_iff.mp hX
  cases e
  exact h r0 σ0 hX0
/-- what the tables say of an own static method with handlers -/
def KSH (k2 : Kd) (hh : List (Nat × Nat × Nat × Nat)) (n : Nat) : Prop := Cond.codeWith k2.1 k2.2.1 k2.2.2.1 k2.2.2.2.1 hh ∈ uw ∧ Cond.initialized k2.1.cls ∈ uw ∧ Cond.static k2.1 ∈ uw ∧ (k2.1.cls ≠ "java/lang/invoke/MethodHandle" ∧ k2.1.cls ≠ "java/lang/invoke/VarHandle") ∧ (parseMethodDescriptor k2.1.desc).map (fun d => d.parameters.length) = some n ∧ k2.2.2.1 ≤ 80
/-- a static call of one that has handlers and gives an int -/
theorem r_callSH {hh : List (Nat × Nat × Nat × Nat)} {X2 : Option (Int × S)} {f : Int → S → Option (ρ × S)} (hk : KSH k2 hh n) (hct : CtH l Γ k2 hh d2 encI em As σ X2) (hd2 : d2 + 1 ≤ d) (ul : Cond.methodLink k.1.cls i k2.1 ∈ uw) (hn : As.length = n) (hW : (rest.map fun v => v.category).sum ≤ 8) (hd : decode k.2.1 pc = .ok (.invokestatic i, 3)) (hst : As.reverse ++ rest = st)
    (K : ∀ r2 σ1, RunO l Γ k d enc em (pc + 3) lo (wi r2 :: rest) σ1 (f r2 σ1)) : RunO l Γ k d enc em pc lo st σ (X2.bind (fun q => f q.1 q.2)) := by
  subst hst
  obtain ⟨uc, ui, um, hy, hdesc, hmx⟩ := hk
  intro r σ' hX
  obtain ⟨⟨r2, σ1⟩, hX2, hf⟩ := Option.bind_eq_some_iff.mp hX
  obtain ⟨c1, c2, hM⟩ := hct r2 σ1 hX2
  obtain ⟨m1, m2, m3⟩ := K r2 σ1 r σ' hf
  refine ⟨Nat.le_trans c1 m1, Nat.le_trans c2 m2, fun p e R s m args below meth c hm z0 l0 H locs ls a1 a2 a3 a4 hR hS hl => ?_⟩
  have hz0 : z0 ≤ csz (em σ).2 := by rw [a1, ← hR.2.2]; exact hS.1
  have hOC : OC Γ := hm.2.2.2.2.2.2.2.2.2.2.2.2.1
  have hKs := hm.2.2.2.2.2.2.2.2.1
  have hbase := hm.2.2.2.2.2.2.2.2.2.2.2.2.2.1
  have hO := hm.2.2.2.2.2.2.2.2.2.2.2.2.2.2
  have hts := hm.2.2.2.2.2.1
  have hdf := hm.2.2.2.2.2.2.2.2.2.1
  have hdl := hm.2.2.2.2.2.2.2.2.2.2.1
  have hrels : ∀ U : State, U.heap = H → s.WarmedH U.vm → RelS Γ (em σ) U := by
    intro U hU hW
    refine ⟨va_K.moved hW.alike hKs, by rw [hU]; exact hR, by rw [hU]; exact Nat.le_trans hbase hS.1, ?_⟩
    rw [hU]
    exact hOC s U s.heap H hW (fun q hq => hS.2.1 q (Nat.lt_of_lt_of_le hq hbase) (Nat.not_le.mpr hq)) hO
  have e1 : csz (em σ).2 - z0 + (csz (em σ1).2 - csz (em σ).2) = csz (em σ1).2 - z0 := by omega
  have e2 : csl (em σ).2 - l0 + (csl (em σ1).2 - csl (em σ).2) = csl (em σ1).2 - l0 := by omega
  have hrun := vx_runSX (hh := hh) (Ts := uw) (own := k.1.cls) (bytes := k2.2.1) (maxL := k2.2.2.1) (ret := k2.2.2.2.1) (nL := k.2.2.1) (n := n) (g := F0 m pc ls (As.reverse ++ rest)) (rest := rest) (p := p) (l := l) (e := e) (R := R) (s := s) (m := m) (args := args) (below := below) (meth := meth) (c := c) (H := H) (locs := locs) (cells := csz (em σ).2 - z0) (slots := csl (em σ).2 - l0) (As := As) ⟨hm.1, hm.2.1, hm.2.2.2.1, hm.2.2.2.2.1, hts⟩ (hM hOC)
    ⟨⟨rfl, rfl, (by show d2 + 1 ≤ R.frames; omega), (by show 8 + (k2.2.2.1 + 11) + 100 * d2 ≤ R.locals; omega), pay_in hts (uw_in uc), List.mem_cons_self⟩, hts _ uc, hts _ ui, hy, psig hdesc, hts _ ul, hts _ um⟩
    ⟨fun a U g mk q => by
      obtain ⟨q0, q1, q2, q3, q4⟩ := q
      exact ⟨q0, va_K.moved (u := U) (U := U.calling g mk a) (Vm.Alike.refl U.vm) q1, q2, q3, hOC U (U.calling g mk a) _ _ (State.WarmedH.refl U) (fun _ _ => rfl) q4⟩, fun U hU hWm => ⟨rfl, hrels U hU hWm⟩⟩ rfl hn hl.1 rfl (lv_room hW) hd ⟨by omega, by omega⟩
  refine go_run hrun ?_ ?_
  · intro v st0 t L H1 h0 h1 hA hq hL
    obtain ⟨⟨v', hv1, hv2⟩, hRt, hF⟩ := hq
    cases hv2
    cases hv1
    obtain ⟨f1, f2, f3⟩ := vx_keep (T' := t) h0 rfl hS (fun _ _ h => h) (fun _ h => h) hL hF
    rw [e1, e2]
    refine m3 p e R s m args below meth c hm z0 l0 H1 (locs ++ L) ls a1 (by omega) a3 a4 ?_ ?_ hl
    · rw [h1]; exact hRt
    · rw [h1]; exact f3
  · intro q st0 t L H1 E ce h0 h1 hA hq hL hce hcv hcl
    obtain ⟨hv1, _⟩ := hq
    cases hv1
end HAND
