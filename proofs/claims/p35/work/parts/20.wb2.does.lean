/-! DOES: its handlers; its call -/
def lkE (e : Nat) : Nat := if e = 0 then 105 else if e = 1 then 107 else 103
theorem ulk {e : Nat} (he : e < 3) : Cond.classLink RL (lkE e) (exN e) ∈ uw := by
  rcases (by omega : e = 0 ∨ e = 1 ∨ e = 2) with h | h | h <;> subst h
  · exact uw_mem 784 (by decide +kernel) rfl
  · exact uw_mem 785 (by decide +kernel) rfl
  · exact uw_mem 783 (by decide +kernel) rfl
theorem ucs {e : Nat} (he : e < 3) : Cond.castable (exN e) (exN e) ∈ ux := by
  rcases (by omega : e = 0 ∨ e = 1 ∨ e = 2) with h | h | h <;> subst h
  · exact ux_mem 498 (by decide +kernel) rfl
  · exact ux_mem 807 (by decide +kernel) rfl
  · exact ux_mem 430 (by decide +kernel) rfl
section WROWS
variable {ρ S : Type} {l : Launch} {Γ : Cx} {k : Kd} {d : Nat} {enc : ρ → Out} {em : S → St} {pc : Nat} {lo : List (Nat × Value)} {rest : List Value} {σ : S} {X : Option (ρ × S)}
/-- where it goes on when e is thrown: rows are exceptions and places, in their order -/
theorem achE {rows pre suf : List (Nat × Nat)} {e h E : Nat} (hX : XN Γ) (hown : k.1.cls = RL) (htb : k.2.2.2.2 = rows.map (fun q => (⟨0, E, q.2, lkE q.1⟩ : ExceptionTableEntry))) (hr : rows = pre ++ (e, h) :: suf) (hne : ∀ q ∈ pre, q.1 ≠ e ∧ q.1 < 3) (he : e < 3) (hpc : pc < E) (K : ∀ q : Nat, RunO l Γ k d enc em h lo [.ref q] σ X) : ACH l Γ k d enc em pc lo rest σ X (.inr (exN e)) := by
  have z : ∀ e, lkE e ≠ 0 := fun e => by unfold lkE; split; · decide
                                         · split <;> decide
  refine Or.inr ⟨pre.map (fun q => (⟨0, E, q.2, lkE q.1⟩ : ExceptionTableEntry)), ⟨0, E, h, lkE e⟩, suf.map (fun q => (⟨0, E, q.2, lkE q.1⟩ : ExceptionTableEntry)), exN e, ?_, fun w hw => ?_, ?_, z e, ?_, ucs he, K⟩
  · rw [htb, hr, List.map_append, List.map_cons]
  · obtain ⟨q, hq, e2⟩ := List.mem_map.mp hw
    obtain ⟨n1, n2⟩ := hne q hq
    refine Or.inr ⟨by rw [← e2]; exact z _, exN q.1, ?_, fun s ho => hX s _ ho e q.1 he n2 (fun y => n1 y.symm)⟩
    rw [hown, ← e2]
    exact ulk n2
  · unfold covers
    simp [hpc]
  · rw [hown]
    exact ulk he
end WROWS
section WRAPC
variable {ρ : Type} {l : Launch} {Γ : Cx} {k : Kd} {d : Nat} {enc : ρ → Out} {M0 : Md} {pc : Nat} {lo : List (Nat × Value)} {st rest : List Value} {C : Cd} {X : Option (ρ × Cd)} {k2 : Kd} {d2 n i b c N : Nat} {As : List Value} {Cn : String} {T : u_T}
theorem r_cxH (hG : GK Γ l) (ul : Cond.methodLink k.1.cls i k2.1 ∈ uw) {X2 : Option ((Int ⊕ Nat) × Cd)} {f : Int ⊕ Nat → Cd → Option (ρ × Cd)} (hk : KV k2 n) (hc : vwCl[c]? = some (k2.1.cls, T, N)) (hc2 : c < 100) (hct : Ct l Γ k2 d2 (encX gI) (emC M0) (.ref b :: As) C X2) (hd2 : d2 + 1 ≤ d) (hn : As.length = n) (hW : (rest.map fun v => v.category).sum ≤ 8) (hd : decode k.2.1 pc = .ok (.invokevirtual i, 3)) (hst : As.reverse ++ .ref b :: rest = st)
    (K1 : ∀ (x : Int) (C' : Cd), RunO l Γ k d enc (emC M0) (pc + 3) lo (wi x :: rest) C' (f (.inl x) C')) (K2 : ∀ (e : Nat) (C' : Cd), ACH l Γ k d enc (emC M0) pc lo rest C' (f (.inr e) C') (.inr (exN e))) : RunO l Γ k d enc (emC M0) pc lo st C (if isO C b c then X2.bind (fun q => f q.1 q.2) else none) := by
  subst hst
  refine ro_if (fun ho => ?_) (fun _ => ro_none)
  refine ro_callH hG hct (inv_V hk hd2 ul hn hW hd (c_rec ho hc hc2)) (fun r2 σ1 => ?_)
  cases r2 with
  | inl x => exact K1 x σ1
  | inr e => exact K2 e σ1
theorem r_cxH2 (hG : GK Γ l) (ul : Cond.methodLink k.1.cls i k2.1 ∈ uw) {X2 : Option ((Int ⊕ Nat) × Cd)} {F : Int → Cd → Option (ρ × Cd)} {g : Nat → Cd → Option (ρ × Cd)} (hk : KV k2 n) (hc : vwCl[c]? = some (k2.1.cls, T, N)) (hc2 : c < 100) (hct : Ct l Γ k2 d2 (encX gI) (emC M0) (.ref b :: As) C X2) (hd2 : d2 + 1 ≤ d) (hn : As.length = n) (hW : (rest.map fun v => v.category).sum ≤ 8) (hd : decode k.2.1 pc = .ok (.invokevirtual i, 3)) (hst : As.reverse ++ .ref b :: rest = st)
    (K1 : ∀ (x : Int) (C' : Cd), RunO l Γ k d enc (emC M0) (pc + 3) lo (wi x :: rest) C' (F x C')) (K2 : ∀ (e : Nat) (C' : Cd), ACH l Γ k d enc (emC M0) pc lo rest C' (g e C') (.inr (exN e))) : RunO l Γ k d enc (emC M0) pc lo st C (if isO C b c then calh X2 F g else none) :=
  r_cxH (f := fun (r : Int ⊕ Nat) (C' : Cd) => match r with | .inl v => F v C' | .inr e => g e C') hG ul hk hc hc2 hct hd2 hn hW hd hst K1 K2
end WRAPC
def hhD : List (Nat × Nat × Nat × Nat) := [(0, 190, 191, 103), (0, 190, 196, 105), (0, 190, 201, 107)]
def k_L_does : Kd := (yL_does, cL_does, 6, some .int, tableOf [(0, 190, 191, 103), (0, 190, 196, 105), (0, 190, 201, 107)])
theorem kv_L_does : KSH k_L_does hhD 5 := ⟨uw_mem 782 (by decide +kernel) rfl, uw_mem 93 (by decide +kernel) rfl, uw_mem 781 (by decide +kernel) rfl, ⟨by decide +kernel, by decide +kernel⟩, by decide +kernel, by decide +kernel⟩
section
variable {ρ S : Type} {l : Launch} {Γ : Cx} {k : Kd} {d : Nat} {enc : ρ → Out} {em : S → St} {pc : Nat} {lo : List (Nat × Value)} {rest : List Value} {σ : S} {X X1 : Option (ρ × S)} {o : Out}
theorem ro_ach (h : X = X1) (K : ACH l Γ k d enc em pc lo rest σ X1 o) : ACH l Γ k d enc em pc lo rest σ X o := h ▸ K
end
section DOES
variable {l : Launch} {Γ : Cx} {d : Nat} {M0 : Md} {pc : Nat} {lo : List (Nat × Value)} {rest : List Value}
theorem does_exc (hX : XN Γ) (e : Nat) (C : Cd) (hpc : pc < 190) : ACH l Γ k_L_does d encI (emC M0) pc lo rest C (doesX e C) (.inr (exN e)) := by
  by_cases h2 : e = 2
  · subst h2
    refine ro_ach (X1 := some (-11, C)) rfl ?_
    refine achE (rows := [(2, 191), (0, 196), (1, 201)]) (pre := []) (suf := [(0, 196), (1, 201)]) (E := 190) hX rfl rfl rfl (by decide) (by decide) hpc (fun q => ?_)
    refine r_astore dL_does_191 (by decide) rfl ?_
    refine r_bipush (v := (-11)) dL_does_193 rfl ?_
    exact r_iret rfl dL_does_195
  · by_cases h0 : e = 0
    · subst h0
      refine ro_ach (X1 := some (-12, C)) rfl ?_
      refine achE (rows := [(2, 191), (0, 196), (1, 201)]) (pre := [(2, 191)]) (suf := [(1, 201)]) (E := 190) hX rfl rfl rfl (by decide) (by decide) hpc (fun q => ?_)
      refine r_astore dL_does_196 (by decide) rfl ?_
      refine r_bipush (v := (-12)) dL_does_198 rfl ?_
      exact r_iret rfl dL_does_200
    · by_cases h1 : e = 1
      · subst h1
        refine ro_ach (X1 := some (-13, C)) rfl ?_
        refine achE (rows := [(2, 191), (0, 196), (1, 201)]) (pre := [(2, 191), (0, 196)]) (suf := []) (E := 190) hX rfl rfl rfl (by decide) (by decide) hpc (fun q => ?_)
        refine r_astore dL_does_201 (by decide) rfl ?_
        refine r_bipush (v := (-13)) dL_does_203 rfl ?_
        exact r_iret rfl dL_does_205
      · exact Or.inl (by unfold doesX; rw [if_neg h2, if_neg h0, if_neg h1])
end DOES
section HANDJ
variable {ρ S S2 : Type} {l : Launch} {Γ : Cx} {k : Kd} {d : Nat} {enc : ρ → Out} {em : S → St} {pc : Nat} {lo : List (Nat × Value)} {st rest : List Value} {em2 : S2 → St} {J : S2 → S} {s2 : S2} {k2 : Kd} {d2 n i b : Nat} {As : List Value}
theorem r_csHi {hh : List (Nat × Nat × Nat × Nat)} {X2 : Option (Int × S2)} {f : Int → S2 → Option (ρ × S)} (hJ : ∀ s, em (J s) = em2 s) (hk : KSH k2 hh n) (hct : CtH l Γ k2 hh d2 encI em2 As s2 X2) (hd2 : d2 + 1 ≤ d) (ul : Cond.methodLink k.1.cls i k2.1 ∈ uw) (hn : As.length = n) (hW : (rest.map fun v => v.category).sum ≤ 8) (hd : decode k.2.1 pc = .ok (.invokestatic i, 3)) (hst : As.reverse ++ rest = st)
    (K : ∀ r2 s1, RunO l Γ k d enc em (pc + 3) lo (wi r2 :: rest) (J s1) (f r2 s1)) : RunO l Γ k d enc em pc lo st (J s2) (cal1 X2 f) := by
  subst hst
  obtain ⟨uc, ui, um, hy, hdesc, hmx⟩ := hk
  intro r σ' hX
  obtain ⟨⟨r2, σ1⟩, hX2, hf⟩ := Option.bind_eq_some_iff.mp hX
  obtain ⟨c1, c2, hM⟩ := hct r2 σ1 hX2
  obtain ⟨m1, m2, m3⟩ := K r2 σ1 r σ' hf
  rw [hJ] at m1 m2 m3
  refine ⟨by rw [hJ]; exact Nat.le_trans c1 m1, by rw [hJ]; exact Nat.le_trans c2 m2, fun p e R s m args below meth c hm z0 l0 H locs ls a1 a2 a3 a4 hR hS hl => ?_⟩
  rw [hJ] at hR a2 ⊢
  have hz0 : z0 ≤ csz (em2 s2).2 := by rw [a1, ← hR.2.2]; exact hS.1
  have hOC : OC Γ := hm.2.2.2.2.2.2.2.2.2.2.2.2.1
  have hKs := hm.2.2.2.2.2.2.2.2.1
  have hbase := hm.2.2.2.2.2.2.2.2.2.2.2.2.2.1
  have hO := hm.2.2.2.2.2.2.2.2.2.2.2.2.2.2
  have hts := hm.2.2.2.2.2.1
  have hdf := hm.2.2.2.2.2.2.2.2.2.1
  have hdl := hm.2.2.2.2.2.2.2.2.2.2.1
  have hrels : ∀ U : State, U.heap = H → s.WarmedH U.vm → RelS Γ (em2 s2) U := by
    intro U hU hW
    refine ⟨va_K.moved hW.alike hKs, by rw [hU]; exact hR, by rw [hU]; exact Nat.le_trans hbase hS.1, ?_⟩
    rw [hU]
    exact hOC s U s.heap H hW (fun q hq => hS.2.1 q (Nat.lt_of_lt_of_le hq hbase) (Nat.not_le.mpr hq)) hO
  have e1 : csz (em2 s2).2 - z0 + (csz (em2 σ1).2 - csz (em2 s2).2) = csz (em2 σ1).2 - z0 := by omega
  have e2 : csl (em2 s2).2 - l0 + (csl (em2 σ1).2 - csl (em2 s2).2) = csl (em2 σ1).2 - l0 := by omega
  have hrun := vx_runSX (hh := hh) (Ts := uw) (own := k.1.cls) (bytes := k2.2.1) (maxL := k2.2.2.1) (ret := k2.2.2.2.1) (nL := k.2.2.1) (n := n) (g := F0 m pc ls (As.reverse ++ rest)) (rest := rest) (p := p) (l := l) (e := e) (R := R) (s := s) (m := m) (args := args) (below := below) (meth := meth) (c := c) (H := H) (locs := locs) (cells := csz (em2 s2).2 - z0) (slots := csl (em2 s2).2 - l0) (As := As) ⟨hm.1, hm.2.1, hm.2.2.2.1, hm.2.2.2.2.1, hts⟩ (hM hOC)
    ⟨⟨rfl, rfl, (by show d2 + 1 ≤ R.frames; omega), (by show 8 + (k2.2.2.1 + 11) + 100 * d2 ≤ R.locals; omega), pay_in hts (uw_in uc), List.mem_cons_self⟩, hts _ uc, hts _ ui, hy, psig hdesc, hts _ ul, hts _ um⟩
    ⟨fun a U g mk q => by
      obtain ⟨q0, q1, q2, q3, q4⟩ := q
      exact ⟨q0, va_K.moved (u := U) (U := U.calling g mk a) (Vm.Alike.refl U.vm) q1, q2, q3, hOC U (U.calling g mk a) _ _ (State.WarmedH.refl U) (fun _ _ => rfl) q4⟩, fun U hU hWm => ⟨rfl, hrels U hU hWm⟩⟩ rfl hn hl.1 rfl (lv_room hW) hd ⟨by omega, by omega⟩
  refine go_run hrun ?_ ?_
  · intro v st0 t L H1 h0 h1 hA hq hL
    obtain ⟨⟨v', hv1, hv2⟩, hRt, hF⟩ := hq
    cases hv2
    cases hv1
    obtain ⟨f1, f2, f3⟩ := vx_keep (T' := t) h0 rfl hS (fun _ _ h => h) (fun _ h => h) hL hF
    rw [e1, e2]
    refine m3 p e R s m args below meth c hm z0 l0 H1 (locs ++ L) ls a1 (by omega) a3 a4 ?_ ?_ hl
    · rw [h1]; exact hRt
    · rw [h1]; exact f3
  · intro q st0 t L H1 E ce h0 h1 hA hq hL hce hcv hcl
    obtain ⟨hv1, _⟩ := hq
    cases hv1
end HANDJ
theorem ua_J : Cond.arrayClass (newarray.typeOf .long) ∈ uw := uw_mem 1554 (by decide +kernel) rfl
