/-! calls by what comes back; the reference's row of booleans -/
section CALL2
variable {ρ S : Type} {l : Launch} {Γ : Cx} {k : Kd} {d : Nat} {enc : ρ → Out} {em : S → St} {pc : Nat} {lo : List (Nat × Value)} {st rest : List Value} {σ : S} {X : Option (ρ × S)} {k2 : Kd} {d2 n i b : Nat} {As : List Value}
theorem r_callSi {X2 : Option (Int × S)} {f : Int → S → Option (ρ × S)} (htb : k.2.2.2.2 = []) (hk : KS k2 n) (hct : Ct l Γ k2 d2 encI em As σ X2) (hd2 : d2 + 1 ≤ d) (ul : Cond.methodLink k.1.cls i k2.1 ∈ uw) (hn : As.length = n) (hW : (rest.map fun v => v.category).sum ≤ 8) (hd : decode k.2.1 pc = .ok (.invokestatic i, 3))
(hst : As.reverse ++ rest = st)
    (K : ∀ (x : Int) (σ1 : S), RunO l Γ k d enc em (pc + 3) lo (wi x :: rest) σ1 (f x σ1)) : RunO l Γ k d enc em pc lo st σ (cal X2 f) :=
  r_callS htb hk hct hd2 ul hn hW hd hst (fun r2 σ1 => K r2 σ1)
theorem r_callSv {X2 : Option (Unit × S)} {f : Unit → S → Option (ρ × S)} (htb : k.2.2.2.2 = []) (hk : KS k2 n) (hct : Ct l Γ k2 d2 encV em As σ X2) (hd2 : d2 + 1 ≤ d) (ul : Cond.methodLink k.1.cls i k2.1 ∈ uw) (hn : As.length = n) (hW : (rest.map fun v => v.category).sum ≤ 8) (hd : decode k.2.1 pc = .ok (.invokestatic i, 3))
(hst : As.reverse ++ rest = st)
    (K : ∀ (x : Unit) (σ1 : S), RunO l Γ k d enc em (pc + 3) lo rest σ1 (f x σ1)) : RunO l Γ k d enc em pc lo st σ (cal X2 f) :=
  r_callS htb hk hct hd2 ul hn hW hd hst (fun r2 σ1 => K r2 σ1)
theorem r_callVi {X2 : Option (Int × S)} {f : Int → S → Option (ρ × S)} (htb : k.2.2.2.2 = []) (hk : KV k2 n) (hct : Ct l Γ k2 d2 encI em (.ref b :: As) σ X2) (hd2 : d2 + 1 ≤ d) (ul : Cond.methodLink k.1.cls i k2.1 ∈ uw) (hn : As.length = n) (hW : (rest.map fun v => v.category).sum ≤ 8) (hd : decode k.2.1 pc = .ok (.invokevirtual i, 3))
    (hrec : ∀ (H : Heap) (s : State), va_K Γ.2.1 vwCl (tysOf Γ.2.2.1) s → RelE Γ (em σ) H → ∃ cell : Cell, H[b]? = some cell ∧ cell.vm.isStatics = false ∧ s.vm.findClass k2.1.cls = some cell.cls) (hst : As.reverse ++ .ref b :: rest = st)
    (K : ∀ (x : Int) (σ1 : S), RunO l Γ k d enc em (pc + 3) lo (wi x :: rest) σ1 (f x σ1)) : RunO l Γ k d enc em pc lo st σ (cal X2 f) :=
  r_callV htb hk hct hd2 ul hn hW hd hrec hst (fun r2 σ1 => K r2 σ1)
theorem r_callVv {X2 : Option (Unit × S)} {f : Unit → S → Option (ρ × S)} (htb : k.2.2.2.2 = []) (hk : KV k2 n) (hct : Ct l Γ k2 d2 encV em (.ref b :: As) σ X2) (hd2 : d2 + 1 ≤ d) (ul : Cond.methodLink k.1.cls i k2.1 ∈ uw) (hn : As.length = n) (hW : (rest.map fun v => v.category).sum ≤ 8) (hd : decode k.2.1 pc = .ok (.invokevirtual i, 3))
    (hrec : ∀ (H : Heap) (s : State), va_K Γ.2.1 vwCl (tysOf Γ.2.2.1) s → RelE Γ (em σ) H → ∃ cell : Cell, H[b]? = some cell ∧ cell.vm.isStatics = false ∧ s.vm.findClass k2.1.cls = some cell.cls) (hst : As.reverse ++ .ref b :: rest = st)
    (K : ∀ (x : Unit) (σ1 : S), RunO l Γ k d enc em (pc + 3) lo rest σ1 (f x σ1)) : RunO l Γ k d enc em pc lo st σ (cal X2 f) :=
  r_callV htb hk hct hd2 ul hn hW hd hrec hst (fun r2 σ1 => K r2 σ1)
end CALL2
section MZ
variable {ρ : Type} {l : Launch} {Γ : Cx} {k : Kd} {d : Nat} {enc : ρ → Out} {K0 : Cd} {pc : Nat} {lo : List (Nat × Value)} {st rest : List Value} {M : Md} {X X1 X2 : Option (ρ × Md)} {mo : Nat} {ma : Nat → Nat}
theorem mw_1 (h : mOn Γ mo ma) (M : Md) (K0 : Cd) : (wl Γ (M, K0))[1]? = some (ma 27, .inl (Γ.2.2.1 1, mLen 27, .inl (fun j => Int32.ofInt (M.2 27 j)))) := by
  unfold wl
  rw [h]
  rfl
theorem mw_set1 (h : mOn Γ mo ma) (M : Md) (K0 : Cd) (i : Nat) (x : Int) : (wl Γ (M, K0)).set 1 (ma 27, .inl (Γ.2.2.1 1, mLen 27, .inl (fun j => Int32.ofInt ((mPut M 27 i x).2 27 j)))) = wl Γ (mPut M 27 i x, K0) := by
  unfold wl
  rw [h]
  unfold mCells
  have e : mAs.map (mRow Γ.2.2.1 ma (mPut M 27 i x)) = mAs.map (mRow Γ.2.2.1 ma M) := by
    apply List.map_congr_left
    intro k hk
    have hne : k ≠ 27 := by
      intro e
      subst e
      exact absurd hk (by decide)
    unfold mRow mPut
    dsimp only
    rw [if_neg hne]
  dsimp only
  rw [e]
  rfl
theorem r_mzald {i : Int} (h : mOn Γ mo ma) (hd : decode k.2.1 pc = .ok (.baload, 1))
    (K : RunO l Γ k d enc (emM K0) (pc + 1) lo (wi (M.2 27 (ix i)) :: rest) M X) : RunO l Γ k d enc (emM K0) pc lo (wi i :: .ref (ma 27) :: rest) M (if inR i (mLen 27) then X else none) := by
  refine ro_if (fun hi => ?_) (fun _ => ro_none)
  obtain ⟨e1, e2⟩ := ix_in hi
  intro r σ' hX
  obtain ⟨h1, h2, h3⟩ := K r σ' hX
  refine ⟨h1, h2, fun p e R s m args below meth c hm z0 l0 H locs ls a1 a2 a3 a4 hR hS hl => ?_⟩
  have hK := hm.2.2.2.2.2.2.2.2.1
  refine va_zald hm.1 hm.2.1 hK hR.1 1 1 (mw_1 h M K0) rfl e1 hd ?_
  rw [e2]
  exact h3 p e R s m args below meth c hm z0 l0 H locs ls a1 a2 a3 a4 hR hS hl
theorem r_mzast {i x : Int} {f : Md → Option (ρ × Md)} (h : mOn Γ mo ma) (hx : w32 x = 0 ∨ w32 x = 1) (hd : decode k.2.1 pc = .ok (.bastore, 1))
    (K : ∀ M' : Md, RunO l Γ k d enc (emM K0) (pc + 1) lo rest M' (f M')) : RunO l Γ k d enc (emM K0) pc lo (wi x :: wi i :: .ref (ma 27) :: rest) M (if inR i (mLen 27) then bnd (mPut M 27 (ix i) x) f else none) := by
  refine ro_if (fun hi => ?_) (fun _ => ro_none)
  obtain ⟨e1, e2⟩ := ix_in hi
  intro r σ' hX
  obtain ⟨h1, h2, h3⟩ := K (mPut M 27 (ix i) x) r σ' hX
  refine ⟨h1, h2, fun p e R s m args below meth c hm z0 l0 H locs ls a1 a2 a3 a4 hR hS hl => ?_⟩
  have hK := hm.2.2.2.2.2.2.2.2.1
  refine va_zast hm.1 hm.2.1 hK hR.1 hR.2.1 (H0 := H) (locs := locs) ⟨Nat.le_refl _, fun _ _ _ => rfl, hS.2.2⟩ 1 1 (mw_1 h M K0) rfl e1 hd (fun H1 locs1 hP hD hS1 => ?_)
  have e4 : upd (fun j => Int32.ofInt (M.2 27 j)) (Int32.ofInt i).toNatClampNeg (vp_nar .boolean (Int32.ofInt x)) = fun j => Int32.ofInt ((mPut M 27 (ix i) x).2 27 j) := by
    funext j
    rw [e2]
    unfold vp_nar
    rw [nar_z hx]
    unfold upd mPut
    simp only [if_true]
    split <;> rfl
  rw [e4, mw_set1 h] at hP hD
  exact w_bd (fun hb => h3 p e R s m args below meth c hm z0 l0 H1 locs1 ls a1 a2 a3 a4 ⟨hP, hD, m_sz hR.2.2 a1 hS.1 hS1.1 hb⟩ (vs_tr hS hS1) hl)
end MZ
