/-! ROWS FOR THE LAW: both states at once -/
abbrev emL : St → St := fun σ => σ
section LROWS
variable {ρ : Type} {l : Launch} {Γ : Cx} {k : Kd} {d : Nat} {enc : ρ → Out} {M0 : Md} {pc : Nat} {lo : List (Nat × Value)} {st rest : List Value} {C : Cd} {X : Option (ρ × St)}
/-- the script -/
def XScr (Γ : Cx) (b L : Nat) (xs : Nat → Int32) : Prop := ∀ (s : State) (H : Heap), Γ.2.2.2.2 s H → va_T .int b L (fun j => .int (xs j)) (inA Γ) s H
theorem r_xlen {b L : Nat} {xs : Nat → Int32} {σ : St} (hS : XScr Γ b L xs) (hd : decode k.2.1 pc = .ok (.arraylength, 1)) (K : RunO l Γ k d enc emL (pc + 1) lo (wi (L : Int) :: rest) σ X) : RunO l Γ k d enc emL pc lo (.ref b :: rest) σ X := by
  intro r σ' hX
  obtain ⟨h1, h2, h3⟩ := K r σ' hX
  refine ⟨h1, h2, fun p e R s m args below meth c0 hm z0 l0 H locs ls a1 a2 a3 a4 hR hS1 hl => ?_⟩
  refine va_tlen hm.1 hm.2.1 (hS s s.heap hm.2.2.2.2.2.2.2.2.2.2.2.2.2.2) hS1 (v := Int32.ofInt (L : Int)) (Int32.ofInt_eq_ofNat).symm hd ?_
  exact h3 p e R s m args below meth c0 hm z0 l0 H locs ls a1 a2 a3 a4 hR hS1 hl
theorem r_xld {b L : Nat} {xs : Nat → Int32} {σ : St} {i : Int} (hS : XScr Γ b L xs) (hi : inR i L) (hd : decode k.2.1 pc = .ok (.iaload, 1)) (K : RunO l Γ k d enc emL (pc + 1) lo (wi (xs (ix i)).toInt :: rest) σ X) : RunO l Γ k d enc emL pc lo (wi i :: .ref b :: rest) σ X := by
  obtain ⟨e1, e2⟩ := ix_in hi
  intro r σ' hX
  obtain ⟨h1, h2, h3⟩ := K r σ' hX
  refine ⟨h1, h2, fun p e R s m args below meth c0 hm z0 l0 H locs ls a1 a2 a3 a4 hR hS1 hl => ?_⟩
  refine va_ti hm.1 hm.2.1 (hS s s.heap hm.2.2.2.2.2.2.2.2.2.2.2.2.2.2) hS1 e1 (v := wi (xs (ix i)).toInt) (by rw [e2]; show Value.int _ = Value.int _; rw [Int32.ofInt_toInt]) hd ?_
  exact h3 p e R s m args below meth c0 hm z0 l0 H locs ls a1 a2 a3 a4 hR hS1 hl
theorem r_lld {i : Int} {a : Nat} (ho : isO C a 108) (hi : inR i (cn C a)) (hd : decode k.2.1 pc = .ok (.laload, 1))
    (K : RunO l Γ k d enc emL (pc + 1) lo (vl (cE C a (ix i)) :: rest) (M0, C) X) : RunO l Γ k d enc emL pc lo (wi i :: .ref a :: rest) (M0, C) X := by
  obtain ⟨e1, e2⟩ := ix_in hi
  intro r σ' hX
  obtain ⟨h1, h2, h3⟩ := K r σ' hX
  refine ⟨h1, h2, fun p e R s m args below meth c0 hm z0 l0 H locs ls a1 a2 a3 a4 hR hS hl => ?_⟩
  have hK := hm.2.2.2.2.2.2.2.2.1
  obtain ⟨q, hq⟩ := cw_at (Γ := Γ) (M0 := M0) ho.1
  rw [cfE_l ho.2] at hq
  refine va_lald hm.1 hm.2.1 hK hR.1 q 8 hq rfl e1 hd ?_
  rw [e2]
  exact h3 p e R s m args below meth c0 hm z0 l0 H locs ls a1 a2 a3 a4 hR hS hl
theorem r_lnew {i c N : Nat} {Cn : String} {T : u_T} (hc : vwCl[c]? = some (Cn, T, N)) (hN : nF c = N) (hc2 : c < 100) (hin : ∀ w ∈ u_ws Cn T N, w ∈ uw) (tyT : Nat → FieldType) (htyT : ∀ k, k < N → parseFieldDescriptor (T k).2.2.1 = some (tyT k))
    (hfs : ∀ j, j < N → defaultValue (tyT j) = vp_V ((List.range (nF c)).map (fun k => if isR (100 * c + k) then Value.null else wi 0)) j) (u1 : Cond.classLink k.1.cls i Cn ∈ uw) (u2 : Cond.instantiable Cn N ∈ uw) (u3 : Cond.initialized Cn ∈ uw) (hd : decode k.2.1 pc = .ok (.new i, 3))
    (K : RunO l Γ k d enc emL (pc + 3) lo (.ref (csz C) :: rest) (M0, cNew C c) X) : RunO l Γ k d enc emL pc lo rest (M0, C) X := by
  intro r σ' hX
  obtain ⟨h1, h2, h3⟩ := K r σ' hX
  have h1' : csz C + 1 ≤ csz σ'.2 := h1
  have h2' : csl C + nF c ≤ csl σ'.2 := h2
  refine ⟨by show csz C ≤ csz σ'.2; omega, by show csl C ≤ csl σ'.2; omega, fun p e R s m args below meth c0 hm z0 l0 H locs ls a1 a2 a3 a4 hR hS hl => ?_⟩
  have hK := hm.2.2.2.2.2.2.2.2.1
  have hbase := hm.2.2.2.2.2.2.2.2.2.2.2.2.2.1
  have hts := hm.2.2.2.2.2.1
  have hKn := hK.1 c _ hc
  have hz : H.size = csz C := hR.2.2
  have hz0 : z0 ≤ csz C := by rw [a1, ← hz]; exact hS.1
  have a3' : csz σ'.2 - z0 ≤ R.cells := a3
  have a4' : csl σ'.2 - l0 ≤ R.slots := a4
  have a2' : l0 ≤ csl C := a2
  refine W.newcK (g := F0 m pc ls rest) hm.1 hm.2.1 hm.2.2.2.2.1 (hts _ u1) (hts _ u2) (hts _ u3) rfl hd (by show csz C - z0 + 1 ≤ R.cells; omega) (by show csl C - l0 + N ≤ R.slots; omega) hKn.2.1 hz fun H1 kC hkC e1 z1 o1 => ?_
  obtain ⟨g1, g2⟩ := c_grow (M0 := M0) (C := C) (C' := cNew C c) (e := .inr (c, (List.range (nF c)).map (fun k => if isR (100 * c + k) then Value.null else wi 0))) hR hS hbase rfl rfl (cfE_new hc2) (by rw [z1, hz]) (fun q hq => o1 q (by rw [← hz]; exact hq)) ⟨_, hc, (u_born tyT hts hin hKn hkC e1 htyT).to hfs⟩
  have h9 := h3 p e R s m args below meth c0 hm z0 l0 H1 locs ls a1 (by show l0 ≤ csl C + nF c; omega) a3 a4 g1 g2 hl
  have q1 : csz (emL (M0, cNew C c)).2 - z0 = csz C - z0 + 1 := by show csz C + 1 - z0 = _; omega
  have q2 : csl (emL (M0, cNew C c)).2 - l0 = csl C - l0 + N := by show csl C + nF c - l0 = _; omega
  rw [q1, q2] at h9
  exact h9
theorem r_lnewJ {n : Int} (hn : 0 ≤ w32 n ∧ w32 n < 1000000) (u1 : Cond.arrayClass (newarray.typeOf .long) ∈ uw) (hd : decode k.2.1 pc = .ok (.newarray .long, 2))
    (K : RunO l Γ k d enc emL (pc + 2) lo (.ref (csz C) :: rest) (M0, cNewA C 108 (ix n)) X) : RunO l Γ k d enc emL pc lo (wi n :: rest) (M0, C) X := by
  intro r σ' hX
  obtain ⟨h1, h2, h3⟩ := K r σ' hX
  have h1' : csz C + 1 ≤ csz σ'.2 := h1
  have h2' : csl C + ix n ≤ csl σ'.2 := h2
  refine ⟨by show csz C ≤ csz σ'.2; omega, by show csl C ≤ csl σ'.2; omega, fun p e R s m args below meth c0 hm z0 l0 H locs ls a1 a2 a3 a4 hR hS hl => ?_⟩
  have hK := hm.2.2.2.2.2.2.2.2.1
  have hbase := hm.2.2.2.2.2.2.2.2.2.2.2.2.2.1
  have hts := hm.2.2.2.2.2.1
  have hz : H.size = csz C := hR.2.2
  have hz0 : z0 ≤ csz C := by rw [a1, ← hz]; exact hS.1
  have a3' : csz σ'.2 - z0 ≤ R.cells := a3
  have a4' : csl σ'.2 - l0 ≤ R.slots := a4
  have a2' : l0 ≤ csl C := a2
  have hix : (ix n : Int) = w32 n := by unfold ix; omega
  refine va_newaK (g := F0 m pc ls (wi n :: rest)) (N := ix n) (rest := rest) (h := csz C) hm.1 hm.2.1 (hts _ u1) rfl hd rfl ?_ rfl ?_ (by show csz C - z0 + 1 ≤ R.cells; omega) (by show csl C - l0 + ix n ≤ R.slots; omega) hz fun H1 cA e1 z1 o1 hAr hNm => ?_
  · show ¬ Int32.ofInt n < 0
    have z3 : (0 : Int32) = Int32.ofInt 0 := rfl
    have z4 : w32 0 = 0 := rfl
    rw [z3, w32_lt, z4]
    omega
  · show ix n * componentBytes .long ≤ 536870912
    have : componentBytes .long ≤ 8 := by decide
    have h7 : ix n * componentBytes .long ≤ 1000000 * 8 := Nat.mul_le_mul (by omega) this
    omega
  · have hcA : cA = Γ.2.2.1 8 := by
      have h6 := (hK.2 8 _ rfl).2
      exact Option.some.inj (hNm.symm.trans h6)
    subst hcA
    obtain ⟨g1, g2⟩ := c_grow (M0 := M0) (C := C) (C' := cNewA C 108 (ix n)) (e := newA Γ 108 (ix n)) hR hS hbase rfl rfl (cfE_newA (by decide)) (by rw [z1, hz]) (fun q hq => o1 q (by rw [← hz]; exact hq)) e1
    have h9 := h3 p e R s m args below meth c0 hm z0 l0 H1 locs ls a1 (by show l0 ≤ csl C + ix n; omega) a3 a4 g1 g2 hl
    have q1 : csz (emL (M0, cNewA C 108 (ix n))).2 - z0 = csz C - z0 + 1 := by show csz C + 1 - z0 = _; omega
    have q2 : csl (emL (M0, cNewA C 108 (ix n))).2 - l0 = csl C - l0 + ix n := by show csl C + ix n - l0 = _; omega
    rw [q1, q2] at h9
    exact h9
/-- a call that doesn't throw, whatever stands in the caller's table -/
theorem ro_call0 (hG : GK Γ l) {ρ2 : Type} {enc2 : ρ2 → Out} {σ1 σ2 : St} {r2 : ρ2} {v : Option Value} {k2 : Kd} {d2 : Nat} {av : List Value} {X2 : Option (ρ2 × St)} (hX2 : X2 = some (r2, σ2)) (hv : enc2 r2 = .inl v)
    (hct : Ct l Γ k2 d2 enc2 emL av σ1 X2) (hin : Inv l Γ k d k2 d2 av emL σ1 pc st rest) (K : RunO l Γ k d enc emL (pc + 3) lo (v.toList ++ rest) σ2 X) : RunO l Γ k d enc emL pc lo st σ1 X := by
  classical
  subst hX2
  have h := ro_callH (lo := lo) (enc := enc) (f := fun (r3 : ρ2) (σ : St) => if r3 = r2 ∧ σ = σ2 then X else none) hG hct hin (fun r3 σ3 => by
    by_cases hh : r3 = r2 ∧ σ3 = σ2
    · obtain ⟨e1, e2⟩ := hh
      subst e1; subst e2
      rw [if_pos ⟨rfl, rfl⟩, hv]
      exact K
    · rw [if_neg hh]
      cases hE : enc2 r3 with
      | inl v' => exact ro_none
      | inr E => exact Or.inl rfl)
  have e : ((some (r2, σ2) : Option (ρ2 × St)).bind fun q => if q.1 = r2 ∧ q.2 = σ2 then X else none) = X := if_pos ⟨rfl, rfl⟩
  exact e ▸ h
/-- a call of one of the law's own -/
theorem ro_callW {σ1 σ2 : St} {r2 : Int} {k2 : Kd} {hh : List (Nat × Nat × Nat × Nat)} {d2 n i : Nat} {As : List Value} {X2 : Option (Int × St)} (hX2 : X2 = some (r2, σ2)) (hk : KSH k2 hh n) (hct : CtH l Γ k2 hh d2 encI emL As σ1 X2) (hd2 : d2 + 1 ≤ d) (ul : Cond.methodLink k.1.cls i k2.1 ∈ uw) (hn : As.length = n) (hW : (rest.map fun v => v.category).sum ≤ 8) (hd : decode k.2.1 pc = .ok (.invokestatic i, 3)) (hst : As.reverse ++ rest = st)
    (K : RunO l Γ k d enc emL (pc + 3) lo (wi r2 :: rest) σ2 X) : RunO l Γ k d enc emL pc lo st σ1 X := by
  classical
  subst hX2
  have h := r_callSH (lo := lo) (enc := enc) (f := fun (r3 : Int) (σ : St) => if r3 = r2 ∧ σ = σ2 then X else none) hk hct hd2 ul hn hW hd hst (fun r3 σ3 => by
    by_cases hh : r3 = r2 ∧ σ3 = σ2
    · obtain ⟨e1, e2⟩ := hh
      subst e1; subst e2
      rw [if_pos ⟨rfl, rfl⟩]
      exact K
    · rw [if_neg hh]
      exact ro_none)
  have e : ((some (r2, σ2) : Option (Int × St)).bind fun q => if q.1 = r2 ∧ q.2 = σ2 then X else none) = X := if_pos ⟨rfl, rfl⟩
  exact e ▸ h
end LROWS
