/-! MORE ROWS: ends of what may throw, casts, constants, the class's tables -/
theorem fit_z {x : Int} (h : w32 x = 0 ∨ w32 x = 1) : fits .boolean (wi x) = true := by
  rcases h with h | h
  · have e : Int32.ofInt x = 0 := by rw [← of_w32 x, h]; rfl
    rw [wi, e]; rfl
  · have e : Int32.ofInt x = 1 := by rw [← of_w32 x, h]; rfl
    rw [wi, e]; rfl
section ENDX
variable {S : Type} {l : Launch} {Γ : Cx} {k : Kd} {d : Nat} {em : S → St} {pc : Nat} {lo : List (Nat × Value)} {σ : S}
theorem r_iretX {x : Int} (hr : k.2.2.2.1 = some .int) (hd : decode k.2.1 pc = .ok (.ireturn, 1)) : RunO l Γ k d (encX gI) em pc lo [wi x] σ (some (.inl x, σ)) := by
  intro r σ' hX
  cases hX
  exact r_iret (l := l) (Γ := Γ) (k := k) (d := d) (lo := lo) (em := em) hr hd x σ rfl
theorem r_vretX (hr : k.2.2.2.1 = none) (hd : decode k.2.1 pc = .ok (.return_, 1)) : RunO l Γ k d (encX gV) em pc lo [] σ (some (.inl (), σ)) := by
  intro r σ' hX
  cases hX
  exact r_vret (l := l) (Γ := Γ) (k := k) (d := d) (lo := lo) (em := em) hr hd () σ rfl
theorem r_aretX {x : Option Nat} {rt : FieldType} (hr : k.2.2.2.1 = some rt) (hrt : (∃ n, rt = .object n) ∨ ∃ t, rt = .array t) (hd : decode k.2.1 pc = .ok (.areturn, 1)) : RunO l Γ k d (encX gR) em pc lo [va_rf x] σ (some (.inl x, σ)) := by
  intro r σ' hX
  cases hX
  exact r_aret (l := l) (Γ := Γ) (k := k) (d := d) (lo := lo) (em := em) hr hrt hd x σ rfl
theorem r_zretX {x : Int} (hr : k.2.2.2.1 = some .boolean) (hd : decode k.2.1 pc = .ok (.ireturn, 1)) : RunO l Γ k d (encX gI) em pc lo [wi x] σ (retZX x σ) := by
  intro r σ' hX
  unfold retZX at hX
  split at hX
  · rename_i hz
    cases hX
    exact r_zret0 (l := l) (Γ := Γ) (k := k) (d := d) (lo := lo) (em := em) hz hr hd x σ rfl
  · cases hX
theorem r_zret0X {x : Int} (hz : w32 x = 0 ∨ w32 x = 1) (hr : k.2.2.2.1 = some .boolean) (hd : decode k.2.1 pc = .ok (.ireturn, 1)) : RunO l Γ k d (encX gI) em pc lo [wi x] σ (some (.inl x, σ)) := by
  intro r σ' hX
  cases hX
  exact r_zret0 (l := l) (Γ := Γ) (k := k) (d := d) (lo := lo) (em := em) hz hr hd x σ rfl
end ENDX
section CR2
variable {ρ : Type} {l : Launch} {Γ : Cx} {k : Kd} {d : Nat} {enc : ρ → Out} {M0 : Md} {pc : Nat} {lo : List (Nat × Value)} {st rest : List Value} {C : Cd} {X X1 X2 : Option (ρ × Cd)}
theorem r_ldc {S : Type} {em : S → St} {σ : S} {Y : Option (ρ × S)} {i : Nat} {v : Int} (u : Cond.constant k.1.cls i (Int32.ofInt v) ∈ uw) (hd : decode k.2.1 pc = .ok (.ldc i, 2)) (K : RunO l Γ k d enc em (pc + 2) lo (wi v :: rest) σ Y) : RunO l Γ k d enc em pc lo rest σ Y :=
  ro_step (fun p e R s m args below meth c H locs cells slots Q ls hm hl kk => lv_ldc hm.1 hm.2.1 hm.2.2.2.2.1 (hm.2.2.2.2.2.1 _ u) hd (kk ls hl)) K
theorem r_castq {i c N : Nat} {Cn : String} {T : u_T} {r : Option Nat} (hc : vwCl[c]? = some (Cn, T, N)) (hc2 : c < 100) (u : Cond.classLink k.1.cls i Cn ∈ uw) (hd : decode k.2.1 pc = .ok (.checkcast i, 3))
    (K : RunO l Γ k d enc (emC M0) (pc + 3) lo (va_rf r :: rest) C X) : RunO l Γ k d enc (emC M0) pc lo (va_rf r :: rest) C (if okc C r c = true then X else none) := by
  refine ro_if (fun ho => ?_) (fun _ => ro_none)
  cases r with
  | none => exact ro_step (fun p e R s m args below meth c H locs cells slots Q ls hm hl kk => lv_castN hm.1 hm.2.1 hd (kk ls hl)) K
  | some a =>
    have ho : isO C a c := of_decide_eq_true ho
    intro r σ' hX
    obtain ⟨h1, h2, h3⟩ := K r σ' hX
    refine ⟨h1, h2, fun p e R s m args below meth c0 hm z0 l0 H locs ls a1 a2 a3 a4 hR hS hl => ?_⟩
    have hK := hm.2.2.2.2.2.2.2.2.1
    obtain ⟨cell, g1, g2, g3⟩ := c_rec ho hc hc2 H s hK hR
    have hcls := (hK.1 c _ hc).2
    have kk := h3 p e R s m args below meth c0 hm z0 l0 H locs ls a1 a2 a3 a4 hR hS hl
    have hq : cell.cls = Γ.2.1.1 c := Option.some.inj (g3.symm.trans hcls.1)
    intro T1 hT X1
    obtain ⟨vm', X', st9⟩ := X1.checkcastYes hm.1 hm.2.2.2.2.1 (hm.2.2.2.2.2.1 _ u) (by rw [hT]; exact g1) g2 hcls.1 (by rw [hq]; exact va_assign hcls) (g := F0 m pc ls (.ref a :: rest)) rfl rfl (by rw [hm.2.1]; exact hd)
    obtain ⟨t, q1, q2⟩ := kk (T1.setVm vm') hT X'
    exact ⟨t, st9 t q1, q2⟩
def sNm (w : Nat) : String := if w = 0 then "TOKEN_VALUES" else "INSTRUCTION_VALUES"
def STs (Γ : Cx) (sT : Nat → Nat) : Prop := ∀ (s : State) (H : Heap), Γ.2.2.2.2 s H → ∀ w, w < 1 → va_Z RX11 (sNm w) "[I" (.ref (sT w)) (inA Γ) s H ∧ va_T .int (sT w) (sLen w) (fun j => wi (sAt w j)) (inA Γ) s H
theorem r_slen {sT : Nat → Nat} (hS : STs Γ sT) {w : Nat} (hw : w < 1) (hd : decode k.2.1 pc = .ok (.arraylength, 1)) (K : RunO l Γ k d enc (emC M0) (pc + 1) lo (wi (sLen w : Int) :: rest) C X) : RunO l Γ k d enc (emC M0) pc lo (.ref (sT w) :: rest) C X := by
  intro r σ' hX
  obtain ⟨h1, h2, h3⟩ := K r σ' hX
  refine ⟨h1, h2, fun p e R s m args below meth c0 hm z0 l0 H locs ls a1 a2 a3 a4 hR hS1 hl => ?_⟩
  refine va_tlen hm.1 hm.2.1 (hS s s.heap hm.2.2.2.2.2.2.2.2.2.2.2.2.2.2 w hw).2 hS1 (v := Int32.ofInt (sLen w : Int)) (Int32.ofInt_eq_ofNat).symm hd ?_
  exact h3 p e R s m args below meth c0 hm z0 l0 H locs ls a1 a2 a3 a4 hR hS1 hl
theorem r_sld {sT : Nat → Nat} (hS : STs Γ sT) {w : Nat} {i : Int} (hw : w < 1) (hd : decode k.2.1 pc = .ok (.iaload, 1)) (K : RunO l Γ k d enc (emC M0) (pc + 1) lo (wi (sAt w (ix i)) :: rest) C X) : RunO l Γ k d enc (emC M0) pc lo (wi i :: .ref (sT w) :: rest) C (if inR i (sLen w) then X else none) := by
  refine ro_if (fun ho => ?_) (fun _ => ro_none)
  obtain ⟨e1, e2⟩ := ix_in ho
  intro r σ' hX
  obtain ⟨h1, h2, h3⟩ := K r σ' hX
  refine ⟨h1, h2, fun p e R s m args below meth c0 hm z0 l0 H locs ls a1 a2 a3 a4 hR hS1 hl => ?_⟩
  refine va_ti hm.1 hm.2.1 (hS s s.heap hm.2.2.2.2.2.2.2.2.2.2.2.2.2.2 w hw).2 hS1 e1 (v := wi (sAt w (ix i))) (by rw [e2]) hd ?_
  exact h3 p e R s m args below meth c0 hm z0 l0 H locs ls a1 a2 a3 a4 hR hS1 hl
theorem r_gets (w : Nat) {sT : Nat → Nat} (hS : STs Γ sT) {i : Nat} (hw : w < 1) (u : Cond.fieldLink RX11 i RX11 (sNm w) "[I" ∈ uw) (hown : k.1.cls = RX11) (hd : decode k.2.1 pc = .ok (.getstatic i, 3)) (K : RunO l Γ k d enc (emC M0) (pc + 3) lo (.ref (sT w) :: rest) C X) : RunO l Γ k d enc (emC M0) pc lo rest C X := by
  intro r σ' hX
  obtain ⟨h1, h2, h3⟩ := K r σ' hX
  refine ⟨h1, h2, fun p e R s m args below meth c0 hm z0 l0 H locs ls a1 a2 a3 a4 hR hS1 hl => ?_⟩
  refine va_gets (ref := RX11) hm.1 hm.2.1 (hS s s.heap hm.2.2.2.2.2.2.2.2.2.2.2.2.2.2 w hw).1 hS1 (by rw [← hown]; exact hm.2.2.2.2.1) (hm.2.2.2.2.2.1 _ u) (fun x hx => hx) hd ?_
  exact h3 p e R s m args below meth c0 hm z0 l0 H locs ls a1 a2 a3 a4 hR hS1 hl
end CR2
