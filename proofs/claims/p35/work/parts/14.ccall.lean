/-! CALLS of the class's methods: nest mates too, constructors, and such as throw -/
def KI (k2 : Kd) (n : Nat) : Prop := Cond.code k2.1 k2.2.1 k2.2.2.1 k2.2.2.2.1 ∈ uw ∧ Cond.initialized k2.1.cls ∈ uw ∧ Cond.instanceMethod k2.1 ∈ uw ∧ (k2.1.name = "<init>" ∧ k2.2.2.2.1 = none) ∧ (k2.1.cls ≠ "java/lang/invoke/MethodHandle" ∧ k2.1.cls ≠ "java/lang/invoke/VarHandle") ∧ (parseMethodDescriptor k2.1.desc).map (fun d => d.parameters.length) = some n ∧ k2.2.2.1 ≤ 80
theorem c_rec {Γ : Cx} {M0 : Md} {C : Cd} {b c N : Nat} {Cn : String} {T : u_T} (ho : isO C b c) (hc : vwCl[c]? = some (Cn, T, N)) (hc2 : c < 100) (H : Heap) (s : State) (hK : va_K Γ.2.1 vwCl (tysOf Γ.2.2.1) s) (hR : RelE Γ (emC M0 C) H) : ∃ cell : Cell, H[b]? = some cell ∧ cell.vm.isStatics = false ∧ s.vm.findClass Cn = some cell.cls := by
  obtain ⟨q, hq⟩ := cw_at (Γ := Γ) (M0 := M0) ho.1
  rw [cfE_o ho.2 hc2] at hq
  exact va_recv hK hR.1 (ci := c) (q := (Cn, T, N)) hc hq
section CALLN
variable {ρ S : Type} {l : Launch} {Γ : Cx} {k : Kd} {d : Nat} {enc : ρ → Out} {em : S → St} {pc : Nat} {lo : List (Nat × Value)} {st rest : List Value} {σ : S} {X : Option (ρ × S)} {k2 : Kd} {d2 n i b : Nat} {As : List Value}
theorem inv_VN {host : String} (hk : KV k2 n) (hd2 : d2 + 1 ≤ d) (hG : GK Γ l) (ul : Cond.methodLinkNest k.1.cls i k2.1 host ∈ ux) (hn : As.length = n) (hW : (rest.map fun v => v.category).sum ≤ 8) (hd : decode k.2.1 pc = .ok (.invokevirtual i, 3))
    (hrec : ∀ (H : Heap) (s : State), va_K Γ.2.1 vwCl (tysOf Γ.2.2.1) s → RelE Γ (em σ) H → ∃ cell : Cell, H[b]? = some cell ∧ cell.vm.isStatics = false ∧ s.vm.findClass k2.1.cls = some cell.cls) :
    Inv l Γ k d k2 d2 (.ref b :: As) em σ pc (As.reverse ++ .ref b :: rest) rest := by
  obtain ⟨uc, ui, um, us, hy, hdesc, hmx⟩ := hk
  intro p e R s m args below meth c hm mc ms Qc XC H locs cells slots ls hM hR hrel hsz hc1 hc2
  have hts := hm.2.2.2.2.2.1
  have hK := hm.2.2.2.2.2.2.2.2.1
  have hdf := hm.2.2.2.2.2.2.2.2.2.1
  have hdl := hm.2.2.2.2.2.2.2.2.2.2.1
  refine vx_runVN (Ts := uw) (own := k.1.cls) (C := k2.1.cls) (host := host) (bytes := k2.2.1) (maxL := k2.2.2.1) (ret := k2.2.2.2.1) (nL := k.2.2.1) (n := n) (g := F0 m pc ls _) ⟨hm.1, hm.2.1, hm.2.2.2.1, hm.2.2.2.2.1, hts⟩ hM
    ⟨⟨⟨rfl, rfl, ?_, ?_, pay_in hts (uw_in uc), List.mem_cons_self⟩, hts _ uc, hts _ ui, hy, psig hdesc, ux_at hG ul hm.2.2.2.2.2.2.2.2.2.2.2.2.2.2⟩, hts _ um, hts _ us⟩
    ⟨fun a U g mk q => ?_, hrec H s hK hR, fun U hU hWm => ⟨rfl, hrel U hU hWm⟩⟩ rfl hn hsz rfl (lv_room hW) hd ⟨hc1, hc2⟩
  · show d2 + 1 ≤ R.frames
    omega
  · show 8 + (k2.2.2.1 + 11) + 100 * d2 ≤ R.locals
    omega
  · obtain ⟨q0, q1, q2, q3, q4⟩ := q
    exact ⟨q0, va_K.moved (u := U) (U := U.calling g mk a) (Vm.Alike.refl U.vm) q1, q2, q3, hm.2.2.2.2.2.2.2.2.2.2.2.2.1 U (U.calling g mk a) _ _ (State.WarmedH.refl U) (fun _ _ => rfl) q4⟩
theorem inv_SN {host : String} (hk : KS k2 n) (hd2 : d2 + 1 ≤ d) (hG : GK Γ l) (ul : Cond.methodLinkNest k.1.cls i k2.1 host ∈ ux) (hn : As.length = n) (hW : (rest.map fun v => v.category).sum ≤ 8) (hd : decode k.2.1 pc = .ok (.invokestatic i, 3)) :
    Inv l Γ k d k2 d2 As em σ pc (As.reverse ++ rest) rest := by
  obtain ⟨uc, ui, um, hy, hdesc, hmx⟩ := hk
  intro p e R s m args below meth c hm mc ms Qc XC H locs cells slots ls hM hR hrel hsz hc1 hc2
  have hts := hm.2.2.2.2.2.1
  have hK := hm.2.2.2.2.2.2.2.2.1
  have hdf := hm.2.2.2.2.2.2.2.2.2.1
  have hdl := hm.2.2.2.2.2.2.2.2.2.2.1
  refine vx_runSN (Ts := uw) (own := k.1.cls) (host := host) (bytes := k2.2.1) (maxL := k2.2.2.1) (ret := k2.2.2.2.1) (nL := k.2.2.1) (n := n) (g := F0 m pc ls _) ⟨hm.1, hm.2.1, hm.2.2.2.1, hm.2.2.2.2.1, hts⟩ hM
    ⟨⟨⟨rfl, rfl, ?_, ?_, pay_in hts (uw_in uc), List.mem_cons_self⟩, hts _ uc, hts _ ui, hy, psig hdesc, ux_at hG ul hm.2.2.2.2.2.2.2.2.2.2.2.2.2.2⟩, hts _ um, trivial⟩
    ⟨fun a U g mk q => ?_, fun U hU hWm => ⟨rfl, hrel U hU hWm⟩⟩ rfl hn hsz rfl (lv_room hW) hd ⟨hc1, hc2⟩
  · show d2 + 1 ≤ R.frames
    omega
  · show 8 + (k2.2.2.1 + 11) + 100 * d2 ≤ R.locals
    omega
  · obtain ⟨q0, q1, q2, q3, q4⟩ := q
    exact ⟨q0, va_K.moved (u := U) (U := U.calling g mk a) (Vm.Alike.refl U.vm) q1, q2, q3, hm.2.2.2.2.2.2.2.2.2.2.2.2.1 U (U.calling g mk a) _ _ (State.WarmedH.refl U) (fun _ _ => rfl) q4⟩
theorem inv_IN {host : String} (hk : KI k2 n) (hd2 : d2 + 1 ≤ d) (hG : GK Γ l) (ul : Cond.methodLinkNest k.1.cls i k2.1 host ∈ ux) (hn : As.length = n) (hW : (rest.map fun v => v.category).sum ≤ 8) (hd : decode k.2.1 pc = .ok (.invokespecial i, 3)) :
    Inv l Γ k d k2 d2 (.ref b :: As) em σ pc (As.reverse ++ .ref b :: rest) rest := by
  obtain ⟨uc, ui, um, ⟨hnm, hret⟩, hy, hdesc, hmx⟩ := hk
  intro p e R s m args below meth c hm mc ms Qc XC H locs cells slots ls hM hR hrel hsz hc1 hc2
  have hts := hm.2.2.2.2.2.1
  have hK := hm.2.2.2.2.2.2.2.2.1
  have hdf := hm.2.2.2.2.2.2.2.2.2.1
  have hdl := hm.2.2.2.2.2.2.2.2.2.2.1
  rw [hret] at uc hM
  refine vx_runIN (Ts := uw) (own := k.1.cls) (host := host) (bytes := k2.2.1) (maxL := k2.2.2.1) (nL := k.2.2.1) (n := n) (g := F0 m pc ls _) ⟨hm.1, hm.2.1, hm.2.2.2.1, hm.2.2.2.2.1, hts⟩ hM
    ⟨⟨⟨rfl, rfl, ?_, ?_, pay_in hts (uw_in uc), List.mem_cons_self⟩, hts _ uc, hts _ ui, hy, psig hdesc, ux_at hG ul hm.2.2.2.2.2.2.2.2.2.2.2.2.2.2⟩, hnm, hts _ um⟩
    ⟨fun a U g mk q => ?_, fun U hU hWm => ⟨rfl, hrel U hU hWm⟩⟩ rfl hn hsz rfl (lv_room hW) hd ⟨hc1, hc2⟩
  · show d2 + 1 ≤ R.frames
    omega
  · show 8 + (k2.2.2.1 + 11) + 100 * d2 ≤ R.locals
    omega
  · obtain ⟨q0, q1, q2, q3, q4⟩ := q
    exact ⟨q0, va_K.moved (u := U) (U := U.calling g mk a) (Vm.Alike.refl U.vm) q1, q2, q3, hm.2.2.2.2.2.2.2.2.2.2.2.2.1 U (U.calling g mk a) _ _ (State.WarmedH.refl U) (fun _ _ => rfl) q4⟩
theorem inv_I (hk : KI k2 n) (hd2 : d2 + 1 ≤ d) (ul : Cond.methodLink k.1.cls i k2.1 ∈ uw) (hn : As.length = n) (hW : (rest.map fun v => v.category).sum ≤ 8) (hd : decode k.2.1 pc = .ok (.invokespecial i, 3)) :
    Inv l Γ k d k2 d2 (.ref b :: As) em σ pc (As.reverse ++ .ref b :: rest) rest := by
  obtain ⟨uc, ui, um, ⟨hnm, hret⟩, hy, hdesc, hmx⟩ := hk
  intro p e R s m args below meth c hm mc ms Qc XC H locs cells slots ls hM hR hrel hsz hc1 hc2
  have hts := hm.2.2.2.2.2.1
  have hK := hm.2.2.2.2.2.2.2.2.1
  have hdf := hm.2.2.2.2.2.2.2.2.2.1
  have hdl := hm.2.2.2.2.2.2.2.2.2.2.1
  rw [hret] at uc hM
  refine vx_runI (Ts := uw) (own := k.1.cls) (bytes := k2.2.1) (maxL := k2.2.2.1) (nL := k.2.2.1) (n := n) (g := F0 m pc ls _) ⟨hm.1, hm.2.1, hm.2.2.2.1, hm.2.2.2.2.1, hts⟩ hM
    ⟨⟨rfl, rfl, ?_, ?_, pay_in hts (uw_in uc), List.mem_cons_self, hts _ uc, hts _ ui, hy, psig hdesc, hts _ ul⟩, hnm, hts _ um⟩
    ⟨fun a U g mk q => ?_, fun U hU hWm => ⟨rfl, hrel U hU hWm⟩⟩ rfl hn hsz rfl (lv_room hW) hd ⟨hc1, hc2⟩
  · show d2 + 1 ≤ R.frames
    omega
  · show 8 + (k2.2.2.1 + 11) + 100 * d2 ≤ R.locals
    omega
  · obtain ⟨q0, q1, q2, q3, q4⟩ := q
    exact ⟨q0, va_K.moved (u := U) (U := U.calling g mk a) (Vm.Alike.refl U.vm) q1, q2, q3, hm.2.2.2.2.2.2.2.2.2.2.2.2.1 U (U.calling g mk a) _ _ (State.WarmedH.refl U) (fun _ _ => rfl) q4⟩
end CALLN
/-- the exceptions, by number -/
def exN (e : Nat) : String := if e = 0 then "java/lang/IllegalArgumentException" else if e = 1 then "java/lang/IllegalStateException" else "java/lang/IndexOutOfBoundsException"
def encX {α : Type} (g : α → Option Value) (r : α ⊕ Nat) : Out := match r with
  | .inl x => .inl (g x)
  | .inr e => .inr (exN e)
abbrev gI (x : Int) : Option Value := some (wi x)
abbrev gV (_ : Unit) : Option Value := none
abbrev gR (r : Option Nat) : Option Value := some (va_rf r)
section CROWS
variable {ρ α : Type} {l : Launch} {Γ : Cx} {k : Kd} {d : Nat} {enc : ρ → Out} {M0 : Md} {pc : Nat} {lo : List (Nat × Value)} {st rest : List Value} {C : Cd} {X : Option (ρ × Cd)} {k2 : Kd} {d2 n i b c N : Nat} {As : List Value} {Cn : String} {T : u_T} {g : ρ → Option Value}
theorem r_ccVi (ul : Cond.methodLink k.1.cls i k2.1 ∈ uw) {X2 : Option (Int × Cd)} {f : Int → Cd → Option (ρ × Cd)} (htb : k.2.2.2.2 = []) (hk : KV k2 n) (hc : vwCl[c]? = some (k2.1.cls, T, N)) (hc2 : c < 100) (hct : Ct l Γ k2 d2 encI (emC M0) (.ref b :: As) C X2) (hd2 : d2 + 1 ≤ d) (hn : As.length = n) (hW : (rest.map fun v => v.category).sum ≤ 8) (hd : decode k.2.1 pc = .ok (.invokevirtual i, 3)) (hst : As.reverse ++ .ref b :: rest = st)
    (K : ∀ (x : Int) (C' : Cd), RunO l Γ k d enc (emC M0) (pc + 3) lo (wi x :: rest) C' (f x C')) : RunO l Γ k d enc (emC M0) pc lo st C (if isO C b c then cal X2 f else none) := by
  subst hst
  refine ro_if (fun ho => ?_) (fun _ => ro_none)
  exact ro_call htb hct (inv_V hk hd2 ul hn hW hd (c_rec ho hc hc2)) (fun r2 σ1 => K r2 σ1)
theorem r_ccVv (ul : Cond.methodLink k.1.cls i k2.1 ∈ uw) {X2 : Option (Unit × Cd)} {f : Unit → Cd → Option (ρ × Cd)} (htb : k.2.2.2.2 = []) (hk : KV k2 n) (hc : vwCl[c]? = some (k2.1.cls, T, N)) (hc2 : c < 100) (hct : Ct l Γ k2 d2 encV (emC M0) (.ref b :: As) C X2) (hd2 : d2 + 1 ≤ d) (hn : As.length = n) (hW : (rest.map fun v => v.category).sum ≤ 8) (hd : decode k.2.1 pc = .ok (.invokevirtual i, 3)) (hst : As.reverse ++ .ref b :: rest = st)
    (K : ∀ (x : Unit) (C' : Cd), RunO l Γ k d enc (emC M0) (pc + 3) lo rest C' (f x C')) : RunO l Γ k d enc (emC M0) pc lo st C (if isO C b c then cal X2 f else none) := by
  subst hst
  refine ro_if (fun ho => ?_) (fun _ => ro_none)
  exact ro_call htb hct (inv_V hk hd2 ul hn hW hd (c_rec ho hc hc2)) (fun r2 σ1 => K r2 σ1)
theorem r_ccVr (ul : Cond.methodLink k.1.cls i k2.1 ∈ uw) {X2 : Option (Option Nat × Cd)} {f : Option Nat → Cd → Option (ρ × Cd)} (htb : k.2.2.2.2 = []) (hk : KV k2 n) (hc : vwCl[c]? = some (k2.1.cls, T, N)) (hc2 : c < 100) (hct : Ct l Γ k2 d2 encR (emC M0) (.ref b :: As) C X2) (hd2 : d2 + 1 ≤ d) (hn : As.length = n) (hW : (rest.map fun v => v.category).sum ≤ 8) (hd : decode k.2.1 pc = .ok (.invokevirtual i, 3)) (hst : As.reverse ++ .ref b :: rest = st)
    (K : ∀ (x : Option Nat) (C' : Cd), RunO l Γ k d enc (emC M0) (pc + 3) lo (va_rf x :: rest) C' (f x C')) : RunO l Γ k d enc (emC M0) pc lo st C (if isO C b c then cal X2 f else none) := by
  subst hst
  refine ro_if (fun ho => ?_) (fun _ => ro_none)
  exact ro_call htb hct (inv_V hk hd2 ul hn hW hd (c_rec ho hc hc2)) (fun r2 σ1 => K r2 σ1)
theorem r_cxV (ul : Cond.methodLink k.1.cls i k2.1 ∈ uw) {h : α → Option Value} {X2 : Option ((α ⊕ Nat) × Cd)} {f : α → Cd → Option ((ρ ⊕ Nat) × Cd)} (htb : k.2.2.2.2 = []) (hk : KV k2 n) (hc : vwCl[c]? = some (k2.1.cls, T, N)) (hc2 : c < 100) (hct : Ct l Γ k2 d2 (encX h) (emC M0) (.ref b :: As) C X2) (hd2 : d2 + 1 ≤ d) (hn : As.length = n) (hW : (rest.map fun v => v.category).sum ≤ 8) (hd : decode k.2.1 pc = .ok (.invokevirtual i, 3)) (hst : As.reverse ++ .ref b :: rest = st)
    (K : ∀ (x : α) (C' : Cd), RunO l Γ k d (encX g) (emC M0) (pc + 3) lo ((h x).toList ++ rest) C' (f x C')) : RunO l Γ k d (encX g) (emC M0) pc lo st C (if isO C b c then calx X2 f else none) := by
  subst hst
  refine ro_if (fun ho => ?_) (fun _ => ro_none)
  refine ro_call (f := xk f) htb hct (inv_V hk hd2 ul hn hW hd (c_rec ho hc hc2)) (fun r2 σ1 => ?_)
  cases r2 with
  | inl x => exact K x σ1
  | inr e =>
    intro r σ' hX
    cases hX
    exact ⟨rfl, rfl⟩
theorem r_ccVNi {host : String} (hG : GK Γ l) (ul : Cond.methodLinkNest k.1.cls i k2.1 host ∈ ux) {X2 : Option (Int × Cd)} {f : Int → Cd → Option (ρ × Cd)} (htb : k.2.2.2.2 = []) (hk : KV k2 n) (hc : vwCl[c]? = some (k2.1.cls, T, N)) (hc2 : c < 100) (hct : Ct l Γ k2 d2 encI (emC M0) (.ref b :: As) C X2) (hd2 : d2 + 1 ≤ d) (hn : As.length = n) (hW : (rest.map fun v => v.category).sum ≤ 8) (hd : decode k.2.1 pc = .ok (.invokevirtual i, 3)) (hst : As.reverse ++ .ref b :: rest = st)
    (K : ∀ (x : Int) (C' : Cd), RunO l Γ k d enc (emC M0) (pc + 3) lo (wi x :: rest) C' (f x C')) : RunO l Γ k d enc (emC M0) pc lo st C (if isO C b c then cal X2 f else none) := by
  subst hst
  refine ro_if (fun ho => ?_) (fun _ => ro_none)
  exact ro_call htb hct (inv_VN hk hd2 hG ul hn hW hd (c_rec ho hc hc2)) (fun r2 σ1 => K r2 σ1)
theorem r_ccVNv {host : String} (hG : GK Γ l) (ul : Cond.methodLinkNest k.1.cls i k2.1 host ∈ ux) {X2 : Option (Unit × Cd)} {f : Unit → Cd → Option (ρ × Cd)} (htb : k.2.2.2.2 = []) (hk : KV k2 n) (hc : vwCl[c]? = some (k2.1.cls, T, N)) (hc2 : c < 100) (hct : Ct l Γ k2 d2 encV (emC M0) (.ref b :: As) C X2) (hd2 : d2 + 1 ≤ d) (hn : As.length = n) (hW : (rest.map fun v => v.category).sum ≤ 8) (hd : decode k.2.1 pc = .ok (.invokevirtual i, 3)) (hst : As.reverse ++ .ref b :: rest = st)
    (K : ∀ (x : Unit) (C' : Cd), RunO l Γ k d enc (emC M0) (pc + 3) lo rest C' (f x C')) : RunO l Γ k d enc (emC M0) pc lo st C (if isO C b c then cal X2 f else none) := by
  subst hst
  refine ro_if (fun ho => ?_) (fun _ => ro_none)
  exact ro_call htb hct (inv_VN hk hd2 hG ul hn hW hd (c_rec ho hc hc2)) (fun r2 σ1 => K r2 σ1)
theorem r_ccVNr {host : String} (hG : GK Γ l) (ul : Cond.methodLinkNest k.1.cls i k2.1 host ∈ ux) {X2 : Option (Option Nat × Cd)} {f : Option Nat → Cd → Option (ρ × Cd)} (htb : k.2.2.2.2 = []) (hk : KV k2 n) (hc : vwCl[c]? = some (k2.1.cls, T, N)) (hc2 : c < 100) (hct : Ct l Γ k2 d2 encR (emC M0) (.ref b :: As) C X2) (hd2 : d2 + 1 ≤ d) (hn : As.length = n) (hW : (rest.map fun v => v.category).sum ≤ 8) (hd : decode k.2.1 pc = .ok (.invokevirtual i, 3)) (hst : As.reverse ++ .ref b :: rest = st)
    (K : ∀ (x : Option Nat) (C' : Cd), RunO l Γ k d enc (emC M0) (pc + 3) lo (va_rf x :: rest) C' (f x C')) : RunO l Γ k d enc (emC M0) pc lo st C (if isO C b c then cal X2 f else none) := by
  subst hst
  refine ro_if (fun ho => ?_) (fun _ => ro_none)
  exact ro_call htb hct (inv_VN hk hd2 hG ul hn hW hd (c_rec ho hc hc2)) (fun r2 σ1 => K r2 σ1)
theorem r_cxVN {host : String} (hG : GK Γ l) (ul : Cond.methodLinkNest k.1.cls i k2.1 host ∈ ux) {h : α → Option Value} {X2 : Option ((α ⊕ Nat) × Cd)} {f : α → Cd → Option ((ρ ⊕ Nat) × Cd)} (htb : k.2.2.2.2 = []) (hk : KV k2 n) (hc : vwCl[c]? = some (k2.1.cls, T, N)) (hc2 : c < 100) (hct : Ct l Γ k2 d2 (encX h) (emC M0) (.ref b :: As) C X2) (hd2 : d2 + 1 ≤ d) (hn : As.length = n) (hW : (rest.map fun v => v.category).sum ≤ 8) (hd : decode k.2.1 pc = .ok (.invokevirtual i, 3)) (hst : As.reverse ++ .ref b :: rest = st)
    (K : ∀ (x : α) (C' : Cd), RunO l Γ k d (encX g) (emC M0) (pc + 3) lo ((h x).toList ++ rest) C' (f x C')) : RunO l Γ k d (encX g) (emC M0) pc lo st C (if isO C b c then calx X2 f else none) := by
  subst hst
  refine ro_if (fun ho => ?_) (fun _ => ro_none)
  refine ro_call (f := xk f) htb hct (inv_VN hk hd2 hG ul hn hW hd (c_rec ho hc hc2)) (fun r2 σ1 => ?_)
  cases r2 with
  | inl x => exact K x σ1
  | inr e =>
    intro r σ' hX
    cases hX
    exact ⟨rfl, rfl⟩
theorem r_ccSi (ul : Cond.methodLink k.1.cls i k2.1 ∈ uw) {X2 : Option (Int × Cd)} {f : Int → Cd → Option (ρ × Cd)} (htb : k.2.2.2.2 = []) (hk : KS k2 n) (hct : Ct l Γ k2 d2 encI (emC M0) As C X2) (hd2 : d2 + 1 ≤ d) (hn : As.length = n) (hW : (rest.map fun v => v.category).sum ≤ 8) (hd : decode k.2.1 pc = .ok (.invokestatic i, 3)) (hst : As.reverse ++ rest = st)
    (K : ∀ (x : Int) (C' : Cd), RunO l Γ k d enc (emC M0) (pc + 3) lo (wi x :: rest) C' (f x C')) : RunO l Γ k d enc (emC M0) pc lo st C (cal X2 f) := by
  subst hst
  exact ro_call htb hct (inv_S hk hd2 ul hn hW hd) (fun r2 σ1 => K r2 σ1)
theorem r_ccSv (ul : Cond.methodLink k.1.cls i k2.1 ∈ uw) {X2 : Option (Unit × Cd)} {f : Unit → Cd → Option (ρ × Cd)} (htb : k.2.2.2.2 = []) (hk : KS k2 n) (hct : Ct l Γ k2 d2 encV (emC M0) As C X2) (hd2 : d2 + 1 ≤ d) (hn : As.length = n) (hW : (rest.map fun v => v.category).sum ≤ 8) (hd : decode k.2.1 pc = .ok (.invokestatic i, 3)) (hst : As.reverse ++ rest = st)
    (K : ∀ (x : Unit) (C' : Cd), RunO l Γ k d enc (emC M0) (pc + 3) lo rest C' (f x C')) : RunO l Γ k d enc (emC M0) pc lo st C (cal X2 f) := by
  subst hst
  exact ro_call htb hct (inv_S hk hd2 ul hn hW hd) (fun r2 σ1 => K r2 σ1)
theorem r_ccSr (ul : Cond.methodLink k.1.cls i k2.1 ∈ uw) {X2 : Option (Option Nat × Cd)} {f : Option Nat → Cd → Option (ρ × Cd)} (htb : k.2.2.2.2 = []) (hk : KS k2 n) (hct : Ct l Γ k2 d2 encR (emC M0) As C X2) (hd2 : d2 + 1 ≤ d) (hn : As.length = n) (hW : (rest.map fun v => v.category).sum ≤ 8) (hd : decode k.2.1 pc = .ok (.invokestatic i, 3)) (hst : As.reverse ++ rest = st)
    (K : ∀ (x : Option Nat) (C' : Cd), RunO l Γ k d enc (emC M0) (pc + 3) lo (va_rf x :: rest) C' (f x C')) : RunO l Γ k d enc (emC M0) pc lo st C (cal X2 f) := by
  subst hst
  exact ro_call htb hct (inv_S hk hd2 ul hn hW hd) (fun r2 σ1 => K r2 σ1)
theorem r_cxS (ul : Cond.methodLink k.1.cls i k2.1 ∈ uw) {h : α → Option Value} {X2 : Option ((α ⊕ Nat) × Cd)} {f : α → Cd → Option ((ρ ⊕ Nat) × Cd)} (htb : k.2.2.2.2 = []) (hk : KS k2 n) (hct : Ct l Γ k2 d2 (encX h) (emC M0) As C X2) (hd2 : d2 + 1 ≤ d) (hn : As.length = n) (hW : (rest.map fun v => v.category).sum ≤ 8) (hd : decode k.2.1 pc = .ok (.invokestatic i, 3)) (hst : As.reverse ++ rest = st)
    (K : ∀ (x : α) (C' : Cd), RunO l Γ k d (encX g) (emC M0) (pc + 3) lo ((h x).toList ++ rest) C' (f x C')) : RunO l Γ k d (encX g) (emC M0) pc lo st C (calx X2 f) := by
  subst hst
  refine ro_call (f := xk f) htb hct (inv_S hk hd2 ul hn hW hd) (fun r2 σ1 => ?_)
  cases r2 with
  | inl x => exact K x σ1
  | inr e =>
    intro r σ' hX
    cases hX
    exact ⟨rfl, rfl⟩
theorem r_ccSNi {host : String} (hG : GK Γ l) (ul : Cond.methodLinkNest k.1.cls i k2.1 host ∈ ux) {X2 : Option (Int × Cd)} {f : Int → Cd → Option (ρ × Cd)} (htb : k.2.2.2.2 = []) (hk : KS k2 n) (hct : Ct l Γ k2 d2 encI (emC M0) As C X2) (hd2 : d2 + 1 ≤ d) (hn : As.length = n) (hW : (rest.map fun v => v.category).sum ≤ 8) (hd : decode k.2.1 pc = .ok (.invokestatic i, 3)) (hst : As.reverse ++ rest = st)
    (K : ∀ (x : Int) (C' : Cd), RunO l Γ k d enc (emC M0) (pc + 3) lo (wi x :: rest) C' (f x C')) : RunO l Γ k d enc (emC M0) pc lo st C (cal X2 f) := by
  subst hst
  exact ro_call htb hct (inv_SN hk hd2 hG ul hn hW hd) (fun r2 σ1 => K r2 σ1)
theorem r_ccSNv {host : String} (hG : GK Γ l) (ul : Cond.methodLinkNest k.1.cls i k2.1 host ∈ ux) {X2 : Option (Unit × Cd)} {f : Unit → Cd → Option (ρ × Cd)} (htb : k.2.2.2.2 = []) (hk : KS k2 n) (hct : Ct l Γ k2 d2 encV (emC M0) As C X2) (hd2 : d2 + 1 ≤ d) (hn : As.length = n) (hW : (rest.map fun v => v.category).sum ≤ 8) (hd : decode k.2.1 pc = .ok (.invokestatic i, 3)) (hst : As.reverse ++ rest = st)
    (K : ∀ (x : Unit) (C' : Cd), RunO l Γ k d enc (emC M0) (pc + 3) lo rest C' (f x C')) : RunO l Γ k d enc (emC M0) pc lo st C (cal X2 f) := by
  subst hst
  exact ro_call htb hct (inv_SN hk hd2 hG ul hn hW hd) (fun r2 σ1 => K r2 σ1)
theorem r_ccSNr {host : String} (hG : GK Γ l) (ul : Cond.methodLinkNest k.1.cls i k2.1 host ∈ ux) {X2 : Option (Option Nat × Cd)} {f : Option Nat → Cd → Option (ρ × Cd)} (htb : k.2.2.2.2 = []) (hk : KS k2 n) (hct : Ct l Γ k2 d2 encR (emC M0) As C X2) (hd2 : d2 + 1 ≤ d) (hn : As.length = n) (hW : (rest.map fun v => v.category).sum ≤ 8) (hd : decode k.2.1 pc = .ok (.invokestatic i, 3)) (hst : As.reverse ++ rest = st)
    (K : ∀ (x : Option Nat) (C' : Cd), RunO l Γ k d enc (emC M0) (pc + 3) lo (va_rf x :: rest) C' (f x C')) : RunO l Γ k d enc (emC M0) pc lo st C (cal X2 f) := by
  subst hst
  exact ro_call htb hct (inv_SN hk hd2 hG ul hn hW hd) (fun r2 σ1 => K r2 σ1)
theorem r_cxSN {host : String} (hG : GK Γ l) (ul : Cond.methodLinkNest k.1.cls i k2.1 host ∈ ux) {h : α → Option Value} {X2 : Option ((α ⊕ Nat) × Cd)} {f : α → Cd → Option ((ρ ⊕ Nat) × Cd)} (htb : k.2.2.2.2 = []) (hk : KS k2 n) (hct : Ct l Γ k2 d2 (encX h) (emC M0) As C X2) (hd2 : d2 + 1 ≤ d) (hn : As.length = n) (hW : (rest.map fun v => v.category).sum ≤ 8) (hd : decode k.2.1 pc = .ok (.invokestatic i, 3)) (hst : As.reverse ++ rest = st)
    (K : ∀ (x : α) (C' : Cd), RunO l Γ k d (encX g) (emC M0) (pc + 3) lo ((h x).toList ++ rest) C' (f x C')) : RunO l Γ k d (encX g) (emC M0) pc lo st C (calx X2 f) := by
  subst hst
  refine ro_call (f := xk f) htb hct (inv_SN hk hd2 hG ul hn hW hd) (fun r2 σ1 => ?_)
  cases r2 with
  | inl x => exact K x σ1
  | inr e =>
    intro r σ' hX
    cases hX
    exact ⟨rfl, rfl⟩
theorem r_ccIv (ul : Cond.methodLink k.1.cls i k2.1 ∈ uw) {X2 : Option (Unit × Cd)} {f : Unit → Cd → Option (ρ × Cd)} (htb : k.2.2.2.2 = []) (hk : KI k2 n) (hct : Ct l Γ k2 d2 encV (emC M0) (.ref b :: As) C X2) (hd2 : d2 + 1 ≤ d) (hn : As.length = n) (hW : (rest.map fun v => v.category).sum ≤ 8) (hd : decode k.2.1 pc = .ok (.invokespecial i, 3)) (hst : As.reverse ++ .ref b :: rest = st)
    (K : ∀ (x : Unit) (C' : Cd), RunO l Γ k d enc (emC M0) (pc + 3) lo rest C' (f x C')) : RunO l Γ k d enc (emC M0) pc lo st C (cal X2 f) := by
  subst hst
  exact ro_call htb hct (inv_I hk hd2 ul hn hW hd) (fun r2 σ1 => K r2 σ1)
theorem r_ccINv {host : String} (hG : GK Γ l) (ul : Cond.methodLinkNest k.1.cls i k2.1 host ∈ ux) {X2 : Option (Unit × Cd)} {f : Unit → Cd → Option (ρ × Cd)} (htb : k.2.2.2.2 = []) (hk : KI k2 n) (hct : Ct l Γ k2 d2 encV (emC M0) (.ref b :: As) C X2) (hd2 : d2 + 1 ≤ d) (hn : As.length = n) (hW : (rest.map fun v => v.category).sum ≤ 8) (hd : decode k.2.1 pc = .ok (.invokespecial i, 3)) (hst : As.reverse ++ .ref b :: rest = st)
    (K : ∀ (x : Unit) (C' : Cd), RunO l Γ k d enc (emC M0) (pc + 3) lo rest C' (f x C')) : RunO l Γ k d enc (emC M0) pc lo st C (cal X2 f) := by
  subst hst
  exact ro_call htb hct (inv_IN hk hd2 hG ul hn hW hd) (fun r2 σ1 => K r2 σ1)
end CROWS
/-! two laws of kit/laws/EXCEPTIONS.to-paste, with one word more: the heap has grown -/
section CX
variable {p : Program} {l : Launch} {e : Jvm.Env} {R : Room} {s : State} {m : MethodId} {args : Array Value} {below : List Frame} {meth : Method} {c : Code} {H : Heap} {locs : List Loc} {cells slots : Nat} {Q : State → Prop}
variable {mc ms : Nat} {free : Addr → Prop} {A0 A1 : Nat → Prop} {H0 : Heap} {a : Array Value} {ls : Array Slot} {st0 rest : List Value}
variable {Qc : Array Value → State → Outcome → State → Prop} {XC : String → State → State → Prop}
theorem cx_throwS {cc : ByteArray} {pc : Nat} (hexec : p.tables.exec = Jvm.exec) (hb : c.code = cc) (hl : l.stackTraces = false) {own cls text : String} {names : List String} {ik is ic mc ms sa : Nat} {A : Nat → Prop}
    (hown : s.vm.findClass own = some m.cls) (hcls : Bundle.fit cls = true) (hnames : ∀ n ∈ names, Bundle.fit n = true)
    (hk : (Cond.classLink own ik cls).before args s = true) (hini : (Cond.initialized cls).before args s = true) (hstr : vk_R own is text sa s) (hat : ∀ w ∈ vx_atS own ic cls names, w.before args s = true)
    (hgood : ∀ w ∈ Cond.classLink own ik cls :: Cond.initialized cls :: vx_atS own ic cls names, vx_ot w = true)
    (hU : vx_Zq Bundle.tN "UNASSIGNED_STACK" Bundle.steD A s s.heap) (hN : vx_Zq Bundle.tN "SUPPRESSED_SENTINEL" Bundle.listD A s s.heap) (hS : va_S A s.heap H locs) (hsize : ls.size = c.maxLocals)
    (d0 : decode cc pc = .ok (.new ik, 3)) (d3 : decode cc (pc + 3) = .ok (.dup, 1)) (d4 : decode cc (pc + 4) = .ok (.ldc is, 2)) (d6 : decode cc (pc + 6) = .ok (.invokespecial ic, 3)) (d9 : decode cc (pc + 9) = .ok (.athrow, 1))
    (hout : ∀ x ∈ c.exceptionTable.toList, covers x (pc + 9) = false)
    (hRframes : names.length + 3 < R.frames) (hRlocals : (rest.map fun v => v.category).sum + (13 * (names.length + 1) + 43) ≤ R.locals) (hRcells : cells + 1 ≤ R.cells) (hRslots : slots + 6 ≤ R.slots) (hlocks : meth.locks = false)
    (hx : ∀ t : State, s.vm.Alike t.vm → t.heap.size = H.size + 1 → (∀ q : Nat, q < H.size → t.heap[q]? = H[q]?) → XC cls s t)
    (hf : ∀ z ∈ locs, free z.base) (hc : cells + 1 ≤ mc) (hs : slots + 6 ≤ ms) :
    W p l e R s m args below meth c H locs cells slots (vx_MQ below Qc XC args s mc ms free) (F0 m pc ls rest) := by
  intro T hT X
  have htr : e.platform.stackTraces = false := (show e.platform.stackTraces = l.stackTraces by rw [X.admits.platform]).trans hl
  have Y := vx_rebase X (R' := { frames := R.frames, locals := R.locals, cells := 1, slots := 6 }) (Nat.le_refl _) (Nat.le_refl _) hRcells hRslots
  obtain ⟨s', hA⟩ : ∃ z, z = (T.setVm s.vm).setFrames (.invoking m args :: below) := ⟨_, rfl⟩
  rw [← hA] at Y
  have hvm : s'.vm = s.vm := by rw [hA]; rfl
  have hhp : s'.heap = H := by rw [hA]; exact hT
  have hW0 : s.WarmedH s'.vm := by rw [hvm]; exact State.WarmedH.refl s
  have hat' : ∀ w ∈ vx_atS own ic cls names, w.before args s' = true := fun w hw => vx_ot_at hW0 hvm.symm (hgood w (List.mem_cons_of_mem _ (List.mem_cons_of_mem _ hw))) (hat w hw)
  have hk' : (Cond.classLink own ik cls).before args s' = true := vx_ot_at hW0 hvm.symm (hgood _ List.mem_cons_self) hk
  have hini' : (Cond.initialized cls).before args s' = true := vx_ot_at hW0 hvm.symm (hgood _ (List.mem_cons_of_mem _ List.mem_cons_self)) hini
  have hU' : vx_Zq Bundle.tN "UNASSIGNED_STACK" Bundle.steD A s' s'.heap := by rw [hhp]; exact vx_Zq.moved hW0.alike (hU.kept hS.2.1)
  have hN' : vx_Zq Bundle.tN "SUPPRESSED_SENTINEL" Bundle.listD A s' s'.heap := by rw [hhp]; exact vx_Zq.moved hW0.alike (hN.kept hS.2.1)
  have h : ∀ w ∈ Bundle.ownAtoms own ic cls names, w.before args s' = true := vx_own hat' (vx_isRefq hU'.1) (vx_isRefq hN'.1) hU'.2.word hN'.2.word
  have hown' : s'.vm.findClass own = some m.cls := by rw [hvm]; exact hown
  have hins : (Cond.instantiable cls 6).before args s' = true := h _ (by simp [Bundle.ownAtoms])
  obtain ⟨vm₁, cX, kX, hfX, hkX, -, -, X₁, st1⟩ := Y.newCold hexec (own := own) (C := cls) (index := ik) (n := 6) hown' hk' hins hini'
    (g := F0 m pc ls rest) rfl (by rw [hb]; exact d0) (Nat.le_refl _) (Nat.le_refl _)
  generalize hT1 : (T.setVm vm₁).pushCell { cls := cX, slots := kX.instanceTypes.map defaultValue, vm := .none } = T1 at X₁ st1
  have hcat : (Value.ref T.heap.size).category = 1 := rfl
  have hcellA : T1.heap[T.heap.size]? = some (freshCell cX kX) := by rw [← hT1]; exact State.heap_pushCell_size _ _
  have d3' : decode c.code (pc + 3) = .ok (.dup, 1) := by rw [hb]; exact d3
  have d4' : decode c.code (pc + 4) = .ok (.ldc is, 2) := by rw [hb]; exact d4
  have hstr' : vk_R own is text sa s' := vk_R.warm hW0 hstr
  obtain ⟨U, hsteps, hrun, hend, hW, hsame, ce, hce, hO⟩ := X₁.ctorThrowS hexec htr (own := own) (cls := cls) (names := names) (ic := ic) hown' hcls hnames h (fun x hx => nomatch hx) hfX hkX hcellA (by rw [hhp, hT]; exact Nat.le_refl _) (msg := .ref sa) rfl
    (g := { method := m, pc := pc + 6, locals := ls, stack := .ref sa :: .ref T.heap.size :: .ref T.heap.size :: rest, locked := none }) rfl hsize rfl rfl (rest := rest) rfl
    (by rw [hb]; exact d6) (by rw [hb]; exact d9) hout hRframes (by simp only [List.map_cons, List.sum_cons, hcat]; omega) hlocks
  obtain ⟨f1, f2⟩ := vx_frame hsame
  rw [hhp] at f1 f2
  have hWs : s.WarmedH U.vm := State.WarmedH.trans hW0 hW
  have hcl : s.vm.findClass cls = some ce.cls := by
    have h9 := hO.cls
    rw [hvm] at h9
    exact h9
  have hall : s.sameButNew ({ U with vm := s.vm } : State) locs mc ms := by
    subst hA
    obtain ⟨e1, e2⟩ := hsame
    rw [State.setFrames_setFrames] at e1
    have h2 : (T.setVm s.vm).sameButNew ({ U with vm := s.vm } : State) [] (0 + 1) (0 + 6) := ⟨e1, e2⟩
    have h3 := X.same.trans h2
    rw [List.append_nil] at h3
    exact h3.mono hc hs
  refine ⟨U, ?_, .threw T.heap.size, hrun, hend, Or.inr ⟨T.heap.size, rfl, cls, ce, locs, hx U hWs.alike (by have q1 := (Array.getElem?_eq_some_iff.mp hce).1; have q2 : U.heap.size ≤ s'.heap.size + 1 := hsame.2.2.1; rw [hhp] at q2; rw [hT] at q1; omega) (fun q hq => f2 q hq (fun z hz => nomatch hz)), hce, hO.vm, hcl, hWs, hall, hf⟩⟩
  refine st1 _ ?_
  show Steps p.tables e below (T1.setTop { method := m, pc := pc + 3, locals := ls, stack := .ref T.heap.size :: rest, locked := none }) _
  jvm_step X₁.here [X₁.here.top, hexec, d3', Value.category]
  exact X₁.ldcString hexec (own := own) (text := text) (index := is) (a := sa) hown' hstr'.1 hstr'.2
    (g := { method := m, pc := pc + 4, locals := ls, stack := .ref T.heap.size :: .ref T.heap.size :: rest, locked := none }) rfl d4' _ hsteps
theorem cx_throwSW {cc : ByteArray} {pc : Nat} (hexec : p.tables.exec = Jvm.exec) (hb : c.code = cc) (hl : l.stackTraces = false) {own cls text : String} {names : List String} {ik is ic mc ms sa : Nat} {A : Nat → Prop}
    (hown : s.vm.findClass own = some m.cls) (hcls : Bundle.fit cls = true) (hnames : ∀ n ∈ names, Bundle.fit n = true)
    (hk : (Cond.classLink own ik cls).before args s = true) (hini : (Cond.initialized cls).before args s = true) (hstr : vk_R own is text sa s) (hat : ∀ w ∈ vx_atS own ic cls names, w.before args s = true)
    (hgood : ∀ w ∈ Cond.classLink own ik cls :: Cond.initialized cls :: vx_atS own ic cls names, vx_ot w = true)
    (hU : vx_Zq Bundle.tN "UNASSIGNED_STACK" Bundle.steD A s s.heap) (hN : vx_Zq Bundle.tN "SUPPRESSED_SENTINEL" Bundle.listD A s s.heap) (hS : va_S A s.heap H locs) (hsize : ls.size = c.maxLocals)
    (d0 : decode cc pc = .ok (.new ik, 3)) (d3 : decode cc (pc + 3) = .ok (.dup, 1)) (d4 : decode cc (pc + 4) = .ok (.ldc_w is, 3)) (d7 : decode cc (pc + 7) = .ok (.invokespecial ic, 3)) (d10 : decode cc (pc + 10) = .ok (.athrow, 1))
    (hout : ∀ x ∈ c.exceptionTable.toList, covers x (pc + 10) = false)
    (hRframes : names.length + 3 < R.frames) (hRlocals : (rest.map fun v => v.category).sum + (13 * (names.length + 1) + 43) ≤ R.locals) (hRcells : cells + 1 ≤ R.cells) (hRslots : slots + 6 ≤ R.slots) (hlocks : meth.locks = false)
    (hx : ∀ t : State, s.vm.Alike t.vm → t.heap.size = H.size + 1 → (∀ q : Nat, q < H.size → t.heap[q]? = H[q]?) → XC cls s t)
    (hf : ∀ z ∈ locs, free z.base) (hc : cells + 1 ≤ mc) (hs : slots + 6 ≤ ms) :
    W p l e R s m args below meth c H locs cells slots (vx_MQ below Qc XC args s mc ms free) (F0 m pc ls rest) := by
  intro T hT X
  have htr : e.platform.stackTraces = false := (show e.platform.stackTraces = l.stackTraces by rw [X.admits.platform]).trans hl
  have Y := vx_rebase X (R' := { frames := R.frames, locals := R.locals, cells := 1, slots := 6 }) (Nat.le_refl _) (Nat.le_refl _) hRcells hRslots
  obtain ⟨s', hA⟩ : ∃ z, z = (T.setVm s.vm).setFrames (.invoking m args :: below) := ⟨_, rfl⟩
  rw [← hA] at Y
  have hvm : s'.vm = s.vm := by rw [hA]; rfl
  have hhp : s'.heap = H := by rw [hA]; exact hT
  have hW0 : s.WarmedH s'.vm := by rw [hvm]; exact State.WarmedH.refl s
  have hat' : ∀ w ∈ vx_atS own ic cls names, w.before args s' = true := fun w hw => vx_ot_at hW0 hvm.symm (hgood w (List.mem_cons_of_mem _ (List.mem_cons_of_mem _ hw))) (hat w hw)
  have hk' : (Cond.classLink own ik cls).before args s' = true := vx_ot_at hW0 hvm.symm (hgood _ List.mem_cons_self) hk
  have hini' : (Cond.initialized cls).before args s' = true := vx_ot_at hW0 hvm.symm (hgood _ (List.mem_cons_of_mem _ List.mem_cons_self)) hini
  have hU' : vx_Zq Bundle.tN "UNASSIGNED_STACK" Bundle.steD A s' s'.heap := by rw [hhp]; exact vx_Zq.moved hW0.alike (hU.kept hS.2.1)
  have hN' : vx_Zq Bundle.tN "SUPPRESSED_SENTINEL" Bundle.listD A s' s'.heap := by rw [hhp]; exact vx_Zq.moved hW0.alike (hN.kept hS.2.1)
  have h : ∀ w ∈ Bundle.ownAtoms own ic cls names, w.before args s' = true := vx_own hat' (vx_isRefq hU'.1) (vx_isRefq hN'.1) hU'.2.word hN'.2.word
  have hown' : s'.vm.findClass own = some m.cls := by rw [hvm]; exact hown
  have hins : (Cond.instantiable cls 6).before args s' = true := h _ (by simp [Bundle.ownAtoms])
  obtain ⟨vm₁, cX, kX, hfX, hkX, -, -, X₁, st1⟩ := Y.newCold hexec (own := own) (C := cls) (index := ik) (n := 6) hown' hk' hins hini'
    (g := F0 m pc ls rest) rfl (by rw [hb]; exact d0) (Nat.le_refl _) (Nat.le_refl _)
  generalize hT1 : (T.setVm vm₁).pushCell { cls := cX, slots := kX.instanceTypes.map defaultValue, vm := .none } = T1 at X₁ st1
  have hcat : (Value.ref T.heap.size).category = 1 := rfl
  have hcellA : T1.heap[T.heap.size]? = some (freshCell cX kX) := by rw [← hT1]; exact State.heap_pushCell_size _ _
  have d3' : decode c.code (pc + 3) = .ok (.dup, 1) := by rw [hb]; exact d3
  have d4' : decode c.code (pc + 4) = .ok (.ldc_w is, 3) := by rw [hb]; exact d4
  have hstr' : vk_R own is text sa s' := vk_R.warm hW0 hstr
  obtain ⟨U, hsteps, hrun, hend, hW, hsame, ce, hce, hO⟩ := X₁.ctorThrowS hexec htr (own := own) (cls := cls) (names := names) (ic := ic) hown' hcls hnames h (fun x hx => nomatch hx) hfX hkX hcellA (by rw [hhp, hT]; exact Nat.le_refl _) (msg := .ref sa) rfl
    (g := { method := m, pc := pc + 7, locals := ls, stack := .ref sa :: .ref T.heap.size :: .ref T.heap.size :: rest, locked := none }) rfl hsize rfl rfl (rest := rest) rfl
    (by rw [hb]; exact d7) (by rw [hb]; exact d10) hout hRframes (by simp only [List.map_cons, List.sum_cons, hcat]; omega) hlocks
  obtain ⟨f1, f2⟩ := vx_frame hsame
  rw [hhp] at f1 f2
  have hWs : s.WarmedH U.vm := State.WarmedH.trans hW0 hW
  have hcl : s.vm.findClass cls = some ce.cls := by
    have h9 := hO.cls
    rw [hvm] at h9
    exact h9
  have hall : s.sameButNew ({ U with vm := s.vm } : State) locs mc ms := by
    subst hA
    obtain ⟨e1, e2⟩ := hsame
    rw [State.setFrames_setFrames] at e1
    have h2 : (T.setVm s.vm).sameButNew ({ U with vm := s.vm } : State) [] (0 + 1) (0 + 6) := ⟨e1, e2⟩
    have h3 := X.same.trans h2
    rw [List.append_nil] at h3
    exact h3.mono hc hs
  refine ⟨U, ?_, .threw T.heap.size, hrun, hend, Or.inr ⟨T.heap.size, rfl, cls, ce, locs, hx U hWs.alike (by have q1 := (Array.getElem?_eq_some_iff.mp hce).1; have q2 : U.heap.size ≤ s'.heap.size + 1 := hsame.2.2.1; rw [hhp] at q2; rw [hT] at q1; omega) (fun q hq => f2 q hq (fun z hz => nomatch hz)), hce, hO.vm, hcl, hWs, hall, hf⟩⟩
  refine st1 _ ?_
  show Steps p.tables e below (T1.setTop { method := m, pc := pc + 3, locals := ls, stack := .ref T.heap.size :: rest, locked := none }) _
  jvm_step X₁.here [X₁.here.top, hexec, d3', Value.category]
  exact X₁.ldcStringW hexec (own := own) (text := text) (index := is) (a := sa) hown' hstr'.1 hstr'.2
    (g := { method := m, pc := pc + 4, locals := ls, stack := .ref T.heap.size :: .ref T.heap.size :: rest, locked := none }) rfl d4' _ hsteps
end CX
