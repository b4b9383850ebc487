/-! ROWS FOR THE LAW'S OWN METHODS -/
section WROWS
theorem lv_lcmpE {p : Program} {l : Launch} {e : Jvm.Env} {R : Room} {s : State} {m : MethodId} {args : Array Value} {below : List Frame} {meth : Method} {c : Code} {H : Heap} {locs : List Loc} {cells slots : Nat} {Q : State → Prop} {cc : ByteArray} {pc : Nat} {ls : Array Slot} {rest : List Value} (hexec : p.tables.exec = Jvm.exec) (hb : c.code = cc) {x : Int64} (hdg : decode cc pc = .ok (.lcmp, 1))
    (k : W p l e R s m args below meth c H locs cells slots Q (F0 m (pc + 1) ls (.int 0 :: rest))) : W p l e R s m args below meth c H locs cells slots Q (F0 m pc ls (.long x :: .long x :: rest)) := by
  intro T hT X
  obtain ⟨t, a, b⟩ := k T hT X
  refine ⟨t, ?_, b⟩
  have h1 : ¬ x > x := Int64.lt_irrefl
  jvm_step X.here [X.here.top, hexec, hb, hdg, h1]
  exact a
variable {ρ S : Type} {l : Launch} {Γ : Cx} {k : Kd} {d : Nat} {enc : ρ → Out} {em : S → St} {pc : Nat} {lo : List (Nat × Value)} {rest : List Value} {σ : S} {X : Option (ρ × S)}
theorem r_lcmpE {x : Int} (hd : decode k.2.1 pc = .ok (.lcmp, 1)) (K : RunO l Γ k d enc em (pc + 1) lo (wi 0 :: rest) σ X) : RunO l Γ k d enc em pc lo (vl x :: vl x :: rest) σ X :=
  ro_step (fun p e R s m args below meth c H locs cells slots Q ls hm hl kk => lv_lcmpE hm.1 hm.2.1 hd (kk ls hl)) K
theorem r_i2l {x : Int} (hd : decode k.2.1 pc = .ok (.i2l, 1)) (K : RunO l Γ k d enc em (pc + 1) lo (vl (w32 x) :: rest) σ X) : RunO l Γ k d enc em pc lo (wi x :: rest) σ X :=
  ro_step (fun p e R s m args below meth c H locs cells slots Q ls hm hl kk => lv_i2l hm.1 hm.2.1 hd (Int64.ofInt_int32ToInt _).symm (kk ls hl)) K
theorem r_lconst {x : Int} {n : Fin 2} (hd : decode k.2.1 pc = .ok (.lconst n, 1)) (hx : Int64.ofNat (n : Nat) = Int64.ofInt x) (K : RunO l Γ k d enc em (pc + 1) lo (vl x :: rest) σ X) : RunO l Γ k d enc em pc lo rest σ X :=
  ro_step (fun p e R s m args below meth c H locs cells slots Q ls hm hl kk => lv_lconst hm.1 hm.2.1 hd hx (kk ls hl)) K
/-- where the law's constant pool names what is thrown -/
def lkE (e : Nat) : Nat := if e = 0 then 13 else if e = 1 then 15 else 24
theorem ulk {e : Nat} (he : e < 3) : Cond.classLink RL (lkE e) (exN e) ∈ uw := by
  rcases (by omega : e = 0 ∨ e = 1 ∨ e = 2) with h | h | h <;> subst h
  · exact uw_mem 558 (by decide +kernel) rfl
  · exact uw_mem 559 (by decide +kernel) rfl
  · exact uw_mem 669 (by decide +kernel) rfl
theorem ucs {e : Nat} (he : e < 3) : Cond.castable (exN e) (exN e) ∈ ux := by
  rcases (by omega : e = 0 ∨ e = 1 ∨ e = 2) with h | h | h <;> subst h
  · exact ux_mem 572 (by decide +kernel) rfl
  · exact ux_mem 640 (by decide +kernel) rfl
  · exact ux_mem 680 (by decide +kernel) rfl
/-- where it goes on when e is thrown: rows are exceptions and places, in their order -/
theorem achE {rows pre suf : List (Nat × Nat)} {e h E : Nat} (hX : XN Γ) (hown : k.1.cls = RL) (htb : k.2.2.2.2 = rows.map (fun q => (⟨0, E, q.2, lkE q.1⟩ : ExceptionTableEntry))) (hr : rows = pre ++ (e, h) :: suf) (hne : ∀ q ∈ pre, q.1 ≠ e ∧ q.1 < 3) (he : e < 3) (hpc : pc < E) (K : ∀ q : Nat, RunO l Γ k d enc em h lo [.ref q] σ X) : ACH l Γ k d enc em pc lo rest σ X (.inr (exN e)) := by
  have z : ∀ e, lkE e ≠ 0 := fun e => by unfold lkE; split; · decide
                                         · split <;> decide
  refine Or.inr ⟨pre.map (fun q => (⟨0, E, q.2, lkE q.1⟩ : ExceptionTableEntry)), ⟨0, E, h, lkE e⟩, suf.map (fun q => (⟨0, E, q.2, lkE q.1⟩ : ExceptionTableEntry)), exN e, ?_, fun w hw => ?_, ?_, z e, ?_, ucs he, K⟩
  · rw [htb, hr, List.map_append, List.map_cons]
  · obtain ⟨q, hq, e2⟩ := List.mem_map.mp hw
    obtain ⟨n1, n2⟩ := hne q hq
    refine Or.inr ⟨by rw [← e2]; exact z _, exN q.1, ?_, fun s ho => hX s _ ho e q.1 he n2 (fun y => n1 y.symm)⟩
    rw [hown, ← e2]
    exact ulk n2
  · unfold covers
    simp [hpc]
  · rw [hown]
    exact ulk he
end WROWS
section WRAPC
variable {ρ : Type} {l : Launch} {Γ : Cx} {k : Kd} {d : Nat} {enc : ρ → Out} {M0 : Md} {pc : Nat} {lo : List (Nat × Value)} {st rest : List Value} {C : Cd} {X : Option (ρ × Cd)} {k2 : Kd} {d2 n i b c N : Nat} {As : List Value} {Cn : String} {T : u_T}
theorem r_cxH (hG : GK Γ l) (ul : Cond.methodLink k.1.cls i k2.1 ∈ uw) {X2 : Option ((Int ⊕ Nat) × Cd)} {f : Int ⊕ Nat → Cd → Option (ρ × Cd)} (hk : KV k2 n) (hc : vwCl[c]? = some (k2.1.cls, T, N)) (hc2 : c < 100) (hct : Ct l Γ k2 d2 (encX gI) (emC M0) (.ref b :: As) C X2) (hd2 : d2 + 1 ≤ d) (hn : As.length = n) (hW : (rest.map fun v => v.category).sum ≤ 8) (hd : decode k.2.1 pc = .ok (.invokevirtual i, 3)) (hst : As.reverse ++ .ref b :: rest = st)
    (K1 : ∀ (x : Int) (C' : Cd), RunO l Γ k d enc (emC M0) (pc + 3) lo (wi x :: rest) C' (f (.inl x) C')) (K2 : ∀ (e : Nat) (C' : Cd), ACH l Γ k d enc (emC M0) pc lo rest C' (f (.inr e) C') (.inr (exN e))) : RunO l Γ k d enc (emC M0) pc lo st C (if isO C b c then X2.bind (fun q => f q.1 q.2) else none) := by
  subst hst
  refine ro_if (fun ho => ?_) (fun _ => ro_none)
  refine ro_callH hG hct (inv_V hk hd2 ul hn hW hd (c_rec ho hc hc2)) (fun r2 σ1 => ?_)
  cases r2 with
  | inl x => exact K1 x σ1
  | inr e => exact K2 e σ1
end WRAPC
/-- what a method of the law does with an answer: tb says what it gives for what is thrown -/
def wrapK (out : Nat) (tb : Nat → Option Int) (r : Int ⊕ Nat) (C : Cd) : Option (Int × Cd) := match r with
  | .inl v => if isO C out 108 ∧ inR 0 (cn C out) then bnd (cSetE C out (ix 0) (w32 v)) fun (C1 : Cd) => some (0, C1) else none
  | .inr e => (tb e).map (fun c => (c, C))
def wrapZ (out : Nat) (tb : Nat → Option Int) (r : Int ⊕ Nat) (C : Cd) : Option (Int × Cd) := match r with
  | .inl v => if w32 v = 0 then (if isO C out 108 ∧ inR 0 (cn C out) then bnd (cSetE C out (ix 0) 0) fun (C1 : Cd) => some (0, C1) else none) else (if isO C out 108 ∧ inR 0 (cn C out) then bnd (cSetE C out (ix 0) 1) fun (C1 : Cd) => some (0, C1) else none)
  | .inr e => (tb e).map (fun c => (c, C))
