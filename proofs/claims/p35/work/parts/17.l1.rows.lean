/-! THE JDK'S LIST: its rows beyond those of the program's own -/
theorem rN_0 (Γ : Cx) : va_rf (rN Γ 201 (some 0)) = .ref (Γ.2.2.1 60) := by unfold rN; rw [if_pos ⟨rfl, rfl⟩]; rfl
theorem rN_s {Γ : Cx} {e : Nat} (h : e ≠ 0) : va_rf (rN Γ 201 (some e)) = .ref e := by
  unfold rN
  rw [if_neg (fun q => h (Option.some.inj q.2))]
  rfl
theorem al_ne {l : Launch} {Γ : Cx} {M0 : Md} {C : Cd} (hG : GK Γ l) {s : State} (ho : Γ.2.2.2.2 s s.heap) {H : Heap} (hR : RelE Γ (M0, C) H) {e : Nat} (hi : e ∈ cL C) : e ≠ 0 := by
  intro z
  subst z
  have h1 := (hG.2.2 s s.heap ho).2.1.out
  obtain ⟨q, hq⟩ := cw_at (Γ := Γ) (M0 := M0) hi
  have h2 : Γ.1 ≤ 0 := hR.2.1.2 q _ hq
  exact h1 (Nat.le_trans h2 (Nat.zero_le _))
theorem cfE_setQ {Γ : Cx} {C : Cd} {a : Nat} {x : Option Nat} (h : cty C a = 2) (b : Nat) : va_up (cfE Γ C) a (.inr (2, (fOf Γ C a 2).set 1 (va_rf (rN Γ 201 x)))) b = cfE Γ (cSetR C 201 a x) b := by
  by_cases hb : b = a
  · subst hb
    have e1 : cfE Γ (cSetR C 201 b x) b = .inr (2, fOf Γ (cSetR C 201 b x) b 2) := cfE_o h (by decide)
    rw [e1, fOf_set (by decide) (C' := cSetR C 201 b x)]
    · unfold va_up; rw [if_pos rfl]
    · have h8 : cR (cSetR C 201 b x) 201 b = x := by
        show (if 201 = 201 ∧ b = b then x else cR C 201 b) = x
        rw [if_pos ⟨rfl, rfl⟩]
      unfold fV
      rw [show isR (100 * 2 + 1) = true from rfl]
      show va_rf (rN Γ 201 (cR (cSetR C 201 b x) 201 b)) = _
      rw [h8]
    · intro j hj hne
      unfold fV
      have h9 : cR (cSetR C 201 b x) (100 * 2 + j) b = cR C (100 * 2 + j) b := by
        show (if 100 * 2 + j = 201 ∧ b = b then x else cR C (100 * 2 + j) b) = _
        rw [if_neg (by omega)]
      rw [h9]
      rfl
  · have e2 : va_up (cfE Γ C) a (.inr (2, (fOf Γ C a 2).set 1 (va_rf (rN Γ 201 x)))) b = cfE Γ C b := by unfold va_up; rw [if_neg hb]
    rw [e2]
    refine (cfE_ne (Γ := Γ) (C := C) (C' := cSetR C 201 a x) (b := b) rfl (fun _ => rfl) (fun k' => ?_) rfl rfl rfl).symm
    show (if k' = 201 ∧ b = a then x else cR C k' b) = _
    rw [if_neg (fun q => hb q.2)]
/-- a row with other contents -/
def cCpy (C : Cd) (a : Nat) (f : Nat → Option Nat) : Cd := (cI C, cR C, cE C, fun a' j => if a' = a then f j else cP C a' j, C.2.2.2.2)
theorem cfE_cpy {Γ : Cx} {C : Cd} {a : Nat} {f : Nat → Option Nat} (t : Nat) (h : cty C a = t) (h1 : ¬ t < 102) (h2 : ¬ t = 108) (b : Nat) : va_up (cfE Γ C) a (.inl (Γ.2.2.1 (t - 100), cn C a, .inr (.inr (.inr (.inr f))))) b = cfE Γ (cCpy C a f) b := by
  by_cases hb : b = a
  · subst hb
    have e1 : cfE Γ (cCpy C b f) b = _ := cfE_q t h h1 h2
    rw [e1]
    unfold va_up
    rw [if_pos rfl]
    have e2 : f = cP (cCpy C b f) b := by
      funext j
      show _ = (if b = b then f j else cP C b j)
      rw [if_pos rfl]
    rw [← e2]
    rfl
  · have e2 : va_up (cfE Γ C) a (.inl (Γ.2.2.1 (t - 100), cn C a, .inr (.inr (.inr (.inr f))))) b = cfE Γ C b := by show (if b = a then _ else cfE Γ C b) = _; rw [if_neg hb]
    rw [e2]
    refine (cfE_ne (Γ := Γ) (C := C) (C' := cCpy C a f) (b := b) rfl (fun _ => rfl) (fun _ => rfl) rfl ?_ rfl).symm
    funext j
    show (if b = a then f j else cP C b j) = _
    rw [if_neg hb]
section LISTS
variable {ρ : Type} {l : Launch} {Γ : Cx} {k : Kd} {d : Nat} {enc : ρ → Out} {M0 : Md} {pc : Nat} {lo : List (Nat × Value)} {st rest : List Value} {C : Cd} {X X' : Option (ρ × Cd)}
theorem ro_mono (h : ∀ q, X = some q → X' = some q) (K : RunO l Γ k d enc (emC M0) pc lo st C X') : RunO l Γ k d enc (emC M0) pc lo st C X := fun r σ' hX => K r σ' (h _ hX)
theorem ct_mono {av : List Value} (h : ∀ q, X = some q → X' = some q) (K : Ct l Γ k d enc (emC M0) av C X') : Ct l Γ k d enc (emC M0) av C X := fun r σ' hX => K r σ' (h _ hX)
/-- one step that leaves the state, by what holds there -/
theorem ro_stepR {pc' : Nat} {lo' : List (Nat × Value)} {st' : List Value}
    (h : ∀ (p : Program) (e : Jvm.Env) (R : Room) (s : State) (m : MethodId) (args : Array Value) (below : List Frame) (meth : Method) (c : Code) (H : Heap) (locs : List Loc) (cells slots : Nat) (Q : State → Prop) (ls : Array Slot), MC l Γ k d p R s m args meth c → RelE Γ (M0, C) H → va_S (inA Γ) s.heap H locs → lv_has ls k.2.2.1 lo →
      (∀ ls' : Array Slot, lv_has ls' k.2.2.1 lo' → W p l e R s m args below meth c H locs cells slots Q (F0 m pc' ls' st')) → W p l e R s m args below meth c H locs cells slots Q (F0 m pc ls st))
    (K : RunO l Γ k d enc (emC M0) pc' lo' st' C X) : RunO l Γ k d enc (emC M0) pc lo st C X := by
  intro r σ' hX
  obtain ⟨h1, h2, h3⟩ := K r σ' hX
  refine ⟨h1, h2, fun p e R s m args below meth c hm z0 l0 H locs ls a1 a2 a3 a4 hR hS hl => ?_⟩
  exact h p e R s m args below meth c H locs _ _ _ ls hm hR hS hl (fun ls' hl' => h3 p e R s m args below meth c hm z0 l0 H locs ls' a1 a2 a3 a4 hR hS hl')
theorem r_getQ {i a : Nat} {v : Value} (u : Cond.fieldLink k.1.cls i "java/util/ArrayList" "elementData" "[Ljava/lang/Object;" ∈ uw) (ho : isO C a 2) (hv : ∀ (s : State) (H : Heap), Γ.2.2.2.2 s s.heap → RelE Γ (M0, C) H → va_rf (rN Γ 201 (cR C 201 a)) = v) (hd : decode k.2.1 pc = .ok (.getfield i, 3))
    (K : RunO l Γ k d enc (emC M0) (pc + 3) lo (v :: rest) C X) : RunO l Γ k d enc (emC M0) pc lo (.ref a :: rest) C X := by
  refine ro_stepR (fun p e R s m args below meth c H locs cells slots Q ls hm hR hS hl kk => ?_) K
  have hK := hm.2.2.2.2.2.2.2.2.1
  obtain ⟨q, hq⟩ := cw_at (Γ := Γ) (M0 := M0) ho.1
  rw [cfE_o ho.2 (by decide)] at hq
  refine va_get (C := RJx4a65c) (ref := "java/util/ArrayList") (own := k.1.cls) hm.1 hm.2.1 hm.2.2.2.2.2.1 inU_AL hm.2.2.2.2.1 hK hR.1 q hq hc_AL 1 (by decide) (hm.2.2.2.2.2.1 _ u) (fun x hx => hx) (v := v) (by
    rw [fOf_at _ _ _ _ _ (by decide), ← hv s H hm.2.2.2.2.2.2.2.2.2.2.2.2.2.2 hR]
    rfl) hd ?_
  exact kk ls hl
/-- its row, that was made -/
theorem r_getE {i a e : Nat} (hG : GK Γ l) (u : Cond.fieldLink k.1.cls i "java/util/ArrayList" "elementData" "[Ljava/lang/Object;" ∈ uw) (ho : isO C a 2) (he : cR C 201 a = some e) (hi : e ∈ cL C) (hd : decode k.2.1 pc = .ok (.getfield i, 3))
    (K : RunO l Γ k d enc (emC M0) (pc + 3) lo (.ref e :: rest) C X) : RunO l Γ k d enc (emC M0) pc lo (.ref a :: rest) C X :=
  r_getQ u ho (fun s H h1 h2 => by rw [he]; exact rN_s (al_ne hG h1 h2 hi)) hd K
/-- the empty list's row -/
theorem r_getE0 {i a : Nat} (u : Cond.fieldLink k.1.cls i "java/util/ArrayList" "elementData" "[Ljava/lang/Object;" ∈ uw) (ho : isO C a 2) (he : cR C 201 a = some 0) (hd : decode k.2.1 pc = .ok (.getfield i, 3))
    (K : RunO l Γ k d enc (emC M0) (pc + 3) lo (.ref (Γ.2.2.1 60) :: rest) C X) : RunO l Γ k d enc (emC M0) pc lo (.ref a :: rest) C X :=
  r_getQ u ho (fun s H h1 h2 => by rw [he]; exact rN_0 Γ) hd K
theorem r_gsE {i : Nat} (hG : GK Γ l) (u : Cond.fieldLink k.1.cls i "java/util/ArrayList" "DEFAULTCAPACITY_EMPTY_ELEMENTDATA" "[Ljava/lang/Object;" ∈ uw) (hd : decode k.2.1 pc = .ok (.getstatic i, 3))
    (K : RunO l Γ k d enc (emC M0) (pc + 3) lo (.ref (Γ.2.2.1 60) :: rest) C X) : RunO l Γ k d enc (emC M0) pc lo rest C X := by
  refine ro_stepR (fun p e R s m args below meth c H locs cells slots Q ls hm hR hS hl kk => ?_) K
  exact va_gets (ref := "java/util/ArrayList") hm.1 hm.2.1 (hG.2.2 s s.heap hm.2.2.2.2.2.2.2.2.2.2.2.2.2.2).1 hS hm.2.2.2.2.1 (hm.2.2.2.2.2.1 _ u) (fun x hx => hx) hd (kk ls hl)
theorem r_lenE (hG : GK Γ l) (hd : decode k.2.1 pc = .ok (.arraylength, 1))
    (K : RunO l Γ k d enc (emC M0) (pc + 1) lo (wi 0 :: rest) C X) : RunO l Γ k d enc (emC M0) pc lo (.ref (Γ.2.2.1 60) :: rest) C X := by
  refine ro_stepR (fun p e R s m args below meth c H locs cells slots Q ls hm hR hS hl kk => ?_) K
  exact va_tlen hm.1 hm.2.1 (hG.2.2 s s.heap hm.2.2.2.2.2.2.2.2.2.2.2.2.2.2).2.1 hS (v := Int32.ofInt 0) rfl hd (kk ls hl)
theorem r_putQ {i a : Nat} {x : Option Nat} {v : Value} (u : Cond.fieldLink k.1.cls i "java/util/ArrayList" "elementData" "[Ljava/lang/Object;" ∈ uw) (ho : isO C a 2) (hv : ∀ (s : State) (H : Heap), Γ.2.2.2.2 s s.heap → RelE Γ (M0, C) H → va_rf (rN Γ 201 x) = v) (hd : decode k.2.1 pc = .ok (.putfield i, 3))
    (K : RunO l Γ k d enc (emC M0) (pc + 3) lo rest (cSetR C 201 a x) X) : RunO l Γ k d enc (emC M0) pc lo (v :: .ref a :: rest) C X := by
  intro r σ' hX
  obtain ⟨h1, h2, h3⟩ := K r σ' hX
  refine ⟨h1, h2, fun p e R s m args below meth c0 hm z0 l0 H locs ls a1 a2 a3 a4 hR hS hl => ?_⟩
  have hK := hm.2.2.2.2.2.2.2.2.1
  obtain ⟨q, hq⟩ := cw_at (Γ := Γ) (M0 := M0) ho.1
  have hq0 := hq
  rw [cfE_o ho.2 (by decide)] at hq
  rw [← hv s H hm.2.2.2.2.2.2.2.2.2.2.2.2.2.2 hR]
  have hob : ∃ nm, (FieldType.array (.object "java/lang/Object")) = .object nm ∨ ∃ t9, (FieldType.array (.object "java/lang/Object")) = .array t9 := ⟨"", Or.inr ⟨_, rfl⟩⟩
  refine va_put (C := RJx4a65c) (ref := "java/util/ArrayList") (own := k.1.cls) (ty := .array (.object "java/lang/Object")) (v := va_rf (rN Γ 201 x)) hm.1 hm.2.1 hm.2.2.2.2.2.1 inU_AL tyJx4a65c tyJx4a65c_ok nmJx4a65c hm.2.2.2.2.1 hK hR.1 hR.2.1 (H0 := H) (locs := locs) ⟨Nat.le_refl _, fun _ _ _ => rfl, hS.2.2⟩ q hq hc_AL 1 (by decide) (hm.2.2.2.2.2.1 _ u) (fun x hx => hx) rfl (tyJx4a65c_ok 1 (by decide)) (rf_nar hob _) (rf_fit hob _) (by rw [fOf_len]; decide) hd (fun H1 locs1 hP hD hS1 => ?_)
  have e9 := cw_set (M0 := M0) (C' := cSetR C 201 a x) hR.2.1 ho.1 hq0 rfl (cfE_setQ ho.2)
  rw [e9] at hP hD
  exact w_bd (fun hb => h3 p e R s m args below meth c0 hm z0 l0 H1 locs1 ls a1 a2 a3 a4 ⟨hP, hD, m_sz hR.2.2 a1 hS.1 hS1.1 hb⟩ (vs_tr hS hS1) hl)
/-- an int field, maybe by another name -/
theorem r_agI {i kk a : Nat} {ref : String} (hk : kk < 3) (hu : Cond.fieldLink k.1.cls i ref (TJx4a65c kk).2.1 (TJx4a65c kk).2.2.1 ∈ uw) (hsm : ∀ (s : State) (args : Array Value), (∀ w ∈ uw, w.before args s = true) → ∀ x, s.fieldFound? (TJx4a65c kk).1 (TJx4a65c kk).2.1 (TJx4a65c kk).2.2.1 = some x → s.fieldFound? ref (TJx4a65c kk).2.1 (TJx4a65c kk).2.2.1 = some x) (hI : isR (200 + kk) = false) (ho : isO C a 2) (hd : decode k.2.1 pc = .ok (.getfield i, 3))
    (K : RunO l Γ k d enc (emC M0) (pc + 3) lo (wi (cI C (200 + kk) a) :: rest) C X) : RunO l Γ k d enc (emC M0) pc lo (.ref a :: rest) C X := by
  refine ro_stepR (fun p e R s m args below meth c H locs cells slots Q ls hm hR hS hl k2 => ?_) K
  have hK := hm.2.2.2.2.2.2.2.2.1
  obtain ⟨q, hq⟩ := cw_at (Γ := Γ) (M0 := M0) ho.1
  rw [cfE_o ho.2 (by decide)] at hq
  refine va_get (C := RJx4a65c) (ref := ref) (own := k.1.cls) hm.1 hm.2.1 hm.2.2.2.2.2.1 inU_AL hm.2.2.2.2.1 hK hR.1 q hq hc_AL kk hk (hm.2.2.2.2.2.1 _ hu) (hsm s args hm.2.2.2.2.2.1) (v := wi (cI C (200 + kk) a)) (by
    rw [fOf_at _ _ _ _ _ hk]
    unfold fV
    rw [show 100 * 2 + kk = 200 + kk from rfl, hI]
    rfl) hd ?_
  exact k2 ls hl
theorem r_apI {i kk a : Nat} {ref : String} {x : Int} (hk : kk < 3) (hu : Cond.fieldLink k.1.cls i ref (TJx4a65c kk).2.1 (TJx4a65c kk).2.2.1 ∈ uw) (hsm : ∀ (s : State) (args : Array Value), (∀ w ∈ uw, w.before args s = true) → ∀ x, s.fieldFound? (TJx4a65c kk).1 (TJx4a65c kk).2.1 (TJx4a65c kk).2.2.1 = some x → s.fieldFound? ref (TJx4a65c kk).2.1 (TJx4a65c kk).2.2.1 = some x) (hI : isR (200 + kk) = false) (hfin : (TJx4a65c kk).2.2.2 = false) (hty : tyJx4a65c kk = .int) (ho : isO C a 2) (hd : decode k.2.1 pc = .ok (.putfield i, 3))
    (K : RunO l Γ k d enc (emC M0) (pc + 3) lo rest (cSetI C (200 + kk) a x) X) : RunO l Γ k d enc (emC M0) pc lo (wi x :: .ref a :: rest) C X := by
  intro r σ' hX
  obtain ⟨h1, h2, h3⟩ := K r σ' hX
  refine ⟨h1, h2, fun p e R s m args below meth c0 hm z0 l0 H locs ls a1 a2 a3 a4 hR hS hl => ?_⟩
  have hK := hm.2.2.2.2.2.2.2.2.1
  obtain ⟨q, hq⟩ := cw_at (Γ := Γ) (M0 := M0) ho.1
  have hq0 := hq
  rw [cfE_o ho.2 (by decide)] at hq
  refine va_put (C := RJx4a65c) (ref := ref) (own := k.1.cls) (ty := .int) (v := wi x) hm.1 hm.2.1 hm.2.2.2.2.2.1 inU_AL tyJx4a65c tyJx4a65c_ok nmJx4a65c hm.2.2.2.2.1 hK hR.1 hR.2.1 (H0 := H) (locs := locs) ⟨Nat.le_refl _, fun _ _ _ => rfl, hS.2.2⟩ q hq hc_AL kk hk (hm.2.2.2.2.2.1 _ hu) (hsm s args hm.2.2.2.2.2.1) hfin (by rw [tyJx4a65c_ok kk hk, hty]) rfl rfl (by rw [fOf_len]; exact hk) hd (fun H1 locs1 hP hD hS1 => ?_)
  have e9 := cw_set (M0 := M0) (C' := cSetI C (200 + kk) a x) hR.2.1 ho.1 hq0 rfl (cfE_setI ho.2 (by decide) hk hI)
  rw [e9] at hP hD
  exact w_bd (fun hb => h3 p e R s m args below meth c0 hm z0 l0 H1 locs1 ls a1 a2 a3 a4 ⟨hP, hD, m_sz hR.2.2 a1 hS.1 hS1.1 hb⟩ (vs_tr hS hS1) hl)
/-- into a row of Objects -/
theorem r_astO {i : Int} {a : Nat} {v : Option Nat} (hG : GK Γ l) (ho : isO C a 107) (hi : inR i (cn C a)) (hv : okc C v 13 = true) (hd : decode k.2.1 pc = .ok (.aastore, 1))
    (K : RunO l Γ k d enc (emC M0) (pc + 1) lo rest (cSetP C a (ix i) v) X) : RunO l Γ k d enc (emC M0) pc lo (va_rf v :: wi i :: .ref a :: rest) C X := by
  obtain ⟨e1, e2⟩ := ix_in hi
  intro r σ' hX
  obtain ⟨h1, h2, h3⟩ := K r σ' hX
  refine ⟨h1, h2, fun p e R s m args below meth c0 hm z0 l0 H locs ls a1 a2 a3 a4 hR hS hl => ?_⟩
  have hK := hm.2.2.2.2.2.2.2.2.1
  obtain ⟨q, hq⟩ := cw_at (Γ := Γ) (M0 := M0) ho.1
  have hq0 := hq
  rw [cfE_q 107 ho.2 (by decide) (by decide)] at hq
  have e9 := cw_set (M0 := M0) (C' := cSetP C a (ix i) v) hR.2.1 ho.1 hq0 rfl (cfE_setP 107 ho.2 (by decide) (by decide))
  cases v with
  | none =>
    refine va_astqN hm.1 hm.2.1 hK hR.1 hR.2.1 (H0 := H) (locs := locs) ⟨Nat.le_refl _, fun _ _ _ => rfl, hS.2.2⟩ q 7 hq rfl e1 hd (fun H1 locs1 hP hD hS1 => ?_)
    rw [e2] at hP hD
    rw [e9] at hP hD
    exact w_bd (fun hb => h3 p e R s m args below meth c0 hm z0 l0 H1 locs1 ls a1 a2 a3 a4 ⟨hP, hD, m_sz hR.2.2 a1 hS.1 hS1.1 hb⟩ (vs_tr hS hS1) hl)
  | some v =>
    have hv : isO C v 13 := of_decide_eq_true hv
    obtain ⟨q2, hq2⟩ := cw_at (Γ := Γ) (M0 := M0) hv.1
    rw [cfE_o hv.2 (by decide)] at hq2
    have hca : va_Nw (.castable "Weaveword$Version" "java/lang/Object") s := (hG.2.1 s s.heap hm.2.2.2.2.2.2.2.2.2.2.2.2.2.2).1 _ ul_cst
    refine va_astqO (E := "java/lang/Object") (r := (RX10, TX10, 3)) hm.1 hm.2.1 hK hR.1 hR.2.1 (H0 := H) (locs := locs) ⟨Nat.le_refl _, fun _ _ _ => rfl, hS.2.2⟩ q 7 q2 13 hq rfl hca hq2 rfl e1 hd (fun H1 locs1 hP hD hS1 => ?_)
    rw [e2] at hP hD
    rw [e9] at hP hD
    exact w_bd (fun hb => h3 p e R s m args below meth c0 hm z0 l0 H1 locs1 ls a1 a2 a3 a4 ⟨hP, hD, m_sz hR.2.2 a1 hS.1 hS1.1 hb⟩ (vs_tr hS hS1) hl)
/-- System.arraycopy between rows of Objects -/
theorem r_cpyO {i : Nat} {sp dp n : Int} {a a0 : Nat} (hG : GK Γ l) (hd1 : 1 ≤ d) (ul : Cond.methodLink k.1.cls i arraycopyName ∈ uw) (ho0 : isO C a0 107) (ho : isO C a 107) (hsp : 0 ≤ w32 sp) (hdp : 0 ≤ w32 dp) (hn : 0 ≤ w32 n) (h4 : ix sp + ix n ≤ cn C a0) (h5 : ix dp + ix n ≤ cn C a) (hel : ∀ j, j < ix n → okc C (cP C a0 (ix sp + j)) 13 = true) (hW : (rest.map fun v => v.category).sum ≤ 8) (hd : decode k.2.1 pc = .ok (.invokestatic i, 3))
    (K : RunO l Γ k d enc (emC M0) (pc + 3) lo rest (cCpy C a (va_cpy (cP C a0) (cP C a) (ix sp) (ix dp) (ix n))) X) : RunO l Γ k d enc (emC M0) pc lo (wi n :: wi dp :: .ref a :: wi sp :: .ref a0 :: rest) C X := by
  intro r σ' hX
  obtain ⟨h1, h2, h3⟩ := K r σ' hX
  refine ⟨h1, h2, fun p e R s m args below meth c0 hm z0 l0 H locs ls a1 a2 a3 a4 hR hS hl => ?_⟩
  have hK := hm.2.2.2.2.2.2.2.2.1
  have hdf := hm.2.2.2.2.2.2.2.2.2.1
  have hdl := hm.2.2.2.2.2.2.2.2.2.2.1
  have hts := hm.2.2.2.2.2.1
  obtain ⟨q0, hq0⟩ := cw_at (Γ := Γ) (M0 := M0) ho0.1
  obtain ⟨q, hq⟩ := cw_at (Γ := Γ) (M0 := M0) ho.1
  have hq1 := hq
  rw [cfE_q 107 ho0.2 (by decide) (by decide)] at hq0
  rw [cfE_q 107 ho.2 (by decide) (by decide)] at hq
  have nneg : ∀ z : Int, 0 ≤ w32 z → ¬ Int32.ofInt z < 0 := fun z hz => by
    rw [show (0 : Int32) = Int32.ofInt 0 from rfl, w32_lt, show w32 0 = 0 from rfl]
    omega
  have hca : va_Nw (.castable "Weaveword$Version" "java/lang/Object") s := (hG.2.1 s s.heap hm.2.2.2.2.2.2.2.2.2.2.2.2.2.2).1 _ ul_cst
  have e9 := cw_set (M0 := M0) (C' := cCpy C a (va_cpy (cP C a0) (cP C a) (ix sp) (ix dp) (ix n))) hR.2.1 ho.1 hq1 rfl (cfE_cpy 107 ho.2 (by decide) (by decide))
  have hf5 : nativeFrameWords "java/lang/System" "arraycopy" 5 + 11 ≤ 80 := by decide +kernel
  refine va_copyM hm.1 hm.2.1 (by rw [hm.2.2.2.1]; exact hl.1.symm) hm.2.2.2.2.1 (hts _ ul) (hts _ ul_acn) (hts _ ul_acs) (hts _ ul_aci) hK hR.1 hR.2.1 (H0 := H) (locs := locs) ⟨Nat.le_refl _, fun _ _ _ => rfl, hS.2.2⟩ q0 q 7 7 (E0 := "java/lang/Object") (E1 := "java/lang/Object") hq0 hq rfl rfl (nneg _ hsp) (nneg _ hdp) (nneg _ hn) h4 h5 (fun j hj y hy => ?_) (by omega) (by omega) hd (fun H1 locs1 hP hD hS1 => ?_)
  · have hv := hel j hj
    rw [show cP C a0 (ix sp + j) = some y from hy] at hv
    have hv : isO C y 13 := of_decide_eq_true hv
    obtain ⟨q2, hq2⟩ := cw_at (Γ := Γ) (M0 := M0) hv.1
    rw [cfE_o hv.2 (by decide)] at hq2
    refine va_rAny (r := (RX10, TX10, 3)) hK hR.1 hq2 rfl (fun comp c9 g1 g2 => ?_)
    obtain ⟨c8, t1, f1, f2, f3⟩ := Cond.castable_spec (va_Nw.use (A := args) rfl hca)
    cases g2.symm.trans f1
    cases g1.symm.trans f2
    exact f3
  · have hP : va_P Γ.2.1 vwCl ((wl Γ (M0, C)).set q (a, .inl (Γ.2.2.1 (107 - 100), cn C a, .inr (.inr (.inr (.inr (va_cpy (cP C a0) (cP C a) (ix sp) (ix dp) (ix n)))))))) H1 := hP
    have hD : va_D (inA Γ) ((wl Γ (M0, C)).set q (a, .inl (Γ.2.2.1 (107 - 100), cn C a, .inr (.inr (.inr (.inr (va_cpy (cP C a0) (cP C a) (ix sp) (ix dp) (ix n)))))))) := hD
    rw [e9] at hP hD
    exact w_bd (fun hb => h3 p e R s m args below meth c0 hm z0 l0 H1 locs1 ls a1 a2 a3 a4 ⟨hP, hD, m_sz hR.2.2 a1 hS.1 hS1.1 hb⟩ (vs_tr hS hS1) hl)
/-- getClass() of a row of Objects -/
theorem r_gcO {a : Nat} (hG : GK Γ l) (hd1 : 1 ≤ d) (hown : k.1.cls = RJ7) (ho : isO C a 107) (hW : (rest.map fun v => v.category).sum ≤ 8) (hd : decode k.2.1 pc = .ok (.invokevirtual 86, 3))
    (K : RunO l Γ k d enc (emC M0) (pc + 3) lo (.ref (Γ.2.2.1 61) :: rest) C X) : RunO l Γ k d enc (emC M0) pc lo (.ref a :: rest) C X := by
  refine ro_stepR (fun p e R s m args below meth c H locs cells slots Q ls hm hR hS hl kk => ?_) K
  have hK := hm.2.2.2.2.2.2.2.2.1
  have hdf := hm.2.2.2.2.2.2.2.2.2.1
  have hdl := hm.2.2.2.2.2.2.2.2.2.2.1
  have hts := hm.2.2.2.2.2.1
  have ho5 := hm.2.2.2.2.2.2.2.2.2.2.2.2.2.2
  obtain ⟨q, hq⟩ := cw_at (Γ := Γ) (M0 := M0) ho.1
  rw [cfE_q 107 ho.2 (by decide) (by decide)] at hq
  have hcell := hR.1 q _ hq
  have hown2 : s.vm.findClass RJ7 = some m.cls := by rw [← hown]; exact hm.2.2.2.2.1
  refine va_getC (C := "[Ljava/lang/Object;") hm.1 hm.2.1 (by rw [hm.2.2.2.1]; exact hl.1.symm) hown2 (hts _ ul_gc) (ux_at hG ul_gcd ho5) (hts _ ul_gcs) (hts _ ul_gci) (hts _ ul_gcn) (hG.2.2 s s.heap ho5).2.2 ⟨_, hcell, rfl, ?_⟩ (by omega) (by omega) hd (kk ls hl)
  exact va_nmO (hK.2 7 _ rfl).2 (by decide +kernel)
theorem r_ldcO {i : Nat} (hG : GK Γ l) (u : Cond.classLink k.1.cls i "[Ljava/lang/Object;" ∈ uw) (hd : decode k.2.1 pc = .ok (.ldc i, 2))
    (K : RunO l Γ k d enc (emC M0) (pc + 2) lo (.ref (Γ.2.2.1 61) :: rest) C X) : RunO l Γ k d enc (emC M0) pc lo rest C X := by
  refine ro_stepR (fun p e R s m args below meth c H locs cells slots Q ls hm hR hS hl kk => ?_) K
  exact va_ldcM hm.1 hm.2.1 hm.2.2.2.2.1 (hm.2.2.2.2.2.1 _ u) (hG.2.2 s s.heap hm.2.2.2.2.2.2.2.2.2.2.2.2.2.2).2.2 hd (kk ls hl)
theorem r_dupx1 {va vb : Value} (hd : decode k.2.1 pc = .ok (.dup_x1, 1)) (hva : va.category = 1) (hvb : vb.category = 1) (K : RunO l Γ k d enc (emC M0) (pc + 1) lo (va :: vb :: va :: rest) C X) : RunO l Γ k d enc (emC M0) pc lo (va :: vb :: rest) C X :=
  ro_stepR (fun p e R s m args below meth c H locs cells slots Q ls hm hR hS hl kk => lv_dup_x1 hm.1 hm.2.1 hd hva hvb (kk ls hl)) K
theorem r_ldcw {i : Nat} {v : Int} (u : Cond.constant k.1.cls i (Int32.ofInt v) ∈ uw) (hd : decode k.2.1 pc = .ok (.ldc_w i, 3)) (K : RunO l Γ k d enc (emC M0) (pc + 3) lo (wi v :: rest) C X) : RunO l Γ k d enc (emC M0) pc lo rest C X :=
  ro_stepR (fun p e R s m args below meth c H locs cells slots Q ls hm hR hS hl kk => lv_ldcw hm.1 hm.2.1 hm.2.2.2.2.1 (hm.2.2.2.2.2.1 _ u) hd (kk ls hl)) K
def ushr (x y : Int) : Int := (((Int32.ofInt x).toUInt32 >>> ((Int32.ofInt y).toUInt32 &&& Int32.toUInt32 31)).toInt32).toInt
theorem r_iushr {x y : Int} (hd : decode k.2.1 pc = .ok (.iushr, 1)) (K : RunO l Γ k d enc (emC M0) (pc + 1) lo (wi (ushr x y) :: rest) C X) : RunO l Γ k d enc (emC M0) pc lo (wi y :: wi x :: rest) C X :=
  ro_stepR (fun p e R s m args below meth c H locs cells slots Q ls hm hR hS hl kk => lv_iushr hm.1 hm.2.1 hd (Int32.ofInt_toInt _).symm (kk ls hl)) K
end LISTS
