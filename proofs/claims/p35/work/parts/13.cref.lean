/-! MAKING, references that may be null, tables, calls of nest mates -/
def encR (r : Option Nat) : Out := .inl (some (va_rf r))
theorem rf_cases (r : Option Nat) : va_rf r = .null ∨ ∃ a, va_rf r = .ref a := by
  cases r with
  | none => exact Or.inl rfl
  | some a => exact Or.inr ⟨a, rfl⟩
section CREF
variable {ρ S : Type} {l : Launch} {Γ : Cx} {k : Kd} {d : Nat} {enc : ρ → Out} {em : S → St} {pc : Nat} {lo : List (Nat × Value)} {st rest : List Value} {σ : S} {X X1 X2 : Option (ρ × S)}
theorem r_null (hd : decode k.2.1 pc = .ok (.aconst_null, 1)) (K : RunO l Γ k d enc em (pc + 1) lo (va_rf none :: rest) σ X) : RunO l Γ k d enc em pc lo rest σ X :=
  ro_step (fun p e R s m args below meth c H locs cells slots Q ls hm hl kk => lv_null hm.1 hm.2.1 hd (kk ls hl)) K
theorem r_aloadq_n {j : Fin 4} {i : Nat} {x : Option Nat} (hd : decode k.2.1 pc = .ok (.aload_n j, 1)) (hi : (j : Nat) = i) (hk : lk lo i = some (va_rf x)) (K : RunO l Γ k d enc em (pc + 1) lo (va_rf x :: rest) σ X) : RunO l Γ k d enc em pc lo rest σ X := by
  cases x with
  | none => exact ro_step (fun p e R s m args below meth c H locs cells slots Q ls hm hl kk => lv_aload_nN hm.1 hm.2.1 hd hi (lk_at hl hk) (kk ls hl)) K
  | some a => exact ro_step (fun p e R s m args below meth c H locs cells slots Q ls hm hl kk => lv_aload_n hm.1 hm.2.1 hd hi (lk_at hl hk) (kk ls hl)) K
theorem r_aloadq {i : Nat} {x : Option Nat} (hd : decode k.2.1 pc = .ok (.aload i, 2)) (hk : lk lo i = some (va_rf x)) (K : RunO l Γ k d enc em (pc + 2) lo (va_rf x :: rest) σ X) : RunO l Γ k d enc em pc lo rest σ X := by
  cases x with
  | none => exact ro_step (fun p e R s m args below meth c H locs cells slots Q ls hm hl kk => lv_aloadN hm.1 hm.2.1 hd (lk_at hl hk) (kk ls hl)) K
  | some a => exact ro_step (fun p e R s m args below meth c H locs cells slots Q ls hm hl kk => lv_aload hm.1 hm.2.1 hd (lk_at hl hk) (kk ls hl)) K
theorem r_astoreq_n {j : Fin 4} {i : Nat} {x : Option Nat} {lo2 : List (Nat × Value)} (hd : decode k.2.1 pc = .ok (.astore_n j, 1)) (hi : (j : Nat) = i) (hn : i < k.2.2.1) (hs : sto i (va_rf x) lo = lo2) (K : RunO l Γ k d enc em (pc + 1) lo2 rest σ X) : RunO l Γ k d enc em pc lo (va_rf x :: rest) σ X := by
  cases x with
  | none => exact ro_step (fun p e R s m args below meth c H locs cells slots Q ls hm hl kk => lv_astore_nN hm.1 hm.2.1 hd hi hl hn hs kk) K
  | some a => exact ro_step (fun p e R s m args below meth c H locs cells slots Q ls hm hl kk => lv_astore_n hm.1 hm.2.1 hd hi hl hn hs kk) K
theorem r_astoreq {i : Nat} {x : Option Nat} {lo2 : List (Nat × Value)} (hd : decode k.2.1 pc = .ok (.astore i, 2)) (hn : i < k.2.2.1) (hs : sto i (va_rf x) lo = lo2) (K : RunO l Γ k d enc em (pc + 2) lo2 rest σ X) : RunO l Γ k d enc em pc lo (va_rf x :: rest) σ X := by
  cases x with
  | none => exact ro_step (fun p e R s m args below meth c H locs cells slots Q ls hm hl kk => lv_astoreN hm.1 hm.2.1 hd hl hn hs kk) K
  | some a => exact ro_step (fun p e R s m args below meth c H locs cells slots Q ls hm hl kk => lv_astore hm.1 hm.2.1 hd hl hn hs kk) K
/-- a reference gets a name -/
theorem r_nmq {x : Option Nat} {f : Option Nat → Option (ρ × S)} (K : ∀ z : Option Nat, RunO l Γ k d enc em pc lo (va_rf z :: rest) σ (f z)) : RunO l Γ k d enc em pc lo (va_rf x :: rest) σ (bnd x f) := K x
theorem r_opt {r : Option Nat} {x : Option (ρ × S)} {f : Nat → Option (ρ × S)} (K1 : r = none → RunO l Γ k d enc em pc lo st σ x) (K2 : ∀ a, r = some a → RunO l Γ k d enc em pc lo st σ (f a)) : RunO l Γ k d enc em pc lo st σ (opt r x f) := by
  cases r with
  | none => exact K1 rfl
  | some a => exact K2 a rfl
theorem r_dref {r : Option Nat} {f : Nat → Option (ρ × S)} (K : ∀ a, r = some a → RunO l Γ k d enc em pc lo st σ (f a)) : RunO l Γ k d enc em pc lo st σ (drf r f) := by
  cases r with
  | none => exact ro_none
  | some a => exact K a rfl
theorem r_ifnullS {a : Nat} {off : Int} (hd : decode k.2.1 pc = .ok (.ifnull off, 3)) (K : RunO l Γ k d enc em (pc + 3) lo rest σ X) : RunO l Γ k d enc em pc lo (va_rf (some a) :: rest) σ X :=
  ro_step (fun p e R s m args below meth c H locs cells slots Q ls hm hl kk => lv_ifnull hm.1 hm.2.1 hd (kk ls hl)) K
theorem r_ifnullN {off : Int} {tgt : Nat} (hd : decode k.2.1 pc = .ok (.ifnull off, 3)) (ht : (pc : Int) + off = (tgt : Int)) (K : RunO l Γ k d enc em tgt lo rest σ X) : RunO l Γ k d enc em pc lo (va_rf none :: rest) σ X :=
  ro_step (fun p e R s m args below meth c H locs cells slots Q ls hm hl kk => lv_ifnullN hm.1 hm.2.1 hd ht (kk ls hl)) K
theorem r_ifnonnullS {a : Nat} {off : Int} {tgt : Nat} (hd : decode k.2.1 pc = .ok (.ifnonnull off, 3)) (ht : (pc : Int) + off = (tgt : Int)) (K : RunO l Γ k d enc em tgt lo rest σ X) : RunO l Γ k d enc em pc lo (va_rf (some a) :: rest) σ X :=
  ro_step (fun p e R s m args below meth c H locs cells slots Q ls hm hl kk => lv_ifnonnull hm.1 hm.2.1 hd ht (kk ls hl)) K
theorem r_ifnonnullN {off : Int} (hd : decode k.2.1 pc = .ok (.ifnonnull off, 3)) (K : RunO l Γ k d enc em (pc + 3) lo rest σ X) : RunO l Γ k d enc em pc lo (va_rf none :: rest) σ X :=
  ro_step (fun p e R s m args below meth c H locs cells slots Q ls hm hl kk => lv_ifnonnullN hm.1 hm.2.1 hd (kk ls hl)) K
theorem r_acmp_eq {x y : Option Nat} {off : Int} {tgt : Nat} (hd : decode k.2.1 pc = .ok (.if_acmp .eq off, 3)) (ht : (pc : Int) + off = (tgt : Int)) (K1 : RunO l Γ k d enc em tgt lo rest σ X1) (K2 : RunO l Γ k d enc em (pc + 3) lo rest σ X2) : RunO l Γ k d enc em pc lo (va_rf y :: va_rf x :: rest) σ (if x = y then X1 else X2) :=
  ro_br (fun p e R s m args below meth c H locs cells slots Q ls hm kt kf => lv_acmp_eq hm.1 hm.2.1 hd ht kt kf) K1 K2
theorem r_acmp_ne {x y : Option Nat} {off : Int} {tgt : Nat} (hd : decode k.2.1 pc = .ok (.if_acmp .ne off, 3)) (ht : (pc : Int) + off = (tgt : Int)) (K1 : RunO l Γ k d enc em tgt lo rest σ X1) (K2 : RunO l Γ k d enc em (pc + 3) lo rest σ X2) : RunO l Γ k d enc em pc lo (va_rf y :: va_rf x :: rest) σ (if ¬ x = y then X1 else X2) :=
  ro_br (fun p e R s m args below meth c H locs cells slots Q ls hm kt kf => lv_acmp_ne hm.1 hm.2.1 hd ht (fun q => kt q) (fun q => kf (fun z => z q))) K1 K2
theorem r_tswC {dflt lo1 hi : Int} {offs : Array Int} {len : Nat} {x v off : Int} {tgt : Nat} (hd : decode k.2.1 pc = .ok (.tableswitch dflt lo1 hi offs, len)) (h1 : lo1 ≤ v) (h2 : v ≤ hi) (ho : offs[(v - lo1).toNat]? = some off) (ht : (pc : Int) + off = (tgt : Int)) (K1 : RunO l Γ k d enc em tgt lo rest σ X1) (K2 : ¬ w32 x = v → RunO l Γ k d enc em pc lo (wi x :: rest) σ X2) : RunO l Γ k d enc em pc lo (wi x :: rest) σ (if w32 x = v then X1 else X2) := by
  refine ro_if (fun hv => ?_) K2
  refine ro_step (fun p e R s m args below meth c H locs cells slots Q ls hm hl kk => lv_tableIn hm.1 hm.2.1 hd (off := off) (tgt := tgt) ?_ ?_ ?_ ht (kk ls hl)) K1
  · show ¬ w32 x < lo1
    omega
  · show ¬ hi < w32 x
    omega
  · show offs[(w32 x - lo1).toNat]? = some off
    rw [hv]
    exact ho
theorem r_tswD {dflt lo1 hi : Int} {offs : Array Int} {len : Nat} {x : Int} {tgt : Nat} (hd : decode k.2.1 pc = .ok (.tableswitch dflt lo1 hi offs, len)) (h : w32 x < lo1 ∨ hi < w32 x) (ht : (pc : Int) + dflt = (tgt : Int)) (K : RunO l Γ k d enc em tgt lo rest σ X) : RunO l Γ k d enc em pc lo (wi x :: rest) σ X :=
  ro_step (fun p e R s m args below meth c H locs cells slots Q ls hm hl kk => lv_tableOut hm.1 hm.2.1 hd h ht (kk ls hl)) K
theorem r_aret {x : Option Nat} {em : S → St} {rt : FieldType} (hr : k.2.2.2.1 = some rt) (hrt : (∃ n, rt = .object n) ∨ ∃ t, rt = .array t) (hd : decode k.2.1 pc = .ok (.areturn, 1)) : RunO l Γ k d encR em pc lo [va_rf x] σ (some (x, σ)) := by
  intro r σ' hX
  cases hX
  refine ⟨Nat.le_refl _, Nat.le_refl _, fun p e R s m args below meth c hm z0 l0 H locs ls a1 a2 a3 a4 hR hS hl => ?_⟩
  exact vx_ret (W.aret hm.1 hm.2.1 (by rw [hm.2.2.1, hr]) hrt (rf_cases x) (fun t ht hW => ⟨⟨_, rfl, rfl⟩, by rw [ht]; exact hR, va_S.F hS ht⟩) hS.2.2 hd hm.2.2.2.2.2.2.2.1)
/-- java.lang.Object's constructor -/
theorem r_objInit {i a : Nat} (hd1 : 1 ≤ d) (ul : Cond.methodLink k.1.cls i Lib.objectInit ∈ uw) (uo : Cond.instanceMethod Lib.objectInit ∈ uw) (uc : Cond.code Lib.objectInit ⟨#[0xb1]⟩ 1 none ∈ uw) (hW : (rest.map fun v => v.category).sum ≤ 8) (hd : decode k.2.1 pc = .ok (.invokespecial i, 3))
    (K : RunO l Γ k d enc em (pc + 3) lo rest σ X) : RunO l Γ k d enc em pc lo (.ref a :: rest) σ X := by
  refine ro_step (fun p e R s m args below meth c H locs cells slots Q ls hm hl kk => ?_) K
  have hdf := hm.2.2.2.2.2.2.2.2.2.1
  have hdl := hm.2.2.2.2.2.2.2.2.2.2.1
  have h8 := lv_room (pc := pc) (ls := ls) (rest := .ref a :: rest) (st := rest) (m := m) hW
  refine W.objInit hm.1 hm.2.1 hm.2.2.2.2.1 (hm.2.2.2.2.2.1 _ ul) (hm.2.2.2.2.2.1 _ uo) (hm.2.2.2.2.2.1 _ uc) rfl (by rw [hm.2.2.2.1]; exact hl.1) rfl hd (by omega) (by omega) ?_
  exact kk ls hl
end CREF
section CMAKE
variable {ρ : Type} {l : Launch} {Γ : Cx} {k : Kd} {d : Nat} {enc : ρ → Out} {M0 : Md} {pc : Nat} {lo : List (Nat × Value)} {st rest : List Value} {C : Cd} {X X1 X2 : Option (ρ × Cd)}
theorem cw_push {Γ : Cx} {M0 : Md} {C C' : Cd} {e : va_E} {H : Heap} (hP : va_P Γ.2.1 vwCl (wl Γ (M0, C)) H) (hz : H.size = csz C) (hL : cL C' = cL C ++ [csz C]) (he : ∀ b, va_up (cfE Γ C) (csz C) e b = cfE Γ C' b) : wl Γ (M0, C) ++ [(csz C, e)] = wl Γ (M0, C') := by
  have hn : csz C ∉ cL C := va_pl_fresh (X := Γ.2.2.2.1 M0) (f := cfE Γ C) hP (by rw [hz]; exact Nat.le_refl _)
  show (Γ.2.2.2.1 M0 ++ va_pl (cL C) (cfE Γ C)) ++ [(csz C, e)] = Γ.2.2.2.1 M0 ++ va_pl (cL C') (cfE Γ C')
  rw [List.append_assoc, va_pl_push hn, hL]
  exact congrArg _ (va_pl_congr he)
/-- a heap with one cell more -/
theorem c_grow {C C' : Cd} {e : va_E} {s : State} {H H1 : Heap} {locs : List Loc} (hR : RelE Γ (M0, C) H) (hS : va_S (inA Γ) s.heap H locs) (hb : Γ.1 ≤ s.heap.size) (hs1 : csz C' = csz C + 1) (hL : cL C' = cL C ++ [csz C]) (he : ∀ b, va_up (cfE Γ C) (csz C) e b = cfE Γ C' b)
    (z1 : H1.size = H.size + 1) (o1 : ∀ q : Nat, q < H.size → H1[q]? = H[q]?) (hat : va_at Γ.2.1 vwCl (csz C, e) H1) : RelE Γ (M0, C') H1 ∧ va_S (inA Γ) s.heap H1 locs := by
  obtain ⟨hP, hD, hz⟩ := hR
  have hz : H.size = csz C := hz
  have e9 := cw_push (M0 := M0) (C' := C') (e := e) hP hz hL he
  have hP1 : va_P Γ.2.1 vwCl (wl Γ (M0, C) ++ [(csz C, e)]) H1 := (hP.kept (fun k x hx => o1 x.1 ((hP k x hx).lt))).app (fun k x hx => by
    have hk : k < 1 := (List.getElem?_eq_some_iff.mp hx).1
    rw [show k = 0 by omega] at hx
    cases hx
    exact hat)
  have hD1 : va_D (inA Γ) (wl Γ (M0, C) ++ [(csz C, e)]) := hD.push hP hz.symm (by
    show Γ.1 ≤ csz C
    rw [← hz]
    exact Nat.le_trans hb hS.1)
  rw [e9] at hP1 hD1
  refine ⟨⟨hP1, hD1, ?_⟩, Nat.le_trans hS.1 (by omega), fun x h1 h2 => (o1 x (Nat.lt_of_lt_of_le h1 hS.1)).trans (hS.2.1 x h1 h2), hS.2.2⟩
  show H1.size = csz C'
  rw [hs1, z1, hz]
theorem r_cnew {i c N : Nat} {Cn : String} {T : u_T} {f : Cd → Option (ρ × Cd)} (hc : vwCl[c]? = some (Cn, T, N)) (hN : nF c = N) (hc2 : c < 100) (hin : ∀ w ∈ u_ws Cn T N, w ∈ uw) (tyT : Nat → FieldType) (htyT : ∀ k, k < N → parseFieldDescriptor (T k).2.2.1 = some (tyT k))
    (hfs : ∀ j, j < N → defaultValue (tyT j) = vp_V ((List.range (nF c)).map (fun k => if isR (100 * c + k) then Value.null else wi 0)) j) (u1 : Cond.classLink k.1.cls i Cn ∈ uw) (u2 : Cond.instantiable Cn N ∈ uw) (u3 : Cond.initialized Cn ∈ uw) (hd : decode k.2.1 pc = .ok (.new i, 3))
    (K : ∀ C' : Cd, csz C' = csz C + 1 → RunO l Γ k d enc (emC M0) (pc + 3) lo (.ref (csz C) :: rest) C' (f C')) : RunO l Γ k d enc (emC M0) pc lo rest C (bnd (cNew C c) f) := by
  intro r σ' hX
  obtain ⟨h1, h2, h3⟩ := K (cNew C c) rfl r σ' hX
  have h1' : csz C + 1 ≤ csz σ' := h1
  have h2' : csl C + nF c ≤ csl σ' := h2
  refine ⟨by show csz C ≤ csz σ'; omega, by show csl C ≤ csl σ'; omega, fun p e R s m args below meth c0 hm z0 l0 H locs ls a1 a2 a3 a4 hR hS hl => ?_⟩
  have hK := hm.2.2.2.2.2.2.2.2.1
  have hbase := hm.2.2.2.2.2.2.2.2.2.2.2.2.2.1
  have hts := hm.2.2.2.2.2.1
  have hKn := hK.1 c _ hc
  have hz : H.size = csz C := hR.2.2
  have hz0 : z0 ≤ csz C := by rw [a1, ← hz]; exact hS.1
  have a3' : csz σ' - z0 ≤ R.cells := a3
  have a4' : csl σ' - l0 ≤ R.slots := a4
  have a2' : l0 ≤ csl C := a2
  refine W.newcK (g := F0 m pc ls rest) hm.1 hm.2.1 hm.2.2.2.2.1 (hts _ u1) (hts _ u2) (hts _ u3) rfl hd (by show csz C - z0 + 1 ≤ R.cells; omega) (by show csl C - l0 + N ≤ R.slots; omega) hKn.2.1 hz fun H1 kC hkC e1 z1 o1 => ?_
  obtain ⟨g1, g2⟩ := c_grow (C' := cNew C c) (e := .inr (c, (List.range (nF c)).map (fun k => if isR (100 * c + k) then Value.null else wi 0))) hR hS hbase rfl rfl (cfE_new hc2) (by rw [z1, hz]) (fun q hq => o1 q (by rw [← hz]; exact hq)) ⟨_, hc, (u_born tyT hts hin hKn hkC e1 htyT).to hfs⟩
  have h9 := h3 p e R s m args below meth c0 hm z0 l0 H1 locs ls a1 (by show l0 ≤ csl C + nF c; omega) a3 a4 g1 g2 hl
  have q1 : csz (emC M0 (cNew C c)).2 - z0 = csz C - z0 + 1 := by show csz C + 1 - z0 = _; omega
  have q2 : csl (emC M0 (cNew C c)).2 - l0 = csl C - l0 + N := by show csl C + nF c - l0 = _; omega
  rw [q1, q2] at h9
  exact h9
theorem r_cnewAI {n : Int} {f : Cd → Option (ρ × Cd)} (u1 : Cond.arrayClass (newarray.typeOf .int) ∈ uw) (hd : decode k.2.1 pc = .ok (.newarray .int, 2))
    (K : ∀ C' : Cd, csz C' = csz C + 1 → RunO l Γ k d enc (emC M0) (pc + 2) lo (.ref (csz C) :: rest) C' (f C')) : RunO l Γ k d enc (emC M0) pc lo (wi n :: rest) C (if 0 ≤ w32 n ∧ w32 n < 1000000 then bnd (cNewA C 100 (ix n)) f else none) := by
  refine ro_if (fun hn => ?_) (fun _ => ro_none)
  intro r σ' hX
  obtain ⟨h1, h2, h3⟩ := K (cNewA C 100 (ix n)) rfl r σ' hX
  have h1' : csz C + 1 ≤ csz σ' := h1
  have h2' : csl C + ix n ≤ csl σ' := h2
  refine ⟨by show csz C ≤ csz σ'; omega, by show csl C ≤ csl σ'; omega, fun p e R s m args below meth c0 hm z0 l0 H locs ls a1 a2 a3 a4 hR hS hl => ?_⟩
  have hK := hm.2.2.2.2.2.2.2.2.1
  have hbase := hm.2.2.2.2.2.2.2.2.2.2.2.2.2.1
  have hts := hm.2.2.2.2.2.1
  have hz : H.size = csz C := hR.2.2
  have hz0 : z0 ≤ csz C := by rw [a1, ← hz]; exact hS.1
  have a3' : csz σ' - z0 ≤ R.cells := a3
  have a4' : csl σ' - l0 ≤ R.slots := a4
  have a2' : l0 ≤ csl C := a2
  have hix : (ix n : Int) = w32 n := by unfold ix; omega
  refine va_newaK (g := F0 m pc ls (wi n :: rest)) (N := ix n) (rest := rest) (h := csz C) hm.1 hm.2.1 (hts _ u1) rfl hd rfl ?_ rfl ?_ (by show csz C - z0 + 1 ≤ R.cells; omega) (by show csl C - l0 + ix n ≤ R.slots; omega) hz fun H1 cA e1 z1 o1 hAr hNm => ?_
  · show ¬ Int32.ofInt n < 0
    have z3 : (0 : Int32) = Int32.ofInt 0 := rfl
    have z4 : w32 0 = 0 := rfl
    rw [z3, w32_lt, z4]
    omega
  · show ix n * componentBytes .int ≤ 536870912
    have : componentBytes .int ≤ 8 := by decide
    have h7 : ix n * componentBytes .int ≤ 1000000 * 8 := Nat.mul_le_mul (by omega) this
    omega
  · have hcA : cA = Γ.2.2.1 0 := by
      have h6 := (hK.2 0 _ rfl).2
      exact Option.some.inj (hNm.symm.trans h6)
    subst hcA
    obtain ⟨g1, g2⟩ := c_grow (C' := cNewA C 100 (ix n)) (e := newA Γ 100 (ix n)) hR hS hbase rfl rfl (cfE_newA (by decide)) (by rw [z1, hz]) (fun q hq => o1 q (by rw [← hz]; exact hq)) e1
    have h9 := h3 p e R s m args below meth c0 hm z0 l0 H1 locs ls a1 (by show l0 ≤ csl C + ix n; omega) a3 a4 g1 g2 hl
    have q1 : csz (emC M0 (cNewA C 100 (ix n))).2 - z0 = csz C - z0 + 1 := by show csz C + 1 - z0 = _; omega
    have q2 : csl (emC M0 (cNewA C 100 (ix n))).2 - l0 = csl C - l0 + ix n := by show csl C + ix n - l0 = _; omega
    rw [q1, q2] at h9
    exact h9
theorem r_cnewAZ {n : Int} {f : Cd → Option (ρ × Cd)} (u1 : Cond.arrayClass (newarray.typeOf .boolean) ∈ uw) (hd : decode k.2.1 pc = .ok (.newarray .boolean, 2))
    (K : ∀ C' : Cd, csz C' = csz C + 1 → RunO l Γ k d enc (emC M0) (pc + 2) lo (.ref (csz C) :: rest) C' (f C')) : RunO l Γ k d enc (emC M0) pc lo (wi n :: rest) C (if 0 ≤ w32 n ∧ w32 n < 1000000 then bnd (cNewA C 101 (ix n)) f else none) := by
  refine ro_if (fun hn => ?_) (fun _ => ro_none)
  intro r σ' hX
  obtain ⟨h1, h2, h3⟩ := K (cNewA C 101 (ix n)) rfl r σ' hX
  have h1' : csz C + 1 ≤ csz σ' := h1
  have h2' : csl C + ix n ≤ csl σ' := h2
  refine ⟨by show csz C ≤ csz σ'; omega, by show csl C ≤ csl σ'; omega, fun p e R s m args below meth c0 hm z0 l0 H locs ls a1 a2 a3 a4 hR hS hl => ?_⟩
  have hK := hm.2.2.2.2.2.2.2.2.1
  have hbase := hm.2.2.2.2.2.2.2.2.2.2.2.2.2.1
  have hts := hm.2.2.2.2.2.1
  have hz : H.size = csz C := hR.2.2
  have hz0 : z0 ≤ csz C := by rw [a1, ← hz]; exact hS.1
  have a3' : csz σ' - z0 ≤ R.cells := a3
  have a4' : csl σ' - l0 ≤ R.slots := a4
  have a2' : l0 ≤ csl C := a2
  have hix : (ix n : Int) = w32 n := by unfold ix; omega
  refine va_newaK (g := F0 m pc ls (wi n :: rest)) (N := ix n) (rest := rest) (h := csz C) hm.1 hm.2.1 (hts _ u1) rfl hd rfl ?_ rfl ?_ (by show csz C - z0 + 1 ≤ R.cells; omega) (by show csl C - l0 + ix n ≤ R.slots; omega) hz fun H1 cA e1 z1 o1 hAr hNm => ?_
  · show ¬ Int32.ofInt n < 0
    have z3 : (0 : Int32) = Int32.ofInt 0 := rfl
    have z4 : w32 0 = 0 := rfl
    rw [z3, w32_lt, z4]
    omega
  · show ix n * componentBytes .boolean ≤ 536870912
    have : componentBytes .boolean ≤ 8 := by decide
    have h7 : ix n * componentBytes .boolean ≤ 1000000 * 8 := Nat.mul_le_mul (by omega) this
    omega
  · have hcA : cA = Γ.2.2.1 1 := by
      have h6 := (hK.2 1 _ rfl).2
      exact Option.some.inj (hNm.symm.trans h6)
    subst hcA
    obtain ⟨g1, g2⟩ := c_grow (C' := cNewA C 101 (ix n)) (e := newA Γ 101 (ix n)) hR hS hbase rfl rfl (cfE_newA (by decide)) (by rw [z1, hz]) (fun q hq => o1 q (by rw [← hz]; exact hq)) e1
    have h9 := h3 p e R s m args below meth c0 hm z0 l0 H1 locs ls a1 (by show l0 ≤ csl C + ix n; omega) a3 a4 g1 g2 hl
    have q1 : csz (emC M0 (cNewA C 101 (ix n))).2 - z0 = csz C - z0 + 1 := by show csz C + 1 - z0 = _; omega
    have q2 : csl (emC M0 (cNewA C 101 (ix n))).2 - l0 = csl C - l0 + ix n := by show csl C + ix n - l0 = _; omega
    rw [q1, q2] at h9
    exact h9
theorem r_cnewAJ {n : Int} {f : Cd → Option (ρ × Cd)} (u1 : Cond.arrayClass (newarray.typeOf .long) ∈ uw) (hd : decode k.2.1 pc = .ok (.newarray .long, 2))
    (K : ∀ C' : Cd, csz C' = csz C + 1 → RunO l Γ k d enc (emC M0) (pc + 2) lo (.ref (csz C) :: rest) C' (f C')) : RunO l Γ k d enc (emC M0) pc lo (wi n :: rest) C (if 0 ≤ w32 n ∧ w32 n < 1000000 then bnd (cNewA C 108 (ix n)) f else none) := by
  refine ro_if (fun hn => ?_) (fun _ => ro_none)
  intro r σ' hX
  obtain ⟨h1, h2, h3⟩ := K (cNewA C 108 (ix n)) rfl r σ' hX
  have h1' : csz C + 1 ≤ csz σ' := h1
  have h2' : csl C + ix n ≤ csl σ' := h2
  refine ⟨by show csz C ≤ csz σ'; omega, by show csl C ≤ csl σ'; omega, fun p e R s m args below meth c0 hm z0 l0 H locs ls a1 a2 a3 a4 hR hS hl => ?_⟩
  have hK := hm.2.2.2.2.2.2.2.2.1
  have hbase := hm.2.2.2.2.2.2.2.2.2.2.2.2.2.1
  have hts := hm.2.2.2.2.2.1
  have hz : H.size = csz C := hR.2.2
  have hz0 : z0 ≤ csz C := by rw [a1, ← hz]; exact hS.1
  have a3' : csz σ' - z0 ≤ R.cells := a3
  have a4' : csl σ' - l0 ≤ R.slots := a4
  have a2' : l0 ≤ csl C := a2
  have hix : (ix n : Int) = w32 n := by unfold ix; omega
  refine va_newaK (g := F0 m pc ls (wi n :: rest)) (N := ix n) (rest := rest) (h := csz C) hm.1 hm.2.1 (hts _ u1) rfl hd rfl ?_ rfl ?_ (by show csz C - z0 + 1 ≤ R.cells; omega) (by show csl C - l0 + ix n ≤ R.slots; omega) hz fun H1 cA e1 z1 o1 hAr hNm => ?_
  · show ¬ Int32.ofInt n < 0
    have z3 : (0 : Int32) = Int32.ofInt 0 := rfl
    have z4 : w32 0 = 0 := rfl
    rw [z3, w32_lt, z4]
    omega
  · show ix n * componentBytes .long ≤ 536870912
    have : componentBytes .long ≤ 8 := by decide
    have h7 : ix n * componentBytes .long ≤ 1000000 * 8 := Nat.mul_le_mul (by omega) this
    omega
  · have hcA : cA = Γ.2.2.1 8 := by
      have h6 := (hK.2 8 _ rfl).2
      exact Option.some.inj (hNm.symm.trans h6)
    subst hcA
    obtain ⟨g1, g2⟩ := c_grow (C' := cNewA C 108 (ix n)) (e := newA Γ 108 (ix n)) hR hS hbase rfl rfl (cfE_newA (by decide)) (by rw [z1, hz]) (fun q hq => o1 q (by rw [← hz]; exact hq)) e1
    have h9 := h3 p e R s m args below meth c0 hm z0 l0 H1 locs ls a1 (by show l0 ≤ csl C + ix n; omega) a3 a4 g1 g2 hl
    have q1 : csz (emC M0 (cNewA C 108 (ix n))).2 - z0 = csz C - z0 + 1 := by show csz C + 1 - z0 = _; omega
    have q2 : csl (emC M0 (cNewA C 108 (ix n))).2 - l0 = csl C - l0 + ix n := by show csl C + ix n - l0 = _; omega
    rw [q1, q2] at h9
    exact h9
theorem r_cnewQ {i t : Nat} {n : Int} {Cn : String} {f : Cd → Option (ρ × Cd)} (ht : (tysOf Γ.2.2.1)[t - 100]? = some (Γ.2.2.1 (t - 100), .object Cn)) (ht0 : ¬ t < 102) (ht2 : ¬ t = 108) (hG : GK Γ l) (u1 : Cond.classLink k.1.cls i Cn ∈ uw) (u2 : Cond.arrayOver (.object Cn) ∈ ux) (hd : decode k.2.1 pc = .ok (.anewarray i, 3))
    (K : ∀ C' : Cd, csz C' = csz C + 1 → RunO l Γ k d enc (emC M0) (pc + 3) lo (.ref (csz C) :: rest) C' (f C')) : RunO l Γ k d enc (emC M0) pc lo (wi n :: rest) C (if 0 ≤ w32 n ∧ w32 n < 1000000 then bnd (cNewA C t (ix n)) f else none) := by
  refine ro_if (fun hn => ?_) (fun _ => ro_none)
  intro r σ' hX
  obtain ⟨h1, h2, h3⟩ := K (cNewA C t (ix n)) rfl r σ' hX
  have h1' : csz C + 1 ≤ csz σ' := h1
  have h2' : csl C + ix n ≤ csl σ' := h2
  refine ⟨by show csz C ≤ csz σ'; omega, by show csl C ≤ csl σ'; omega, fun p e R s m args below meth c0 hm z0 l0 H locs ls a1 a2 a3 a4 hR hS hl => ?_⟩
  have hK := hm.2.2.2.2.2.2.2.2.1
  have hbase := hm.2.2.2.2.2.2.2.2.2.2.2.2.2.1
  have hts := hm.2.2.2.2.2.1
  have hz : H.size = csz C := hR.2.2
  have hz0 : z0 ≤ csz C := by rw [a1, ← hz]; exact hS.1
  have a3' : csz σ' - z0 ≤ R.cells := a3
  have a4' : csl σ' - l0 ≤ R.slots := a4
  have a2' : l0 ≤ csl C := a2
  have hix : (ix n : Int) = w32 n := by unfold ix; omega
  have hix2 : (Int32.ofInt n).toNatClampNeg = ix n := rfl
  refine W.anew (g := F0 m pc ls (wi n :: rest)) (rest := rest) hm.1 hm.2.1 hm.2.2.2.2.1 (hts _ u1) (ux_at hG u2 hm.2.2.2.2.2.2.2.2.2.2.2.2.2.2) rfl hd rfl ?_ (by rw [hix2]; omega) (by show csz C - z0 + 1 ≤ R.cells; omega) (by show csl C - l0 + ix n ≤ R.slots; omega) fun cA kA comp f1 f2 f3 f4 => ?_
  · show ¬ Int32.ofInt n < 0
    have z3 : (0 : Int32) = Int32.ofInt 0 := rfl
    have z4 : w32 0 = 0 := rfl
    rw [z3, w32_lt, z4]
    omega
  · have hcA : cA = Γ.2.2.1 (t - 100) := by
      obtain ⟨kA6, comp6, h61, h62, h63, h64⟩ := (hK.2 (t - 100) _ ht).2
      exact Option.some.inj (f1.symm.trans h64)
    subst hcA
    rw [hix2]
    generalize hH1 : H.push ({ cls := Γ.2.2.1 (t - 100), slots := Array.replicate (ix n) .null, vm := .none } : Cell) = H1
    have z1 : H1.size = H.size + 1 := by rw [← hH1, Array.size_push]
    have e1 : H1[csz C]? = some (arrV (Γ.2.2.1 (t - 100)) (ix n) (fun _ => .null)) := by rw [← hz, ← hH1, Array.getElem?_push_size, ← arrV_new]
    have o1 : ∀ q : Nat, q < H.size → H1[q]? = H[q]? := fun q hq => by rw [← hH1, Array.getElem?_push, if_neg (Nat.ne_of_lt hq)]
    obtain ⟨g1, g2⟩ := c_grow (C' := cNewA C t (ix n)) (e := newA Γ t (ix n)) hR hS hbase rfl rfl (cfE_newA (by omega)) z1 o1 (by
      show H1[csz C]? = some (vp_cell _ _)
      dsimp only
      rw [if_neg ht0, if_neg ht2, vp_cell_q]
      exact e1)
    have h9 := h3 p e R s m args below meth c0 hm z0 l0 H1 locs ls a1 (by show l0 ≤ csl C + ix n; omega) a3 a4 g1 g2 hl
    have q1 : csz (emC M0 (cNewA C t (ix n))).2 - z0 = csz C - z0 + 1 := by show csz C + 1 - z0 = _; omega
    have q2 : csl (emC M0 (cNewA C t (ix n))).2 - l0 = csl C - l0 + ix n := by show csl C + ix n - l0 = _; omega
    rw [q1, q2] at h9
    rw [hz] at *
    exact h9
end CMAKE
