/-! THE JDK'S LIST: its methods -/
section KNOWN
variable {ρ : Type} {l : Launch} {Γ : Cx} {k : Kd} {d : Nat} {enc : ρ → Out} {M0 : Md} {pc : Nat} {lo : List (Nat × Value)} {st rest : List Value} {C : Cd} {X X' : Option (ρ × Cd)} {k2 : Kd} {d2 n i b c N : Nat} {As : List Value} {T : u_T}
theorem ro_pos {c : Prop} [Decidable c] {X1 X2 : Option (ρ × Cd)} (hc : c) (h : RunO l Γ k d enc (emC M0) pc lo st C (if c then X1 else X2)) : RunO l Γ k d enc (emC M0) pc lo st C X1 := by
  rw [if_pos hc] at h
  exact h
theorem ro_neg {c : Prop} [Decidable c] {X1 X2 : Option (ρ × Cd)} (hc : ¬ c) (h : RunO l Γ k d enc (emC M0) pc lo st C (if c then X1 else X2)) : RunO l Γ k d enc (emC M0) pc lo st C X2 := by
  rw [if_neg hc] at h
  exact h
/-- a call whose answer is known -/
theorem ro_callK {ρ2 : Type} {enc2 : ρ2 → Out} {r2 : ρ2} {C2 : Cd} {v : Option Value} {av : List Value} (htb : k.2.2.2.2 = []) (hct : Ct l Γ k2 d2 enc2 (emC M0) av C (some (r2, C2))) (hv : enc2 r2 = .inl v) (hin : Inv l Γ k d k2 d2 av (emC M0) C pc st rest)
    (K : RunO l Γ k d enc (emC M0) (pc + 3) lo (v.toList ++ rest) C2 X) : RunO l Γ k d enc (emC M0) pc lo st C X := by
  classical
  have h : RunO l Γ k d enc (emC M0) pc lo st C ((some (r2, C2)).bind (fun q : ρ2 × Cd => if q.1 = r2 ∧ q.2 = C2 then X else none)) := ro_call (f := fun (r : ρ2) (σ : Cd) => if r = r2 ∧ σ = C2 then X else none) htb hct hin (fun r σ => by
    by_cases hc : r = r2 ∧ σ = C2
    · obtain ⟨rfl, rfl⟩ := hc
      rw [if_pos ⟨rfl, rfl⟩, hv]
      exact K
    · rw [if_neg hc]
      cases enc2 r with
      | inl w => exact ro_none
      | inr E =>
        intro r' σ' h
        cases h)
  have e : ((some (r2, C2)).bind (fun q : ρ2 × Cd => if q.1 = r2 ∧ q.2 = C2 then X else none)) = X := by
    show (if r2 = r2 ∧ C2 = C2 then X else none) = X
    rw [if_pos ⟨rfl, rfl⟩]
  rw [e] at h
  exact h
theorem ro_cS {ρ2 : Type} {enc2 : ρ2 → Out} {r2 : ρ2} {C2 : Cd} {v : Option Value} (hk : KS k2 n) (ul : Cond.methodLink k.1.cls i k2.1 ∈ uw) (htb : k.2.2.2.2 = []) (hct : Ct l Γ k2 d2 enc2 (emC M0) As C (some (r2, C2))) (hv : enc2 r2 = .inl v) (hd2 : d2 + 1 ≤ d) (hn : As.length = n) (hW : (rest.map fun v => v.category).sum ≤ 8) (hd : decode k.2.1 pc = .ok (.invokestatic i, 3)) (hst : As.reverse ++ rest = st)
    (K : RunO l Γ k d enc (emC M0) (pc + 3) lo (v.toList ++ rest) C2 X) : RunO l Γ k d enc (emC M0) pc lo st C X := by
  subst hst
  exact ro_callK htb hct hv (inv_S hk hd2 ul hn hW hd) K
theorem ro_cV {ρ2 : Type} {enc2 : ρ2 → Out} {r2 : ρ2} {C2 : Cd} {v : Option Value} (hk : KV k2 n) (hcl : k2.1.cls = RJx4a65c) (ho : isO C b 2) (ul : Cond.methodLink k.1.cls i k2.1 ∈ uw) (htb : k.2.2.2.2 = []) (hct : Ct l Γ k2 d2 enc2 (emC M0) (.ref b :: As) C (some (r2, C2))) (hv : enc2 r2 = .inl v) (hd2 : d2 + 1 ≤ d) (hn : As.length = n) (hW : (rest.map fun v => v.category).sum ≤ 8) (hd : decode k.2.1 pc = .ok (.invokevirtual i, 3)) (hst : As.reverse ++ .ref b :: rest = st)
    (K : RunO l Γ k d enc (emC M0) (pc + 3) lo (v.toList ++ rest) C2 X) : RunO l Γ k d enc (emC M0) pc lo st C X := by
  subst hst
  refine ro_callK htb hct hv (inv_V hk hd2 ul hn hW hd (fun H s hK hR => ?_)) K
  rw [hcl]
  exact c_rec ho hc_AL (by decide) H s hK hR
theorem ro_cI {C2 : Cd} (hk : KI k2 n) (ul : Cond.methodLink k.1.cls i k2.1 ∈ uw) (htb : k.2.2.2.2 = []) (hct : Ct l Γ k2 d2 encV (emC M0) (.ref b :: As) C (some ((), C2))) (hd2 : d2 + 1 ≤ d) (hn : As.length = n) (hW : (rest.map fun v => v.category).sum ≤ 8) (hd : decode k.2.1 pc = .ok (.invokespecial i, 3)) (hst : As.reverse ++ .ref b :: rest = st)
    (K : RunO l Γ k d enc (emC M0) (pc + 3) lo rest C2 X) : RunO l Γ k d enc (emC M0) pc lo st C X := by
  subst hst
  exact ro_callK htb hct rfl (inv_I hk hd2 ul hn hW hd) K
theorem r_newO {i : Nat} {n : Int} (hG : GK Γ l) (u1 : Cond.classLink k.1.cls i "java/lang/Object" ∈ uw) (hn : 0 ≤ w32 n ∧ w32 n < 1000000) (hd : decode k.2.1 pc = .ok (.anewarray i, 3))
    (K : RunO l Γ k d enc (emC M0) (pc + 3) lo (.ref (csz C) :: rest) (cNewA C 107 (ix n)) X) : RunO l Γ k d enc (emC M0) pc lo (wi n :: rest) C X := by
  classical
  have h := r_cnewQ (k := k) (d := d) (enc := enc) (M0 := M0) (C := C) (lo := lo) (rest := rest) (n := n) (t := 107) (Cn := "java/lang/Object") (f := fun C' => if C' = cNewA C 107 (ix n) then X else none) rfl (by decide) (by decide) hG u1 ul_ao hd (fun C' _ => by
    by_cases hc : C' = cNewA C 107 (ix n)
    · subst hc
      rw [if_pos rfl]
      exact K
    · rw [if_neg hc]
      exact ro_none)
  rw [if_pos hn, bnd_eq, if_pos rfl] at h
  exact h
theorem r_mmax {i : Nat} {x y : Int} (hd1 : 1 ≤ d) (ul : Cond.methodLink k.1.cls i Lib.Math.max.name ∈ uw) (hW : (rest.map fun v => v.category).sum ≤ 8) (hd : decode k.2.1 pc = .ok (.invokestatic i, 3))
    (K : RunO l Γ k d enc (emC M0) (pc + 3) lo (wi (if w32 x < w32 y then y else x) :: rest) C X) : RunO l Γ k d enc (emC M0) pc lo (wi y :: wi x :: rest) C X := by
  intro r σ' hX
  obtain ⟨h1, h2, h3⟩ := K r σ' hX
  have h1' : csz C ≤ csz σ' := h1
  have h2' : csl C ≤ csl σ' := h2
  refine ⟨h1, h2, fun p e R s m args below meth c hm z0 l0 H locs ls a1 a2 a3 a4 hR hS hl => ?_⟩
  have hdf := hm.2.2.2.2.2.2.2.2.2.1
  have hdl := hm.2.2.2.2.2.2.2.2.2.2.1
  have hts := hm.2.2.2.2.2.1
  have a3' : csz σ' - z0 ≤ R.cells := a3
  have a4' : csl σ' - l0 ≤ R.slots := a4
  refine va_mmax hm.1 hm.2.1 (by rw [hm.2.2.2.1]; exact hl.1.symm) hm.2.2.2.2.1 (hts _ ul) (hts _ (show Cond.static Lib.Math.max.name ∈ uw from kv_mMax.2.2.1)) (hts _ (show Cond.initialized "java/lang/Math" ∈ uw from kv_mMax.2.1)) (hts _ (show Cond.code Lib.Math.max.name Lib.Math.max.code 2 (some .int) ∈ uw from kv_mMax.1)) (by omega) (by omega) (by show csz C - z0 ≤ R.cells; omega) (by show csl C - l0 ≤ R.slots; omega) hd ?_
  have h4 := h3 p e R s m args below meth c hm z0 l0 H locs ls a1 a2 a3 a4 hR hS hl
  by_cases c9 : w32 x < w32 y
  · rw [if_pos c9] at h4
    rw [if_pos (w32_lt.mpr c9)]
    exact h4
  · rw [if_neg c9] at h4
    rw [if_neg (fun z => c9 (w32_lt.mp z))]
    exact h4
theorem r_mmin {i : Nat} {x y : Int} (hd1 : 1 ≤ d) (ul : Cond.methodLink k.1.cls i Lib.Math.min.name ∈ uw) (hW : (rest.map fun v => v.category).sum ≤ 8) (hd : decode k.2.1 pc = .ok (.invokestatic i, 3))
    (K : RunO l Γ k d enc (emC M0) (pc + 3) lo (wi (if w32 y < w32 x then y else x) :: rest) C X) : RunO l Γ k d enc (emC M0) pc lo (wi y :: wi x :: rest) C X := by
  intro r σ' hX
  obtain ⟨h1, h2, h3⟩ := K r σ' hX
  have h1' : csz C ≤ csz σ' := h1
  have h2' : csl C ≤ csl σ' := h2
  refine ⟨h1, h2, fun p e R s m args below meth c hm z0 l0 H locs ls a1 a2 a3 a4 hR hS hl => ?_⟩
  have hdf := hm.2.2.2.2.2.2.2.2.2.1
  have hdl := hm.2.2.2.2.2.2.2.2.2.2.1
  have hts := hm.2.2.2.2.2.1
  have a3' : csz σ' - z0 ≤ R.cells := a3
  have a4' : csl σ' - l0 ≤ R.slots := a4
  refine va_mmin hm.1 hm.2.1 (by rw [hm.2.2.2.1]; exact hl.1.symm) hm.2.2.2.2.1 (hts _ ul) (hts _ (show Cond.static Lib.Math.min.name ∈ uw from kv_mMin.2.2.1)) (hts _ (show Cond.initialized "java/lang/Math" ∈ uw from kv_mMin.2.1)) (hts _ (show Cond.code Lib.Math.min.name Lib.Math.min.code 2 (some .int) ∈ uw from kv_mMin.1)) (by omega) (by omega) (by show csz C - z0 ≤ R.cells; omega) (by show csl C - l0 ≤ R.slots; omega) hd ?_
  have h4 := h3 p e R s m args below meth c hm z0 l0 H locs ls a1 a2 a3 a4 hR hS hl
  by_cases c9 : w32 y < w32 x
  · rw [if_pos c9] at h4
    rw [if_pos (w32_lt.mpr c9)]
    exact h4
  · rw [if_neg c9] at h4
    rw [if_neg (fun z => c9 (w32_lt.mp z))]
    exact h4
/-- the picture's cells lie in the heap -/
theorem ro_wf (hmono : ∀ r σ', X = some (r, σ') → csz C ≤ csz σ' ∧ csl C ≤ csl σ') (K : (∀ x, x ∈ cL C → x < csz C) → RunO l Γ k d enc (emC M0) pc lo st C X) : RunO l Γ k d enc (emC M0) pc lo st C X := by
  intro r σ' hX
  by_cases hW : ∀ x, x ∈ cL C → x < csz C
  · exact K hW r σ' hX
  · refine ⟨(hmono r σ' hX).1, (hmono r σ' hX).2, fun p e R s m args below meth c0 hm z0 l0 H locs ls a1 a2 a3 a4 hR hS hl => absurd (fun x hx => ?_) hW⟩
    obtain ⟨q, hq⟩ := cw_at (Γ := Γ) (M0 := M0) hx
    have h1 := (hR.1 q _ hq).lt
    have h2 : H.size = csz C := hR.2.2
    rw [← h2]
    exact h1
end KNOWN
section LMETH
variable {l : Launch} {Γ : Cx} {M0 : Md}
theorem c_nLen (o g q m : Int) (C : Cd) (hm : (if w32 g < w32 q then q else g) = m) (h1 : 0 < w32 (o + m)) (h2 : w32 (o + m) ≤ 2147483639) : Ct l Γ k_nLen 2 encI (emC M0) [wi o, wi g, wi q] C (some (o + m, C)) := by
  refine ct_of (by decide +kernel) rfl (Nat.le_of_ble_eq_true rfl) ?_
  refine r_lo [0, 1, 2] (lo2 := [(0, wi o), (1, wi g), (2, wi q)]) rfl ?_
  refine r_iload_n (x := o) d_nLen_0 rfl rfl ?_
  refine r_iload_n (x := g) d_nLen_1 rfl rfl ?_
  refine r_iload_n (x := q) d_nLen_2 rfl rfl ?_
  refine r_mmax (x := g) (y := q) (by decide) ul_RJ8_194 (Nat.le_of_ble_eq_true rfl) d_nLen_3 ?_
  rw [hm]
  refine r_iadd (x := o) (y := m) d_nLen_6 ?_
  refine r_istore_n (lo2 := [(3, wi (o + m)), (0, wi o), (1, wi g), (2, wi q)]) d_nLen_7 rfl (by decide) rfl ?_
  refine ro_iconst (v := 0) d_nLen_8 rfl ?_
  refine r_iload_n (x := o + m) d_nLen_9 rfl rfl ?_
  refine ro_neg (c := w32 (o + m) ≤ w32 0) (by rw [show w32 0 = 0 from rfl]; omega) (r_icmp_ge (X1 := none) (tgt := 21) d_nLen_10 (by decide) ro_none ?_)
  refine r_iload_n (x := o + m) d_nLen_13 rfl rfl ?_
  refine r_ldc (v := 2147483639) ul_RJ8_200 d_nLen_14 ?_
  refine ro_neg (c := w32 2147483639 < w32 (o + m)) (by rw [show w32 2147483639 = 2147483639 from rfl]; omega) (r_icmp_gt (X1 := none) (tgt := 21) d_nLen_16 (by decide) ro_none ?_)
  refine r_iload_n (x := o + m) d_nLen_19 rfl rfl ?_
  exact r_iret rfl d_nLen_20
theorem c_pChk (i n : Int) (C : Cd) (h1 : 0 ≤ w32 i) (h2 : w32 i < w32 n) : Ct l Γ k_pChk 1 encI (emC M0) [wi i, wi n, .null] C (some (i, C)) := by
  refine ct_of (by decide +kernel) rfl (Nat.le_of_ble_eq_true rfl) ?_
  refine r_lo [0, 1] (lo2 := [(0, wi i), (1, wi n)]) rfl ?_
  refine r_iload_n (x := i) d_pChk_0 rfl rfl ?_
  refine ro_neg (c := w32 i < 0) (by omega) (r_if_lt (X1 := none) (tgt := 9) d_pChk_1 (by decide) ro_none ?_)
  refine r_iload_n (x := i) d_pChk_4 rfl rfl ?_
  refine r_iload_n (x := n) d_pChk_5 rfl rfl ?_
  refine ro_pos h2 (r_icmp_lt (X2 := none) (tgt := 16) d_pChk_6 (by decide) ?_ ro_none)
  refine r_iload_n (x := i) d_pChk_16 rfl rfl ?_
  exact r_iret rfl d_pChk_17
theorem c_oChk (i n : Int) (C : Cd) (h1 : 0 ≤ w32 i) (h2 : w32 i < w32 n) : Ct l Γ k_oChk 2 encI (emC M0) [wi i, wi n] C (some (i, C)) := by
  refine ct_of (by decide +kernel) rfl (Nat.le_of_ble_eq_true rfl) ?_
  refine r_lo [0, 1] (lo2 := [(0, wi i), (1, wi n)]) rfl ?_
  refine r_iload_n (x := i) d_oChk_0 rfl rfl ?_
  refine r_iload_n (x := n) d_oChk_1 rfl rfl ?_
  refine r_null d_oChk_2 ?_
  refine ro_cS (k2 := k_pChk) (n := 3) (As := [wi i, wi n, .null]) (rest := []) kv_pChk ul_RJ15_105 rfl (c_pChk i n C h1 h2) rfl (by decide) rfl (Nat.le_of_ble_eq_true rfl) d_oChk_3 rfl ?_
  exact r_iret rfl d_oChk_6
theorem c_AL_size (hG : GK Γ l) (a : Nat) (C : Cd) : Ct l Γ k_AL_size 1 encI (emC M0) [.ref a] C (fAL_size a C) := by
  refine ct_of (by decide +kernel) rfl (Nat.le_of_ble_eq_true rfl) ?_
  refine r_lo [0] (lo2 := [(0, .ref a)]) rfl ?_
  unfold fAL_size
  refine r_aload_n (x := a) d_AL_size_0 rfl rfl ?_
  refine ro_if (fun ho => ?_) (fun _ => ro_none)
  refine r_agI (kk := 2) (ref := "java/util/ArrayList") (by decide) ul_RJx4a65c_48 (fun s args h x hx => hx) rfl ho d_AL_size_1 ?_
  exact r_iret rfl d_AL_size_4
theorem c_AL_el (hG : GK Γ l) (a e : Nat) (i : Int) (C : Cd) (ho : isO C a 2) (he : cR C 201 a = some e) (ho2 : isO C e 107) (hi : inR i (cn C e)) : Ct l Γ k_AL_el 1 encR (emC M0) [.ref a, wi i] C (some (cP C e (ix i), C)) := by
  refine ct_of (by decide +kernel) rfl (Nat.le_of_ble_eq_true rfl) ?_
  refine r_lo [0, 1] (lo2 := [(0, .ref a), (1, wi i)]) rfl ?_
  refine r_aload_n (x := a) d_AL_el_0 rfl rfl ?_
  refine r_getE hG ul_RJx4a65c_9 ho he ho2.1 d_AL_el_1 ?_
  refine r_iload_n (x := i) d_AL_el_4 rfl rfl ?_
  refine ro_pos (c := isO C e 107 ∧ inR i (cn C e)) ⟨ho2, hi⟩ (X2 := none) ?_
  refine r_caald (t := 107) (f := fun z => some (z, C)) rfl (by decide) (by decide) d_AL_el_5 (fun z => ?_)
  exact r_aret rfl (Or.inl ⟨_, rfl⟩) d_AL_el_6
theorem c_AL_get (hG : GK Γ l) (a : Nat) (i : Int) (C : Cd) : Ct l Γ k_AL_get 4 encR (emC M0) [.ref a, wi i] C (fAL_get a i C) := by
  refine ct_of (by decide +kernel) rfl (Nat.le_of_ble_eq_true rfl) ?_
  refine r_lo [0, 1] (lo2 := [(0, .ref a), (1, wi i)]) rfl ?_
  unfold fAL_get
  refine ro_if (fun ho => ?_) (fun _ => ro_none)
  cases hz : cR C 201 a with
  | none => exact ro_none
  | some e =>
    rw [drf_some]
    refine ro_if (fun hc => ?_) (fun _ => ro_none)
    obtain ⟨⟨h1, h2⟩, h3, h4⟩ := hc
    refine r_iload_n (x := i) d_AL_get_0 rfl rfl ?_
    refine r_aload_n (x := a) d_AL_get_1 rfl rfl ?_
    refine r_agI (kk := 2) (ref := "java/util/ArrayList") (by decide) ul_RJx4a65c_48 (fun s args h x hx => hx) rfl ho d_AL_get_2 ?_
    refine ro_cS (k2 := k_oChk) (n := 2) (As := [wi i, wi (cI C 202 a)]) (rest := []) kv_oChk ul_RJx4a65c_118 rfl (c_oChk i (cI C 202 a) C h1 h2) rfl (by decide) rfl (Nat.le_of_ble_eq_true rfl) d_AL_get_5 rfl ?_
    refine r_pop d_AL_get_8 rfl ?_
    refine r_aload_n (x := a) d_AL_get_9 rfl rfl ?_
    refine r_iload_n (x := i) d_AL_get_10 rfl rfl ?_
    refine ro_cV (k2 := k_AL_el) (n := 1) (As := [wi i]) (rest := []) kv_AL_el rfl ho ul_RJx4a65c_123 rfl (c_AL_el hG a e i C ho hz h3 h4) rfl (by decide) rfl (Nat.le_of_ble_eq_true rfl) d_AL_get_11 rfl ?_
    exact r_aret rfl (Or.inl ⟨_, rfl⟩) d_AL_get_14
theorem c_ACol (hG : GK Γ l) (a : Nat) (C : Cd) : Ct l Γ k_ACol 2 encV (emC M0) [.ref a] C (some ((), C)) := by
  refine ct_of (by decide +kernel) rfl (Nat.le_of_ble_eq_true rfl) ?_
  refine r_lo [0] (lo2 := [(0, .ref a)]) rfl ?_
  refine r_aload_n (x := a) d_ACol_0 rfl rfl ?_
  refine r_objInit (by decide) ul_obj uoi uoc (Nat.le_of_ble_eq_true rfl) d_ACol_1 ?_
  exact r_vret rfl d_ACol_4
theorem c_ALst (hG : GK Γ l) (a : Nat) (C : Cd) (ho : isO C a 2) : Ct l Γ k_ALst 3 encV (emC M0) [.ref a] C (some ((), cSetI C 200 a 0)) := by
  refine ct_of (by decide +kernel) rfl (Nat.le_of_ble_eq_true rfl) ?_
  refine r_lo [0] (lo2 := [(0, .ref a)]) rfl ?_
  refine r_aload_n (x := a) d_ALst_0 rfl rfl ?_
  refine ro_cI (k2 := k_ACol) (n := 0) (As := []) (rest := []) kv_ACol ul_RJxc12de_1 rfl (c_ACol hG a C) (by decide) rfl (Nat.le_of_ble_eq_true rfl) d_ALst_1 rfl ?_
  refine r_aload_n (x := a) d_ALst_4 rfl rfl ?_
  refine ro_iconst (v := 0) d_ALst_5 rfl ?_
  refine r_apI (kk := 0) (ref := "java/util/AbstractList") (by decide) ul_RJxc12de_7 (fun s args h x hx => hx) rfl rfl rfl ho d_ALst_6 ?_
  exact r_vret rfl d_ALst_9
theorem cI_self {C : Cd} {k a : Nat} {v : Int} (h : cI C k a = v) : cSetI C k a v = C := by
  refine Prod.ext ?_ rfl
  funext k' a'
  show (if k' = k ∧ a' = a then v else cI C k' a') = cI C k' a'
  by_cases c : k' = k ∧ a' = a
  · rw [if_pos c, c.1, c.2, h]
  · rw [if_neg c]
theorem c_AL_init (hG : GK Γ l) (a : Nat) (C : Cd) : Ct l Γ k_AL_init 4 encV (emC M0) [.ref a] C (fAL_init a C) := by
  refine ct_of (by decide +kernel) rfl (Nat.le_of_ble_eq_true rfl) ?_
  refine r_lo [0] (lo2 := [(0, .ref a)]) rfl ?_
  unfold fAL_init
  refine ro_if (fun hc => ?_) (fun _ => ro_none)
  obtain ⟨ho, h0⟩ := hc
  refine r_aload_n (x := a) d_AL_init_0 rfl rfl ?_
  refine ro_cI (k2 := k_ALst) (n := 0) (As := []) (rest := []) kv_ALst ul_RJx4a65c_1 rfl (c_ALst hG a C ho) (by decide) rfl (Nat.le_of_ble_eq_true rfl) d_AL_init_1 rfl ?_
  rw [cI_self h0]
  refine r_aload_n (x := a) d_AL_init_4 rfl rfl ?_
  refine r_gsE hG ul_RJx4a65c_39 d_AL_init_5 ?_
  refine r_putQ (x := some 0) ul_RJx4a65c_9 ho (fun s H h1 h2 => rN_0 Γ) d_AL_init_8 ?_
  exact r_vret rfl d_AL_init_11
/-! making room -/
theorem alCopy_eq {C : Cd} {e N : Nat} (hW : ∀ x, x ∈ cL C → x < csz C) (he : e ∈ cL C) : cCpy (cNewA C 107 N) (csz C) (va_cpy (cP (cNewA C 107 N) e) (cP (cNewA C 107 N) (csz C)) 0 0 (cn C e)) = alCopy C e N := by
  have hne : e ≠ csz C := Nat.ne_of_lt (hW e he)
  refine Prod.ext rfl (Prod.ext rfl (Prod.ext rfl (Prod.ext ?_ rfl)))
  funext a j
  show (if a = csz C then va_cpy (cP (cNewA C 107 N) e) (cP (cNewA C 107 N) (csz C)) 0 0 (cn C e) j else (if a = csz C then none else cP C a j)) = (if a = csz C then (if j < cn C e then cP C e j else none) else cP C a j)
  by_cases c : a = csz C
  · rw [if_pos c, if_pos c]
    unfold va_cpy
    by_cases c2 : j < cn C e
    · rw [if_pos ⟨Nat.zero_le _, by omega⟩, if_pos c2]
      show (if e = csz C then none else cP C e (0 + (j - 0))) = _
      rw [if_neg hne, Nat.zero_add, Nat.sub_zero]
    · rw [if_neg (by omega), if_neg c2]
      show (if csz C = csz C then none else cP C (csz C) j) = none
      rw [if_pos rfl]
  · rw [if_neg c, if_neg c, if_neg c]
theorem c_cpO3 (hG : GK Γ l) (e N : Nat) (C : Cd) (hW : ∀ x, x ∈ cL C → x < csz C) (ho : isO C e 107) (hN : N < 1000000) (hn : cn C e ≤ N) (hel : ∀ j, j < cn C e → okc C (cP C e j) 13 = true) : Ct l Γ k_cpO3 3 encR (emC M0) [.ref e, wi (N : Int), .ref (Γ.2.2.1 61)] C (some (some (csz C), alCopy C e N)) := by
  have hne : e ≠ csz C := Nat.ne_of_lt (hW e ho.1)
  have hwN : w32 (N : Int) = N := w32_n (by omega)
  have hwn : w32 (cn C e : Int) = cn C e := w32_n (by omega)
  have ixN : ix (N : Int) = N := ix_n (by omega)
  have ixn : ix (cn C e : Int) = cn C e := ix_n (by omega)
  have ix0 : ix 0 = 0 := rfl
  have o1 : isO (cNewA C 107 N) e 107 := ⟨List.mem_append_left _ ho.1, by show (if e = csz C then 107 else cty C e) = 107; rw [if_neg hne]; exact ho.2⟩
  have o2 : isO (cNewA C 107 N) (csz C) 107 := ⟨List.mem_append_right _ (List.mem_singleton.mpr rfl), by show (if csz C = csz C then 107 else cty C (csz C)) = 107; rw [if_pos rfl]⟩
  have n1 : cn (cNewA C 107 N) e = cn C e := by show (if e = csz C then N else cn C e) = _; rw [if_neg hne]
  have n2 : cn (cNewA C 107 N) (csz C) = N := by show (if csz C = csz C then N else cn C (csz C)) = _; rw [if_pos rfl]
  refine ct_of (by decide +kernel) rfl (Nat.le_of_ble_eq_true rfl) ?_
  refine r_lo [0, 1, 2] (lo2 := [(0, .ref e), (1, wi (N : Int)), (2, .ref (Γ.2.2.1 61))]) rfl ?_
  refine r_aload_n (x := Γ.2.2.1 61) d_cpO3_0 rfl rfl ?_
  refine r_ldcO hG ul_cl110 d_cpO3_1 ?_
  refine ro_neg (c := ¬ (some (Γ.2.2.1 61) : Option Nat) = some (Γ.2.2.1 61)) (fun z => z rfl) (r_acmp_ne (X1 := none) (tgt := 13) d_cpO3_3 (by decide) ro_none ?_)
  refine r_iload_n (x := (N : Int)) d_cpO3_6 rfl rfl ?_
  refine r_newO hG ul_cl2 (by rw [hwN]; omega) d_cpO3_7 ?_
  rw [ixN]
  refine r_goto (tgt := 24) d_cpO3_10 (by decide) ?_
  refine r_astore_n (lo2 := [(3, .ref (csz C)), (0, .ref e), (1, wi (N : Int)), (2, .ref (Γ.2.2.1 61))]) d_cpO3_24 rfl (by decide) rfl ?_
  refine r_aload_n (x := e) d_cpO3_25 rfl rfl ?_
  refine ro_iconst (v := 0) d_cpO3_26 rfl ?_
  refine r_aload_n (x := csz C) d_cpO3_27 rfl rfl ?_
  refine ro_iconst (v := 0) d_cpO3_28 rfl ?_
  refine r_aload_n (x := e) d_cpO3_29 rfl rfl ?_
  refine ro_pos o1 (r_calen (X := some (some (csz C), alCopy C e N)) (t := 107) rfl (by decide) d_cpO3_30 ?_)
  rw [n1]
  refine r_iload_n (x := (N : Int)) d_cpO3_31 rfl rfl ?_
  refine r_mmin (x := (cn C e : Int)) (y := (N : Int)) (by decide) ul_RJ7_304 (Nat.le_of_ble_eq_true rfl) d_cpO3_32 ?_
  rw [if_neg (by rw [hwN, hwn]; omega)]
  refine r_cpyO (n := (cn C e : Int)) (sp := 0) (dp := 0) (a := csz C) (a0 := e) (rest := []) hG (by decide) ul_RJ7_150 o1 o2 (by decide) (by decide) (by rw [hwn]; omega) (by rw [ix0, ixn, n1]; omega) (by rw [ix0, ixn, n2]; omega) (fun j hj => ?_) (Nat.le_of_ble_eq_true rfl) d_cpO3_35 ?_
  · rw [ixn] at hj
    rw [ix0, Nat.zero_add]
    have h9 := hel j hj
    have e9 : cP (cNewA C 107 N) e j = cP C e j := by show (if e = csz C then none else cP C e j) = _; rw [if_neg hne]
    rw [e9]
    cases hy : cP C e j with
    | none => rfl
    | some y =>
      rw [hy] at h9
      have h9 : isO C y 13 := of_decide_eq_true h9
      have hyz : y ≠ csz C := Nat.ne_of_lt (hW y h9.1)
      exact decide_eq_true (⟨List.mem_append_left _ h9.1, by show (if y = csz C then 107 else cty C y) = 13; rw [if_neg hyz]; exact h9.2⟩ : isO (cNewA C 107 N) y 13)
  · rw [ix0, ixn, alCopy_eq hW ho.1]
    refine r_aload_n (x := csz C) d_cpO3_38 rfl rfl ?_
    exact r_aret (x := some (csz C)) rfl (Or.inr ⟨_, rfl⟩) d_cpO3_39
theorem c_cpO2 (hG : GK Γ l) (e N : Nat) (C : Cd) (hW : ∀ x, x ∈ cL C → x < csz C) (ho : isO C e 107) (hN : N < 1000000) (hn : cn C e ≤ N) (hel : ∀ j, j < cn C e → okc C (cP C e j) 13 = true) : Ct l Γ k_cpO2 4 encR (emC M0) [.ref e, wi (N : Int)] C (some (some (csz C), alCopy C e N)) := by
  refine ct_of (by decide +kernel) rfl (Nat.le_of_ble_eq_true rfl) ?_
  refine r_lo [0, 1] (lo2 := [(0, .ref e), (1, wi (N : Int))]) rfl ?_
  refine r_aload_n (x := e) d_cpO2_0 rfl rfl ?_
  refine r_iload_n (x := (N : Int)) d_cpO2_1 rfl rfl ?_
  refine r_aload_n (x := e) d_cpO2_2 rfl rfl ?_
  refine r_gcO hG (by decide) rfl ho (Nat.le_of_ble_eq_true rfl) d_cpO2_3 ?_
  refine ro_cS (k2 := k_cpO3) (n := 3) (As := [.ref e, wi (N : Int), .ref (Γ.2.2.1 61)]) (rest := []) kv_cpO3 ul_RJ7_300 rfl (c_cpO3 hG e N C hW ho hN hn hel) rfl (by decide) rfl (Nat.le_of_ble_eq_true rfl) d_cpO2_6 rfl ?_
  exact r_aret (x := some (csz C)) rfl (Or.inr ⟨_, rfl⟩) d_cpO2_9
/-- the first row -/
theorem c_grow1E (hG : GK Γ l) (a : Nat) (m : Int) (C : Cd) (hW : ∀ x, x ∈ cL C → x < csz C) (ho : isO C a 2) (he : cR C 201 a = some 0) (hm : w32 m ≤ 10) : Ct l Γ k_AL_grow1 5 encR (emC M0) [.ref a, wi m] C (some (some (csz C), cSetR (cNewA C 107 10) 201 a (some (csz C)))) := by
  have hne : a ≠ csz C := Nat.ne_of_lt (hW a ho.1)
  have hin : csz C ∈ cL (cNewA C 107 10) := List.mem_append_right _ (List.mem_singleton.mpr rfl)
  have o1 : isO (cNewA C 107 10) a 2 := ⟨List.mem_append_left _ ho.1, by show (if a = csz C then 107 else cty C a) = 2; rw [if_neg hne]; exact ho.2⟩
  refine ct_of (by decide +kernel) rfl (Nat.le_of_ble_eq_true rfl) ?_
  refine r_lo [0, 1] (lo2 := [(0, .ref a), (1, wi m)]) rfl ?_
  refine r_aload_n (x := a) d_AL_grow1_0 rfl rfl ?_
  refine r_getE0 ul_RJx4a65c_9 ho he d_AL_grow1_1 ?_
  refine r_lenE hG d_AL_grow1_4 ?_
  refine r_istore_n (lo2 := [(2, wi 0), (0, .ref a), (1, wi m)]) d_AL_grow1_5 rfl (by decide) rfl ?_
  refine r_iload_n (x := 0) d_AL_grow1_6 rfl rfl ?_
  refine ro_neg (c := 0 < w32 0) (by decide) (r_if_gt (X1 := none) (tgt := 20) d_AL_grow1_7 (by decide) ro_none ?_)
  refine r_aload_n (x := a) d_AL_grow1_10 rfl rfl ?_
  refine r_getE0 ul_RJx4a65c_9 ho he d_AL_grow1_11 ?_
  refine r_gsE hG ul_RJx4a65c_39 d_AL_grow1_14 ?_
  refine ro_pos (c := (some (Γ.2.2.1 60) : Option Nat) = some (Γ.2.2.1 60)) rfl (r_acmp_eq (X2 := none) (tgt := 45) d_AL_grow1_17 (by decide) ?_ ro_none)
  refine r_aload_n (x := a) d_AL_grow1_45 rfl rfl ?_
  refine r_bipush (v := 10) d_AL_grow1_46 rfl ?_
  refine r_iload_n (x := m) d_AL_grow1_48 rfl rfl ?_
  refine r_mmax (x := 10) (y := m) (by decide) ul_RJx4a65c_79 (Nat.le_of_ble_eq_true rfl) d_AL_grow1_49 ?_
  rw [if_neg (by rw [show w32 10 = 10 from rfl]; omega)]
  refine r_newO hG ul_cl7 (by decide) d_AL_grow1_52 ?_
  rw [show ix 10 = 10 from rfl]
  refine r_dupx1 d_AL_grow1_55 rfl rfl ?_
  refine r_putQ (x := some (csz C)) ul_RJx4a65c_9 o1 (fun s H h1 h2 => rN_s (al_ne hG h1 h2 hin)) d_AL_grow1_56 ?_
  exact r_aret (x := some (csz C)) rfl (Or.inr ⟨_, rfl⟩) d_AL_grow1_59
/-- a longer copy -/
theorem c_grow1C (hG : GK Γ l) (a e : Nat) (m : Int) (C : Cd) (hW : ∀ x, x ∈ cL C → x < csz C) (ho : isO C a 2) (he : cR C 201 a = some e) (ho2 : isO C e 107) (h2 : 2 ≤ cn C e) (h4 : cn C e ≤ 40000) (hel : ∀ j, j < cn C e → okc C (cP C e j) 13 = true) (hm : w32 (m - (cn C e : Int)) = 1) : Ct l Γ k_AL_grow1 5 encR (emC M0) [.ref a, wi m] C (some (some (csz C), cSetR (alCopy C e (cn C e + cn C e / 2)) 201 a (some (csz C)))) := by
  have hne : a ≠ csz C := Nat.ne_of_lt (hW a ho.1)
  have hin : csz C ∈ cL (alCopy C e (cn C e + cn C e / 2)) := List.mem_append_right _ (List.mem_singleton.mpr rfl)
  have o1 : isO (alCopy C e (cn C e + cn C e / 2)) a 2 := ⟨List.mem_append_left _ ho.1, by show (if a = csz C then 107 else cty C a) = 2; rw [if_neg hne]; exact ho.2⟩
  have hsh : shrI (cn C e : Int) 1 = ((cn C e / 2 : Nat) : Int) := shrI_N (k := 1) (by decide) (by omega)
  have hwn : w32 (cn C e : Int) = cn C e := w32_n (by omega)
  have hwh : w32 ((cn C e / 2 : Nat) : Int) = ((cn C e / 2 : Nat) : Int) := w32_n (by omega)
  have hsum : (cn C e : Int) + ((cn C e / 2 : Nat) : Int) = ((cn C e + cn C e / 2 : Nat) : Int) := by omega
  have hws : w32 ((cn C e + cn C e / 2 : Nat) : Int) = ((cn C e + cn C e / 2 : Nat) : Int) := w32_n (by omega)
  refine ct_of (by decide +kernel) rfl (Nat.le_of_ble_eq_true rfl) ?_
  refine r_lo [0, 1] (lo2 := [(0, .ref a), (1, wi m)]) rfl ?_
  refine r_aload_n (x := a) d_AL_grow1_0 rfl rfl ?_
  refine r_getE hG ul_RJx4a65c_9 ho he ho2.1 d_AL_grow1_1 ?_
  refine ro_pos (X2 := none) ho2 (r_calen (t := 107) rfl (by decide) d_AL_grow1_4 ?_)
  refine r_istore_n (lo2 := [(2, wi (cn C e : Int)), (0, .ref a), (1, wi m)]) d_AL_grow1_5 rfl (by decide) rfl ?_
  refine r_iload_n (x := (cn C e : Int)) d_AL_grow1_6 rfl rfl ?_
  refine ro_pos (c := 0 < w32 (cn C e : Int)) (by rw [hwn]; omega) (r_if_gt (X2 := none) (tgt := 20) d_AL_grow1_7 (by decide) ?_ ro_none)
  refine r_iload_n (x := (cn C e : Int)) d_AL_grow1_20 rfl rfl ?_
  refine r_iload_n (x := m) d_AL_grow1_21 rfl rfl ?_
  refine r_iload_n (x := (cn C e : Int)) d_AL_grow1_22 rfl rfl ?_
  refine r_isub d_AL_grow1_23 ?_
  refine r_iload_n (x := (cn C e : Int)) d_AL_grow1_24 rfl rfl ?_
  refine ro_iconst (v := 1) d_AL_grow1_25 rfl ?_
  refine r_ishr d_AL_grow1_26 ?_
  rw [hsh]
  by_cases c1 : 1 < cn C e / 2
  · refine ro_cS (k2 := k_nLen) (n := 3) (As := [wi (cn C e : Int), wi (m - (cn C e : Int)), wi ((cn C e / 2 : Nat) : Int)]) (rest := []) kv_nLen ul_RJx4a65c_73 rfl (c_nLen (cn C e : Int) (m - (cn C e : Int)) ((cn C e / 2 : Nat) : Int) ((cn C e / 2 : Nat) : Int) C (by rw [if_pos]; rw [hm, hwh]; omega) (by rw [hsum, hws]; omega) (by rw [hsum, hws]; omega)) rfl (by decide) rfl (Nat.le_of_ble_eq_true rfl) d_AL_grow1_27 rfl ?_
    rw [hsum]
    refine r_istore_n (lo2 := [(3, wi ((cn C e + cn C e / 2 : Nat) : Int)), (2, wi (cn C e : Int)), (0, .ref a), (1, wi m)]) d_AL_grow1_30 rfl (by decide) rfl ?_
    refine r_aload_n (x := a) d_AL_grow1_31 rfl rfl ?_
    refine r_aload_n (x := a) d_AL_grow1_32 rfl rfl ?_
    refine r_getE hG ul_RJx4a65c_9 ho he ho2.1 d_AL_grow1_33 ?_
    refine r_iload_n (x := ((cn C e + cn C e / 2 : Nat) : Int)) d_AL_grow1_36 rfl rfl ?_
    refine ro_cS (k2 := k_cpO2) (n := 2) (As := [.ref e, wi ((cn C e + cn C e / 2 : Nat) : Int)]) (rest := [.ref a]) kv_cpO2 ul_RJx4a65c_66 rfl (c_cpO2 hG e (cn C e + cn C e / 2) C hW ho2 (by omega) (by omega) hel) rfl (by decide) rfl (Nat.le_of_ble_eq_true rfl) d_AL_grow1_37 rfl ?_
    refine r_dupx1 (va := .ref (csz C)) (vb := .ref a) d_AL_grow1_40 rfl rfl ?_
    refine r_putQ (x := some (csz C)) ul_RJx4a65c_9 o1 (fun s H h1 h2 => rN_s (al_ne hG h1 h2 hin)) d_AL_grow1_41 ?_
    exact r_aret (x := some (csz C)) rfl (Or.inr ⟨_, rfl⟩) d_AL_grow1_44
  · have hw1 : wi ((cn C e : Int) + (m - (cn C e : Int))) = wi ((cn C e + cn C e / 2 : Nat) : Int) := by
      have h1 : Int32.ofInt (m - (cn C e : Int)) = Int32.ofInt 1 := w32_eq.mpr (by rw [hm]; rfl)
      show Value.int (Int32.ofInt _) = Value.int (Int32.ofInt _)
      rw [Int32.ofInt_add, h1, ← Int32.ofInt_add]
      have h3 : cn C e / 2 = 1 := by omega
      rw [h3]
      rfl
    have hw2 : w32 ((cn C e : Int) + (m - (cn C e : Int))) = ((cn C e + cn C e / 2 : Nat) : Int) := by
      have h3 : Int32.ofInt ((cn C e : Int) + (m - (cn C e : Int))) = Int32.ofInt ((cn C e + cn C e / 2 : Nat) : Int) := by
        injection hw1
      rw [w32_eq.mp h3, hws]
    refine ro_cS (k2 := k_nLen) (n := 3) (As := [wi (cn C e : Int), wi (m - (cn C e : Int)), wi ((cn C e / 2 : Nat) : Int)]) (rest := []) kv_nLen ul_RJx4a65c_73 rfl (c_nLen (cn C e : Int) (m - (cn C e : Int)) ((cn C e / 2 : Nat) : Int) (m - (cn C e : Int)) C (by rw [if_neg]; rw [hm, hwh]; omega) (by rw [hw2]; omega) (by rw [hw2]; omega)) rfl (by decide) rfl (Nat.le_of_ble_eq_true rfl) d_AL_grow1_27 rfl ?_
    show RunO _ _ _ _ _ _ _ _ (wi ((cn C e : Int) + (m - (cn C e : Int))) :: []) _ _
    rw [hw1]
    refine r_istore_n (lo2 := [(3, wi ((cn C e + cn C e / 2 : Nat) : Int)), (2, wi (cn C e : Int)), (0, .ref a), (1, wi m)]) d_AL_grow1_30 rfl (by decide) rfl ?_
    refine r_aload_n (x := a) d_AL_grow1_31 rfl rfl ?_
    refine r_aload_n (x := a) d_AL_grow1_32 rfl rfl ?_
    refine r_getE hG ul_RJx4a65c_9 ho he ho2.1 d_AL_grow1_33 ?_
    refine r_iload_n (x := ((cn C e + cn C e / 2 : Nat) : Int)) d_AL_grow1_36 rfl rfl ?_
    refine ro_cS (k2 := k_cpO2) (n := 2) (As := [.ref e, wi ((cn C e + cn C e / 2 : Nat) : Int)]) (rest := [.ref a]) kv_cpO2 ul_RJx4a65c_66 rfl (c_cpO2 hG e (cn C e + cn C e / 2) C hW ho2 (by omega) (by omega) hel) rfl (by decide) rfl (Nat.le_of_ble_eq_true rfl) d_AL_grow1_37 rfl ?_
    refine r_dupx1 (va := .ref (csz C)) (vb := .ref a) d_AL_grow1_40 rfl rfl ?_
    refine r_putQ (x := some (csz C)) ul_RJx4a65c_9 o1 (fun s H h1 h2 => rN_s (al_ne hG h1 h2 hin)) d_AL_grow1_41 ?_
    exact r_aret (x := some (csz C)) rfl (Or.inr ⟨_, rfl⟩) d_AL_grow1_44
theorem c_grow0 (a x : Nat) (C C2 : Cd) (ho : isO C a 2) (hc : Ct l Γ k_AL_grow1 5 encR (emC M0) [.ref a, wi (cI C 202 a + 1)] C (some (some x, C2))) : Ct l Γ k_AL_grow0 6 encR (emC M0) [.ref a] C (some (some x, C2)) := by
  refine ct_of (by decide +kernel) rfl (Nat.le_of_ble_eq_true rfl) ?_
  refine r_lo [0] (lo2 := [(0, .ref a)]) rfl ?_
  refine r_aload_n (x := a) d_AL_grow0_0 rfl rfl ?_
  refine r_aload_n (x := a) d_AL_grow0_1 rfl rfl ?_
  refine r_agI (kk := 2) (ref := "java/util/ArrayList") (by decide) ul_RJx4a65c_48 (fun s args h x hx => hx) rfl ho d_AL_grow0_2 ?_
  refine ro_iconst (v := 1) d_AL_grow0_5 rfl ?_
  refine r_iadd d_AL_grow0_6 ?_
  refine ro_cV (k2 := k_AL_grow1) (n := 1) (As := [wi (cI C 202 a + 1)]) (rest := []) kv_AL_grow1 rfl ho ul_RJx4a65c_69 rfl hc rfl (by decide) rfl (Nat.le_of_ble_eq_true rfl) d_AL_grow0_7 rfl ?_
  exact r_aret (x := some x) rfl (Or.inr ⟨_, rfl⟩) d_AL_grow0_10
/-- what room is made: the row's value and its length, before; the row, behind -/
theorem al_room (hG : GK Γ l) {a : Nat} {C C2 : Cd} (hW : ∀ x, x ∈ cL C → x < csz C) (ho : isO C a 2) (h1 : 0 ≤ w32 (cI C 202 a)) (h2 : w32 (cI C 202 a) < 30000) (hX : (if alFull a C = true then alGrow a C else some C) = some C2) :
    (∃ e, cR C 201 a = some e ∧ ((e = 0 ∧ w32 (cI C 202 a) = 0) ∨ (e ≠ 0 ∧ isO C e 107 ∧ w32 (cI C 202 a) = (cn C e : Int))) ∧ ∃ x, cR C2 201 a = some x ∧ isO C2 a 2 ∧ cI C2 202 a = cI C 202 a ∧ x ∈ cL C2 ∧ csz C ≤ csz C2 ∧ csl C ≤ csl C2 ∧ Ct l Γ k_AL_grow0 6 encR (emC M0) [.ref a] C (some (some x, C2))) ∨
    (∃ e, cR C 201 a = some e ∧ e ≠ 0 ∧ w32 (cI C 202 a) ≠ (cn C e : Int) ∧ C2 = C) := by
  cases hz : cR C 201 a with
  | none =>
    exfalso
    have e1 : alFull a C = true := by unfold alFull; rw [hz]
    rw [e1, if_pos rfl] at hX
    unfold alGrow at hX
    rw [if_neg (by rw [hz]; intro z; cases z), hz] at hX
    cases hX
  | some e =>
    by_cases he : e = 0
    · subst he
      have e1 : alFull a C = true := by unfold alFull; rw [hz]; rfl
      rw [e1, if_pos rfl] at hX
      unfold alGrow at hX
      rw [if_pos hz] at hX
      by_cases c0 : w32 (cI C 202 a) = 0
      · rw [if_pos c0] at hX
        cases hX
        have hne : a ≠ csz C := Nat.ne_of_lt (hW a ho.1)
        refine Or.inl ⟨0, rfl, Or.inl ⟨rfl, c0⟩, csz C, ?_, ⟨List.mem_append_left _ ho.1, ?_⟩, rfl, List.mem_append_right _ (List.mem_singleton.mpr rfl), Nat.le_succ _, Nat.le_add_right _ _, c_grow0 a (csz C) C _ ho (c_grow1E hG a _ C hW ho hz ?_)⟩
        · show (if 201 = 201 ∧ a = a then some (csz C) else _) = _
          rw [if_pos ⟨rfl, rfl⟩]
        · show (if a = csz C then 107 else cty C a) = 2
          rw [if_neg hne]; exact ho.2
        · have e3 : Int32.ofInt (cI C 202 a + 1) = Int32.ofInt 1 := by
            rw [Int32.ofInt_add, ← of_w32 (cI C 202 a), c0]; rfl
          rw [w32_eq.mp e3]
          decide
      · rw [if_neg c0] at hX
        cases hX
    · have e1 : alFull a C = decide (w32 (cI C 202 a) = (cn C e : Int)) := by unfold alFull; rw [hz]; exact if_neg he
      rw [e1] at hX
      by_cases c0 : w32 (cI C 202 a) = (cn C e : Int)
      · rw [decide_eq_true c0, if_pos rfl] at hX
        unfold alGrow at hX
        rw [if_neg (by rw [hz]; intro z; cases z; exact he rfl), hz, drf_some] at hX
        by_cases c1 : isO C e 107 ∧ 2 ≤ cn C e ∧ cn C e ≤ 40000 ∧ allV C e (cn C e) = true
        · rw [if_pos c1] at hX
          cases hX
          have hne : a ≠ csz C := Nat.ne_of_lt (hW a ho.1)
          have hel : ∀ j, j < cn C e → okc C (cP C e j) 13 = true := fun j hj => List.all_eq_true.mp c1.2.2.2 j (List.mem_range.mpr hj)
          refine Or.inl ⟨e, rfl, Or.inr ⟨he, c1.1, c0⟩, csz C, ?_, ⟨List.mem_append_left _ ho.1, ?_⟩, rfl, List.mem_append_right _ (List.mem_singleton.mpr rfl), Nat.le_succ _, Nat.le_add_right _ _, c_grow0 a (csz C) C _ ho (c_grow1C hG a e _ C hW ho hz c1.1 c1.2.1 c1.2.2.1 hel ?_)⟩
          · show (if 201 = 201 ∧ a = a then some (csz C) else _) = _
            rw [if_pos ⟨rfl, rfl⟩]
          · show (if a = csz C then 107 else cty C a) = 2
            rw [if_neg hne]; exact ho.2
          · have e3 : Int32.ofInt (cI C 202 a + 1 - (cn C e : Int)) = Int32.ofInt 1 := by
              rw [show cI C 202 a + 1 - (cn C e : Int) = (cI C 202 a) + (1 - (cn C e : Int)) by omega, Int32.ofInt_add, ← of_w32 (cI C 202 a), c0, ← Int32.ofInt_add, show (cn C e : Int) + (1 - (cn C e : Int)) = 1 by omega]
            rw [w32_eq.mp e3]
            rfl
        · rw [if_neg c1] at hX
          cases hX
      · rw [decide_eq_false c0, if_neg Bool.false_ne_true] at hX
        cases hX
        exact Or.inr ⟨e, rfl, he, c0, rfl⟩
end LMETH
