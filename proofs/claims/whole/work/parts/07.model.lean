/-! THE REFERENCE: one object and its rows; its state is a function of numbers and a function of rows -/
/-- its fields that hold ints -/
def mIs : List Nat := [1, 2, 5, 7, 8, 13, 22, 36, 39, 40, 48, 51, 59, 65, 66, 67, 68, 69, 70, 71, 73, 75, 77]
/-- its fields that hold rows of ints -/
def mAs : List Nat := [0, 3, 4, 6, 9, 10, 11, 12, 14, 15, 16, 17, 18, 19, 20, 21, 23, 24, 25, 26, 28, 29, 30, 31, 32, 33, 34, 35, 37, 38, 41, 42, 43, 44, 45, 46, 47, 49, 50, 52, 53, 54, 55, 56, 57, 58, 60, 61, 62, 63, 64, 72, 74, 76, 78]
def mObj (ma : Nat → Nat) (M : Md) : List Value := (List.range 79).map (fun k => if mIs.contains k then wi (M.1 k) else .ref (ma k))
def mRow (cy : Nat → ClassId) (ma : Nat → Nat) (M : Md) (k : Nat) : Nat × va_E := (ma k, .inl (cy 0, mLen k, .inl (fun j => Int32.ofInt (M.2 k j))))
/-- its cells -/
def mCells (cy : Nat → ClassId) (mo : Nat) (ma : Nat → Nat) (M : Md) : va_W := (mo, .inr (15, mObj ma M)) :: (ma 27, .inl (cy 1, mLen 27, .inl (fun j => Int32.ofInt (M.2 27 j)))) :: mAs.map (mRow cy ma M)
def mOn (Γ : Cx) (mo : Nat) (ma : Nat → Nat) : Prop := Γ.2.2.2.1 = mCells Γ.2.2.1 mo ma
abbrev emM (K : Cd) : Md → St := fun M => (M, K)
theorem ix_in {i : Int} {n : Nat} (h : inR i n) : vp_in (Int32.ofInt i) n ∧ (Int32.ofInt i).toNatClampNeg = ix i := by
  obtain ⟨h1, h2⟩ := h
  refine ⟨vp_in_iff.mpr ⟨h1, h2⟩, ?_⟩
  rfl
theorem mSet_obj (ma : Nat → Nat) (M : Md) (k : Nat) (x : Int) (hk : k < 79) (hi : mIs.contains k = true) : (mObj ma M).set k (wi x) = mObj ma (mSet M k x) := by
  apply List.ext_getElem?
  intro j
  unfold mObj
  rw [List.getElem?_set]
  by_cases hj : k = j
  · subst hj
    have h1 : k < ((List.range 79).map (fun k => if mIs.contains k then wi (M.1 k) else Value.ref (ma k))).length := by rw [List.length_map, List.length_range]; exact hk
    rw [if_pos rfl, if_pos h1, List.getElem?_map, List.getElem?_range hk]
    show some (wi x) = some (if mIs.contains k then wi ((mSet M k x).1 k) else Value.ref (ma k))
    rw [if_pos hi]
    simp [mSet]
  · rw [if_neg hj, List.getElem?_map, List.getElem?_map]
    by_cases h2 : j < 79
    · rw [List.getElem?_range h2]
      show some _ = some _
      have h3 : (mSet M k x).1 j = M.1 j := by simp [mSet, Ne.symm hj]
      dsimp only
      rw [h3]
    · rw [List.getElem?_eq_none (by rw [List.length_range]; omega)]
      rfl
theorem mObj_at (ma : Nat → Nat) (M : Md) (k : Nat) (hk : k < 79) : (mObj ma M)[k]? = some (if mIs.contains k then wi (M.1 k) else .ref (ma k)) := by
  unfold mObj
  rw [List.getElem?_map, List.getElem?_range hk]
  rfl
theorem m_sz {H H1 : Heap} {n z0 sz : Nat} (hR : H.size = n) (a1 : z0 = sz) (h1 : sz ≤ H.size) (h2 : H.size ≤ H1.size) (hb : H1.size ≤ sz + (n - z0)) : H1.size = n := by omega
def va_E_i (Γ : Cx) (kk : Nat) (f : Nat → Int32) : va_E := .inl (Γ.2.2.1 0, mLen kk, .inl f)
section MROW
variable {ρ : Type} {l : Launch} {Γ : Cx} {k : Kd} {d : Nat} {enc : ρ → Out} {K0 : Cd} {pc : Nat} {lo : List (Nat × Value)} {st rest : List Value} {M : Md} {X X1 X2 : Option (ρ × Md)} {mo : Nat} {ma : Nat → Nat}
theorem mw_0 (h : mOn Γ mo ma) (σ : St) : (wl Γ σ)[0]? = some (mo, .inr (15, mObj ma σ.1)) := by
  unfold wl
  rw [h]
  rfl
theorem mw_set0 (h : mOn Γ mo ma) (M M' : Md) (K0 : Cd) (hA : M'.2 = M.2) : (wl Γ (M, K0)).set 0 (mo, .inr (15, mObj ma M')) = wl Γ (M', K0) := by
  unfold wl
  rw [h]
  unfold mCells mRow
  dsimp only
  rw [hA]
  rfl
theorem u15 : vwCl[15]? = some (RX12, TX12, 79) := rfl
theorem r_mget {i kk : Nat} (h : mOn Γ mo ma) (hin : ∀ w ∈ u_ws RX12 TX12 79, w ∈ uw) (hown : k.1.cls = RX12) (hk : kk < 79) (hu : Cond.fieldLink RX12 i RX12 (TX12 kk).2.1 (TX12 kk).2.2.1 ∈ uw) (hr : (TX12 kk).1 = RX12) (hI : mIs.contains kk = true) (hd : decode k.2.1 pc = .ok (.getfield i, 3))
    (K : RunO l Γ k d enc (emM K0) (pc + 3) lo (wi (M.1 kk) :: rest) M X) : RunO l Γ k d enc (emM K0) pc lo (.ref mo :: rest) M X := by
  intro r σ' hX
  obtain ⟨h1, h2, h3⟩ := K r σ' hX
  refine ⟨h1, h2, fun p e R s m args below meth c hm z0 l0 H locs ls a1 a2 a3 a4 hR hS hl => ?_⟩
  have hK := hm.2.2.2.2.2.2.2.2.1
  refine va_get (C := RX12) (ref := RX12) (own := RX12) hm.1 hm.2.1 hm.2.2.2.2.2.1 hin (by rw [← hown]; exact hm.2.2.2.2.1) hK hR.1 0 (mw_0 h _) u15 kk hk (hm.2.2.2.2.2.1 _ hu) (fun x hx => by rw [hr] at hx; exact hx) (v := wi (M.1 kk)) (by rw [mObj_at _ _ _ hk, if_pos hI]) hd ?_
  exact h3 p e R s m args below meth c hm z0 l0 H locs ls a1 a2 a3 a4 hR hS hl
theorem r_mgetA {i kk : Nat} (h : mOn Γ mo ma) (hin : ∀ w ∈ u_ws RX12 TX12 79, w ∈ uw) (hown : k.1.cls = RX12) (hk : kk < 79) (hu : Cond.fieldLink RX12 i RX12 (TX12 kk).2.1 (TX12 kk).2.2.1 ∈ uw) (hr : (TX12 kk).1 = RX12) (hI : mIs.contains kk = false) (hd : decode k.2.1 pc = .ok (.getfield i, 3))
    (K : RunO l Γ k d enc (emM K0) (pc + 3) lo (.ref (ma kk) :: rest) M X) : RunO l Γ k d enc (emM K0) pc lo (.ref mo :: rest) M X := by
  intro r σ' hX
  obtain ⟨h1, h2, h3⟩ := K r σ' hX
  refine ⟨h1, h2, fun p e R s m args below meth c hm z0 l0 H locs ls a1 a2 a3 a4 hR hS hl => ?_⟩
  have hK := hm.2.2.2.2.2.2.2.2.1
  refine va_get (C := RX12) (ref := RX12) (own := RX12) hm.1 hm.2.1 hm.2.2.2.2.2.1 hin (by rw [← hown]; exact hm.2.2.2.2.1) hK hR.1 0 (mw_0 h _) u15 kk hk (hm.2.2.2.2.2.1 _ hu) (fun x hx => by rw [hr] at hx; exact hx) (v := .ref (ma kk)) (by rw [mObj_at _ _ _ hk, if_neg (by rw [hI]; exact Bool.false_ne_true)]) hd ?_
  exact h3 p e R s m args below meth c hm z0 l0 H locs ls a1 a2 a3 a4 hR hS hl
theorem r_mput {i kk : Nat} {x : Int} {f : Md → Option (ρ × Md)} (h : mOn Γ mo ma) (hin : ∀ w ∈ u_ws RX12 TX12 79, w ∈ uw) (hown : k.1.cls = RX12) (hk : kk < 79) (hu : Cond.fieldLink RX12 i RX12 (TX12 kk).2.1 (TX12 kk).2.2.1 ∈ uw) (hr : (TX12 kk).1 = RX12) (hI : mIs.contains kk = true) (hfin : (TX12 kk).2.2.2 = false) (hty : parseFieldDescriptor (TX12 kk).2.2.1 = some .int) (hd : decode k.2.1 pc = .ok (.putfield i, 3))
    (K : ∀ M' : Md, RunO l Γ k d enc (emM K0) (pc + 3) lo rest M' (f M')) : RunO l Γ k d enc (emM K0) pc lo (wi x :: .ref mo :: rest) M (bnd (mSet M kk x) f) := by
  intro r σ' hX
  obtain ⟨h1, h2, h3⟩ := K (mSet M kk x) r σ' hX
  refine ⟨h1, h2, fun p e R s m args below meth c hm z0 l0 H locs ls a1 a2 a3 a4 hR hS hl => ?_⟩
  have hK := hm.2.2.2.2.2.2.2.2.1
  refine va_put (C := RX12) (ref := RX12) (own := RX12) (ty := .int) (v := wi x) hm.1 hm.2.1 hm.2.2.2.2.2.1 hin tyX12 tyX12_ok nmX12 (by rw [← hown]; exact hm.2.2.2.2.1) hK hR.1 hR.2.1 (H0 := H) (locs := locs) ⟨Nat.le_refl _, fun _ _ _ => rfl, hS.2.2⟩ 0 (mw_0 h _) u15 kk hk (hm.2.2.2.2.2.1 _ hu) (fun x hx => by rw [hr] at hx; exact hx) hfin hty rfl rfl (by unfold mObj; rw [List.length_map, List.length_range]; exact hk) hd (fun H1 locs1 hP hD hS1 => ?_)
  rw [mSet_obj ma M kk x hk hI, mw_set0 h M (mSet M kk x) K0 rfl] at hP hD
  exact w_bd (fun hb => h3 p e R s m args below meth c hm z0 l0 H1 locs1 ls a1 a2 a3 a4 ⟨hP, hD, m_sz hR.2.2 a1 hS.1 hS1.1 hb⟩ (vs_tr hS hS1) hl)
theorem mAs_inj : ∀ i, i < mAs.length → ∀ j, j < mAs.length → mAs[i]? = mAs[j]? → i = j := by decide +kernel
theorem mAs_at {cy : Nat → ClassId} {kk : Nat} (M : Md) (hA : kk ∈ mAs) : ∃ q : Nat, (mAs.map (mRow cy ma M))[q]? = some (mRow cy ma M kk) ∧ ∀ M' : Md, (∀ j, j ≠ kk → M'.2 j = M.2 j) → (mAs.map (mRow cy ma M)).set q (mRow cy ma M' kk) = mAs.map (mRow cy ma M') := by
  obtain ⟨q, hq⟩ := List.mem_iff_getElem?.mp hA
  refine ⟨q, by rw [List.getElem?_map, hq]; rfl, fun M' hM => ?_⟩
  apply List.ext_getElem?
  intro j
  rw [List.getElem?_set, List.getElem?_map, List.getElem?_map]
  obtain ⟨hq1, hq2⟩ := List.getElem?_eq_some_iff.mp hq
  by_cases hj : q = j
  · subst hj
    rw [if_pos rfl, if_pos (by rw [List.length_map]; exact hq1), hq]
    rfl
  · rw [if_neg hj]
    cases hx : mAs[j]? with
    | none => rfl
    | some x =>
      have hne : x ≠ kk := by
        intro e
        subst e
        obtain ⟨hj1, hj2⟩ := List.getElem?_eq_some_iff.mp hx
        exact hj (mAs_inj q hq1 j hj1 (hq.trans hx.symm))
      show some (mRow cy ma M x) = some (mRow cy ma M' x)
      unfold mRow
      rw [hM x hne]
theorem mw_at (h : mOn Γ mo ma) {kk : Nat} (M : Md) (K0 : Cd) (hA : kk ∈ mAs) : ∃ q : Nat, (wl Γ (M, K0))[q]? = some (mRow Γ.2.2.1 ma M kk) ∧ ∀ M' : Md, M'.1 = M.1 → (∀ j, j ≠ kk → M'.2 j = M.2 j) → (wl Γ (M, K0)).set q (mRow Γ.2.2.1 ma M' kk) = wl Γ (M', K0) := by
  obtain ⟨q, h1, h2⟩ := mAs_at (cy := Γ.2.2.1) (ma := ma) M hA
  have hlt : q < (mAs.map (mRow Γ.2.2.1 ma M)).length := (List.getElem?_eq_some_iff.mp h1).1
  refine ⟨q + 2, ?_, fun M' e hM => ?_⟩
  · unfold wl
    rw [h]
    show ((mAs.map (mRow Γ.2.2.1 ma M)) ++ _)[q]? = _
    rw [List.getElem?_append_left hlt]
    exact h1
  · unfold wl
    rw [h]
    unfold mCells
    have hz : ¬ 27 = kk := by
      intro e
      subst e
      exact absurd hA (by decide)
    have e27 : M'.2 27 = M.2 27 := hM 27 hz
    have eo : mObj ma M' = mObj ma M := by unfold mObj; rw [e]
    dsimp only
    rw [eo, e27]
    show _ :: _ :: ((mAs.map (mRow Γ.2.2.1 ma M)) ++ _).set q _ = _
    rw [List.set_append_left _ _ hlt, h2 M' hM]
    rfl
theorem r_miald {kk : Nat} {i : Int} (h : mOn Γ mo ma) (hA : kk ∈ mAs) (hd : decode k.2.1 pc = .ok (.iaload, 1))
    (K : RunO l Γ k d enc (emM K0) (pc + 1) lo (wi (M.2 kk (ix i)) :: rest) M X) : RunO l Γ k d enc (emM K0) pc lo (wi i :: .ref (ma kk) :: rest) M (if inR i (mLen kk) then X else none) := by
  refine ro_if (fun hi => ?_) (fun _ => ro_none)
  obtain ⟨e1, e2⟩ := ix_in hi
  intro r σ' hX
  obtain ⟨h1, h2, h3⟩ := K r σ' hX
  refine ⟨h1, h2, fun p e R s m args below meth c hm z0 l0 H locs ls a1 a2 a3 a4 hR hS hl => ?_⟩
  have hK := hm.2.2.2.2.2.2.2.2.1
  obtain ⟨q, hq, -⟩ := mw_at h M K0 hA
  refine va_iald hm.1 hm.2.1 hK hR.1 q 0 hq rfl e1 hd ?_
  rw [e2]
  exact h3 p e R s m args below meth c hm z0 l0 H locs ls a1 a2 a3 a4 hR hS hl
theorem r_miast {kk : Nat} {i x : Int} {f : Md → Option (ρ × Md)} (h : mOn Γ mo ma) (hA : kk ∈ mAs) (hd : decode k.2.1 pc = .ok (.iastore, 1))
    (K : ∀ M' : Md, RunO l Γ k d enc (emM K0) (pc + 1) lo rest M' (f M')) : RunO l Γ k d enc (emM K0) pc lo (wi x :: wi i :: .ref (ma kk) :: rest) M (if inR i (mLen kk) then bnd (mPut M kk (ix i) x) f else none) := by
  refine ro_if (fun hi => ?_) (fun _ => ro_none)
  obtain ⟨e1, e2⟩ := ix_in hi
  intro r σ' hX
  obtain ⟨h1, h2, h3⟩ := K (mPut M kk (ix i) x) r σ' hX
  refine ⟨h1, h2, fun p e R s m args below meth c hm z0 l0 H locs ls a1 a2 a3 a4 hR hS hl => ?_⟩
  have hK := hm.2.2.2.2.2.2.2.2.1
  obtain ⟨q, hq, hs⟩ := mw_at h M K0 hA
  refine va_iast hm.1 hm.2.1 hK hR.1 hR.2.1 (H0 := H) (locs := locs) ⟨Nat.le_refl _, fun _ _ _ => rfl, hS.2.2⟩ q 0 hq rfl e1 hd (fun H1 locs1 hP hD hS1 => ?_)
  have e3 : (ma kk, va_E_i Γ kk (upd (fun j => Int32.ofInt (M.2 kk j)) (Int32.ofInt i).toNatClampNeg (Int32.ofInt x))) = mRow Γ.2.2.1 ma (mPut M kk (ix i) x) kk := by
    unfold mRow va_E_i
    have e4 : upd (fun j => Int32.ofInt (M.2 kk j)) (Int32.ofInt i).toNatClampNeg (Int32.ofInt x) = fun j => Int32.ofInt ((mPut M kk (ix i) x).2 kk j) := by
      funext j
      rw [e2]
      unfold upd mPut
      simp only [if_true]
      split <;> rfl
    rw [e4]
  have e5 : (wl Γ (M, K0)).set q (ma kk, va_E_i Γ kk (upd (fun j => Int32.ofInt (M.2 kk j)) (Int32.ofInt i).toNatClampNeg (Int32.ofInt x))) = wl Γ (mPut M kk (ix i) x, K0) := by
    rw [e3]
    exact hs _ rfl (fun j hj => by unfold mPut; dsimp only; rw [if_neg hj])
  unfold va_E_i at e5
  rw [e5] at hP hD
  exact w_bd (fun hb => h3 p e R s m args below meth c hm z0 l0 H1 locs1 ls a1 a2 a3 a4 ⟨hP, hD, m_sz hR.2.2 a1 hS.1 hS1.1 hb⟩ (vs_tr hS hS1) hl)
end MROW
