/-! THE REFERENCE MADE: all of it -/
section MIP
variable {C C' : Cd} {mo : Nat}
/-- which row a number of the reference's is -/
def maI (k : Nat) : Nat := mRows.findIdx (fun p => p.1 == 1500 + k)
def maA (mo k : Nat) : Nat := mo + 1 + maI k
def mKs : List Nat := 27 :: mAs
theorem maI_ok : ∀ k ∈ mKs, maI k < 56 ∧ (mRows.getD (maI k) (0, 0, 0)) = (1500 + k, if k = 27 then 101 else 100, ((mLen k : Nat) : Int)) := by decide +kernel
theorem mRows_len : mRows.length = 56 := rfl
theorem mRows_get {k : Nat} (hk : k ∈ mKs) : ∃ h : maI k < mRows.length, mRows[maI k] = (1500 + k, if k = 27 then 101 else 100, ((mLen k : Nat) : Int)) := by
  obtain ⟨h1, h2⟩ := maI_ok k hk
  refine ⟨h1, ?_⟩
  rw [← h2, List.getD_eq_getElem?_getD, List.getElem?_eq_getElem h1]
  rfl
/-- the reference's rows in the state of the class -/
def MaO (mo : Nat) (C : Cd) : Prop := isO C mo 15 ∧ (∀ k, cI C k mo = 0) ∧ (∀ k ∈ mKs, isO C (maA mo k) (if k = 27 then 101 else 100) ∧ cn C (maA mo k) = mLen k ∧ cR C (1500 + k) mo = some (maA mo k) ∧ (k ≠ 6 → k ≠ 26 → k ≠ 17 → ∀ j, cE C (maA mo k) j = 0)) ∧
  (∀ j, j < 24 → cE C (maA mo 6) j = -1 ∧ cE C (maA mo 26) j = -1) ∧ ∀ j, j < 48 → cE C (maA mo 17) j = -1
theorem X12_init_ (W : Wf C) (ho : isO C mo 15) (hz : csz C = mo + 1) (hi : ∀ k, cI C k mo = 0) : ∃ C', fX12_init mo C = some ((), C') ∧ Fp (fun _ _ x => x = mo) C C' ∧ csz C' = mo + 57 ∧ csl C' = csl C + 362628 ∧ MaO mo C' := by
  rw [fX12_init_def]
  obtain ⟨C1, e1, f1, W1, s1, l1, q1, i1⟩ := mkRows_ok (a0 := mo) (K := fun C1 => bnd (lpn (fun (_ : Int) (_ : Cd) => (none : Option (Unit × Cd))) (fun L473 (v1_473 : Int) (C_473 : Cd) =>
if w32 24 ≤ w32 v1_473 then
some ((), C_473)
else
if isO C_473 mo 15 then bnd (cR C_473 1506 mo) fun (z113 : Option Nat) =>
drf z113 fun (p114 : Nat) =>
if isO C_473 p114 100 ∧ inR v1_473 (cn C_473 p114) then bnd (cSetE C_473 p114 (ix v1_473) (-1)) fun (C115 : Cd) =>
if isO C115 mo 15 then bnd (cR C115 1526 mo) fun (z116 : Option Nat) =>
drf z116 fun (p117 : Nat) =>
if isO C115 p117 100 ∧ inR v1_473 (cn C115 p117) then bnd (cSetE C115 p117 (ix v1_473) (-1)) fun (C118 : Cd) =>
if isO C118 mo 15 then bnd (cR C118 1517 mo) fun (z119 : Option Nat) =>
drf z119 fun (p120 : Nat) =>
if isO C118 p120 100 ∧ inR v1_473 (cn C118 p120) then bnd (cSetE C118 p120 (ix v1_473) (-1)) fun (C121 : Cd) =>
if isO C121 mo 15 then bnd (cR C121 1517 mo) fun (z122 : Option Nat) =>
drf z122 fun (p123 : Nat) =>
if isO C121 p123 100 ∧ inR (24 + v1_473) (cn C121 p123) then bnd (cSetE C121 p123 (ix (24 + v1_473)) (-1)) fun (C124 : Cd) =>
L473 (v1_473 + 1) C124
else none
else none
else none
else none
else none
else none
else none
else none) FU) fun J473 => J473 0 C1) mRows C W ho (by decide +kernel) (by decide +kernel)
  have f0 : Fp (Sa mo 1500) C C1 := f1 1500 (by decide +kernel)
  have row : ∀ k ∈ mKs, isO C1 (maA mo k) (if k = 27 then 101 else 100) ∧ cn C1 (maA mo k) = mLen k ∧ cR C1 (1500 + k) mo = some (maA mo k) ∧ ∀ j, cE C1 (maA mo k) j = 0 := fun k hk => by
    obtain ⟨h1, h2⟩ := mRows_get hk
    have := q1 (maI k) h1
    rw [h2, hz] at this
    exact this
  have d6 := row 6 (by decide)
  have d26 := row 26 (by decide)
  have d17 := row 17 (by decide)
  obtain ⟨F, hF⟩ : ∃ F, FU = F + (24 + 1) := ⟨FU - (24 + 1), by unfold FU; omega⟩
  have key := miL (a0 := mo) (r6 := maA mo 6) (r26 := maA mo 26) (r17 := maA mo 17) (z := fun (_ : Int) (_ : Cd) => (none : Option (Unit × Cd))) (Bd := fun L473 (v1_473 : Int) (C_473 : Cd) =>
if w32 24 ≤ w32 v1_473 then
some ((), C_473)
else
if isO C_473 mo 15 then bnd (cR C_473 1506 mo) fun (z113 : Option Nat) =>
drf z113 fun (p114 : Nat) =>
if isO C_473 p114 100 ∧ inR v1_473 (cn C_473 p114) then bnd (cSetE C_473 p114 (ix v1_473) (-1)) fun (C115 : Cd) =>
if isO C115 mo 15 then bnd (cR C115 1526 mo) fun (z116 : Option Nat) =>
drf z116 fun (p117 : Nat) =>
if isO C115 p117 100 ∧ inR v1_473 (cn C115 p117) then bnd (cSetE C115 p117 (ix v1_473) (-1)) fun (C118 : Cd) =>
if isO C118 mo 15 then bnd (cR C118 1517 mo) fun (z119 : Option Nat) =>
drf z119 fun (p120 : Nat) =>
if isO C118 p120 100 ∧ inR v1_473 (cn C118 p120) then bnd (cSetE C118 p120 (ix v1_473) (-1)) fun (C121 : Cd) =>
if isO C121 mo 15 then bnd (cR C121 1517 mo) fun (z122 : Option Nat) =>
drf z122 fun (p123 : Nat) =>
if isO C121 p123 100 ∧ inR (24 + v1_473) (cn C121 p123) then bnd (cSetE C121 p123 (ix (24 + v1_473)) (-1)) fun (C124 : Cd) =>
L473 (v1_473 + 1) C124
else none
else none
else none
else none
else none
else none
else none
else none) (fun _ _ _ => rfl) 24 0 F C1 rfl W1 (f0.ob W ho) d6.2.2.1 d26.2.2.1 d17.2.2.1 ⟨d6.1, d6.2.1⟩ ⟨d26.1, d26.2.1⟩ ⟨d17.1, d17.2.1⟩
  obtain ⟨C', e2, f2, s2, l2, i2, r2, m2, q2⟩ := key
  have sl : (mRows.map (fun p => p.2.2.toNat)).sum = 362628 := by decide +kernel
  rw [sl] at l1
  have ne : ∀ k ∈ mKs, k ≠ 6 → k ≠ 26 → k ≠ 17 → maI k ≠ maI 6 ∧ maI k ≠ maI 26 ∧ maI k ≠ maI 17 := by decide +kernel
  have lt : ∀ k ∈ mKs, maA mo k < csz C1 := fun k hk => W1 _ (row k hk).1.1
  refine ⟨C', ?_, (f0.mono (fun q j x _ y => y.1)).tr2 f2 (fun q j x hx y => ?_), by rw [s2, s1, hz, mRows_len], by rw [l2, l1], f2.ob W1 (f0.ob W ho), fun k => by rw [i2]; exact (i1 k).trans (hi k), fun k hk => ⟨f2.ob W1 (row k hk).1, (f2.len W1 (row k hk).1).trans (row k hk).2.1, by rw [r2]; exact (row k hk).2.2.1, fun h6 h26 h17 j => ?_⟩, fun j hj => ?_, fun j hj => ?_⟩
  · rw [e1, bnd_eq, hF]
    exact e2
  · exfalso
    unfold maA at y
    omega
  · rw [f2.fE (lt k hk) (fun y => ?_)]
    · exact (row k hk).2.2.2 j
    · obtain ⟨n1, n2, n3⟩ := ne k hk h6 h26 h17
      unfold maA at y
      omega
  · exact ⟨(q2 j (Nat.zero_le _) hj).1, (q2 j (Nat.zero_le _) hj).2.1⟩
  · by_cases h : j < 24
    · exact (q2 j (Nat.zero_le _) h).2.2.1
    · have := (q2 (j - 24) (Nat.zero_le _) (by omega)).2.2.2
      rw [show 24 + (j - 24) = j from by omega] at this
      exact this
end MIP
