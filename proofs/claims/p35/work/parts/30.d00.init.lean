/-! THE CLASS MADE: what its constructor lays -/
section INI
variable {b : Nat} {C C' C1 : Cd} {S : Nat → Nat → Nat → Prop}
/-- a rendering that was not made -/
def RenO (C : Cd) (a : Nat) : Prop := isO C a 7 ∧ cR C 700 a = some (a + 1) ∧ RowV C (a + 1) [] ∧ ∀ k, 701 ≤ k → k ≤ 707 → cI C k a = 0
theorem RenO.fp {a : Nat} (W : Wf C) (f : Fp S C C') (h : RenO C a) (hs : ∀ q k x, a ≤ x → x < a + 3 → ¬ S q k x) : RenO C' a := by
  obtain ⟨h1, h2, h3, h4⟩ := h
  have z := W a h1.1
  exact ⟨f.ob W h1, (f.fR z (hs _ _ _ (by omega) (by omega))).trans h2, h3.fp W f (hs _ _ _ (by omega) (by omega)) (hs _ _ _ (by omega) (by omega)) (hs _ _ _ (by omega) (by omega)) (hs _ _ _ (by omega) (by omega)), fun k a1 a2 => (f.fI z (hs _ _ _ (by omega) (by omega))).trans (h4 k a1 a2)⟩
theorem X4_init_ (W : Wf C) : ∃ C', fX4_init (csz C) (cNew C 7) = some ((), C') ∧ RenO C' (csz C) ∧ Fp (fun _ _ _ => False) C C' ∧ csz C' = csz C + 3 ∧ csl C' = csl C + 161 := by
  have W1 := Wf_N W 7
  obtain ⟨C2, e2, r2, f2, s2, l2⟩ := X5_init_ W1
  have z1 : csz (cNew C 7) = csz C + 1 := rfl
  have o1 : isO C2 (csz C) 7 := f2.ob W1 (isO_N1 C 7)
  rw [z1] at r2
  generalize hC3 : cSetI (cSetI (cSetI (cSetI (cSetI (cSetI (cSetI (cSetR C2 700 (csz C) (some (csz C + 1))) 701 (csz C) 0) 702 (csz C) 0) 703 (csz C) 0) 704 (csz C) 0) 705 (csz C) 0) 706 (csz C) 0) 707 (csz C) 0 = C3
  have pr : ∀ (D : Cd) (v : Option Nat) (x y : Nat), isO D x y → isO (cSetR D 700 (csz C) v) x y := fun D v x y h => h
  have pi : ∀ (D : Cd) (k : Nat) (v : Int) (x y : Nat), isO D x y → isO (cSetI D k (csz C) v) x y := fun D k v x y h => h
  have f3 : Fp (fun q k x => (q = 0 ∧ 701 ≤ k ∧ k ≤ 707 ∧ x = csz C) ∨ (q = 1 ∧ x = csz C)) C2 C3 := by
    rw [← hC3]
    exact ((((((((Fp.rf f2.wf).sR (Or.inr ⟨rfl, rfl⟩)).sI (Or.inl ⟨rfl, by decide, by decide, rfl⟩)).sI (Or.inl ⟨rfl, by decide, by decide, rfl⟩)).sI (Or.inl ⟨rfl, by decide, by decide, rfl⟩)).sI (Or.inl ⟨rfl, by decide, by decide, rfl⟩)).sI (Or.inl ⟨rfl, by decide, by decide, rfl⟩)).sI (Or.inl ⟨rfl, by decide, by decide, rfl⟩)).sI (Or.inl ⟨rfl, by decide, by decide, rfl⟩)
  refine ⟨C3, ?_, ⟨by rw [← hC3]; exact o1, ?_, r2.fp f2.wf f3 (by omega) (by omega) (by omega) (by omega), fun k h1 h2 => ?_⟩, ((Fp.N W 7).tr f2).tr2 f3 (fun q k x hx z => by omega), ?_, ?_⟩
  · unfold fX4_init
    rw [bnd_eq, cal_of e2, z1, if_pos o1, bnd_eq]
    rw [if_pos (pr _ _ _ _ o1), bnd_eq]
    rw [if_pos (pi _ _ _ _ _ (pr _ _ _ _ o1)), bnd_eq]
    rw [if_pos (pi _ _ _ _ _ (pi _ _ _ _ _ (pr _ _ _ _ o1))), bnd_eq]
    rw [if_pos (pi _ _ _ _ _ (pi _ _ _ _ _ (pi _ _ _ _ _ (pr _ _ _ _ o1)))), bnd_eq]
    rw [if_pos (pi _ _ _ _ _ (pi _ _ _ _ _ (pi _ _ _ _ _ (pi _ _ _ _ _ (pr _ _ _ _ o1))))), bnd_eq]
    rw [if_pos (pi _ _ _ _ _ (pi _ _ _ _ _ (pi _ _ _ _ _ (pi _ _ _ _ _ (pi _ _ _ _ _ (pr _ _ _ _ o1)))))), bnd_eq]
    rw [if_pos (pi _ _ _ _ _ (pi _ _ _ _ _ (pi _ _ _ _ _ (pi _ _ _ _ _ (pi _ _ _ _ _ (pi _ _ _ _ _ (pr _ _ _ _ o1))))))), bnd_eq, hC3]
  · rw [← hC3]
    exact cR_R1 _ _ _ _
  · rw [← hC3]
    have hk : k = 701 ∨ k = 702 ∨ k = 703 ∨ k = 704 ∨ k = 705 ∨ k = 706 ∨ k = 707 := by omega
    rcases hk with e | e | e | e | e | e | e <;> subst e
    · rw [cI_I2 _ _ (Or.inl (by decide)), cI_I2 _ _ (Or.inl (by decide)), cI_I2 _ _ (Or.inl (by decide)), cI_I2 _ _ (Or.inl (by decide)), cI_I2 _ _ (Or.inl (by decide)), cI_I2 _ _ (Or.inl (by decide)), cI_I1]
    · rw [cI_I2 _ _ (Or.inl (by decide)), cI_I2 _ _ (Or.inl (by decide)), cI_I2 _ _ (Or.inl (by decide)), cI_I2 _ _ (Or.inl (by decide)), cI_I2 _ _ (Or.inl (by decide)), cI_I1]
    · rw [cI_I2 _ _ (Or.inl (by decide)), cI_I2 _ _ (Or.inl (by decide)), cI_I2 _ _ (Or.inl (by decide)), cI_I2 _ _ (Or.inl (by decide)), cI_I1]
    · rw [cI_I2 _ _ (Or.inl (by decide)), cI_I2 _ _ (Or.inl (by decide)), cI_I2 _ _ (Or.inl (by decide)), cI_I1]
    · rw [cI_I2 _ _ (Or.inl (by decide)), cI_I2 _ _ (Or.inl (by decide)), cI_I1]
    · rw [cI_I2 _ _ (Or.inl (by decide)), cI_I1]
    · rw [cI_I1]
  · rw [← hC3]
    show csz C2 = _
    omega
  · rw [← hC3]
    show csl C2 = _
    have z2 : csl (cNew C 7) = csl C + 8 := rfl
    omega
/-- a row of three, none each -/
def TriO (C : Cd) (a : Nat) : Prop := isO C a 100 ∧ cn C a = 3 ∧ ∀ i, i < 3 → cE C a i = -1
theorem TriO.fp {a : Nat} (W : Wf C) (f : Fp S C C') (h : TriO C a) (hs : ¬ S 2 0 a) : TriO C' a := ⟨f.ob W h.1, (f.len W h.1).trans h.2.1, fun i hi => by rw [f.fE (W a h.1.1) hs]; exact h.2.2 i hi⟩
theorem tri_ (W : Wf C) : ∃ C', (∀ {α : Type} (K : Cd → Option α), (if 0 ≤ w32 3 ∧ w32 3 < 1000000 then bnd (cNewA C 100 (ix 3)) fun (C5 : Cd) =>
if isO C5 (csz C) 100 ∧ inR 0 (cn C5 (csz C)) then bnd (cSetE C5 (csz C) (ix 0) (-1)) fun (C6 : Cd) =>
if isO C6 (csz C) 100 ∧ inR 1 (cn C6 (csz C)) then bnd (cSetE C6 (csz C) (ix 1) (-1)) fun (C7 : Cd) =>
if isO C7 (csz C) 100 ∧ inR 2 (cn C7 (csz C)) then bnd (cSetE C7 (csz C) (ix 2) (-1)) K
else none
else none
else none
else none) = K C') ∧ TriO C' (csz C) ∧ Fp (fun _ _ _ => False) C C' ∧ csz C' = csz C + 1 ∧ csl C' = csl C + 3 := by
  have o5 := isO_A1 C 100 3
  have n5 := cn_A1 C 100 3
  have W5 := Wf_A W 100 3
  have i3 : ix 3 = 3 := rfl
  have i0 : ix 0 = 0 := rfl
  have i1 : ix 1 = 1 := rfl
  have i2 : ix 2 = 2 := rfl
  have r0 : inR 0 3 := inR_n (i := 0) (n := 3) (by decide) (by decide)
  have r1 : inR 1 3 := inR_n (i := 1) (n := 3) (by decide) (by decide)
  have r2 : inR 2 3 := inR_n (i := 2) (n := 3) (by decide) (by decide)
  refine ⟨cSetE (cSetE (cSetE (cNewA C 100 3) (csz C) 0 (-1)) (csz C) 1 (-1)) (csz C) 2 (-1), fun K => ?_, ⟨o5, n5, fun i hi => ?_⟩, (Fp.A W 100 3).tr2 (T := fun q k x => q = 2 ∧ x = csz C) ((((Fp.rf W5).sE ⟨rfl, rfl⟩).sE ⟨rfl, rfl⟩).sE ⟨rfl, rfl⟩) (fun q k x hx z => by omega), rfl, rfl⟩
  · rw [if_pos (by decide), bnd_eq, i3, if_pos ⟨o5, by rw [n5]; exact r0⟩, bnd_eq, i0]
    rw [if_pos ⟨(show isO (cSetE (cNewA C 100 3) (csz C) 0 (-1)) (csz C) 100 from o5), (show inR 1 (cn (cNewA C 100 3) (csz C)) by rw [n5]; exact r1)⟩, bnd_eq, i1]
    rw [if_pos ⟨(show isO (cSetE (cSetE (cNewA C 100 3) (csz C) 0 (-1)) (csz C) 1 (-1)) (csz C) 100 from o5), (show inR 2 (cn (cNewA C 100 3) (csz C)) by rw [n5]; exact r2)⟩, bnd_eq, i2]
  · have hi3 : i = 0 ∨ i = 1 ∨ i = 2 := by omega
    rcases hi3 with e | e | e <;> subst e
    · rw [cE_E2 _ _ (Or.inr (by decide)), cE_E2 _ _ (Or.inr (by decide)), cE_E1]
    · rw [cE_E2 _ _ (Or.inr (by decide)), cE_E1]
    · rw [cE_E1]
/-- a title without a page -/
def TtO (C : Cd) (a : Nat) : Prop := isO C a 12 ∧ (cR C 1200 a = some (a + 1) ∧ cR C 1201 a = some (a + 4) ∧ cR C 1202 a = some (a + 5) ∧ cR C 1203 a = none) ∧ (cI C 1204 a = 0 ∧ cI C 1205 a = 0) ∧ RenO C (a + 1) ∧ TriO C (a + 4) ∧ TriO C (a + 5)
theorem TtO.fp {a : Nat} (W : Wf C) (f : Fp S C C') (h : TtO C a) (hs : ∀ q k x, a ≤ x → x < a + 6 → ¬ S q k x) : TtO C' a := by
  obtain ⟨h1, ⟨h2, h3, h4, h5⟩, ⟨h6, h7⟩, h8, h9, h10⟩ := h
  have z := W a h1.1
  exact ⟨f.ob W h1, ⟨(f.fR z (hs _ _ _ (by omega) (by omega))).trans h2, (f.fR z (hs _ _ _ (by omega) (by omega))).trans h3, (f.fR z (hs _ _ _ (by omega) (by omega))).trans h4, (f.fR z (hs _ _ _ (by omega) (by omega))).trans h5⟩, ⟨(f.fI z (hs _ _ _ (by omega) (by omega))).trans h6, (f.fI z (hs _ _ _ (by omega) (by omega))).trans h7⟩, h8.fp W f (fun q k x h1 h2 => hs q k x (by omega) (by omega)), h9.fp W f (hs _ _ _ (by omega) (by omega)), h10.fp W f (hs _ _ _ (by omega) (by omega))⟩
theorem X9_init_ (W : Wf C) : ∃ C', fX9_init (csz C) (cNew C 12) = some ((), C') ∧ TtO C' (csz C) ∧ Fp (fun _ _ _ => False) C C' ∧ csz C' = csz C + 6 ∧ csl C' = csl C + 173 := by
  have W1 := Wf_N W 12
  obtain ⟨C2, e2, r2, f2, s2, l2⟩ := X4_init_ W1
  have z1 : csz (cNew C 12) = csz C + 1 := rfl
  rw [z1] at r2 s2
  have o2 : isO C2 (csz C) 12 := f2.ob W1 (isO_N1 C 12)
  have W2 := f2.wf
  generalize hC4 : cSetR C2 1200 (csz C) (some (csz C + 1)) = C4
  have f4 : Fp (fun q k x => x = csz C) C2 C4 := by rw [← hC4]; exact Fp.R W2 _ _ _ rfl
  have z4 : csz C4 = csz C + 4 := by rw [← hC4]; exact s2
  have W4 := f4.wf
  obtain ⟨C8, e8, t8, f8, s8, l8⟩ := tri_ W4
  rw [z4] at t8 s8
  have W8 := f8.wf
  have o4 : isO C4 (csz C) 12 := f4.ob W2 o2
  have o8 : isO C8 (csz C) 12 := f8.ob W4 o4
  generalize hC9 : cSetR C8 1201 (csz C) (some (csz C + 4)) = C9
  have f9 : Fp (fun q k x => x = csz C) C8 C9 := by rw [← hC9]; exact Fp.R W8 _ _ _ rfl
  have z9 : csz C9 = csz C + 5 := by rw [← hC9]; exact s8
  have W9 := f9.wf
  obtain ⟨C13, e13, t13, f13, s13, l13⟩ := tri_ W9
  rw [z9] at t13 s13
  have W13 := f13.wf
  have o9 : isO C9 (csz C) 12 := f9.ob W8 o8
  have o13 : isO C13 (csz C) 12 := f13.ob W9 o9
  generalize hC17 : cSetI (cSetI (cSetR (cSetR C13 1202 (csz C) (some (csz C + 5))) 1203 (csz C) none) 1204 (csz C) 0) 1205 (csz C) 0 = C17
  have f17 : Fp (fun q k x => x = csz C) C13 C17 := by
    rw [← hC17]
    exact ((((Fp.rf W13).sR rfl).sR rfl).sI rfl).sI rfl
  have hz : csz C < csz C9 := by omega
  have hz4 : csz C < csz C4 := by omega
  have r1200 : cR C17 1200 (csz C) = some (csz C + 1) := by
    rw [← hC17]
    show cR (cSetR (cSetR C13 1202 (csz C) (some (csz C + 5))) 1203 (csz C) none) 1200 (csz C) = _
    rw [cR_R2 _ _ (Or.inl (by decide)), cR_R2 _ _ (Or.inl (by decide)), f13.fR hz (fun z => z), ← hC9, cR_R2 _ _ (Or.inl (by decide)), f8.fR hz4 (fun z => z), ← hC4]
    exact cR_R1 _ _ _ _
  have r1201 : cR C17 1201 (csz C) = some (csz C + 4) := by
    rw [← hC17]
    show cR (cSetR (cSetR C13 1202 (csz C) (some (csz C + 5))) 1203 (csz C) none) 1201 (csz C) = _
    rw [cR_R2 _ _ (Or.inl (by decide)), cR_R2 _ _ (Or.inl (by decide)), f13.fR hz (fun z => z), ← hC9]
    exact cR_R1 _ _ _ _
  have ren17 : RenO C17 (csz C + 1) := ((((r2.fp W2 f4 (fun q k x h1 h2 => by omega)).fp W4 f8 (fun q k x h1 h2 z => z)).fp W8 f9 (fun q k x h1 h2 => by omega)).fp W9 f13 (fun q k x h1 h2 z => z)).fp W13 f17 (fun q k x h1 h2 => by omega)
  have fA : Fp (fun q k x => x = csz C) C C17 := ((((((Fp.N W 12).tr (f2.mono (fun _ _ _ _ z => z.elim))).tr f4).tr (f8.mono (fun _ _ _ _ z => z.elim))).tr f9).tr (f13.mono (fun _ _ _ _ z => z.elim))).tr f17
  refine ⟨C17, ?_, ⟨by rw [← hC17]; exact o13, ⟨r1200, r1201, ?_, ?_⟩, ⟨?_, ?_⟩, ren17, ((t8.fp W8 f9 (by omega)).fp W9 f13 (fun z => z)).fp W13 f17 (by omega), t13.fp W13 f17 (by omega)⟩, fA.mono (fun q k x hx z => by omega), ?_, ?_⟩
  · unfold fX9_init
    rw [bnd_eq, cal_of e2, z1, if_pos o2, bnd_eq, hC4, e8, z4, if_pos o8, bnd_eq, hC9, e13, z9, if_pos o13, bnd_eq]
    rw [if_pos (show isO (cSetR C13 1202 (csz C) (some (csz C + 5))) (csz C) 12 from o13), bnd_eq]
    rw [if_pos (show isO (cSetR (cSetR C13 1202 (csz C) (some (csz C + 5))) 1203 (csz C) none) (csz C) 12 from o13), bnd_eq]
    rw [if_pos (show isO (cSetI (cSetR (cSetR C13 1202 (csz C) (some (csz C + 5))) 1203 (csz C) none) 1204 (csz C) 0) (csz C) 12 from o13), bnd_eq, hC17]
  · rw [← hC17]
    show cR (cSetR (cSetR C13 1202 (csz C) (some (csz C + 5))) 1203 (csz C) none) 1202 (csz C) = _
    rw [cR_R2 _ _ (Or.inl (by decide))]
    exact cR_R1 _ _ _ _
  · rw [← hC17]
    exact cR_R1 _ _ _ _
  · rw [← hC17, cI_I2 _ _ (Or.inl (by decide))]
    exact cI_I1 _ _ _ _
  · rw [← hC17]
    exact cI_I1 _ _ _ _
  · rw [← hC17]
    show csz C13 = _
    omega
  · have a1 : csl C17 = csl C13 := by rw [← hC17]; rfl
    have a2 : csl C9 = csl C8 := by rw [← hC9]; rfl
    have a3 : csl C4 = csl C2 := by rw [← hC4]; rfl
    have a4 : csl (cNew C 12) = csl C + 6 := rfl
    omega
/-- a module without instructions -/
def ModO (C : Cd) (a : Nat) : Prop := isO C a 10 ∧ (cR C 1000 a = some (a + 1) ∧ cR C 1001 a = some (a + 2)) ∧ cI C 1002 a = 0 ∧ (isO C (a + 1) 100 ∧ cn C (a + 1) = 16) ∧ (isO C (a + 2) 100 ∧ cn C (a + 2) = 16)
theorem ModO.fp {a : Nat} (W : Wf C) (f : Fp S C C') (h : ModO C a) (hs : ∀ q k x, a ≤ x → x < a + 3 → ¬ S q k x) : ModO C' a := by
  obtain ⟨h1, ⟨h2, h3⟩, h4, h5, h6⟩ := h
  have z := W a h1.1
  exact ⟨f.ob W h1, ⟨(f.fR z (hs _ _ _ (by omega) (by omega))).trans h2, (f.fR z (hs _ _ _ (by omega) (by omega))).trans h3⟩, (f.fI z (hs _ _ _ (by omega) (by omega))).trans h4, ⟨f.ob W h5.1, (f.len W h5.1).trans h5.2⟩, f.ob W h6.1, (f.len W h6.1).trans h6.2⟩
theorem X7_init_ (W : Wf C) : ∃ C', fX7_init (csz C) (cNew C 10) = some ((), C') ∧ ModO C' (csz C) ∧ Fp (fun _ _ _ => False) C C' ∧ csz C' = csz C + 3 ∧ csl C' = csl C + 35 := by
  have W1 := Wf_N W 10
  have z1 : csz (cNew C 10) = csz C + 1 := rfl
  have i16 : ix 16 = 16 := rfl
  have o1 := isO_N1 C 10
  have WA := Wf_A W1 100 16
  have oA := isO_A1 (cNew C 10) 100 16
  have nA := cn_A1 (cNew C 10) 100 16
  rw [z1] at oA nA
  have oA1 : isO (cNewA (cNew C 10) 100 16) (csz C) 10 := isO_A2 W1 100 16 o1
  generalize hC2 : cSetR (cNewA (cNew C 10) 100 16) 1000 (csz C) (some (csz C + 1)) = C2
  have W2 : Wf C2 := by rw [← hC2]; exact WA
  have o2 : isO C2 (csz C) 10 := by rw [← hC2]; exact oA1
  have p2 : isO C2 (csz C + 1) 100 ∧ cn C2 (csz C + 1) = 16 := by rw [← hC2]; exact ⟨oA, nA⟩
  have z2 : csz C2 = csz C + 2 := by rw [← hC2]; rfl
  have r2 : cR C2 1000 (csz C) = some (csz C + 1) := by rw [← hC2]; exact cR_R1 _ _ _ _
  have f2 : Fp (fun q k x => x = csz C) C C2 := by rw [← hC2]; exact (((Fp.rf W).sN).sA).sR rfl
  have oB := isO_A1 C2 100 16
  have nB := cn_A1 C2 100 16
  rw [z2] at oB nB
  have oB1 : isO (cNewA C2 100 16) (csz C) 10 := isO_A2 W2 100 16 o2
  generalize hC5 : cSetI (cSetR (cNewA C2 100 16) 1001 (csz C) (some (csz C + 2))) 1002 (csz C) 0 = C5
  have f5 : Fp (fun q k x => x = csz C) C2 C5 := by rw [← hC5]; exact (((Fp.rf W2).sA).sR rfl).sI rfl
  refine ⟨C5, ?_, ⟨by rw [← hC5]; exact oB1, ⟨?_, ?_⟩, ?_, ⟨f5.ob W2 p2.1, (f5.len W2 p2.1).trans p2.2⟩, by rw [← hC5]; exact ⟨oB, nB⟩⟩, (f2.tr f5).mono (fun q k x hx z => by omega), ?_, ?_⟩
  · unfold fX7_init
    rw [if_pos (by decide), bnd_eq, i16, if_pos oA1, bnd_eq, z1, hC2, if_pos (by decide), bnd_eq, if_pos oB1, bnd_eq, z2, if_pos (show isO (cSetR (cNewA C2 100 16) 1001 (csz C) (some (csz C + 2))) (csz C) 10 from oB1), bnd_eq, hC5]
  · rw [← hC5]
    show cR (cSetR (cNewA C2 100 16) 1001 (csz C) (some (csz C + 2))) 1000 (csz C) = _
    rw [cR_R2 _ _ (Or.inl (by decide))]
    exact r2
  · rw [← hC5]
    exact cR_R1 _ _ _ _
  · rw [← hC5]
    exact cI_I1 _ _ _ _
  · rw [← hC5]
    show csz C2 + 1 = _
    omega
  · rw [← hC5, ← hC2]
    rfl
/-- a frame -/
def FraO (C : Cd) (a : Nat) : Prop := isO C a 5 ∧ (cR C 500 a = some (a + 1) ∧ cR C 501 a = some (a + 2) ∧ cR C 502 a = some (a + 3)) ∧ (isO C (a + 1) 100 ∧ cn C (a + 1) = 10) ∧ (isO C (a + 2) 106 ∧ cn C (a + 2) = 30 ∧ ∀ i, cP C (a + 2) i = none) ∧ (isO C (a + 3) 101 ∧ cn C (a + 3) = 30)
theorem FraO.fp {a : Nat} (W : Wf C) (f : Fp S C C') (h : FraO C a) (hs : ∀ q k x, a ≤ x → x < a + 4 → ¬ S q k x) : FraO C' a := by
  obtain ⟨h1, ⟨h2, h3, h4⟩, h5, h6, h7⟩ := h
  have z := W a h1.1
  exact ⟨f.ob W h1, ⟨(f.fR z (hs _ _ _ (by omega) (by omega))).trans h2, (f.fR z (hs _ _ _ (by omega) (by omega))).trans h3, (f.fR z (hs _ _ _ (by omega) (by omega))).trans h4⟩, ⟨f.ob W h5.1, (f.len W h5.1).trans h5.2⟩, ⟨f.ob W h6.1, (f.len W h6.1).trans h6.2.1, fun i => (f.fP (W _ h6.1.1) (hs _ _ _ (by omega) (by omega)) i).trans (h6.2.2 i)⟩, f.ob W h7.1, (f.len W h7.1).trans h7.2⟩
theorem X2_init_ (W : Wf C) : ∃ C', fX2_init (csz C) (cNew C 5) = some ((), C') ∧ FraO C' (csz C) ∧ Fp (fun _ _ _ => False) C C' ∧ csz C' = csz C + 4 ∧ csl C' = csl C + 77 := by
  have W1 := Wf_N W 5
  have z1 : csz (cNew C 5) = csz C + 1 := rfl
  have i10 : ix 10 = 10 := rfl
  have i30 : ix 30 = 30 := rfl
  have o1 := isO_N1 C 5
  have WA := Wf_A W1 100 10
  have oA := isO_A1 (cNew C 5) 100 10
  have nA := cn_A1 (cNew C 5) 100 10
  rw [z1] at oA nA
  have oA1 : isO (cNewA (cNew C 5) 100 10) (csz C) 5 := isO_A2 W1 100 10 o1
  generalize hC2 : cSetR (cNewA (cNew C 5) 100 10) 500 (csz C) (some (csz C + 1)) = C2
  have W2 : Wf C2 := by rw [← hC2]; exact WA
  have o2 : isO C2 (csz C) 5 := by rw [← hC2]; exact oA1
  have p2 : isO C2 (csz C + 1) 100 ∧ cn C2 (csz C + 1) = 10 := by rw [← hC2]; exact ⟨oA, nA⟩
  have z2 : csz C2 = csz C + 2 := by rw [← hC2]; rfl
  have r2 : cR C2 500 (csz C) = some (csz C + 1) := by rw [← hC2]; exact cR_R1 _ _ _ _
  have f2 : Fp (fun q k x => x = csz C) C C2 := by rw [← hC2]; exact (((Fp.rf W).sN).sA).sR rfl
  have l2 : csl C2 = csl C + 17 := by rw [← hC2]; rfl
  have oB := isO_A1 C2 106 30
  have nB := cn_A1 C2 106 30
  have pB := cP_A1 C2 106 30
  rw [z2] at oB nB pB
  have oB1 : isO (cNewA C2 106 30) (csz C) 5 := isO_A2 W2 106 30 o2
  generalize hC4 : cSetR (cNewA C2 106 30) 501 (csz C) (some (csz C + 2)) = C4
  have W4 : Wf C4 := by rw [← hC4]; exact Wf_A W2 106 30
  have o4 : isO C4 (csz C) 5 := by rw [← hC4]; exact oB1
  have p4 : isO C4 (csz C + 2) 106 ∧ cn C4 (csz C + 2) = 30 ∧ ∀ i, cP C4 (csz C + 2) i = none := by rw [← hC4]; exact ⟨oB, nB, pB⟩
  have z4 : csz C4 = csz C + 3 := by
    rw [← hC4]
    show csz C2 + 1 = _
    omega
  have r4 : cR C4 501 (csz C) = some (csz C + 2) := by rw [← hC4]; exact cR_R1 _ _ _ _
  have r4' : cR C4 500 (csz C) = some (csz C + 1) := by
    rw [← hC4, cR_R2 _ _ (Or.inl (by decide))]
    exact r2
  have f4 : Fp (fun q k x => x = csz C) C2 C4 := by rw [← hC4]; exact ((Fp.rf W2).sA).sR rfl
  have l4 : csl C4 = csl C2 + 30 := by rw [← hC4]; rfl
  have oD := isO_A1 C4 101 30
  have nD := cn_A1 C4 101 30
  rw [z4] at oD nD
  have oD1 : isO (cNewA C4 101 30) (csz C) 5 := isO_A2 W4 101 30 o4
  generalize hC10 : cSetI (cSetI (cSetR (cSetR (cSetR (cNewA C4 101 30) 502 (csz C) (some (csz C + 3))) 503 (csz C) none) 504 (csz C) none) 505 (csz C) (-1)) 506 (csz C) 0 = C10
  have f10 : Fp (fun q k x => x = csz C) C4 C10 := by rw [← hC10]; exact ((((((Fp.rf W4).sA).sR rfl).sR rfl).sR rfl).sI rfl).sI rfl
  have rr : ∀ k, k ≠ 502 → k ≠ 503 → k ≠ 504 → cR C10 k (csz C) = cR C4 k (csz C) := fun k q1 q2 q3 => by
    rw [← hC10]
    show cR (cSetR (cSetR (cSetR (cNewA C4 101 30) 502 (csz C) (some (csz C + 3))) 503 (csz C) none) 504 (csz C) none) k (csz C) = _
    rw [cR_R2 _ _ (Or.inl q3), cR_R2 _ _ (Or.inl q2), cR_R2 _ _ (Or.inl q1)]
    rfl
  have p42 := p4.1
  refine ⟨C10, ?_, ⟨by rw [← hC10]; exact oD1, ⟨(rr 500 (by decide) (by decide) (by decide)).trans r4', (rr 501 (by decide) (by decide) (by decide)).trans r4, ?_⟩, ⟨f10.ob W4 (f4.ob W2 p2.1), (f10.len W4 (f4.ob W2 p2.1)).trans ((f4.len W2 p2.1).trans p2.2)⟩, ⟨f10.ob W4 p4.1, (f10.len W4 p4.1).trans p4.2.1, fun i => (f10.fP (by omega) (by omega) i).trans (p4.2.2 i)⟩, by rw [← hC10]; exact ⟨oD, nD⟩⟩, ((f2.tr f4).tr f10).mono (fun q k x hx z => by omega), ?_, ?_⟩
  · unfold fX2_init
    rw [if_pos (by decide), bnd_eq, i10, if_pos oA1, bnd_eq, z1, hC2, if_pos (by decide), bnd_eq, i30, if_pos oB1, bnd_eq, z2, hC4, if_pos (by decide), bnd_eq, if_pos oD1, bnd_eq, z4]
    rw [if_pos (show isO (cSetR (cNewA C4 101 30) 502 (csz C) (some (csz C + 3))) (csz C) 5 from oD1), bnd_eq]
    rw [if_pos (show isO (cSetR (cSetR (cNewA C4 101 30) 502 (csz C) (some (csz C + 3))) 503 (csz C) none) (csz C) 5 from oD1), bnd_eq]
    rw [if_pos (show isO (cSetR (cSetR (cSetR (cNewA C4 101 30) 502 (csz C) (some (csz C + 3))) 503 (csz C) none) 504 (csz C) none) (csz C) 5 from oD1), bnd_eq]
    rw [if_pos (show isO (cSetI (cSetR (cSetR (cSetR (cNewA C4 101 30) 502 (csz C) (some (csz C + 3))) 503 (csz C) none) 504 (csz C) none) 505 (csz C) (-1)) (csz C) 5 from oD1), bnd_eq, hC10]
  · rw [← hC10]
    show cR (cSetR (cSetR (cSetR (cNewA C4 101 30) 502 (csz C) (some (csz C + 3))) 503 (csz C) none) 504 (csz C) none) 502 (csz C) = _
    rw [cR_R2 _ _ (Or.inl (by decide)), cR_R2 _ _ (Or.inl (by decide))]
    exact cR_R1 _ _ _ _
  · rw [← hC10]
    show csz C4 + 1 = _
    omega
  · have l10 : csl C10 = csl C4 + 30 := by rw [← hC10]; rfl
    omega
theorem X6_init_ (W : Wf C) : ∃ C', fX6_init (csz C) (cNew C 9) = some ((), C') ∧ isO C' (csz C) 9 ∧ Fp (fun _ _ _ => False) C C' ∧ csz C' = csz C + 1 ∧ csl C' = csl C + 4 := by
  have W1 := Wf_N W 9
  have o1 := isO_N1 C 9
  refine ⟨cSetI (cSetI (cSetR (cSetR (cNew C 9) 900 (csz C) none) 901 (csz C) none) 902 (csz C) 0) 903 (csz C) 0, ?_, o1, ((((((Fp.rf (S := fun q k x => x = csz C) W).sN).sR rfl).sR rfl).sI rfl).sI rfl).mono (fun q k x hx z => by omega), rfl, rfl⟩
  unfold fX6_init
  rw [if_pos o1, bnd_eq, if_pos (show isO (cSetR (cNew C 9) 900 (csz C) none) (csz C) 9 from o1), bnd_eq, if_pos (show isO (cSetR (cSetR (cNew C 9) 900 (csz C) none) 901 (csz C) none) (csz C) 9 from o1), bnd_eq, if_pos (show isO (cSetI (cSetR (cSetR (cNew C 9) 900 (csz C) none) 901 (csz C) none) 902 (csz C) 0) (csz C) 9 from o1), bnd_eq]
end INI
