/-! WHAT CHANGES: q = 0 an int field, 1 a reference field, 2 a row of ints, 3 a row of references -/
def Fp (S : Nat → Nat → Nat → Prop) (C C' : Cd) : Prop := csz C ≤ csz C' ∧ csl C ≤ csl C' ∧ Wf C' ∧ (∀ b, b < csz C → (b ∈ cL C' ↔ b ∈ cL C) ∧ cty C' b = cty C b ∧ cn C' b = cn C b) ∧
  (∀ b, b < csz C → (∀ k, ¬ S 0 k b → cI C' k b = cI C k b) ∧ (∀ k, ¬ S 1 k b → cR C' k b = cR C k b) ∧ (¬ S 2 0 b → ∀ i, cE C' b i = cE C b i) ∧ (¬ S 3 0 b → ∀ i, cP C' b i = cP C b i))
theorem Fp.rf {S : Nat → Nat → Nat → Prop} {C : Cd} (W : Wf C) : Fp S C C := ⟨Nat.le_refl _, Nat.le_refl _, W, fun _ _ => ⟨Iff.rfl, rfl, rfl⟩, fun _ _ => ⟨fun _ _ => rfl, fun _ _ => rfl, fun _ _ => rfl, fun _ _ => rfl⟩⟩
theorem Fp.tr2 {S T : Nat → Nat → Nat → Prop} {C C1 C2 : Cd} (h : Fp S C C1) (h1 : Fp T C1 C2) (q : ∀ i k b, b < csz C → T i k b → S i k b) : Fp S C C2 := by
  refine ⟨Nat.le_trans h.1 h1.1, Nat.le_trans h.2.1 h1.2.1, h1.2.2.1, fun b hb => ?_, fun b hb => ?_⟩
  · have a := h.2.2.2.1 b hb
    have a1 := h1.2.2.2.1 b (Nat.lt_of_lt_of_le hb h.1)
    exact ⟨a1.1.trans a.1, a1.2.1.trans a.2.1, a1.2.2.trans a.2.2⟩
  · have a := h.2.2.2.2 b hb
    have a1 := h1.2.2.2.2 b (Nat.lt_of_lt_of_le hb h.1)
    exact ⟨fun k z => (a1.1 k (fun y => z (q _ _ _ hb y))).trans (a.1 k z), fun k z => (a1.2.1 k (fun y => z (q _ _ _ hb y))).trans (a.2.1 k z), fun z i => (a1.2.2.1 (fun y => z (q _ _ _ hb y)) i).trans (a.2.2.1 z i), fun z i => (a1.2.2.2 (fun y => z (q _ _ _ hb y)) i).trans (a.2.2.2 z i)⟩
theorem Fp.tr {S : Nat → Nat → Nat → Prop} {C C1 C2 : Cd} (h : Fp S C C1) (h1 : Fp S C1 C2) : Fp S C C2 := h.tr2 h1 (fun _ _ _ _ z => z)
theorem Fp.mono {S T : Nat → Nat → Nat → Prop} {C C' : Cd} (h : Fp S C C') (q : ∀ i k b, b < csz C → S i k b → T i k b) : Fp T C C' :=
  ⟨h.1, h.2.1, h.2.2.1, h.2.2.2.1, fun b hb => by
    have a := h.2.2.2.2 b hb
    exact ⟨fun k z => a.1 k (fun y => z (q _ _ _ hb y)), fun k z => a.2.1 k (fun y => z (q _ _ _ hb y)), fun z => a.2.2.1 (fun y => z (q _ _ _ hb y)), fun z => a.2.2.2 (fun y => z (q _ _ _ hb y))⟩⟩
theorem Fp.of {T : Nat → Prop} {S : Nat → Nat → Nat → Prop} {C C' : Cd} (h : Kp T C C') (hl : csl C ≤ csl C') (q : ∀ i k b, b < csz C → T b → S i k b) : Fp S C C' :=
  ⟨h.1, hl, h.2.1, h.2.2.1, fun b hb => by
    have a := h.2.2.2 b hb
    exact ⟨fun k z => (a (fun y => z (q _ _ _ hb y))).1 k, fun k z => (a (fun y => z (q _ _ _ hb y))).2.1 k, fun z => (a (fun y => z (q _ _ _ hb y))).2.2.1, fun z => (a (fun y => z (q _ _ _ hb y))).2.2.2⟩⟩
theorem Fp.wf {S : Nat → Nat → Nat → Prop} {C C' : Cd} (h : Fp S C C') : Wf C' := h.2.2.1
theorem Fp.ob {S : Nat → Nat → Nat → Prop} {C C' : Cd} (W : Wf C) (h : Fp S C C') {b t : Nat} (hb : isO C b t) : isO C' b t := by
  have a := h.2.2.2.1 b (W b hb.1)
  exact ⟨a.1.mpr hb.1, a.2.1.trans hb.2⟩
theorem Fp.len {S : Nat → Nat → Nat → Prop} {C C' : Cd} (W : Wf C) (h : Fp S C C') {b t : Nat} (hb : isO C b t) : cn C' b = cn C b := (h.2.2.2.1 b (W b hb.1)).2.2
theorem Fp.fI {S : Nat → Nat → Nat → Prop} {C C' : Cd} (h : Fp S C C') {k b : Nat} (hb : b < csz C) (z : ¬ S 0 k b) : cI C' k b = cI C k b := (h.2.2.2.2 b hb).1 k z
theorem Fp.fR {S : Nat → Nat → Nat → Prop} {C C' : Cd} (h : Fp S C C') {k b : Nat} (hb : b < csz C) (z : ¬ S 1 k b) : cR C' k b = cR C k b := (h.2.2.2.2 b hb).2.1 k z
theorem Fp.fE {S : Nat → Nat → Nat → Prop} {C C' : Cd} (h : Fp S C C') {b : Nat} (hb : b < csz C) (z : ¬ S 2 0 b) (i : Nat) : cE C' b i = cE C b i := (h.2.2.2.2 b hb).2.2.1 z i
theorem Fp.fP {S : Nat → Nat → Nat → Prop} {C C' : Cd} (h : Fp S C C') {b : Nat} (hb : b < csz C) (z : ¬ S 3 0 b) (i : Nat) : cP C' b i = cP C b i := (h.2.2.2.2 b hb).2.2.2 z i
theorem Fp.I {S : Nat → Nat → Nat → Prop} {C : Cd} (W : Wf C) (k a : Nat) (v : Int) (hs : S 0 k a) : Fp S C (cSetI C k a v) :=
  ⟨Nat.le_refl _, Nat.le_refl _, W, fun _ _ => ⟨Iff.rfl, rfl, rfl⟩, fun b _ => ⟨fun k' z => cI_I2 C v (by
    by_cases e : k' = k
    · subst e
      exact Or.inr (fun e => z (e ▸ hs))
    · exact Or.inl e), fun _ _ => rfl, fun _ _ => rfl, fun _ _ => rfl⟩⟩
theorem Fp.R {S : Nat → Nat → Nat → Prop} {C : Cd} (W : Wf C) (k a : Nat) (v : Option Nat) (hs : S 1 k a) : Fp S C (cSetR C k a v) :=
  ⟨Nat.le_refl _, Nat.le_refl _, W, fun _ _ => ⟨Iff.rfl, rfl, rfl⟩, fun b _ => ⟨fun _ _ => rfl, fun k' z => cR_R2 C v (by
    by_cases e : k' = k
    · subst e
      exact Or.inr (fun e => z (e ▸ hs))
    · exact Or.inl e), fun _ _ => rfl, fun _ _ => rfl⟩⟩
theorem Fp.E {S : Nat → Nat → Nat → Prop} {C : Cd} (W : Wf C) (a i : Nat) (v : Int) (hs : S 2 0 a) : Fp S C (cSetE C a i v) :=
  ⟨Nat.le_refl _, Nat.le_refl _, W, fun _ _ => ⟨Iff.rfl, rfl, rfl⟩, fun b _ => ⟨fun _ _ => rfl, fun _ _ => rfl, fun z i' => cE_E2 C v (Or.inl (fun e => z (e ▸ hs))), fun _ _ => rfl⟩⟩
theorem Fp.P {S : Nat → Nat → Nat → Prop} {C : Cd} (W : Wf C) (a i : Nat) (v : Option Nat) (hs : S 3 0 a) : Fp S C (cSetP C a i v) :=
  ⟨Nat.le_refl _, Nat.le_refl _, W, fun _ _ => ⟨Iff.rfl, rfl, rfl⟩, fun b _ => ⟨fun _ _ => rfl, fun _ _ => rfl, fun _ _ => rfl, fun z i' => cP_P2 C v (Or.inl (fun e => z (e ▸ hs)))⟩⟩
theorem Fp.N {S : Nat → Nat → Nat → Prop} {C : Cd} (W : Wf C) (c : Nat) : Fp S C (cNew C c) := Fp.of (T := fun _ => False) (Kp.N W c) (Nat.le_add_right _ _) (fun _ _ _ _ z => z.elim)
theorem Fp.A {S : Nat → Nat → Nat → Prop} {C : Cd} (W : Wf C) (c n : Nat) : Fp S C (cNewA C c n) := Fp.of (T := fun _ => False) (Kp.A W c n) (Nat.le_add_right _ _) (fun _ _ _ _ z => z.elim)
theorem Fp.B {S : Nat → Nat → Nat → Prop} {C : Cd} (W : Wf C) : Fp S C (cBump C) := Fp.of (T := fun _ => False) (Kp.B W) (Nat.le_add_right _ _) (fun _ _ _ _ z => z.elim)
theorem TxOnly.csl {C C' : Cd} {a : Nat} (h : TxOnly C C' a) : csl C' = csl C := congrArg (fun (z : (Nat → Nat → Option Nat) × (Nat → Nat) × (Nat → Nat) × List Nat × Nat × Nat) => z.2.2.2.2.2) h.2.1
/-- of one text -/
def sTx (a : Nat) (i k b : Nat) : Prop := (i = 0 ∧ k = 1102 ∧ b = a) ∨ (i = 2 ∧ b = a + 1)
theorem TxOnly.fp {C C' : Cd} {a : Nat} (h : TxOnly C C' a) (W : Wf C) : Fp (sTx a) C C' := by
  have e1 : cL C' = cL C := congrArg (fun (z : (Nat → Nat → Option Nat) × (Nat → Nat) × (Nat → Nat) × List Nat × Nat × Nat) => z.2.2.2.1) h.2.1
  have e2 : cty C' = cty C := congrArg (fun (z : (Nat → Nat → Option Nat) × (Nat → Nat) × (Nat → Nat) × List Nat × Nat × Nat) => z.2.2.1) h.2.1
  have e3 : cP C' = cP C := congrArg (fun (z : (Nat → Nat → Option Nat) × (Nat → Nat) × (Nat → Nat) × List Nat × Nat × Nat) => z.1) h.2.1
  refine ⟨by rw [h.csz]; exact Nat.le_refl _, by rw [h.csl]; exact Nat.le_refl _, h.wf W, fun b _ => ⟨by rw [e1], by rw [e2], by rw [h.cn]⟩, fun b _ => ⟨fun k z => h.2.2.1 k b ?_, fun k _ => by rw [h.1], fun z i => h.2.2.2 b i (fun e => z (Or.inr ⟨Eq.refl _, e⟩)), fun _ i => by rw [e3]⟩⟩
  by_cases e : k = 1102
  · exact Or.inr (fun e' => z (Or.inl ⟨Eq.refl _, e, e'⟩))
  · exact Or.inl e
theorem TxA.fp {S : Nat → Nat → Nat → Prop} {C C' : Cd} {a cap : Nat} (W : Wf C) (h : Fp S C C') (ha : TxA C a cap) (hs : ¬ S 1 1100 a) (hs1 : ¬ S 1 1101 a) : TxA C' a cap := by
  obtain ⟨h1, h2, h3, h4, h5, h6, h7, h8⟩ := ha
  have hb := W a h1.1
  exact ⟨h.ob W h1, (h.fR hb hs).trans h2, (h.fR hb hs1).trans h3, h.ob W h4, h.ob W h5, (h.len W h4).trans h6, (h.len W h5).trans h7, h8⟩
theorem TxV.fp {S : Nat → Nat → Nat → Prop} {C C' : Cd} {a cap n : Nat} {g : Nat → Int} (W : Wf C) (h : Fp S C C') (ha : TxV C a cap g n) (hs : ¬ S 1 1100 a) (hs1 : ¬ S 1 1101 a) (hs2 : ¬ S 0 1102 a) (hs3 : ¬ S 2 0 (a + 1)) : TxV C' a cap g n := by
  obtain ⟨⟨h1, h2, h3, h4⟩, h5⟩ := ha
  have hb := W a h1.1.1
  have hb1 := W (a + 1) h1.2.2.2.1.1
  refine ⟨⟨h1.fp W h hs hs1, (h.fI hb hs2).trans h2, h3, fun k hk => ?_⟩, fun k hk => ?_⟩
  · rw [h.fE hb1 hs3]; exact h4 k hk
  · rw [h.fE hb1 hs3]; exact h5 k hk
theorem Stl.fp {S : Nat → Nat → Nat → Prop} {C C' : Cd} {a n : Nat} {g : Nat → Int} (W : Wf C) (h : Fp S C C') (ha : Stl C a g n) (hs : ¬ S 1 1100 a) (hs1 : ¬ S 1 1101 a) (hs2 : ¬ S 0 1102 a) (hs3 : ¬ S 2 0 (a + 1)) (hs4 : ¬ S 2 0 (a + 2)) : Stl C' a g n :=
  ⟨ha.1.fp W h hs hs1 hs2 hs3, fun k hk => by rw [h.fE (W (a + 2) ha.1.1.1.2.2.2.2.1.1) hs4]; exact ha.2 k hk⟩
theorem RwA.fp {S : Nat → Nat → Nat → Prop} {C C' : Cd} {a : Nat} (W : Wf C) (h : Fp S C C') (ha : RwA C a) (hs : ¬ S 1 800 a) : RwA C' a := by
  obtain ⟨h1, h2, h3, h4⟩ := ha
  exact ⟨h.ob W h1, (h.fR (W a h1.1) hs).trans h2, h.ob W h3, (h.len W h3).trans h4⟩
/-! WHERE THE CLASS'S OBJECTS LIE, from the wiki's own address on -/
/-- what may change in what lies fast -/
def Mu (b i k a : Nat) : Prop := i = 0 ∨ (i = 1 ∧ (k = 1203 ∨ k = 601 ∨ k = 602 ∨ k = 503 ∨ k = 504 ∨ k = 900 ∨ k = 901 ∨ k = 201)) ∨ i = 2 ∨ (i = 3 ∧ a ≠ b + 2 ∧ a ≠ b + 3 ∧ a ≠ b + 4 ∧ a ≠ b + 5)
def Lay0 (b : Nat) (C : Cd) : Prop := isO C b 14 ∧ isO C (b + 1) 4 ∧ (isO C (b + 2) 102 ∧ cn C (b + 2) = 24) ∧ (isO C (b + 3) 103 ∧ cn C (b + 3) = 4) ∧ (isO C (b + 4) 104 ∧ cn C (b + 4) = 41) ∧ (isO C (b + 5) 105 ∧ cn C (b + 5) = 512) ∧ RwA C (b + 6) ∧ (isO C (b + 8) 100 ∧ cn C (b + 8) = 8) ∧ (isO C (b + 9) 100 ∧ cn C (b + 9) = 30) ∧ isO C (b + 10) 7 ∧ RwA C (b + 11)
def LayR (b : Nat) (C : Cd) : Prop := (cR C 1400 b = some (b + 1) ∧ cR C 1401 b = some (b + 2) ∧ cR C 1402 b = some (b + 3) ∧ cR C 1403 b = some (b + 845) ∧ cR C 1404 b = some (b + 848) ∧ cR C 1405 b = some (b + 851)) ∧
  cR C 400 (b + 1) = some (b + 2) ∧ cR C 401 (b + 1) = some (b + 3) ∧ cR C 402 (b + 1) = some (b + 4) ∧ cR C 403 (b + 1) = some (b + 5) ∧ cR C 404 (b + 1) = some (b + 6) ∧ cR C 405 (b + 1) = some (b + 8) ∧ cR C 406 (b + 1) = some (b + 9) ∧ cR C 407 (b + 1) = some (b + 10) ∧ cR C 700 (b + 10) = some (b + 11)
def LayT (b : Nat) (C : Cd) : Prop := ∀ i, i < 24 → cP C (b + 2) i = some (b + 13 + 6 * i) ∧ isO C (b + 13 + 6 * i) 12 ∧ cR C 1200 (b + 13 + 6 * i) = some (b + 13 + 6 * i + 1) ∧ cR C 1201 (b + 13 + 6 * i) = some (b + 13 + 6 * i + 4) ∧ cR C 1202 (b + 13 + 6 * i) = some (b + 13 + 6 * i + 5) ∧ isO C (b + 13 + 6 * i + 1) 7 ∧ cR C 700 (b + 13 + 6 * i + 1) = some (b + 13 + 6 * i + 2) ∧ RwA C (b + 13 + 6 * i + 2) ∧ (isO C (b + 13 + 6 * i + 4) 100 ∧ cn C (b + 13 + 6 * i + 4) = 3) ∧ (isO C (b + 13 + 6 * i + 5) 100 ∧ cn C (b + 13 + 6 * i + 5) = 3)
def LayM (b : Nat) (C : Cd) : Prop := ∀ j, j < 4 → cP C (b + 3) j = some (b + 157 + 3 * j) ∧ isO C (b + 157 + 3 * j) 10 ∧ cR C 1000 (b + 157 + 3 * j) = some (b + 157 + 3 * j + 1) ∧ cR C 1001 (b + 157 + 3 * j) = some (b + 157 + 3 * j + 2) ∧ (isO C (b + 157 + 3 * j + 1) 100 ∧ cn C (b + 157 + 3 * j + 1) = 16) ∧ (isO C (b + 157 + 3 * j + 2) 100 ∧ cn C (b + 157 + 3 * j + 2) = 16)
def LayF (b : Nat) (C : Cd) : Prop := ∀ f, f < 41 → cP C (b + 4) f = some (b + 169 + 4 * f) ∧ isO C (b + 169 + 4 * f) 5 ∧ cR C 500 (b + 169 + 4 * f) = some (b + 169 + 4 * f + 1) ∧ cR C 501 (b + 169 + 4 * f) = some (b + 169 + 4 * f + 2) ∧ cR C 502 (b + 169 + 4 * f) = some (b + 169 + 4 * f + 3) ∧ (isO C (b + 169 + 4 * f + 1) 100 ∧ cn C (b + 169 + 4 * f + 1) = 10) ∧ (isO C (b + 169 + 4 * f + 2) 106 ∧ cn C (b + 169 + 4 * f + 2) = 30) ∧ (isO C (b + 169 + 4 * f + 3) 101 ∧ cn C (b + 169 + 4 * f + 3) = 30)
def LayU (b : Nat) (C : Cd) : Prop := ∀ r, r < 512 → cP C (b + 5) r = some (b + 333 + r) ∧ isO C (b + 333 + r) 9
def LayX (b : Nat) (C : Cd) : Prop := TxA C (b + 845) 30 ∧ TxA C (b + 848) 60 ∧ TxA C (b + 851) 90
def Lay (b : Nat) (C : Cd) : Prop := Wf C ∧ b + 854 ≤ csz C ∧ Lay0 b C ∧ LayR b C ∧ LayT b C ∧ LayM b C ∧ LayF b C ∧ LayU b C ∧ LayX b C
theorem Mu.nR {b k a : Nat} (h : Mu b 1 k a) : k = 1203 ∨ k = 601 ∨ k = 602 ∨ k = 503 ∨ k = 504 ∨ k = 900 ∨ k = 901 ∨ k = 201 := by
  rcases h with h | h | h | h
  · omega
  · exact h.2
  · omega
  · omega
theorem Mu.nP {b k a : Nat} (h : Mu b 3 k a) : a ≠ b + 2 ∧ a ≠ b + 3 ∧ a ≠ b + 4 ∧ a ≠ b + 5 := by
  rcases h with h | h | h | h
  · omega
  · omega
  · omega
  · exact h.2
theorem Lay.keep {b : Nat} {C C' : Cd} (h : Lay b C) (f : Fp (Mu b) C C') : Lay b C' := by
  obtain ⟨W, hz, h0, hR, hT, hM, hF, hU, hX⟩ := h
  have nr : ∀ {k a : Nat}, k ≠ 1203 ∧ k ≠ 601 ∧ k ≠ 602 ∧ k ≠ 503 ∧ k ≠ 504 ∧ k ≠ 900 ∧ k ≠ 901 ∧ k ≠ 201 → ¬ Mu b 1 k a := fun q m => by
    have := m.nR
    omega
  have rw_ : ∀ {a : Nat}, RwA C a → RwA C' a := fun r => r.fp W f (nr (by omega))
  have tx_ : ∀ {a cap : Nat}, TxA C a cap → TxA C' a cap := fun r => r.fp W f (nr (by omega)) (nr (by omega))
  have oo : ∀ {a t : Nat}, isO C a t → isO C' a t := fun r => f.ob W r
  have on : ∀ {a t n : Nat}, isO C a t ∧ True ∧ C.2.2.2.2.1 a = n → isO C' a t ∧ C'.2.2.2.2.1 a = n := fun r => ⟨f.ob W r.1, (f.len W r.1).trans r.2.2⟩
  have hr : ∀ {k a : Nat} {v : Option Nat}, a < csz C → (k ≠ 1203 ∧ k ≠ 601 ∧ k ≠ 602 ∧ k ≠ 503 ∧ k ≠ 504 ∧ k ≠ 900 ∧ k ≠ 901 ∧ k ≠ 201) → cR C k a = v → cR C' k a = v := fun ha q e => (f.fR ha (nr q)).trans e
  have hp : ∀ {a i : Nat} {v : Option Nat}, a < csz C → (a = b + 2 ∨ a = b + 3 ∨ a = b + 4 ∨ a = b + 5) → cP C a i = v → cP C' a i = v := fun ha q e => (f.fP ha (fun m => by have := m.nP; omega) _).trans e
  refine ⟨f.wf, Nat.le_trans hz f.1, ?_, ?_, ?_, ?_, ?_, ?_, ?_⟩
  · obtain ⟨a1, a2, a3, a4, a5, a6, a7, a8, a9, a10, a11⟩ := h0
    exact ⟨oo a1, oo a2, on ⟨a3.1, trivial, a3.2⟩, on ⟨a4.1, trivial, a4.2⟩, on ⟨a5.1, trivial, a5.2⟩, on ⟨a6.1, trivial, a6.2⟩, rw_ a7, on ⟨a8.1, trivial, a8.2⟩, on ⟨a9.1, trivial, a9.2⟩, oo a10, rw_ a11⟩
  · obtain ⟨⟨a1, a2, a3, a4, a5, a6⟩, b1, b2, b3, b4, b5, b6, b7, b8, b9⟩ := hR
    exact ⟨⟨hr (by omega) (by omega) a1, hr (by omega) (by omega) a2, hr (by omega) (by omega) a3, hr (by omega) (by omega) a4, hr (by omega) (by omega) a5, hr (by omega) (by omega) a6⟩,
      hr (by omega) (by omega) b1, hr (by omega) (by omega) b2, hr (by omega) (by omega) b3, hr (by omega) (by omega) b4, hr (by omega) (by omega) b5, hr (by omega) (by omega) b6, hr (by omega) (by omega) b7, hr (by omega) (by omega) b8, hr (by omega) (by omega) b9⟩
  · intro i hi
    obtain ⟨a1, a2, a3, a4, a5, a6, a7, a8, a9, a10⟩ := hT i hi
    exact ⟨hp (by omega) (by omega) a1, oo a2, hr (by omega) (by omega) a3, hr (by omega) (by omega) a4, hr (by omega) (by omega) a5, oo a6, hr (by omega) (by omega) a7, rw_ a8, on ⟨a9.1, trivial, a9.2⟩, on ⟨a10.1, trivial, a10.2⟩⟩
  · intro i hi
    obtain ⟨a1, a2, a3, a4, a5, a6⟩ := hM i hi
    exact ⟨hp (by omega) (by omega) a1, oo a2, hr (by omega) (by omega) a3, hr (by omega) (by omega) a4, on ⟨a5.1, trivial, a5.2⟩, on ⟨a6.1, trivial, a6.2⟩⟩
  · intro i hi
    obtain ⟨a1, a2, a3, a4, a5, a6, a7, a8⟩ := hF i hi
    exact ⟨hp (by omega) (by omega) a1, oo a2, hr (by omega) (by omega) a3, hr (by omega) (by omega) a4, hr (by omega) (by omega) a5, on ⟨a6.1, trivial, a6.2⟩, on ⟨a7.1, trivial, a7.2⟩, on ⟨a8.1, trivial, a8.2⟩⟩
  · intro i hi
    obtain ⟨a1, a2⟩ := hU i hi
    exact ⟨hp (by omega) (by omega) a1, oo a2⟩
  · exact ⟨tx_ hX.1, tx_ hX.2.1, tx_ hX.2.2⟩
