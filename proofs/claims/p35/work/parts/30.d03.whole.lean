/-! THE CLASS MADE: the wiki itself -/
section INL
variable {b : Nat} {C C' C1 C2 C3 : Cd} {S : Nat → Nat → Nat → Prop}
theorem stX {b : Nat} (W : Wf C) (ho : isO C b 14) (k : Nat) {n : Nat} (hn : n ≤ 90) : ∃ C1 C', fX8_init (csz C) (n : Int) (cNew C 11) = some ((), C1) ∧ cSetR C1 k b (some (csz C)) = C' ∧ isO C1 b 14 ∧ isO C' b 14 ∧ TxV C' (csz C) n (fun _ => 0) 0 ∧ cR C' k b = some (csz C) ∧ csz C' = csz C + 3 ∧ csl C' = csl C + 3 + 2 * n ∧ Fp (Sa b k) C C' ∧ Wf C' := by
  obtain ⟨C1, e1, t1, k1, s1, l1, W1⟩ := X8_init_ W hn
  have f1 : Fp (Sa b k) C C1 := Fp.of k1 (by omega) (fun _ _ _ _ z => z.elim)
  have hb := W b ho.1
  have f2 : Fp (Sa b k) C1 (cSetR C1 k b (some (csz C))) := Fp.R W1 _ _ _ ⟨rfl, Or.inr (Nat.le_refl _)⟩
  have tv : TxV C1 (csz C) n (fun _ => 0) 0 := ⟨t1, fun k hk => absurd hk (by omega)⟩
  exact ⟨C1, _, e1, rfl, f1.ob W ho, f1.ob W ho, tv.fp W1 f2 (fun y => by have := y.1; omega) (fun y => by have := y.1; omega) (fun y => by have := y.1; omega) (fun y => by have := y.1; omega), cR_R1 _ _ _ _, s1, l1, f1.tr f2, W1⟩
/-- the fields of the wiki -/
def X11R (b : Nat) (C : Cd) : Prop := cR C 1400 b = some (b + 1) ∧ cR C 1401 b = some (b + 2) ∧ cR C 1402 b = some (b + 3) ∧ cR C 1403 b = some (b + 845) ∧ cR C 1404 b = some (b + 848) ∧ cR C 1405 b = some (b + 851)
theorem X11_init_ (W : Wf C) (hz : csz C = b + 1) (ho : isO C b 14) : ∃ C', fX11_init b C = some ((), C') ∧ Fp (fun _ _ x => x = b) C C' ∧ csz C' = b + 854 ∧ csl C' ≤ csl C + 13000 ∧ isO C' b 14 ∧ X1O b C' ∧ X11R b C' ∧ (TxV C' (b + 845) 30 (fun _ => 0) 0 ∧ TxV C' (b + 848) 60 (fun _ => 0) 0 ∧ TxV C' (b + 851) 90 (fun _ => 0) 0) ∧ ∀ k, 1406 ≤ k → k ≤ 1409 → cI C' k b = 0 := by
  have W1 := Wf_N W 4
  have z1 : csz (cNew C 4) = b + 2 := by show csz C + 1 = _; omega
  have o1 : isO (cNew C 4) (b + 1) 4 := by rw [← hz]; exact isO_N1 C 4
  obtain ⟨C2, e2, f2, s2, l2, x2⟩ := X1_init_ W1 z1 o1
  have W2 := f2.wf
  have fN : Fp (Sa b 1400) C (cNew C 4) := Fp.N W 4
  have f02 : Fp (Sa b 1400) C C2 := fN.tr2 f2 (fun q k x hx y => by omega)
  have o2 : isO C2 b 14 := f02.ob W ho
  generalize h4 : cSetR C2 1400 b (some (b + 1)) = C4
  have o4 : isO C4 b 14 := by rw [← h4]; exact o2
  have f4 : Fp (Sa b 1400) C2 C4 := by rw [← h4]; exact Fp.R W2 _ _ _ ⟨rfl, Or.inr (Nat.le_refl _)⟩
  have W4 := f4.wf
  have r4 : cR C4 1400 b = some (b + 1) := by rw [← h4]; exact cR_R1 _ _ _ _
  have s4 : csz C4 = csz C2 := by rw [← h4]; rfl
  have l4 : csl C4 = csl C2 := by rw [← h4]; rfl
  have nb : ∀ k q j x, b + 1 ≤ x → x < b + 845 → ¬ Sa b k q j x := fun k q j x h _ y => by have := y.1; omega
  have x4 : X1O b C4 := x2.fp W2 f4 (nb _)
  generalize h8 : cSetR C4 1401 b (some (b + 2)) = C8
  have o8 : isO C8 b 14 := by rw [← h8]; exact o4
  have f8 : Fp (Sa b 1401) C4 C8 := by rw [← h8]; exact Fp.R W4 _ _ _ ⟨rfl, Or.inr (Nat.le_refl _)⟩
  have W8 := f8.wf
  have r8 : cR C8 1401 b = some (b + 2) := by rw [← h8]; exact cR_R1 _ _ _ _
  have s8 : csz C8 = csz C4 := by rw [← h8]; rfl
  have l8 : csl C8 = csl C4 := by rw [← h8]; rfl
  have x8 : X1O b C8 := x4.fp W4 f8 (nb _)
  have nS : ∀ k j, j < k → ¬ Sa b k 1 j b := fun k j h y => by have := y.2; omega
  have r48 : cR C8 1400 b = some (b + 1) := (f8.fR (by omega) (nS _ _ (by decide))).trans r4
  generalize h12 : cSetR C8 1402 b (some (b + 3)) = C12
  have o12 : isO C12 b 14 := by rw [← h12]; exact o8
  have f12 : Fp (Sa b 1402) C8 C12 := by rw [← h12]; exact Fp.R W8 _ _ _ ⟨rfl, Or.inr (Nat.le_refl _)⟩
  have W12 := f12.wf
  have r12 : cR C12 1402 b = some (b + 3) := by rw [← h12]; exact cR_R1 _ _ _ _
  have s12 : csz C12 = csz C8 := by rw [← h12]; rfl
  have l12 : csl C12 = csl C8 := by rw [← h12]; rfl
  have x12 : X1O b C12 := x8.fp W8 f12 (nb _)
  obtain ⟨C14, C16, e14, e16, o14, o16, t16, r16, s16, l16, f16, W16⟩ := stX W12 o12 1403 (n := 30) (by decide)
  obtain ⟨C18, C20, e18, e20, o18, o20, t20, r20, s20, l20, f20, W20⟩ := stX f16.wf o16 1404 (n := 60) (by decide)
  obtain ⟨C22, C24, e22, e24, o22, o24, t24, r24, s24, l24, f24, W24⟩ := stX f20.wf o20 1405 (n := 90) (by decide)
  have pi : ∀ (D : Cd) (k : Nat) (v : Int) (x y : Nat), isO D x y → isO (cSetI D k b v) x y := fun D k v x y h => h
  generalize h28 : cSetI (cSetI (cSetI (cSetI C24 1406 b 0) 1407 b 0) 1408 b 0) 1409 b 0 = C28
  have o28 : isO C28 b 14 := by rw [← h28]; exact o24
  have g24 : Fp (Sa b 1406) C24 C28 := by
    rw [← h28]
    exact (((((Fp.rf f24.wf).sI ⟨rfl, Or.inl rfl⟩).sI ⟨rfl, Or.inl rfl⟩).sI ⟨rfl, Or.inl rfl⟩).sI ⟨rfl, Or.inl rfl⟩)
  have s28 : csz C28 = csz C24 := by rw [← h28]; rfl
  have l28 : csl C28 = csl C24 := by rw [← h28]; rfl
  have g20 : Fp (Sa b 1405) C20 C28 := f24.tr (g24.mono (fun q k x _ y => y.up (by decide)))
  have g16 : Fp (Sa b 1404) C16 C28 := f20.tr (g20.mono (fun q k x _ y => y.up (by decide)))
  have g12 : Fp (Sa b 1403) C12 C28 := f16.tr (g16.mono (fun q k x _ y => y.up (by decide)))
  have g8 : Fp (Sa b 1402) C8 C28 := f12.tr (g12.mono (fun q k x _ y => y.up (by decide)))
  have g4 : Fp (Sa b 1401) C4 C28 := f8.tr (g8.mono (fun q k x _ y => y.up (by decide)))
  have g2 : Fp (Sa b 1400) C2 C28 := f4.tr (g4.mono (fun q k x _ y => y.up (by decide)))
  have g0 : Fp (Sa b 1400) C C28 := f02.tr g2
  have w12 : csz C12 = b + 845 := by omega
  have w16 : csz C16 = b + 848 := by omega
  have w20 : csz C20 = b + 851 := by omega
  refine ⟨C28, ?_, g0.mono (fun q k x _ y => y.1), by omega, ?_, o28, x2.fp W2 g2 (nb _), ?_, ?_, fun k k1 k2 => ?_⟩
  · unfold fX11_init
    rw [bnd_eq, hz, cal_of e2, if_pos o2, bnd_eq, h4, if_pos o4, bnd_eq, r4, drf_some, if_pos x4.1.1.1, bnd_eq, if_pos o4, bnd_eq, x4.1.2.1.1, h8, if_pos o8, bnd_eq, r48, drf_some, if_pos x8.1.1.1, bnd_eq, if_pos o8, bnd_eq, x8.1.2.1.2.1, h12]
    rw [bnd_eq, cal_of (show fX8_init (csz C12) 30 (cNew C12 11) = some ((), C14) from e14), if_pos o14, bnd_eq, e16]
    rw [bnd_eq, cal_of (show fX8_init (csz C16) 60 (cNew C16 11) = some ((), C18) from e18), if_pos o18, bnd_eq, e20]
    rw [bnd_eq, cal_of (show fX8_init (csz C20) 90 (cNew C20 11) = some ((), C22) from e22), if_pos o22, bnd_eq, e24]
    rw [if_pos o24, bnd_eq]
    rw [if_pos (pi _ _ _ _ _ o24), bnd_eq]
    rw [if_pos (pi _ _ _ _ _ (pi _ _ _ _ _ o24)), bnd_eq]
    rw [if_pos (pi _ _ _ _ _ (pi _ _ _ _ _ (pi _ _ _ _ _ o24))), bnd_eq, h28]
  · have z : csl (cNew C 4) ≤ csl C + 20 := by show csl C + _ ≤ _; exact Nat.add_le_add_left (by decide) _
    omega
  · rw [w12] at r16
    rw [w16] at r20
    rw [w20] at r24
    exact ⟨(g4.fR (by omega) (nS _ _ (by decide))).trans r4, (g8.fR (by omega) (nS _ _ (by decide))).trans r8, (g12.fR (by omega) (nS _ _ (by decide))).trans r12, (g16.fR (by omega) (nS _ _ (by decide))).trans r16, (g20.fR (by omega) (nS _ _ (by decide))).trans r20, (g24.fR (by omega) (nS _ _ (by decide))).trans r24⟩
  · rw [w12] at t16
    rw [w16] at t20
    rw [w20] at t24
    have nb2 : ∀ k q j x, b + 845 ≤ x → ¬ Sa b k q j x := fun k q j x h y => by have := y.1; omega
    exact ⟨t16.fp f16.wf g16 (nb2 _ _ _ _ (by omega)) (nb2 _ _ _ _ (by omega)) (nb2 _ _ _ _ (by omega)) (nb2 _ _ _ _ (by omega)), t20.fp f20.wf g20 (nb2 _ _ _ _ (by omega)) (nb2 _ _ _ _ (by omega)) (nb2 _ _ _ _ (by omega)) (nb2 _ _ _ _ (by omega)), t24.fp f24.wf g24 (nb2 _ _ _ _ (by omega)) (nb2 _ _ _ _ (by omega)) (nb2 _ _ _ _ (by omega)) (nb2 _ _ _ _ (by omega))⟩
  · rw [← h28]
    have hk : k = 1406 ∨ k = 1407 ∨ k = 1408 ∨ k = 1409 := by omega
    rcases hk with e | e | e | e <;> subst e
    · rw [cI_I2 _ _ (Or.inl (by decide)), cI_I2 _ _ (Or.inl (by decide)), cI_I2 _ _ (Or.inl (by decide)), cI_I1]
    · rw [cI_I2 _ _ (Or.inl (by decide)), cI_I2 _ _ (Or.inl (by decide)), cI_I1]
    · rw [cI_I2 _ _ (Or.inl (by decide)), cI_I1]
    · rw [cI_I1]
end INL
