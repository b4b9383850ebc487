/-! THE CLASS MADE: the expander -/
section INK
variable {b : Nat} {C C' C1 C2 C3 : Cd} {S : Nat → Nat → Nat → Prop}
def X1T (b : Nat) (C : Cd) : Prop := ∀ i, i < 24 → cP C (b + 2) i = some (b + 13 + 6 * i) ∧ TtO C (b + 13 + 6 * i)
def X1M (b : Nat) (C : Cd) : Prop := ∀ i, i < 4 → cP C (b + 3) i = some (b + 157 + 3 * i) ∧ ModO C (b + 157 + 3 * i)
def X1F (b : Nat) (C : Cd) : Prop := ∀ i, i < 41 → cP C (b + 4) i = some (b + 169 + 4 * i) ∧ FraO C (b + 169 + 4 * i)
def X1U (b : Nat) (C : Cd) : Prop := ∀ i, i < 512 → cP C (b + 5) i = some (b + 333 + i) ∧ isO C (b + 333 + i) 9
def X1A (b : Nat) (C : Cd) : Prop := isO C (b + 1) 4 ∧ (isO C (b + 2) 102 ∧ cn C (b + 2) = 24) ∧ (isO C (b + 3) 103 ∧ cn C (b + 3) = 4) ∧ (isO C (b + 4) 104 ∧ cn C (b + 4) = 41) ∧ (isO C (b + 5) 105 ∧ cn C (b + 5) = 512) ∧ (isO C (b + 8) 100 ∧ cn C (b + 8) = 8) ∧ (isO C (b + 9) 100 ∧ cn C (b + 9) = 30)
def X1R (b : Nat) (C : Cd) : Prop := cR C 400 (b + 1) = some (b + 2) ∧ cR C 401 (b + 1) = some (b + 3) ∧ cR C 402 (b + 1) = some (b + 4) ∧ cR C 403 (b + 1) = some (b + 5) ∧ cR C 404 (b + 1) = some (b + 6) ∧ cR C 405 (b + 1) = some (b + 8) ∧ cR C 406 (b + 1) = some (b + 9) ∧ cR C 407 (b + 1) = some (b + 10)
def X1B (b : Nat) (C : Cd) : Prop := X1A b C ∧ X1R b C ∧ RowV C (b + 6) [] ∧ RenO C (b + 10)
def X1O (b : Nat) (C : Cd) : Prop := X1B b C ∧ X1T b C ∧ X1M b C ∧ X1F b C ∧ X1U b C
theorem X1A.fp (W : Wf C) (f : Fp S C C') (h : X1A b C) : X1A b C' := by
  obtain ⟨h1, h2, h3, h4, h5, h6, h7⟩ := h
  exact ⟨f.ob W h1, ⟨f.ob W h2.1, (f.len W h2.1).trans h2.2⟩, ⟨f.ob W h3.1, (f.len W h3.1).trans h3.2⟩, ⟨f.ob W h4.1, (f.len W h4.1).trans h4.2⟩, ⟨f.ob W h5.1, (f.len W h5.1).trans h5.2⟩, ⟨f.ob W h6.1, (f.len W h6.1).trans h6.2⟩, ⟨f.ob W h7.1, (f.len W h7.1).trans h7.2⟩⟩
theorem X1B.fp (W : Wf C) (f : Fp S C C') (hs : ∀ q k x, b + 1 ≤ x → x < b + 13 → S q k x → q = 3) (h : X1B b C) : X1B b C' := by
  obtain ⟨h1, ⟨a1, a2, a3, a4, a5, a6, a7, a8⟩, h3, h4⟩ := h
  have z := W _ h1.1.1
  have n1 : ∀ k, ¬ S 1 k (b + 1) := fun k y => absurd (hs _ _ _ (by omega) (by omega) y) (by decide)
  have n0 : ∀ q k x, q ≠ 3 → b + 1 ≤ x → x < b + 13 → ¬ S q k x := fun q k x hq u v y => hq (hs _ _ _ u v y)
  refine ⟨h1.fp W f, ⟨(f.fR z (n1 _)).trans a1, (f.fR z (n1 _)).trans a2, (f.fR z (n1 _)).trans a3, (f.fR z (n1 _)).trans a4, (f.fR z (n1 _)).trans a5, (f.fR z (n1 _)).trans a6, (f.fR z (n1 _)).trans a7, (f.fR z (n1 _)).trans a8⟩, h3.fp W f (n0 _ _ _ (by decide) (by omega) (by omega)) (n0 _ _ _ (by decide) (by omega) (by omega)) (n0 _ _ _ (by decide) (by omega) (by omega)) (n0 _ _ _ (by decide) (by omega) (by omega)), ?_⟩
  obtain ⟨r1, r2, r3, r4⟩ := h4
  have z := W _ r1.1
  exact ⟨f.ob W r1, (f.fR z (n0 _ _ _ (by decide) (by omega) (by omega))).trans r2, r3.fp W f (n0 _ _ _ (by decide) (by omega) (by omega)) (n0 _ _ _ (by decide) (by omega) (by omega)) (n0 _ _ _ (by decide) (by omega) (by omega)) (n0 _ _ _ (by decide) (by omega) (by omega)), fun k a1 a2 => (f.fI z (n0 _ _ _ (by decide) (by omega) (by omega))).trans (r4 k a1 a2)⟩
theorem X1T.fp (W : Wf C) (f : Fp S C C') (hz : b + 2 < csz C) (h2 : ¬ S 3 0 (b + 2)) (hs : ∀ q k x, b + 13 ≤ x → x < b + 157 → ¬ S q k x) (h : X1T b C) : X1T b C' := fun i hi => ⟨(f.fP hz h2 i).trans (h i hi).1, (h i hi).2.fp W f (fun q k x u v => hs q k x (by omega) (by omega))⟩
theorem X1M.fp (W : Wf C) (f : Fp S C C') (hz : b + 3 < csz C) (h2 : ¬ S 3 0 (b + 3)) (hs : ∀ q k x, b + 157 ≤ x → x < b + 169 → ¬ S q k x) (h : X1M b C) : X1M b C' := fun i hi => ⟨(f.fP hz h2 i).trans (h i hi).1, (h i hi).2.fp W f (fun q k x u v => hs q k x (by omega) (by omega))⟩
theorem X1F.fp (W : Wf C) (f : Fp S C C') (hz : b + 4 < csz C) (h2 : ¬ S 3 0 (b + 4)) (hs : ∀ q k x, b + 169 ≤ x → x < b + 333 → ¬ S q k x) (h : X1F b C) : X1F b C' := fun i hi => ⟨(f.fP hz h2 i).trans (h i hi).1, (h i hi).2.fp W f (fun q k x u v => hs q k x (by omega) (by omega))⟩
theorem X1U.fp (W : Wf C) (f : Fp S C C') (hz : b + 5 < csz C) (h2 : ¬ S 3 0 (b + 5)) (h : X1U b C) : X1U b C' := fun i hi => ⟨(f.fP hz h2 i).trans (h i hi).1, f.ob W (h i hi).2⟩
theorem X1O.fp (W : Wf C) (f : Fp S C C') (hs : ∀ q k x, b + 1 ≤ x → x < b + 845 → ¬ S q k x) (h : X1O b C) : X1O b C' := by
  obtain ⟨h1, h2, h3, h4, h5⟩ := h
  have z := W _ h1.1.2.2.2.2.1.1.1
  exact ⟨h1.fp W f (fun q k x u v y => absurd y (hs q k x u (by omega))), h2.fp W f (by omega) (hs _ _ _ (by omega) (by omega)) (fun q k x u v => hs _ _ _ (by omega) (by omega)), h3.fp W f (by omega) (hs _ _ _ (by omega) (by omega)) (fun q k x u v => hs _ _ _ (by omega) (by omega)), h4.fp W f (by omega) (hs _ _ _ (by omega) (by omega)) (fun q k x u v => hs _ _ _ (by omega) (by omega)), h5.fp W f (by omega) (hs _ _ _ (by omega) (by omega))⟩
theorem X1_init_ (W : Wf C) (hz : csz C = b + 2) (ho : isO C (b + 1) 4) : ∃ C', fX1_init (b + 1) C = some ((), C') ∧ Fp (fun _ _ x => x = b + 1) C C' ∧ csz C' = b + 845 ∧ csl C' ≤ csl C + 12000 ∧ X1O b C' := by
  obtain ⟨C2, e2, a2, o2, t2, r2, s2, l2, f2, W2⟩ := stA W ho 102 24 400
  obtain ⟨C4, e4, a4, o4, t4, r4, s4, l4, f4, W4⟩ := stA W2 o2 103 4 401
  obtain ⟨C6, e6, a6, o6, t6, r6, s6, l6, f6, W6⟩ := stA W4 o4 104 41 402
  obtain ⟨C8, e8, a8, o8, t8, r8, s8, l8, f8, W8⟩ := stA W6 o6 105 512 403
  obtain ⟨C10, e10, v10, f10, s10, l10⟩ := X5_init_ W8
  have W10 := f10.wf
  have o10 := f10.ob W8 o8
  generalize h12 : cSetR C10 404 (b + 1) (some (csz C8)) = C12
  have o12 : isO C12 (b + 1) 4 := by rw [← h12]; exact o10
  have f12 : Fp (Sa (b + 1) 404) C10 C12 := by rw [← h12]; exact Fp.R W10 _ _ _ ⟨rfl, Or.inr (Nat.le_refl _)⟩
  have s12 : csz C12 = csz C10 := by rw [← h12]; rfl
  have l12 : csl C12 = csl C10 := by rw [← h12]; rfl
  have r12 : cR C12 404 (b + 1) = some (csz C8) := by rw [← h12]; exact cR_R1 _ _ _ _
  obtain ⟨C14, e14, a14, o14, t14, r14, s14, l14, f14, W14⟩ := stA f12.wf o12 100 8 405
  obtain ⟨C16, e16, a16, o16, t16, r16, s16, l16, f16, W16⟩ := stA W14 o14 100 30 406
  obtain ⟨C18, e18, v18, f18, s18, l18⟩ := X4_init_ W16
  have W18 := f18.wf
  have o18 := f18.ob W16 o16
  generalize h20 : cSetR C18 407 (b + 1) (some (csz C16)) = C20
  have o20 : isO C20 (b + 1) 4 := by rw [← h20]; exact o18
  have f20 : Fp (Sa (b + 1) 407) C18 C20 := by rw [← h20]; exact Fp.R W18 _ _ _ ⟨rfl, Or.inr (Nat.le_refl _)⟩
  have s20 : csz C20 = csz C18 := by rw [← h20]; rfl
  have l20 : csl C20 = csl C18 := by rw [← h20]; rfl
  have r20 : cR C20 407 (b + 1) = some (csz C16) := by rw [← h20]; exact cR_R1 _ _ _ _
  have pi : ∀ (D : Cd) (k : Nat) (v : Int) (x y : Nat), isO D x y → isO (cSetI D k (b + 1) v) x y := fun D k v x y h => h
  generalize h27 : cSetI (cSetI (cSetI (cSetI (cSetI (cSetI (cSetI C20 408 (b + 1) 0) 409 (b + 1) 0) 410 (b + 1) 0) 411 (b + 1) (-1)) 412 (b + 1) 0) 413 (b + 1) 0) 414 (b + 1) (-1) = C27
  have o27 : isO C27 (b + 1) 4 := by rw [← h27]; exact o20
  have g20 : Fp (Sa (b + 1) 408) C20 C27 := by
    rw [← h27]
    exact ((((((((Fp.rf f20.wf).sI ⟨rfl, Or.inl rfl⟩).sI ⟨rfl, Or.inl rfl⟩).sI ⟨rfl, Or.inl rfl⟩).sI ⟨rfl, Or.inl rfl⟩).sI ⟨rfl, Or.inl rfl⟩).sI ⟨rfl, Or.inl rfl⟩).sI ⟨rfl, Or.inl rfl⟩)
  have s27 : csz C27 = csz C20 := by rw [← h27]; rfl
  have l27 : csl C27 = csl C20 := by rw [← h27]; rfl
  have g18 : Fp (Sa (b + 1) 407) C18 C27 := f20.tr (g20.mono (fun q k x _ y => y.up (by decide)))
  have g16 : Fp (Sa (b + 1) 407) C16 C27 := (f18.mono (fun q k x _ y => y.elim)).tr g18
  have g14 : Fp (Sa (b + 1) 406) C14 C27 := f16.tr (g16.mono (fun q k x _ y => y.up (by decide)))
  have g12 : Fp (Sa (b + 1) 405) C12 C27 := f14.tr (g14.mono (fun q k x _ y => y.up (by decide)))
  have g10 : Fp (Sa (b + 1) 404) C10 C27 := f12.tr (g12.mono (fun q k x _ y => y.up (by decide)))
  have g8 : Fp (Sa (b + 1) 404) C8 C27 := (f10.mono (fun q k x _ y => y.elim)).tr g10
  have g6 : Fp (Sa (b + 1) 403) C6 C27 := f8.tr (g8.mono (fun q k x _ y => y.up (by decide)))
  have g4 : Fp (Sa (b + 1) 402) C4 C27 := f6.tr (g6.mono (fun q k x _ y => y.up (by decide)))
  have g2 : Fp (Sa (b + 1) 401) C2 C27 := f4.tr (g4.mono (fun q k x _ y => y.up (by decide)))
  have g0 : Fp (Sa (b + 1) 400) C C27 := f2.tr (g2.mono (fun q k x _ y => y.up (by decide)))
  have W27 := g0.wf
  have nS : ∀ k j, j < k → ¬ Sa (b + 1) k 1 j (b + 1) := fun k j h y => by have := y.2; omega
  have nX : ∀ k q j x, x ≠ b + 1 → ¬ Sa (b + 1) k q j x := fun k q j x h y => h y.1
  have w2 : csz C2 = b + 3 := by omega
  have w4 : csz C4 = b + 4 := by omega
  have w6 : csz C6 = b + 5 := by omega
  have w8 : csz C8 = b + 6 := by omega
  have w12 : csz C12 = b + 8 := by omega
  have w14 : csz C14 = b + 9 := by omega
  have w16 : csz C16 = b + 10 := by omega
  have w27 : csz C27 = b + 13 := by omega
  have hB : X1B b C27 := by
    rw [hz] at t2 r2
    rw [w2] at t4 r4
    rw [w4] at t6 r6
    rw [w6] at t8 r8
    rw [w8] at v10 r12
    rw [w12] at t14 r14
    rw [w14] at t16 r16
    rw [w16] at v18 r20
    refine ⟨⟨o27, ⟨g2.ob W2 t2.1, (g2.len W2 t2.1).trans t2.2⟩, ⟨g4.ob W4 t4.1, (g4.len W4 t4.1).trans t4.2⟩, ⟨g6.ob W6 t6.1, (g6.len W6 t6.1).trans t6.2⟩, ⟨g8.ob W8 t8.1, (g8.len W8 t8.1).trans t8.2⟩, ⟨g14.ob W14 t14.1, (g14.len W14 t14.1).trans t14.2⟩, ⟨g16.ob W16 t16.1, (g16.len W16 t16.1).trans t16.2⟩⟩, ⟨?_, ?_, ?_, ?_, ?_, ?_, ?_, ?_⟩, v10.fp W10 g10 (nX _ _ _ _ (by omega)) (nX _ _ _ _ (by omega)) (nX _ _ _ _ (by omega)) (nX _ _ _ _ (by omega)), v18.fp W18 g18 (fun q k x u v => nX _ _ _ _ (by omega))⟩
    · exact (g2.fR (by omega) (nS _ _ (by decide))).trans r2
    · exact (g4.fR (by omega) (nS _ _ (by decide))).trans r4
    · exact (g6.fR (by omega) (nS _ _ (by decide))).trans r6
    · exact (g8.fR (by omega) (nS _ _ (by decide))).trans r8
    · exact (g12.fR (by omega) (nS _ _ (by decide))).trans r12
    · exact (g14.fR (by omega) (nS _ _ (by decide))).trans r14
    · exact (g16.fR (by omega) (nS _ _ (by decide))).trans r16
    · exact (g20.fR (by omega) (nS _ _ (by decide))).trans r20
  unfold fX1_init
  rw [if_pos (show 0 ≤ w32 24 ∧ w32 24 < 1000000 by decide), bnd_eq, show ix 24 = 24 from rfl, if_pos a2, bnd_eq, e2]
  rw [if_pos (show 0 ≤ w32 4 ∧ w32 4 < 1000000 by decide), bnd_eq, show ix 4 = 4 from rfl, if_pos a4, bnd_eq, e4]
  rw [if_pos (show 0 ≤ w32 41 ∧ w32 41 < 1000000 by decide), bnd_eq, show ix 41 = 41 from rfl, if_pos a6, bnd_eq, e6]
  rw [if_pos (show 0 ≤ w32 512 ∧ w32 512 < 1000000 by decide), bnd_eq, show ix 512 = 512 from rfl, if_pos a8, bnd_eq, e8]
  rw [bnd_eq, cal_of e10, if_pos o10, bnd_eq, h12]
  rw [if_pos (show 0 ≤ w32 8 ∧ w32 8 < 1000000 by decide), bnd_eq, show ix 8 = 8 from rfl, if_pos a14, bnd_eq, e14]
  rw [if_pos (show 0 ≤ w32 30 ∧ w32 30 < 1000000 by decide), bnd_eq, show ix 30 = 30 from rfl, if_pos a16, bnd_eq, e16]
  rw [bnd_eq, cal_of e18, if_pos o18, bnd_eq, h20]
  rw [if_pos o20, bnd_eq]
  rw [if_pos (pi _ _ _ _ _ o20), bnd_eq]
  rw [if_pos (pi _ _ _ _ _ (pi _ _ _ _ _ o20)), bnd_eq]
  rw [if_pos (pi _ _ _ _ _ (pi _ _ _ _ _ (pi _ _ _ _ _ o20))), bnd_eq]
  rw [if_pos (pi _ _ _ _ _ (pi _ _ _ _ _ (pi _ _ _ _ _ (pi _ _ _ _ _ o20)))), bnd_eq]
  rw [if_pos (pi _ _ _ _ _ (pi _ _ _ _ _ (pi _ _ _ _ _ (pi _ _ _ _ _ (pi _ _ _ _ _ o20))))), bnd_eq]
  rw [if_pos (pi _ _ _ _ _ (pi _ _ _ _ _ (pi _ _ _ _ _ (pi _ _ _ _ _ (pi _ _ _ _ _ (pi _ _ _ _ _ o20)))))), bnd_eq, h27]
  refine mkT (mk := fX9_init) (O := TtO) (kR := 400) (tag := 102) (N := 24) (cls := 12) (s := 6) (sl := 173) (p := b + 2) (a0 := b + 1) (fun _ _ _ => rfl) (fun _ W => X9_init_ W) (fun h => h.1) (fun W f h hs => h.fp W f hs) (by decide) (by decide) W27 o27 hB.2.1.1 hB.1.2.1.1 hB.1.2.1.2 (fun C28 f28 s28 l28 q28 => ?_)
  have hB1 : X1B b C28 := hB.fp W27 f28 (fun q k x u v y => y.1)
  have hT1 : X1T b C28 := fun i hi => by have := q28 i hi; rw [w27, show b + 13 + i * 6 = b + 13 + 6 * i from by omega] at this; exact this
  have W28 := f28.wf
  have w28 : csz C28 = b + 157 := by omega
  refine mkT (mk := fX7_init) (O := ModO) (kR := 401) (tag := 103) (N := 4) (cls := 10) (s := 3) (sl := 35) (p := b + 3) (a0 := b + 1) (fun _ _ _ => rfl) (fun _ W => X7_init_ W) (fun h => h.1) (fun W f h hs => h.fp W f hs) (by decide) (by decide) W28 hB1.1.1 hB1.2.1.2.1 hB1.1.2.2.1.1 hB1.1.2.2.1.2 (fun C29 f29 s29 l29 q29 => ?_)
  have hB2 : X1B b C29 := hB1.fp W28 f29 (fun q k x u v y => y.1)
  have hT2 : X1T b C29 := hT1.fp W28 f29 (by omega) (fun y => by omega) (fun q k x u v y => by omega)
  have hM2 : X1M b C29 := fun i hi => by have := q29 i hi; rw [w28, show b + 157 + i * 3 = b + 157 + 3 * i from by omega] at this; exact this
  have W29 := f29.wf
  have w29 : csz C29 = b + 169 := by omega
  refine mkT (mk := fX2_init) (O := FraO) (kR := 402) (tag := 104) (N := 41) (cls := 5) (s := 4) (sl := 77) (p := b + 4) (a0 := b + 1) (fun _ _ _ => rfl) (fun _ W => X2_init_ W) (fun h => h.1) (fun W f h hs => h.fp W f hs) (by decide) (by decide) W29 hB2.1.1 hB2.2.1.2.2.1 hB2.1.2.2.2.1.1 hB2.1.2.2.2.1.2 (fun C30 f30 s30 l30 q30 => ?_)
  have hB3 : X1B b C30 := hB2.fp W29 f30 (fun q k x u v y => y.1)
  have hT3 : X1T b C30 := hT2.fp W29 f30 (by omega) (fun y => by omega) (fun q k x u v y => by omega)
  have hM3 : X1M b C30 := hM2.fp W29 f30 (by omega) (fun y => by omega) (fun q k x u v y => by omega)
  have hF3 : X1F b C30 := fun i hi => by have := q30 i hi; rw [w29, show b + 169 + i * 4 = b + 169 + 4 * i from by omega] at this; exact this
  have W30 := f30.wf
  have w30 : csz C30 = b + 333 := by omega
  refine mkT (mk := fX6_init) (O := fun C a => isO C a 9) (kR := 403) (tag := 105) (N := 512) (cls := 9) (s := 1) (sl := 4) (p := b + 5) (a0 := b + 1) (fun _ _ _ => rfl) (fun _ W => X6_init_ W) (fun h => h) (fun W f h hs => f.ob W h) (by decide) (by decide) W30 hB3.1.1 hB3.2.1.2.2.2.1 hB3.1.2.2.2.2.1.1 hB3.1.2.2.2.2.1.2 (fun C31 f31 s31 l31 q31 => ⟨C31, rfl, ?_, by omega, by omega, hB3.fp W30 f31 (fun q k x u v y => y.1), hT3.fp W30 f31 (by omega) (fun y => by omega) (fun q k x u v y => by omega), hM3.fp W30 f31 (by omega) (fun y => by omega) (fun q k x u v y => by omega), hF3.fp W30 f31 (by omega) (fun y => by omega) (fun q k x u v y => by omega), fun i hi => ?_⟩)
  · have h0 : Fp (fun _ _ x => x = b + 1) C C27 := g0.mono (fun q k x _ y => y.1)
    have h1 : Fp (fun _ _ x => x = b + 1 ∨ b + 2 ≤ x) C C31 := ((((g0.mono (fun q k x _ y => Or.inl y.1)).tr (f28.mono (fun q k x _ y => Or.inr (by omega)))).tr (f29.mono (fun q k x _ y => Or.inr (by omega)))).tr (f30.mono (fun q k x _ y => Or.inr (by omega)))).tr (f31.mono (fun q k x _ y => Or.inr (by omega)))
    exact h1.mono (fun q k x hx y => by omega)
  · have := q31 i hi
    rw [w30, Nat.mul_one] at this
    exact this
end INK
