/-! THE CLASS OPENS RUNS, FRAMES, PARTS -/
def oRun (b R : Nat) (F : Nat) (i e : Int) (row : Option Nat) (C : Cd) : Cd := cSetR (cSetI (cSetI (cSetR (cSetI C 409 (b + 1) ((R : Int) + 1)) 900 (b + 333 + R) (some F)) 902 (b + 333 + R) i) 903 (b + 333 + R) e) 901 (b + 333 + R) row
def sRun (b R q k a : Nat) : Prop := (q = 0 ∧ k = 409 ∧ a = b + 1) ∨ (a = b + 333 + R ∧ ((q = 0 ∧ (k = 902 ∨ k = 903)) ∨ (q = 1 ∧ (k = 900 ∨ k = 901))))
theorem oRun_fp {b R F : Nat} {i e : Int} {row : Option Nat} {C : Cd} (W : Wf C) : Fp (sRun b R) C (oRun b R F i e row C) :=
  (((((Fp.rf W).sI (Or.inl ⟨rfl, rfl, rfl⟩)).sR (Or.inr ⟨rfl, Or.inr ⟨rfl, Or.inl rfl⟩⟩)).sI (Or.inr ⟨rfl, Or.inl ⟨rfl, Or.inl rfl⟩⟩)).sI (Or.inr ⟨rfl, Or.inl ⟨rfl, Or.inr rfl⟩⟩)).sR (Or.inr ⟨rfl, Or.inr ⟨rfl, Or.inr rfl⟩⟩)
theorem inR_n {i n : Nat} (h : i < n) (hn : n < 2147483648) : inR (i : Int) n := ⟨by rw [w32_n (by omega)]; omega, by rw [w32_n (by omega)]; omega⟩
section OPN
variable {b : Nat} {C : Cd}
theorem oRun_v {R F : Nat} {i e : Int} {row : Option Nat} : cR (oRun b R F i e row C) 900 (b + 333 + R) = some F ∧ cR (oRun b R F i e row C) 901 (b + 333 + R) = row ∧ cI (oRun b R F i e row C) 902 (b + 333 + R) = i ∧ cI (oRun b R F i e row C) 903 (b + 333 + R) = e ∧ cI (oRun b R F i e row C) 409 (b + 1) = (R : Int) + 1 ∧ csz (oRun b R F i e row C) = csz C ∧ csl (oRun b R F i e row C) = csl C := by
  unfold oRun
  refine ⟨?_, cR_R1 _ _ _ _, ?_, ?_, ?_, rfl, rfl⟩
  · rw [cR_R2 _ _ (Or.inl (by decide))]
    exact cR_R1 _ _ _ _
  · show cI (cSetI (cSetI (cSetR (cSetI C 409 (b + 1) ((R : Int) + 1)) 900 (b + 333 + R) (some F)) 902 (b + 333 + R) i) 903 (b + 333 + R) e) 902 (b + 333 + R) = i
    rw [cI_I2 _ _ (Or.inl (by decide))]
    exact cI_I1 _ _ _ _
  · exact cI_I1 _ _ _ _
  · show cI (cSetI (cSetI (cSetR (cSetI C 409 (b + 1) ((R : Int) + 1)) 900 (b + 333 + R) (some F)) 902 (b + 333 + R) i) 903 (b + 333 + R) e) 409 (b + 1) = _
    rw [cI_I2 _ _ (Or.inl (by decide)), cI_I2 _ _ (Or.inl (by decide))]
    exact cI_I1 _ _ _ _
theorem X1_openRun_ (hL : Lay b C) {R F : Nat} {i e : Int} {row : Option Nat} (hR : cI C 409 (b + 1) = (R : Int)) (hR2 : R < 512) : fX1_openRun (b + 1) (some F) i e row C = some ((), oRun b R F i e row C) := by
  have hp : cP C (b + 5) (ix (R : Int)) = some (b + 333 + R) := by rw [ix_n (by omega)]; exact hL.up hR2
  have hU := hL.uo hR2
  unfold fX1_openRun
  rw [if_pos hL.oe, if_pos hL.oe, bnd_eq, drf_eq hL.x3, if_pos hL.ou, bnd_eq, hL.nu, hR, if_neg (by rw [w32_n (by omega), w32_n (by omega)]; omega), if_pos hL.oe, bnd_eq, if_pos hL.oe, drf_eq hL.x3, if_pos ⟨hL.ou, by rw [hL.nu]; exact inR_n (by omega) (by omega)⟩, bnd_eq, if_pos hL.oe, if_pos hL.oe, bnd_eq, drf_eq hp, if_pos (show isO (cSetI C 409 (b + 1) _) (b + 333 + R) 9 from hU), bnd_eq, if_pos (show isO (cSetR (cSetI C 409 (b + 1) _) 900 _ _) (b + 333 + R) 9 from hU), bnd_eq, if_pos (show isO (cSetI (cSetR (cSetI C 409 (b + 1) _) 900 _ _) 902 _ _) (b + 333 + R) 9 from hU), bnd_eq, if_pos (show isO (cSetI (cSetI (cSetR (cSetI C 409 (b + 1) _) 900 _ _) 902 _ _) 903 _ _) (b + 333 + R) 9 from hU), bnd_eq]
  rfl
/-- a row of a frame is filled -/
theorem fill_begun (hL : Lay b C) {f : Nat} (hf : f < 41) : ∃ C', lpn (fun (_ : Int) (_ : Cd) => (none : Option (Unit × Cd))) (fun L63 (v4_63 : Int) (C_63 : Cd) =>
if isO C_63 (b + 169 + 4 * f) 5 then bnd (cR C_63 502 (b + 169 + 4 * f)) fun (z7 : Option Nat) =>
drf z7 fun (p8 : Nat) =>
if isO C_63 p8 101 then
if w32 (cn C_63 p8 : Int) ≤ w32 v4_63 then
some ((), C_63)
else
if isO C_63 (b + 169 + 4 * f) 5 then bnd (cR C_63 502 (b + 169 + 4 * f)) fun (z9 : Option Nat) =>
drf z9 fun (p10 : Nat) =>
if isO C_63 p10 101 ∧ inR v4_63 (cn C_63 p10) then bnd (cSetE C_63 p10 (ix v4_63) 0) fun (C11 : Cd) =>
L63 (v4_63 + 1) C11
else none
else none
else none
else none) FU 0 C = some ((), C') ∧ Fp (fun q k a => q = 2 ∧ a = b + 169 + 4 * f + 3) C C' ∧ csz C' = csz C ∧ csl C' = csl C ∧ ∀ p, p < 30 → cE C' (b + 169 + 4 * f + 3) p = 0 := by
  have key := lpn_rule (z := fun (_ : Int) (_ : Cd) => (none : Option (Unit × Cd))) (body := fun L63 (v4_63 : Int) (C_63 : Cd) =>
if isO C_63 (b + 169 + 4 * f) 5 then bnd (cR C_63 502 (b + 169 + 4 * f)) fun (z7 : Option Nat) =>
drf z7 fun (p8 : Nat) =>
if isO C_63 p8 101 then
if w32 (cn C_63 p8 : Int) ≤ w32 v4_63 then
some ((), C_63)
else
if isO C_63 (b + 169 + 4 * f) 5 then bnd (cR C_63 502 (b + 169 + 4 * f)) fun (z9 : Option Nat) =>
drf z9 fun (p10 : Nat) =>
if isO C_63 p10 101 ∧ inR v4_63 (cn C_63 p10) then bnd (cSetE C_63 p10 (ix v4_63) 0) fun (C11 : Cd) =>
L63 (v4_63 + 1) C11
else none
else none
else none
else none) (P := fun mm (L : Int → Cd → Option (Unit × Cd)) => ∀ (i : Nat) (C1 : Cd), i ≤ 30 → 30 - i < mm → Lay b C1 → (∀ p, p < i → cE C1 (b + 169 + 4 * f + 3) p = 0) → ∃ C', L (i : Int) C1 = some ((), C') ∧ Fp (fun q k a => q = 2 ∧ a = b + 169 + 4 * f + 3) C1 C' ∧ csz C' = csz C1 ∧ csl C' = csl C1 ∧ ∀ p, p < 30 → cE C' (b + 169 + 4 * f + 3) p = 0) (fun i _ _ h => absurd h (Nat.not_lt_zero _)) (fun mm L hLL i C1 hi hm h1 hpre => ?_) FU 0 C (Nat.zero_le _) (by unfold FU; omega) hL (fun p hp => absurd hp (Nat.not_lt_zero _))
  · exact key
  · dsimp only
    rw [if_pos (h1.fo hf), bnd_eq, drf_eq (h1.fb hf), if_pos (h1.fbo hf), h1.fbn hf]
    rcases Nat.lt_or_ge i 30 with hlt | hge
    · have f1 : Fp (fun q k a => q = 2 ∧ a = b + 169 + 4 * f + 3) C1 (cSetE C1 (b + 169 + 4 * f + 3) i 0) := (Fp.rf h1.W).sE ⟨rfl, rfl⟩
      obtain ⟨C', e, f2, s2, l2, v2⟩ := hLL (i + 1) (cSetE C1 (b + 169 + 4 * f + 3) i 0) hlt (by omega) (h1.keep (f1.mono (fun _ _ _ _ z => Or.inr (Or.inr (Or.inl z.1))))) (fun p hp => by
        by_cases c : p = i
        · subst c; exact cE_E1 _ _ _ _
        · rw [cE_E2 _ _ (Or.inr c)]; exact hpre p (by omega))
      refine ⟨C', ?_, f1.tr f2, s2, l2, v2⟩
      rw [if_neg (by rw [w32_n (by omega), w32_n (by omega)]; omega), if_pos (h1.fo hf), bnd_eq, drf_eq (h1.fb hf), if_pos ⟨h1.fbo hf, by rw [h1.fbn hf]; exact inR_n (by omega) (by omega)⟩, bnd_eq, ix_n (by omega)]
      exact e
    · have e : i = 30 := by omega
      subst e
      rw [if_pos (Int.le_refl _)]
      exact ⟨C1, rfl, Fp.rf h1.W, rfl, rfl, hpre⟩
def sBeg (b f q k a : Nat) : Prop := (q = 0 ∧ (k = 505 ∨ k = 506) ∧ a = b + 169 + 4 * f) ∨ (q = 1 ∧ (k = 503 ∨ k = 504) ∧ a = b + 169 + 4 * f) ∨ (q = 2 ∧ (a = b + 169 + 4 * f + 1 ∨ a = b + 169 + 4 * f + 3))
theorem sBeg.mu {b f q k a : Nat} (h : sBeg b f q k a) : Mu b q k a := by
  rcases h with h | h | h
  · exact Or.inl h.1
  · exact Or.inr (Or.inl ⟨h.1, by omega⟩)
  · exact Or.inr (Or.inr (Or.inl h.1))
theorem X2_begin_ (hL : Lay b C) {f : Nat} (hf : f < 41) {ti : Int} {t : Option Nat} {cl : Option Nat} {d : Int} (hd : (cl = none ∧ d = 0) ∨ (∃ c, c < 41 ∧ c ≠ f ∧ cl = some (b + 169 + 4 * c) ∧ cI C 506 (b + 169 + 4 * c) + 1 = d)) :
   ∃ C', fX2_begin (b + 169 + 4 * f) ti t cl C = some ((), C') ∧ Fp (sBeg b f) C C' ∧ csz C' = csz C ∧ csl C' = csl C ∧ cI C' 505 (b + 169 + 4 * f) = ti ∧ cI C' 506 (b + 169 + 4 * f) = d ∧ cR C' 504 (b + 169 + 4 * f) = t ∧ cR C' 503 (b + 169 + 4 * f) = cl ∧ (∀ x, x < 10 → cE C' (b + 169 + 4 * f + 1) x = -1) ∧ ∀ p, p < 30 → cE C' (b + 169 + 4 * f + 3) p = 0 := by
  have hF := hL.fo hf
  generalize hX : cSetR (cSetR (cSetI C 505 (b + 169 + 4 * f) ti) 504 (b + 169 + 4 * f) t) 503 (b + 169 + 4 * f) cl = X
  have fX : Fp (sBeg b f) C X := by
    rw [← hX]
    exact (((Fp.rf hL.W).sI (Or.inl ⟨rfl, Or.inl rfl, rfl⟩)).sR (Or.inr (Or.inl ⟨rfl, Or.inr rfl, rfl⟩))).sR (Or.inr (Or.inl ⟨rfl, Or.inl rfl, rfl⟩))
  have hFX : isO X (b + 169 + 4 * f) 5 := by rw [← hX]; exact hF
  generalize hY : cSetI X 506 (b + 169 + 4 * f) d = Y
  have fY : Fp (sBeg b f) C Y := by rw [← hY]; exact fX.sI (Or.inl ⟨rfl, Or.inr rfl, rfl⟩)
  have hLY := hL.keep (fY.mono (fun _ _ _ _ z => z.mu))
  have y1 : cI Y 505 (b + 169 + 4 * f) = ti := by
    rw [← hY, cI_I2 _ _ (Or.inl (by decide)), ← hX]
    exact cI_I1 _ _ _ _
  have y2 : cI Y 506 (b + 169 + 4 * f) = d := by rw [← hY]; exact cI_I1 _ _ _ _
  have y3 : cR Y 504 (b + 169 + 4 * f) = t := by
    rw [← hY]
    show cR X 504 _ = _
    rw [← hX, cR_R2 _ _ (Or.inl (by decide))]
    exact cR_R1 _ _ _ _
  have y4 : cR Y 503 (b + 169 + 4 * f) = cl := by
    rw [← hY]
    show cR X 503 _ = _
    rw [← hX]
    exact cR_R1 _ _ _ _
  have zY : csz Y = csz C ∧ csl Y = csl C := by rw [← hY, ← hX]; exact ⟨rfl, rfl⟩
  have e0 : fX2_begin (b + 169 + 4 * f) ti t cl C = lpn (fun (_ : Int) (_ : Cd) => (none : Option (Unit × Cd))) (fun L36 (v4_36 : Int) (C_36 : Cd) =>
if isO C_36 (b + 169 + 4 * f) 5 then bnd (cR C_36 500 (b + 169 + 4 * f)) fun (z5 : Option Nat) =>
drf z5 fun (p6 : Nat) =>
if isO C_36 p6 100 then
if w32 (cn C_36 p6 : Int) ≤ w32 v4_36 then
bnd (lpn (fun (_ : Int) (_ : Cd) => (none : Option (Unit × Cd))) (fun L63 (v4_63 : Int) (C_63 : Cd) =>
if isO C_63 (b + 169 + 4 * f) 5 then bnd (cR C_63 502 (b + 169 + 4 * f)) fun (z7 : Option Nat) =>
drf z7 fun (p8 : Nat) =>
if isO C_63 p8 101 then
if w32 (cn C_63 p8 : Int) ≤ w32 v4_63 then
some ((), C_63)
else
if isO C_63 (b + 169 + 4 * f) 5 then bnd (cR C_63 502 (b + 169 + 4 * f)) fun (z9 : Option Nat) =>
drf z9 fun (p10 : Nat) =>
if isO C_63 p10 101 ∧ inR v4_63 (cn C_63 p10) then bnd (cSetE C_63 p10 (ix v4_63) 0) fun (C11 : Cd) =>
L63 (v4_63 + 1) C11
else none
else none
else none
else none) FU) fun J63 =>
J63 0 C_36
else
if isO C_36 (b + 169 + 4 * f) 5 then bnd (cR C_36 500 (b + 169 + 4 * f)) fun (z12 : Option Nat) =>
drf z12 fun (p13 : Nat) =>
if isO C_36 p13 100 ∧ inR v4_36 (cn C_36 p13) then bnd (cSetE C_36 p13 (ix v4_36) (-1)) fun (C14 : Cd) =>
L36 (v4_36 + 1) C14
else none
else none
else none
else none) FU 0 Y := by
    unfold fX2_begin
    rw [if_pos hF, bnd_eq, if_pos (show isO (cSetI C 505 _ _) (b + 169 + 4 * f) 5 from hF), bnd_eq, if_pos (show isO (cSetR (cSetI C 505 _ _) 504 _ _) (b + 169 + 4 * f) 5 from hF), bnd_eq, hX]
    refine (bnd_eq _ _).trans ?_
    rcases hd with ⟨h1, h2⟩ | ⟨c, h1, h2, h3, h4⟩
    · subst h2
      rw [h1, opt_none]
      dsimp only
      rw [if_pos hFX, bnd_eq, hY, bnd_eq]
    · have hv : cI X 506 (b + 169 + 4 * c) + 1 = d := by
        rw [← h4, ← hX]
        show cI (cSetI C 505 (b + 169 + 4 * f) ti) 506 (b + 169 + 4 * c) + 1 = _
        rw [cI_I2 _ _ (Or.inl (by decide))]
      rw [h3, opt_some, if_pos (fX.ob hL.W (hL.fo h1))]
      dsimp only
      rw [if_pos hFX, bnd_eq, hv, hY, bnd_eq]
  rw [e0]
  refine Exists.elim (lpn_rule (P := fun mm (L : Int → Cd → Option (Unit × Cd)) => ∀ (i : Nat) (C1 : Cd), i ≤ 10 → 10 - i < mm → Lay b C1 → (∀ x, x < i → cE C1 (b + 169 + 4 * f + 1) x = -1) → ∃ C', L (i : Int) C1 = some ((), C') ∧ Fp (fun q k a => q = 2 ∧ (a = b + 169 + 4 * f + 1 ∨ a = b + 169 + 4 * f + 3)) C1 C' ∧ csz C' = csz C1 ∧ csl C' = csl C1 ∧ (∀ x, x < 10 → cE C' (b + 169 + 4 * f + 1) x = -1) ∧ ∀ p, p < 30 → cE C' (b + 169 + 4 * f + 3) p = 0) (fun i _ _ h => absurd h (Nat.not_lt_zero _)) (fun mm L hLL i C1 hi hm h1 hpre => ?_) FU 0 Y (Nat.zero_le _) (by unfold FU; omega) hLY (fun p hp => absurd hp (Nat.not_lt_zero _))) (fun C' q => ⟨C', q.1, fY.tr2 q.2.1 (fun q k a _ z => Or.inr (Or.inr z)), q.2.2.1.trans zY.1, q.2.2.2.1.trans zY.2, ?_, ?_, ?_, ?_, q.2.2.2.2.1, q.2.2.2.2.2⟩)
  · rw [if_pos (h1.fo hf), bnd_eq, drf_eq (h1.fa hf), if_pos (h1.fao hf), h1.fan hf]
    rcases Nat.lt_or_ge i 10 with hlt | hge
    · have f1 : Fp (fun q k a => q = 2 ∧ (a = b + 169 + 4 * f + 1 ∨ a = b + 169 + 4 * f + 3)) C1 (cSetE C1 (b + 169 + 4 * f + 1) i (-1)) := (Fp.rf h1.W).sE ⟨rfl, Or.inl rfl⟩
      obtain ⟨C', e, f2, s2, l2, v2⟩ := hLL (i + 1) (cSetE C1 (b + 169 + 4 * f + 1) i (-1)) hlt (by omega) (h1.keep (f1.mono (fun _ _ _ _ z => Or.inr (Or.inr (Or.inl z.1))))) (fun p hp => by
        by_cases c : p = i
        · subst c; exact cE_E1 _ _ _ _
        · rw [cE_E2 _ _ (Or.inr c)]; exact hpre p (by omega))
      refine ⟨C', ?_, f1.tr f2, s2, l2, v2⟩
      rw [if_neg (by rw [w32_n (by omega), w32_n (by omega)]; omega), if_pos (h1.fo hf), bnd_eq, drf_eq (h1.fa hf), if_pos ⟨h1.fao hf, by rw [h1.fan hf]; exact inR_n (by omega) (by omega)⟩, bnd_eq, ix_n (by omega)]
      exact e
    · have e : i = 10 := by omega
      subst e
      rw [if_pos (Int.le_refl _), bnd_eq]
      obtain ⟨C', e, f2, s2, l2, v2⟩ := fill_begun h1 hf
      refine ⟨C', e, f2.mono (fun _ _ _ _ z => ⟨z.1, Or.inr z.2⟩), s2, l2, fun x hx => ?_, v2⟩
      rw [f2.fE (h1.W _ (h1.fao hf).1) (by omega)]
      exact hpre x hx
  · rw [q.2.1.fI (hLY.W _ (hLY.fo hf).1) (by omega)]; exact y1
  · rw [q.2.1.fI (hLY.W _ (hLY.fo hf).1) (by omega)]; exact y2
  · rw [q.2.1.fR (hLY.W _ (hLY.fo hf).1) (by omega)]; exact y3
  · rw [q.2.1.fR (hLY.W _ (hLY.fo hf).1) (by omega)]; exact y4
end OPN
