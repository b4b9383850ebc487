/-! A PAGE IS BROUGHT OVER, in the class -/
section BRG
variable {b : Nat} {C C' : Cd} {t u w : Nat}
theorem X4_clearT_ (hL : Lay b C) (ht : t < 24) : ∃ C', fX4_clear (b + 13 + 6 * t + 1) C = some ((), C') ∧ Fp (sTk b t) C C' ∧ csz C' = csz C ∧ csl C' = csl C ∧ RowV C' (b + 13 + 6 * t + 2) [] ∧ ∀ k, 701 ≤ k → k ≤ 707 → cI C' k (b + 13 + 6 * t + 1) = 0 := by
  have W := hL.W
  have hz := hL.sz
  obtain ⟨C1, e1, r1, f1, s1, l1⟩ := X5_clear_' W (hL.rw_ ht)
  have f1' : Fp (sTk b t) C C1 := f1.mono (fun _ _ _ _ z => Or.inr z)
  have hL1 := hL.keep (f1'.mono (fun _ _ _ _ z => z.mu))
  have od := hL1.ro ht
  have hs : ∀ {k : Nat}, 701 ≤ k ∧ k ≤ 707 → sTk b t 0 k (b + 13 + 6 * t + 1) := fun h => Or.inl ⟨rfl, h, rfl⟩
  have pi : ∀ (D : Cd) (k : Nat) (v : Int) (x y : Nat), isO D x y → isO (cSetI D k (b + 13 + 6 * t + 1) v) x y := fun D k v x y h => h
  have f3 : Fp (sTk b t) C (cSetI (cSetI (cSetI (cSetI (cSetI (cSetI (cSetI C1 701 (b + 13 + 6 * t + 1) 0) 702 (b + 13 + 6 * t + 1) 0) 703 (b + 13 + 6 * t + 1) 0) 704 (b + 13 + 6 * t + 1) 0) 705 (b + 13 + 6 * t + 1) 0) 706 (b + 13 + 6 * t + 1) 0) 707 (b + 13 + 6 * t + 1) 0) :=
    ((((((f1'.sI (hs (by decide))).sI (hs (by decide))).sI (hs (by decide))).sI (hs (by decide))).sI (hs (by decide))).sI (hs (by decide))).sI (hs (by decide))
  refine ⟨_, ?_, f3, s1, l1, ?_, fun k h1 h2 => ?_⟩
  · unfold fX4_clear
    rw [if_pos (hL.ro ht), bnd_eq, hL.rr ht, drf_some, if_pos (hL.rw_ ht).1, cal_of e1]
    rw [if_pos od, bnd_eq, if_pos (pi _ _ _ _ _ od), bnd_eq]
    rw [if_pos (pi _ _ _ _ _ (pi _ _ _ _ _ od)), bnd_eq]
    rw [if_pos (pi _ _ _ _ _ (pi _ _ _ _ _ (pi _ _ _ _ _ od))), bnd_eq]
    rw [if_pos (pi _ _ _ _ _ (pi _ _ _ _ _ (pi _ _ _ _ _ (pi _ _ _ _ _ od)))), bnd_eq]
    rw [if_pos (pi _ _ _ _ _ (pi _ _ _ _ _ (pi _ _ _ _ _ (pi _ _ _ _ _ (pi _ _ _ _ _ od))))), bnd_eq]
    rw [if_pos (pi _ _ _ _ _ (pi _ _ _ _ _ (pi _ _ _ _ _ (pi _ _ _ _ _ (pi _ _ _ _ _ (pi _ _ _ _ _ od)))))), bnd_eq]
  · exact r1.fp hL1.W (S := fun q k a => q = 0 ∧ 701 ≤ k ∧ k ≤ 707) ((((((((Fp.rf hL1.W).sI (by decide)).sI (by decide)).sI (by decide)).sI (by decide)).sI (by decide)).sI (by decide)).sI (by decide)) (by omega) (by omega) (by omega) (by omega)
  · have hk : k = 701 ∨ k = 702 ∨ k = 703 ∨ k = 704 ∨ k = 705 ∨ k = 706 ∨ k = 707 := by omega
    rcases hk with e | e | e | e | e | e | e <;> subst e
    · rw [cI_I2 _ _ (Or.inl (by decide)), cI_I2 _ _ (Or.inl (by decide)), cI_I2 _ _ (Or.inl (by decide)), cI_I2 _ _ (Or.inl (by decide)), cI_I2 _ _ (Or.inl (by decide)), cI_I2 _ _ (Or.inl (by decide)), cI_I1]
    · rw [cI_I2 _ _ (Or.inl (by decide)), cI_I2 _ _ (Or.inl (by decide)), cI_I2 _ _ (Or.inl (by decide)), cI_I2 _ _ (Or.inl (by decide)), cI_I2 _ _ (Or.inl (by decide)), cI_I1]
    · rw [cI_I2 _ _ (Or.inl (by decide)), cI_I2 _ _ (Or.inl (by decide)), cI_I2 _ _ (Or.inl (by decide)), cI_I2 _ _ (Or.inl (by decide)), cI_I1]
    · rw [cI_I2 _ _ (Or.inl (by decide)), cI_I2 _ _ (Or.inl (by decide)), cI_I2 _ _ (Or.inl (by decide)), cI_I1]
    · rw [cI_I2 _ _ (Or.inl (by decide)), cI_I2 _ _ (Or.inl (by decide)), cI_I1]
    · rw [cI_I2 _ _ (Or.inl (by decide)), cI_I1]
    · rw [cI_I1]
/-- what bringing over touches -/
def sBo (b u w q k a : Nat) : Prop := (q = 1 ∧ k = 1203 ∧ (a = b + 13 + 6 * u ∨ a = b + 13 + 6 * w)) ∨ sTk b u q k a ∨ sSt b q k a
theorem sSt.nk {q k a : Nat} (h : sSt b q k a) : q = 0 ∧ k = 702 := ⟨h.1, h.2.1⟩
theorem X11_bringOver_ (hL : Lay b C) (hu : u < 24) (hw : w < 24) (huw : u ≠ w) {z : Option Nat} (hz : cR C 1203 (b + 13 + 6 * u) = z) {ct rd cd : Nat → Nat} (h4 : ∀ j, j < 24 → cI C 704 (b + 13 + 6 * j + 1) = (ct j : Int) ∧ ct j < 256) (h5 : ∀ j, j < 24 → cI C 705 (b + 13 + 6 * j + 1) = (rd j : Int) ∧ rd j < 16777216) (h6 : ∀ j, j < 24 → cI C 706 (b + 13 + 6 * j + 1) = (cd j : Int) ∧ cd j < 256) :
   ∃ C', fX11_bringOver b (u : Int) (w : Int) C = some (.inl (), C') ∧ Fp (sBo b u w) C C' ∧ csz C' = csz C ∧ csl C' = csl C ∧ cR C' 1203 (b + 13 + 6 * w) = z ∧ cR C' 1203 (b + 13 + 6 * u) = none ∧ RowV C' (b + 13 + 6 * u + 2) [] ∧ (∀ k, 701 ≤ k → k ≤ 707 → k ≠ 702 → cI C' k (b + 13 + 6 * u + 1) = 0) ∧
    ∀ j, j < 24 → cI C' 702 (b + 13 + 6 * j + 1) = if j = u ∨ j = w ∨ (rd j).testBit u = true ∨ (rd j).testBit w = true ∨ cd j &&& ct u ≠ 0 then 1 else cI C 702 (b + 13 + 6 * j + 1) := by
  have W := hL.W
  have hs := hL.sz
  have f1 : Fp (sBo b u w) C (cSetR (cSetR C 1203 (b + 13 + 6 * w) z) 1203 (b + 13 + 6 * u) none) := ((Fp.rf W).sR (Or.inl ⟨rfl, rfl, Or.inr rfl⟩)).sR (Or.inl ⟨rfl, rfl, Or.inl rfl⟩)
  have r1 : cR (cSetR (cSetR C 1203 (b + 13 + 6 * w) z) 1203 (b + 13 + 6 * u) none) 1203 (b + 13 + 6 * w) = z := by
    rw [cR_R2 _ _ (Or.inr (by omega))]; exact cR_R1 _ _ _ _
  have r2 : cR (cSetR (cSetR C 1203 (b + 13 + 6 * w) z) 1203 (b + 13 + 6 * u) none) 1203 (b + 13 + 6 * u) = none := cR_R1 _ _ _ _
  have r3 : cR (cSetR (cSetR C 1203 (b + 13 + 6 * w) z) 1203 (b + 13 + 6 * u) none) 1200 (b + 13 + 6 * u) = some (b + 13 + 6 * u + 1) := by
    rw [cR_R2 _ _ (Or.inl (by decide)), cR_R2 _ _ (Or.inl (by decide))]; exact hL.tr hu
  have i1 : ∀ k a, cI (cSetR (cSetR C 1203 (b + 13 + 6 * w) z) 1203 (b + 13 + 6 * u) none) k a = cI C k a := fun _ _ => rfl
  have o1 : ∀ a t, isO C a t → isO (cSetR (cSetR C 1203 (b + 13 + 6 * w) z) 1203 (b + 13 + 6 * u) none) a t := fun _ _ h => h
  have hX0 : ∀ C1, C1 = cSetR (cSetR C 1203 (b + 13 + 6 * w) z) 1203 (b + 13 + 6 * u) none → fX11_bringOver b (u : Int) (w : Int) C = (cal (fX4_clear (b + 13 + 6 * u + 1) C1) fun (r15 : Unit) (C14 : Cd) =>
if isO C14 b 14 then cal (fX11_noteMemberChange b (ct u : Int) C14) fun (r17 : Unit) (C16 : Cd) =>
if isO C16 b 14 then cal (fX11_noteTitleChange b (u : Int) C16) fun (r19 : Unit) (C18 : Cd) =>
if isO C18 b 14 then cal (fX11_noteTitleChange b (w : Int) C18) fun (r21 : Unit) (C20 : Cd) =>
some (.inl (), C20)
else none
else none
else none) := by
    intro C1 e
    unfold fX11_bringOver
    rw [if_pos hL.o, calx_of (X11_titleOf_in hL hu), if_pos hL.o, calx_of (X11_titleOf_in hL hw), drf_some, if_pos (hL.to hu), bnd_eq, hz, drf_some, if_pos (hL.to hw), bnd_eq, if_pos (show isO (cSetR C 1203 (b + 13 + 6 * w) z) (b + 13 + 6 * u) 12 from hL.to hu), bnd_eq, ← e]
    rw [← e] at r3 i1 o1
    rw [if_pos (o1 _ _ (hL.to hu)), bnd_eq, r3, drf_some, if_pos (o1 _ _ (hL.ro hu)), bnd_eq, if_pos (o1 _ _ (hL.to hu)), bnd_eq, drf_some, if_pos (o1 _ _ (hL.ro hu)), i1, (h4 u hu).1]
  have hX := hX0 _ rfl
  have s1 : csz (cSetR (cSetR C 1203 (b + 13 + 6 * w) z) 1203 (b + 13 + 6 * u) none) = csz C := rfl
  have l1 : csl (cSetR (cSetR C 1203 (b + 13 + 6 * w) z) 1203 (b + 13 + 6 * u) none) = csl C := rfl
  clear hX0
  generalize cSetR (cSetR C 1203 (b + 13 + 6 * w) z) 1203 (b + 13 + 6 * u) none = C1 at *
  have mu : ∀ {q k a : Nat}, sBo b u w q k a → Mu b q k a := fun z => by
    rcases z with z | z | z
    · unfold Mu; omega
    · exact z.mu
    · exact z.mu
  have hL1 := hL.keep (f1.mono (fun _ _ _ _ z => mu z))
  obtain ⟨C2, e2, f2, s2, l2, w2, v2⟩ := X4_clearT_ hL1 hu
  have hL2 := hL1.keep (f2.mono (fun _ _ _ _ z => z.mu))
  have g2 : ∀ k j, j < 24 → j ≠ u → cI C2 k (b + 13 + 6 * j + 1) = cI C k (b + 13 + 6 * j + 1) := fun k j hj hne => (f2.fI (by have := hL1.sz; omega) (by unfold sTk sRow; omega)).trans (i1 _ _)
  obtain ⟨C3, e3, f3, s3, l3, n3⟩ := X11_noteMemberChange_ hL2 (cs := ct u) (ct := fun j => if j = u then 0 else cd j) (h4 u hu).2 (fun j hj => by
    by_cases c : j = u
    · rw [if_pos c, c, v2 706 (by decide) (by decide)]; exact ⟨rfl, by decide⟩
    · rw [if_neg c, g2 706 j hj c]; exact h6 j hj)
  have hL3 := hL2.keep (f3.mono (fun _ _ _ _ z => z.mu))
  have g3 : ∀ k a, a < csz C2 → k ≠ 702 → cI C3 k a = cI C2 k a := fun k a ha hk => f3.fI ha (fun z => hk z.nk.2)
  have rd3 : ∀ j, j < 24 → cI C3 705 (b + 13 + 6 * j + 1) = ((if j = u then 0 else rd j : Nat) : Int) ∧ (if j = u then 0 else rd j) < 16777216 := fun j hj => by
    rw [g3 705 _ (by have := hL2.sz; omega) (by decide)]
    by_cases c : j = u
    · rw [if_pos c, c, v2 705 (by decide) (by decide)]; exact ⟨rfl, by decide⟩
    · rw [if_neg c, g2 705 j hj c]; exact h5 j hj
  obtain ⟨C4, e4, f4, s4, l4, n4⟩ := X11_noteTitleChange_ hL3 hu (rd := fun j => if j = u then 0 else rd j) rd3
  have hL4 := hL3.keep (f4.mono (fun _ _ _ _ z => z.mu))
  have g4 : ∀ k a, a < csz C3 → k ≠ 702 → cI C4 k a = cI C3 k a := fun k a ha hk => f4.fI ha (fun z => hk z.nk.2)
  obtain ⟨C5, e5, f5, s5, l5, n5⟩ := X11_noteTitleChange_ hL4 hw (rd := fun j => if j = u then 0 else rd j) (fun j hj => by rw [g4 705 _ (by have := hL3.sz; omega) (by decide)]; exact rd3 j hj)
  have f25 : Fp (sSt b) C2 C5 := (f3.tr f4).tr f5
  have f : Fp (sBo b u w) C C5 := ((((f1.tr (f2.mono (fun _ _ _ _ z => Or.inr (Or.inl z)))).tr (f3.mono (fun _ _ _ _ z => Or.inr (Or.inr z)))).tr (f4.mono (fun _ _ _ _ z => Or.inr (Or.inr z)))).tr (f5.mono (fun _ _ _ _ z => Or.inr (Or.inr z))))
  have rc : ∀ a, a < csz C → cR C5 1203 a = cR C1 1203 a := fun a ha => (f25.fR (by omega) (fun z => absurd z.nk.1 (by decide))).trans (f2.fR (by omega) (by unfold sTk sRow; omega))
  refine ⟨C5, ?_, f, by omega, by omega, (rc _ (by omega)).trans r1, (rc _ (by omega)).trans r2, w2.fp hL2.W f25 (fun z => absurd z.nk.1 (by decide)) (fun z => absurd z.nk.2 (by decide)) (fun z => absurd z.nk.2 (by decide)) (fun z => absurd z.nk.1 (by decide)), fun k a1 a2 a3 => (f25.fI (by omega) (fun z => a3 z.nk.2)).trans (v2 k a1 a2), fun j hj => ?_⟩
  · rw [hX, cal_of e2, if_pos hL2.o, cal_of e3, if_pos hL3.o, cal_of e4, if_pos hL4.o, cal_of e5]
  · rw [n5 j hj, n4 j hj, n3 j hj]
    by_cases c : j = u
    · rw [if_pos (Or.inl c), c, decide_eq_true (Eq.refl u), Bool.true_or, if_pos (Eq.refl true)]
      exact ite_self _
    · rw [if_neg c, if_neg c, g2 702 j hj c, decide_eq_false c, Bool.false_or]
      by_cases c1 : j = w
      · rw [if_pos (Or.inr (Or.inl c1)), decide_eq_true c1, Bool.true_or, if_pos rfl]
      · rw [decide_eq_false c1, Bool.false_or]
        by_cases c2 : (rd j).testBit w = true
        · rw [if_pos c2, if_pos (Or.inr (Or.inr (Or.inr (Or.inl c2))))]
        · rw [if_neg c2]
          by_cases c3 : (rd j).testBit u = true
          · rw [if_pos c3, if_pos (Or.inr (Or.inr (Or.inl c3)))]
          · rw [if_neg c3]
            by_cases c4 : cd j &&& ct u ≠ 0
            · rw [if_pos (decide_eq_true c4), if_pos (Or.inr (Or.inr (Or.inr (Or.inr c4))))]
            · rw [if_neg (fun z => c4 (of_decide_eq_true z)), if_neg (fun z => by
                rcases z with z | z | z | z | z
                · exact c z
                · exact c1 z
                · exact c3 z
                · exact c2 z
                · exact c4 z)]
end BRG
