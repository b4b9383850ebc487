/-! THE CLASS'S FRAMES AND PARTS -/
section PRT
variable {b : Nat} {C : Cd}
def sOf (b g R q k a : Nat) : Prop := sBeg b g q k a ∨ sRun b R q k a ∨ (q = 0 ∧ k = 408 ∧ a = b + 1)
theorem sRun.mu {R q k a : Nat} (h : sRun b R q k a) : Mu b q k a := by
  rcases h with h | ⟨_, h | h⟩
  · exact Or.inl h.1
  · exact Or.inl h.1
  · exact Or.inr (Or.inl ⟨h.1, by omega⟩)
theorem X1_openFrame_ (hL : Lay b C) {g R n t : Nat} {ti : Int} {cl : Option Nat} {d : Int} {row : Option Nat} (hg : g < 41) (hnf : cI C 408 (b + 1) = (g : Int)) (hR : cI C 409 (b + 1) = (R : Int)) (hR2 : R < 512) (hto : isO C t 11) (htn : cI C 1102 t = (n : Int))
   (hd : (cl = none ∧ d = 0) ∨ (∃ c, c < 41 ∧ c ≠ g ∧ cl = some (b + 169 + 4 * c) ∧ cI C 506 (b + 169 + 4 * c) + 1 = d)) :
   ∃ C', fX1_openFrame (b + 1) ti (some t) cl row C = some (some (b + 169 + 4 * g), C') ∧ Fp (sOf b g R) C C' ∧ csz C' = csz C ∧ csl C' = csl C ∧ cI C' 408 (b + 1) = (g : Int) + 1 ∧ cI C' 409 (b + 1) = (R : Int) + 1 ∧
     (cR C' 900 (b + 333 + R) = some (b + 169 + 4 * g) ∧ cR C' 901 (b + 333 + R) = row ∧ cI C' 902 (b + 333 + R) = 0 ∧ cI C' 903 (b + 333 + R) = (n : Int)) ∧
     cI C' 505 (b + 169 + 4 * g) = ti ∧ cI C' 506 (b + 169 + 4 * g) = d ∧ cR C' 504 (b + 169 + 4 * g) = some t ∧ cR C' 503 (b + 169 + 4 * g) = cl ∧ (∀ x, x < 10 → cE C' (b + 169 + 4 * g + 1) x = -1) ∧ ∀ p, p < 30 → cE C' (b + 169 + 4 * g + 3) p = 0 := by
  have hpF : cP C (b + 4) (ix (g : Int)) = some (b + 169 + 4 * g) := by rw [ix_n (by omega)]; exact hL.fp_ hg
  have f0 : Fp (sOf b g R) C (cSetI C 408 (b + 1) ((g : Int) + 1)) := (Fp.rf hL.W).sI (Or.inr (Or.inr ⟨rfl, rfl, rfl⟩))
  have hL0 : Lay b (cSetI C 408 (b + 1) ((g : Int) + 1)) := hL.keep ((Fp.rf hL.W).sI (Or.inl rfl))
  have hd0 : (cl = none ∧ d = 0) ∨ (∃ c, c < 41 ∧ c ≠ g ∧ cl = some (b + 169 + 4 * c) ∧ cI (cSetI C 408 (b + 1) ((g : Int) + 1)) 506 (b + 169 + 4 * c) + 1 = d) := by
    rcases hd with h | ⟨c, h1, h2, h3, h4⟩
    · exact Or.inl h
    · exact Or.inr ⟨c, h1, h2, h3, by rw [cI_I2 _ _ (Or.inl (by decide))]; exact h4⟩
  obtain ⟨C1, e1, f1, s1, l1, v1, v2, v3, v4, v5, v6⟩ := X2_begin_ hL0 hg (ti := ti) (t := some t) hd0
  have hL1 := hL0.keep (f1.mono (fun _ _ _ _ z => z.mu))
  have e1z : b + 1 < csz C := by have := hL.sz; omega
  have htz := hL.W t hto.1
  have r409 : cI C1 409 (b + 1) = (R : Int) := ((f1.fI (C := cSetI C 408 (b + 1) _) e1z (by unfold sBeg; omega)).trans (cI_I2 _ _ (Or.inl (by decide)))).trans hR
  have r408 : cI C1 408 (b + 1) = (g : Int) + 1 := (f1.fI (C := cSetI C 408 (b + 1) _) e1z (by unfold sBeg; omega)).trans (cI_I1 _ _ _ _)
  have rt : cI C1 1102 t = (n : Int) := ((f1.fI (C := cSetI C 408 (b + 1) _) htz (by unfold sBeg; omega)).trans (cI_I2 _ _ (Or.inl (by decide)))).trans htn
  have hto1 : isO C1 t 11 := f1.ob (C := cSetI C 408 (b + 1) _) hL.W hto
  have e2 := X1_openRun_ hL1 (F := b + 169 + 4 * g) (i := 0) (e := (n : Int)) (row := row) r409 hR2
  obtain ⟨o1, o2, o3, o4, o5, o6, o7⟩ := oRun_v (b := b) (C := C1) (R := R) (F := b + 169 + 4 * g) (i := 0) (e := (n : Int)) (row := row)
  have f2 : Fp (sRun b R) C1 (oRun b R (b + 169 + 4 * g) 0 (n : Int) row C1) := oRun_fp hL1.W
  have zF := hL1.W _ (hL1.fo hg).1
  refine ⟨_, ?_, (f0.tr2 f1 (fun _ _ _ _ z => Or.inl z)).tr2 f2 (fun _ _ _ _ z => Or.inr (Or.inl z)), o6.trans s1, o7.trans l1, ?_, o5, ⟨o1, o2, o3, o4⟩, ?_, ?_, ?_, ?_, fun x hx => ?_, fun p hp => ?_⟩
  · unfold fX1_openFrame
    rw [if_pos hL.oe, if_pos hL.oe, bnd_eq, drf_eq hL.x2, if_pos hL.of, bnd_eq, hL.nf, hnf, if_neg (by rw [w32_n (by omega), w32_n (by omega)]; omega), opt_some, if_pos hL.oe, bnd_eq, if_pos hL.oe, drf_eq hL.x2, if_pos ⟨hL.of, by rw [hL.nf]; exact inR_n (by omega) (by omega)⟩, bnd_eq, if_pos hL.oe, if_pos hL.oe, bnd_eq, drf_eq hpF, if_pos (hL0.fo hg), cal_of e1, if_pos hto1, if_pos hL1.oe, rt, cal_of e2]
  · rw [f2.fI (by have := hL1.sz; omega) (by unfold sRun; omega)]; exact r408
  · rw [f2.fI zF (by unfold sRun; omega)]; exact v1
  · rw [f2.fI zF (by unfold sRun; omega)]; exact v2
  · rw [f2.fR zF (by unfold sRun; omega)]; exact v3
  · rw [f2.fR zF (by unfold sRun; omega)]; exact v4
  · rw [f2.fE (hL1.W _ (hL1.fao hg).1) (by unfold sRun; omega)]; exact v5 x hx
  · rw [f2.fE (hL1.W _ (hL1.fbo hg).1) (by unfold sRun; omega)]; exact v6 p hp
/-- a new row -/
theorem X5_init_ (W : Wf C) : ∃ C', fX5_init (csz C) (cNew C 8) = some ((), C') ∧ RowV C' (csz C) [] ∧ Fp (fun _ _ _ => False) C C' ∧ csz C' = csz C + 2 ∧ csl C' = csl C + 153 := by
  have W1 := Wf_N W 8
  have W2 := Wf_A W1 100 150
  have o1 : isO (cNewA (cNew C 8) 100 150) (csz C) 8 := isO_A2 W1 _ _ (isO_N1 C 8)
  have z1 : csz (cNew C 8) = csz C + 1 := rfl
  have f : Fp (fun q k a => a = csz C) C (cSetI (cSetI (cSetR (cNewA (cNew C 8) 100 150) 800 (csz C) (some (csz C + 1))) 801 (csz C) 0) 802 (csz C) 0) := ((((Fp.rf W).sN.sA).sR rfl).sI rfl).sI rfl
  refine ⟨cSetI (cSetI (cSetR (cNewA (cNew C 8) 100 150) 800 (csz C) (some (csz C + 1))) 801 (csz C) 0) 802 (csz C) 0, ?_, ⟨⟨o1, cR_R1 _ _ _ _, isO_A1 (cNew C 8) 100 150, cn_A1 (cNew C 8) 100 150⟩, ?_, cI_I1 _ _ _ _, okr_nil, fun k hk => absurd hk (Nat.not_lt_zero _)⟩, f.mono (fun q k a ha z => absurd z (Nat.ne_of_lt ha)), rfl, rfl⟩
  · unfold fX5_init
    rw [if_pos (by decide), bnd_eq, show ix 150 = 150 from rfl, if_pos o1, bnd_eq, z1, if_pos (show isO (cSetR (cNewA (cNew C 8) 100 150) 800 (csz C) (some (csz C + 1))) (csz C) 8 from o1), bnd_eq, if_pos (show isO (cSetI (cSetR (cNewA (cNew C 8) 100 150) 800 (csz C) (some (csz C + 1))) 801 (csz C) 0) (csz C) 8 from o1), bnd_eq]
  · rw [cI_I2 _ _ (Or.inl (by decide))]
    exact cI_I1 _ _ _ _
def sPt (b f R a q k x : Nat) : Prop := sRow a q k x ∨ (q = 2 ∧ x = b + 169 + 4 * f + 3) ∨ (q = 3 ∧ x = b + 169 + 4 * f + 2) ∨ sRun b R q k x
theorem X1_openPart_ (hL : Lay b C) {f R p t n : Nat} {g : Nat → Int} (hf : f < 41) (hp : p < 30) (hpn : p < n) (hR : cI C 409 (b + 1) = (R : Int)) (hR2 : R < 512) (h504 : cR C 504 (b + 169 + 4 * f) = some t) (hT : Stl C t g n) (hd : ∀ a, cP C (b + 169 + 4 * f + 2) p = some a → RwA C a ∧ b + 854 ≤ a ∧ a ≠ t + 1 ∧ a + 1 ≠ t + 1 ∧ a + 1 ≠ t + 2 ∧ a ≠ t) :
   ∃ C' a, fX1_openPart (b + 1) (some (b + 169 + 4 * f)) (p : Int) C = some ((), C') ∧ RowV C' a [] ∧ cP C' (b + 169 + 4 * f + 2) p = some a ∧ cE C' (b + 169 + 4 * f + 3) p = 1 ∧ cI C' 409 (b + 1) = (R : Int) + 1 ∧
     (cR C' 900 (b + 333 + R) = some (b + 169 + 4 * f) ∧ cR C' 901 (b + 333 + R) = some a ∧ cI C' 902 (b + 333 + R) = (p : Int) + 1 ∧ cI C' 903 (b + 333 + R) = (fE g n p : Int)) ∧ Fp (sPt b f R a) C C' ∧ (∀ x, x ≠ p → cP C' (b + 169 + 4 * f + 2) x = cP C (b + 169 + 4 * f + 2) x ∧ cE C' (b + 169 + 4 * f + 3) x = cE C (b + 169 + 4 * f + 3) x) ∧
     ((cP C (b + 169 + 4 * f + 2) p = some a ∧ csz C' = csz C ∧ csl C' = csl C) ∨ (cP C (b + 169 + 4 * f + 2) p = none ∧ a = csz C ∧ csz C' = csz C + 2 ∧ csl C' = csl C + 153)) := by
  have hF := hL.fo hf
  have hixp : ix (p : Int) = p := ix_n (by omega)
  have htz := hL.W t hT.1.isO_.1
  have ht1 := hL.W (t + 1) hT.1.1.1.2.2.2.1.1
  have ht2 := hL.W (t + 2) hT.1.1.1.2.2.2.2.1.1
  have hr2 : (isO C (b + 169 + 4 * f + 2) 106 ∧ inR (p : Int) (cn C (b + 169 + 4 * f + 2))) := ⟨hL.fro hf, by rw [hL.frn hf]; exact inR_n (by omega) (by omega)⟩
  -- what follows when the row is there
  have key : ∀ (C2 : Cd) (a : Nat), Lay b C2 → RwA C2 a → a ≠ b + 169 + 4 * f + 3 → a + 1 ≠ b + 169 + 4 * f + 3 → cI C2 409 (b + 1) = (R : Int) → cR C2 504 (b + 169 + 4 * f) = some t → Stl C2 t g n → a ≠ t → a + 1 ≠ t + 1 → a + 1 ≠ t + 2 → b + 854 ≤ a →
      ∃ C', (drf (some a) fun (p7 : Nat) =>
if isO C2 p7 8 then cal (fX5_clear p7 C2) fun (r9 : Unit) (C8 : Cd) =>
if isO C8 (b + 169 + 4 * f) 5 then bnd (cR C8 502 (b + 169 + 4 * f)) fun (z10 : Option Nat) =>
drf z10 fun (p11 : Nat) =>
if isO C8 p11 101 ∧ inR (p : Int) (cn C8 p11) then bnd (cSetE C8 p11 (ix (p : Int)) 1) fun (C12 : Cd) =>
if isO C12 (b + 169 + 4 * f) 5 then bnd (cR C12 504 (b + 169 + 4 * f)) fun (z13 : Option Nat) =>
drf z13 fun (p14 : Nat) =>
if isO C12 p14 11 then cal (fX8_endAt p14 (p : Int) C12) fun (r16 : Int) (C15 : Cd) =>
if isO C15 (b + 1) 4 then cal (fX1_openRun (b + 1) (some (b + 169 + 4 * f)) ((p : Int) + 1) r16 (some p7) C15) fun (r18 : Unit) (C17 : Cd) =>
some ((), C17)
else none
else none
else none
else none
else none
else none) = some ((), C') ∧ RowV C' a [] ∧ cE C' (b + 169 + 4 * f + 3) p = 1 ∧ cI C' 409 (b + 1) = (R : Int) + 1 ∧ (cR C' 900 (b + 333 + R) = some (b + 169 + 4 * f) ∧ cR C' 901 (b + 333 + R) = some a ∧ cI C' 902 (b + 333 + R) = (p : Int) + 1 ∧ cI C' 903 (b + 333 + R) = (fE g n p : Int)) ∧ Fp (sPt b f R a) C2 C' ∧ (∀ x, cP C' (b + 169 + 4 * f + 2) x = cP C2 (b + 169 + 4 * f + 2) x) ∧ (∀ x, x ≠ p → cE C' (b + 169 + 4 * f + 3) x = cE C2 (b + 169 + 4 * f + 3) x) ∧ csz C' = csz C2 ∧ csl C' = csl C2 := by
    intro C2 a hL2 hRa na1 na2 hR' h504' hT' nt nt1 nt2 ha854
    have hF2 := hL2.fo hf
    have zF2 := hL2.W _ hF2.1
    obtain ⟨C3, e3, r3, f3, s3, l3⟩ := X5_clear_' hL2.W hRa
    have hL3 := hL2.keep (f3.mono (T := Mu b) (fun q k x _ z => by
      unfold sRow at z
      rcases z with z | z
      · exact Or.inl z.1
      · exact Or.inr (Or.inr (Or.inl z.1))))
    have f4 : Fp (fun q k x => q = 2 ∧ x = b + 169 + 4 * f + 3) C3 (cSetE C3 (b + 169 + 4 * f + 3) p 1) := (Fp.rf hL3.W).sE ⟨rfl, rfl⟩
    have hL4 := hL3.keep (f4.mono (T := Mu b) (fun q k x _ z => Or.inr (Or.inr (Or.inl z.1))))
    have f34 : Fp (sPt b f R a) C2 (cSetE C3 (b + 169 + 4 * f + 3) p 1) := (f3.mono (fun _ _ _ _ z => Or.inl z)).tr2 f4 (fun _ _ _ _ z => Or.inr (Or.inl z))
    have h504'' : cR (cSetE C3 (b + 169 + 4 * f + 3) p 1) 504 (b + 169 + 4 * f) = some t := (f3.fR zF2 (by unfold sRow; omega)).trans h504'
    have zt : t < csz C2 := hL2.W t hT'.1.isO_.1
    have hT4 : Stl (cSetE C3 (b + 169 + 4 * f + 3) p 1) t g n := by
      have q3 : Stl C3 t g n := hT'.fp hL2.W f3 (by unfold sRow; omega) (by unfold sRow; omega) (by unfold sRow; omega) (by unfold sRow; omega) (by unfold sRow; omega)
      have n1 : t + 1 ≠ b + 169 + 4 * f + 3 := fun z => by
        have h1 := hL2.fbo hf
        have h2 := hT'.1.1.1.2.2.2.1
        rw [z] at h2
        have := h1.2.symm.trans h2.2
        omega
      have n2 : t + 2 ≠ b + 169 + 4 * f + 3 := fun z => by
        have h1 := hL2.fbo hf
        have h2 := hT'.1.1.1.2.2.2.2.1
        rw [z] at h2
        have := h1.2.symm.trans h2.2
        omega
      exact q3.fp hL3.W f4 (by omega) (by omega) (by omega) (by omega) (by omega)
    have hE : fX8_endAt t (p : Int) (cSetE C3 (b + 169 + 4 * f + 3) p 1) = some ((fE g n p : Int), cSetE C3 (b + 169 + 4 * f + 3) p 1) := by rw [X8_endAt_in hT4.1.1 hpn, hT4.2 p hpn]
    have r409 : cI (cSetE C3 (b + 169 + 4 * f + 3) p 1) 409 (b + 1) = (R : Int) := (f3.fI (by have := hL2.sz; omega) (by unfold sRow; omega)).trans hR'
    have e5 := X1_openRun_ hL4 (F := b + 169 + 4 * f) (i := (p : Int) + 1) (e := (fE g n p : Int)) (row := some a) r409 hR2
    obtain ⟨o1, o2, o3, o4, o5, o6, o7⟩ := oRun_v (b := b) (C := cSetE C3 (b + 169 + 4 * f + 3) p 1) (R := R) (F := b + 169 + 4 * f) (i := (p : Int) + 1) (e := (fE g n p : Int)) (row := some a)
    have f5 : Fp (sRun b R) (cSetE C3 (b + 169 + 4 * f + 3) p 1) (oRun b R (b + 169 + 4 * f) ((p : Int) + 1) (fE g n p : Int) (some a) (cSetE C3 (b + 169 + 4 * f + 3) p 1)) := oRun_fp hL4.W
    have zb := hL4.W _ (hL4.fbo hf).1
    refine ⟨_, ?_, ?_, ?_, o5, ⟨o1, o2, o3, o4⟩, f34.tr2 f5 (fun _ _ _ _ z => Or.inr (Or.inr (Or.inr z))), fun x => ?_, fun x hx => ?_, o6.trans s3, o7.trans l3⟩
    · rw [drf_some, if_pos hRa.1, cal_of e3, if_pos (hL3.fo hf), bnd_eq, drf_eq (hL3.fb hf), if_pos ⟨hL3.fbo hf, by rw [hL3.fbn hf]; exact inR_n (by omega) (by omega)⟩, bnd_eq, hixp, if_pos (hL4.fo hf), bnd_eq, drf_eq h504'', if_pos hT4.1.isO_, cal_of hE, if_pos hL4.oe, cal_of e5]
    · exact (r3.fp hL3.W f4 (by omega) (by omega) (by omega) (by omega)).fp hL4.W f5 (by unfold sRun; omega) (by unfold sRun; omega) (by unfold sRun; omega) (by unfold sRun; omega)
    · rw [f5.fE zb (by unfold sRun; omega)]
      exact cE_E1 _ _ _ _
    · rw [f5.fP (hL4.W _ (hL4.fro hf).1) (by unfold sRun; omega)]
      exact f3.fP (hL2.W _ (hL2.fro hf).1) (by unfold sRow; omega) x
    · rw [f5.fE zb (by unfold sRun; omega), cE_E2 _ _ (Or.inr hx)]
      exact f3.fE (hL2.W _ (hL2.fbo hf).1) (by unfold sRow; omega) x
  unfold fX1_openPart
  rw [bnd_eq, if_neg (by rw [w32_n (by omega)]; omega), drf_some, if_pos hF, bnd_eq, drf_eq (hL.fr hf), if_pos (hL.fro hf), hL.frn hf, if_pos (by rw [w32_n (by omega), w32_n (by omega)]; omega), if_pos hF, bnd_eq, drf_eq (hL.fr hf), if_pos hr2, bnd_eq, bnd_eq, show cP C (b + 169 + 4 * f + 2) (ix (p : Int)) = cP C (b + 169 + 4 * f + 2) p by rw [hixp]]
  cases hc : cP C (b + 169 + 4 * f + 2) p with
  | some a =>
    obtain ⟨d1, d2, d3, d4, d5, d6⟩ := hd a hc
    rw [opt_some]
    obtain ⟨C', q1, q2, q3, q4, q5, q6, q7, q8, q9, q10⟩ := key C a hL d1 (by omega) (by omega) hR h504 hT d6 d4 d5 d2
    exact ⟨C', a, q1, q2, (q7 p).trans hc, q3, q4, q5, q6, fun x hx => ⟨q7 x, q8 x hx⟩, Or.inl ⟨rfl, q9, q10⟩⟩
  | none =>
    rw [opt_none, bnd_eq]
    obtain ⟨C1, e1, r1, f1, s1, l1⟩ := X5_init_ hL.W
    have hL1 := hL.keep (f1.mono (fun _ _ _ _ z => z.elim))
    have f2 : Fp (fun q k x => q = 3 ∧ x = b + 169 + 4 * f + 2) C1 (cSetP C1 (b + 169 + 4 * f + 2) p (some (csz C))) := (Fp.rf hL1.W).sP ⟨rfl, rfl⟩
    have hL2 := hL1.keep (f2.mono (T := Mu b) (fun q k x _ z => Or.inr (Or.inr (Or.inr ⟨z.1, by omega⟩))))
    have hsz := hL.sz
    have f12 : Fp (sPt b f R (csz C)) C (cSetP C1 (b + 169 + 4 * f + 2) p (some (csz C))) := (f1.mono (fun _ _ _ _ z => z.elim)).tr2 f2 (fun _ _ _ _ z => Or.inr (Or.inr (Or.inl z)))
    have zF := hL.W _ hF.1
    obtain ⟨C', q1, q2, q3, q4, q5, q6, q7, q8, q9, q10⟩ := key (cSetP C1 (b + 169 + 4 * f + 2) p (some (csz C))) (csz C) hL2 r1.1 (by omega) (by omega)
      ((f1.fI (by omega) (fun z => z)).trans hR) ((f1.fR zF (fun z => z)).trans h504)
      ((hT.fp hL.W f1 (fun z => z) (fun z => z) (fun z => z) (fun z => z) (fun z => z)).fp hL1.W f2 (by omega) (by omega) (by omega) (by omega) (by omega)) (by omega) (by omega) (by omega) hsz
    refine ⟨C', csz C, ?_, q2, (q7 p).trans (cP_P1 _ _ _ _), q3, q4, q5, f12.tr q6, fun x hx => ⟨(q7 x).trans ?_, (q8 x hx).trans ?_⟩, Or.inr ⟨rfl, rfl, q9.trans s1, q10.trans l1⟩⟩
    · rw [cal_of e1, if_pos (hL1.fo hf), bnd_eq, drf_eq (hL1.fr hf), if_pos ⟨⟨hL1.fro hf, by rw [hL1.frn hf]; exact inR_n (by omega) (by omega)⟩, r1.1.1⟩, show cSetP C1 (b + 169 + 4 * f + 2) (ix (p : Int)) (some (csz C)) = cSetP C1 (b + 169 + 4 * f + 2) p (some (csz C)) by rw [hixp], bnd_eq]
      exact q1
    · rw [cP_P2 _ _ (Or.inr hx)]
      exact f1.fP (hL.W _ (hL.fro hf).1) (fun z => z) x
    · exact f1.fE (hL.W _ (hL.fbo hf).1) (fun z => z) x
end PRT
