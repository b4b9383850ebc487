/-! THE CLASS MAKES VERSIONS AND PAGES -/
section FS
variable {S : Nat → Nat → Nat → Prop} {C C1 : Cd}
theorem Fp.sI {k a : Nat} {v : Int} (h : Fp S C C1) (hs : S 0 k a) : Fp S C (cSetI C1 k a v) := h.tr (Fp.I h.wf k a v hs)
theorem Fp.sR {k a : Nat} {v : Option Nat} (h : Fp S C C1) (hs : S 1 k a) : Fp S C (cSetR C1 k a v) := h.tr (Fp.R h.wf k a v hs)
theorem Fp.sE {a i : Nat} {v : Int} (h : Fp S C C1) (hs : S 2 0 a) : Fp S C (cSetE C1 a i v) := h.tr (Fp.E h.wf a i v hs)
theorem Fp.sP {a i : Nat} {v : Option Nat} (h : Fp S C C1) (hs : S 3 0 a) : Fp S C (cSetP C1 a i v) := h.tr (Fp.P h.wf a i v hs)
theorem Fp.sN {c : Nat} (h : Fp S C C1) : Fp S C (cNew C1 c) := h.tr (Fp.N h.wf c)
theorem Fp.sA {c n : Nat} (h : Fp S C C1) : Fp S C (cNewA C1 c n) := h.tr (Fp.A h.wf c n)
theorem Fp.sB (h : Fp S C C1) : Fp S C (cBump C1) := h.tr (Fp.B h.wf)
end FS
/-- a version's object, its text right behind it -/
def VerO (C : Cd) (a v : Nat) (t : Int) (g : Nat → Int) (n : Nat) : Prop := isO C a 13 ∧ cI C 1300 a = (v : Int) ∧ cI C 1301 a = t ∧ cR C 1302 a = some (a + 1) ∧ Stl C (a + 1) g n
theorem VerO.fp {S : Nat → Nat → Nat → Prop} {C C' : Cd} {a v n : Nat} {t : Int} {g : Nat → Int} (W : Wf C) (h : Fp S C C') (ha : VerO C a v t g n)
   (s1 : ¬ S 0 1300 a) (s2 : ¬ S 0 1301 a) (s3 : ¬ S 1 1302 a) (hs : ¬ S 1 1100 (a + 1)) (hs1 : ¬ S 1 1101 (a + 1)) (hs2 : ¬ S 0 1102 (a + 1)) (hs3 : ¬ S 2 0 (a + 1 + 1)) (hs4 : ¬ S 2 0 (a + 1 + 2)) : VerO C' a v t g n := by
  obtain ⟨h1, h2, h3, h4, h5⟩ := ha
  have hz := W a h1.1
  exact ⟨h.ob W h1, (h.fI hz s1).trans h2, (h.fI hz s2).trans h3, (h.fR hz s3).trans h4, h5.fp W h hs hs1 hs2 hs3 hs4⟩
section MK
variable {b : Nat} {C : Cd}
def sVm (b q k a : Nat) : Prop := q = 0 ∧ k = 1407 ∧ a = b
theorem X11_makeVersion_ (h : Lay b C) {p cap n nv : Nat} {g : Nat → Int} {t : Int} (hp : TxV C p cap g n) (hv : cI C 1407 b = (nv : Int)) : ∃ C', fX11_makeVersion b (some p) t C = some (some (csz C), C') ∧ VerO C' (csz C) nv t g n ∧ cI C' 1407 b = (nv : Int) + 1 ∧ Fp (sVm b) C C' ∧ csz C' = csz C + 4 ∧ csl C' = csl C + 6 + 2 * n := by
  have W := h.W
  have hbz := W b h.o.1
  have k1 : Fp (fun _ _ _ => False) C (cNew C 13) := Fp.N W 13
  have W1 := k1.wf
  have hp1 : TxV (cNew C 13) p cap g n := hp.fp W k1 (fun z => z) (fun z => z) (fun z => z) (fun z => z)
  obtain ⟨C2, e2, t2, k2, s2, l2⟩ := X8_settled_ W1 hp1
  have W2 := k2.2.1
  have f2 : Fp (fun _ _ _ => False) (cNew C 13) C2 := Fp.of k2 (by rw [l2]; omega) (fun _ _ _ _ z => z)
  have z1 : csz (cNew C 13) = csz C + 1 := rfl
  have o1 : isO C2 (csz C) 13 := f2.ob W1 (isO_N1 C 13)
  have f02 : Fp (fun _ _ _ => False) C C2 := k1.tr f2
  have hb2 : isO C2 b 14 := f02.ob W h.o
  -- the version's own fields
  have f3 : Fp (fun q k a => a = csz C) C2 (cSetR (cSetI (cSetI C2 1300 (csz C) nv) 1301 (csz C) t) 1302 (csz C) (some (csz C + 1))) :=
    (((Fp.rf W2).sI rfl).sI rfl).sR rfl
  have f4 : Fp (sVm b) (cSetR (cSetI (cSetI C2 1300 (csz C) nv) 1301 (csz C) t) 1302 (csz C) (some (csz C + 1))) (cSetI (cSetR (cSetI (cSetI C2 1300 (csz C) nv) 1301 (csz C) t) 1302 (csz C) (some (csz C + 1))) 1407 b ((nv : Int) + 1)) := Fp.I f3.wf _ _ _ ⟨rfl, rfl, rfl⟩
  have hne : b ≠ csz C := Nat.ne_of_lt hbz
  have v2 : cI (cNew C 13) 1407 b = (nv : Int) := (cI_N2 C 13 hne).trans hv
  have v3 : cI C2 1407 b = (nv : Int) := (f02.fI hbz (fun z => z)).trans hv
  have v4 : cI (cSetR (cSetI (cSetI C2 1300 (csz C) nv) 1301 (csz C) t) 1302 (csz C) (some (csz C + 1))) 1407 b = (nv : Int) := by
    show cI (cSetI (cSetI C2 1300 (csz C) nv) 1301 (csz C) t) 1407 b = _
    rw [cI_I2 _ _ (Or.inl (by decide)), cI_I2 _ _ (Or.inl (by decide))]
    exact v3
  have t3 : Stl (cSetR (cSetI (cSetI C2 1300 (csz C) nv) 1301 (csz C) t) 1302 (csz C) (some (csz C + 1))) (csz C + 1) g n := t2.fp W2 f3 (fun z => by omega) (fun z => by omega) (fun z => by omega) (fun z => by omega) (fun z => by omega)
  refine ⟨_, ?_, ⟨?_, ?_, ?_, ?_, t3.fp f3.wf f4 (fun z => ?_) (fun z => ?_) (fun z => ?_) (fun z => ?_) (fun z => ?_)⟩, cI_I1 _ _ _ _, ((f02.mono (T := sVm b) (fun _ _ _ _ z => z.elim)).tr2 f3 (fun q k a ha z => absurd z (Nat.ne_of_lt ha))).tr2 f4 (fun q k a ha z => z), ?_, ?_⟩
  · unfold fX11_makeVersion fX10_init
    rw [bnd_eq, if_pos (isO_N2 W 13 h.o), drf_some, if_pos hp1.isO_, cal_of e2, z1, v2, if_pos o1, bnd_eq, if_pos (show isO (cSetI C2 1300 (csz C) nv) (csz C) 13 from o1), bnd_eq, if_pos (show isO (cSetI (cSetI C2 1300 (csz C) nv) 1301 (csz C) t) (csz C) 13 from o1), bnd_eq, cal_some, if_pos (show isO (cSetR (cSetI (cSetI C2 1300 (csz C) nv) 1301 (csz C) t) 1302 (csz C) (some (csz C + 1))) b 14 from hb2), if_pos (show isO (cSetR (cSetI (cSetI C2 1300 (csz C) nv) 1301 (csz C) t) 1302 (csz C) (some (csz C + 1))) b 14 from hb2)]
    show bnd (cSetI _ 1407 b (cI (cSetR (cSetI (cSetI C2 1300 (csz C) nv) 1301 (csz C) t) 1302 (csz C) (some (csz C + 1))) 1407 b + 1)) _ = _
    rw [bnd_eq, v4]
  · exact o1
  · rw [cI_I2 _ _ (Or.inl (by decide))]
    show cI (cSetI (cSetI C2 1300 (csz C) nv) 1301 (csz C) t) 1300 (csz C) = _
    rw [cI_I2 _ _ (Or.inl (by decide))]
    exact cI_I1 _ _ _ _
  · rw [cI_I2 _ _ (Or.inl (by decide))]
    exact cI_I1 _ _ _ _
  · exact cR_R1 _ _ _ _
  · unfold sVm at z; omega
  · unfold sVm at z; omega
  · unfold sVm at z; omega
  · unfold sVm at z; omega
  · unfold sVm at z; omega
  · show csz C2 = _
    rw [s2, z1]
  · show csl C2 = _
    rw [l2]
    show csl C + 3 + 3 + 2 * n = _
    omega
/-- a new page with its first version -/
theorem X3_init_ (W : Wf C) {v : Nat} (hvv : isO C v 13) : ∃ C', fX3_init (csz C) (some v) (cNew C 6) = some ((), C') ∧ PgA C' (csz C) 1 (csz C + 2) (fun _ => v) ∧ cR C' 601 (csz C) = some v ∧ cR C' 602 (csz C) = none ∧ Fp (fun _ _ _ => False) C C' ∧ csz C' = csz C + 3 ∧ csl C' ≤ csl C + 30 := by
  have W1 := Wf_N W 6
  have W2 := Wf_N W1 2
  have z1 : csz (cNew C 6) = csz C + 1 := rfl
  have o1 : isO (cNew (cNew C 6) 2) (csz C) 6 := isO_N2 W1 2 (isO_N1 C 6)
  have o2 : isO (cNew (cNew C 6) 2) (csz C + 1) 2 := isO_N1 (cNew C 6) 2
  -- the states one behind another
  generalize hA : cSetR (cNew (cNew C 6) 2) 201 (csz C + 1) (some 0) = A
  generalize hB : cSetR A 600 (csz C) (some (csz C + 1)) = B
  generalize hD : cSetR B 602 (csz C) none = D
  generalize hE : cSetR D 601 (csz C) (some v) = E
  have WE : Wf E := by rw [← hE, ← hD, ← hB, ← hA]; exact W2
  have fE : Fp (fun q k a => csz C ≤ a) C E := by
    rw [← hE, ← hD, ← hB, ← hA]
    exact ((((((Fp.rf W).sN).sN).sR (Nat.le_succ _)).sR (Nat.le_refl _)).sR (Nat.le_refl _)).sR (Nat.le_refl _)
  have zE : csz E = csz C + 2 := by rw [← hE, ← hD, ← hB, ← hA]; rfl
  have lE : csl E = csl C + 6 := by rw [← hE, ← hD, ← hB, ← hA]; rfl
  have oE1 : isO E (csz C) 6 := by rw [← hE, ← hD, ← hB, ← hA]; exact o1
  have oE2 : isO E (csz C + 1) 2 := by rw [← hE, ← hD, ← hB, ← hA]; exact o2
  have rE : cR E 600 (csz C) = some (csz C + 1) := by
    rw [← hE, cR_R2 _ _ (Or.inl (by decide)), ← hD, cR_R2 _ _ (Or.inl (by decide)), ← hB]; exact cR_R1 _ _ _ _
  have rE1 : cR E 601 (csz C) = some v := by rw [← hE]; exact cR_R1 _ _ _ _
  have rE2 : cR E 602 (csz C) = none := by
    rw [← hE, cR_R2 _ _ (Or.inl (by decide)), ← hD]; exact cR_R1 _ _ _ _
  have rE3 : cR E 201 (csz C + 1) = some 0 := by
    rw [← hE, cR_R2 _ _ (Or.inl (by decide)), ← hD, cR_R2 _ _ (Or.inl (by decide)), ← hB, cR_R2 _ _ (Or.inl (by decide)), ← hA]; exact cR_R1 _ _ _ _
  have iE : cI E 202 (csz C + 1) = 0 := by
    rw [← hE, ← hD, ← hB, ← hA]; exact cI_N1 (cNew C 6) 2 202
  -- the first one into the list
  generalize hF : cSetI E 200 (csz C + 1) (cI E 200 (csz C + 1) + 1) = F
  have rF3 : cR F 201 (csz C + 1) = some 0 := by rw [← hF]; exact rE3
  have zF : csz F = csz C + 2 := by rw [← hF]; exact zE
  have iF : cI F 202 (csz C + 1) = 0 := by rw [← hF, cI_I2 _ _ (Or.inl (by decide))]; exact iE
  have WF : Wf F := by rw [← hF]; exact WE
  generalize hG : cSetR (cNewA F 107 10) 201 (csz C + 1) (some (csz C + 2)) = G
  have WG : Wf G := by rw [← hG]; exact Wf_A WF 107 10
  have oG : isO G (csz C + 2) 107 := by rw [← hG, ← zF]; exact isO_A1 F 107 10
  have nG : cn G (csz C + 2) = 10 := by rw [← hG, ← zF]; exact cn_A1 F 107 10
  have rG : cR G 201 (csz C + 1) = some (csz C + 2) := by rw [← hG]; exact cR_R1 _ _ _ _
  have oGv : isO G v 13 := by
    have q1 : isO E v 13 := fE.ob W hvv
    have q2 : isO F v 13 := by rw [← hF]; exact q1
    have q3 : isO (cNewA F 107 10) v 13 := Fp.ob WF (Fp.A (S := fun _ _ _ => False) WF 107 10) q2
    rw [← hG]; exact q3
  have eAdd : fAL_add (csz C + 1) (some v) E = some (1, cSetI (cSetP G (csz C + 2) 0 (some v)) 202 (csz C + 1) ((0 : Nat) + 1)) := by
    unfold fAL_add
    rw [if_pos ⟨oE2, by rw [iE]; decide, by rw [iE]; decide⟩, bnd_eq, hF]
    have eF : alFull (csz C + 1) F = true := by
      unfold alFull
      rw [rF3]
      rfl
    rw [eF, ite_tt]
    have eG : alGrow (csz C + 1) F = some G := by
      unfold alGrow
      rw [if_pos rF3, if_pos (by rw [iF]; rfl), zF, hG]
    rw [eG, Option.bind_some, iE]
    unfold alPut
    rw [drf_eq rG, if_pos ⟨oG, by rw [nG]; decide, okc_of oGv, by rw [nG]; decide⟩]
    rfl
  have fG : Fp (fun q k a => csz C ≤ a) E (cSetI (cSetP G (csz C + 2) 0 (some v)) 202 (csz C + 1) ((0 : Nat) + 1)) := by
    have f1 : Fp (fun q k a => csz C ≤ a) E F := by rw [← hF]; exact Fp.I WE _ _ _ (by omega)
    have f2 : Fp (fun q k a => csz C ≤ a) F G := by rw [← hG]; exact (Fp.A WF 107 10).tr (Fp.R (Wf_A WF 107 10) _ _ _ (by omega))
    exact ((f1.tr f2).sP (Nat.le_add_right _ _)).sI (Nat.le_succ _)
  have gR : ∀ k, k ≠ 201 → ∀ a, cR (cSetI (cSetP G (csz C + 2) 0 (some v)) 202 (csz C + 1) ((0 : Nat) + 1)) k a = cR E k a := fun k hk a => by
    show cR G k a = _
    rw [← hG, cR_R2 _ _ (Or.inl hk)]
    show cR F k a = _
    rw [← hF]
    rfl
  refine ⟨cSetI (cSetP G (csz C + 2) 0 (some v)) 202 (csz C + 1) ((0 : Nat) + 1), ?_, ⟨fG.ob WE oE1, (gR 600 (by decide) _).trans rE, ⟨fG.ob WE oE2, cI_I1 _ _ _ _, rG, by omega, oG, ?_, ?_, ?_, ?_⟩⟩, (gR 601 (by decide) _).trans rE1, (gR 602 (by decide) _).trans rE2, (fE.tr fG).mono (fun q k a ha z => by omega), ?_, ?_⟩
  · unfold fX3_init fAL_init
    rw [bnd_eq, z1, if_pos (show isO (cNew (cNew C 6) 2) (csz C + 1) 2 ∧ cI (cNew (cNew C 6) 2) 200 (csz C + 1) = 0 from ⟨o2, cI_N1 (cNew C 6) 2 200⟩), hA, cal_some, if_pos (show isO A (csz C) 6 by rw [← hA]; exact o1), bnd_eq, hB, if_pos (show isO B (csz C) 6 by rw [← hB, ← hA]; exact o1), bnd_eq, hD, if_pos (show isO D (csz C) 6 by rw [← hD, ← hB, ← hA]; exact o1), bnd_eq, hE, if_pos oE1, bnd_eq, drf_eq rE, if_pos oE2, cal_of eAdd]
  · show 1 ≤ cn G (csz C + 2)
    rw [nG]; decide
  · show 2 ≤ cn G (csz C + 2)
    rw [nG]; decide
  · show cn G (csz C + 2) ≤ 400
    rw [nG]; decide
  · intro i hi
    have e : i = 0 := by omega
    subst e
    exact cP_P1 _ _ _ _
  · show csz G = _
    rw [← hG]
    show csz F + 1 = _
    rw [zF]
  · show csl G ≤ _
    rw [← hG]
    show csl F + 10 ≤ _
    rw [← hF]
    show csl E + 10 ≤ _
    rw [lE]; omega
end MK
