/-! THE CLASS EXPANDS A TITLE'S TEXT, all -/
section EXPD2
variable {b : Nat} {C : Cd} {E : Env} {VA : Nat → Nat} {up : Int} {m : Nat}
/-- ahead of the first frame -/
theorem xs_start (hL : Lay b C) (hX : RXc b C) (hN : RowV C (b + 6) []) (hE : EnvC b E VA up C) {C5 : Cd} (f : Fp (sCl b) C C5) (hsz : csz C5 = csz C ∧ csl C5 = csl C) (h703 : cI C5 703 (b + 10) = 0) (h704 : cI C5 704 (b + 10) = 0) (h705 : cI C5 705 (b + 10) = 0) (h706 : cI C5 706 (b + 10) = 0) (h707 : cI C5 707 (b + 10) = 0)
   (h408 : cI C5 408 (b + 1) = 0) (h409 : cI C5 409 (b + 1) = 0) (h410 : cI C5 410 (b + 1) = 0) (h411 : cI C5 411 (b + 1) = up) : XS b C5 E VA up aS0 0 ∧ (∀ x, DyC b C5 x → DyC b C x) ∧ Rm b C C5 := by
  have W := hL.W
  have hz := hL.sz
  have fX : Fp (sX b (DyC b C)) C C5 := f.mono (fun _ _ _ _ z => z.x)
  have pk : ∀ f', f' < 41 → ∀ x, cP C5 (b + 169 + 4 * f' + 2) x = cP C (b + 169 + 4 * f' + 2) x := fun f' hf' x => f.fP (W _ (hL.fro hf').1) (by unfold sCl sRow; omega) x
  have dy : ∀ x, DyC b C5 x → DyC b C x := fun x => DyC.of pk
  refine ⟨⟨hL.keep (fX.mono (fun _ _ _ _ z => z.mu)), fun f' p a hf' hp ha => ?_, fun f' hf' => absurd hf' (Nat.not_lt_zero _), fun f' hf' => absurd hf' (Nat.not_lt_zero _), fun f' p hf' => absurd hf' (Nat.not_lt_zero _), ⟨⟨h703, by decide⟩, ⟨h704, by decide⟩, ⟨h705, by decide⟩, ⟨h706, by decide⟩, ⟨h707, by decide⟩⟩, ⟨h408, by decide, h409, h410, by decide, h411⟩, hN.fp W f (by unfold sCl sRow; omega) (by unfold sCl sRow; omega) (by unfold sCl sRow; omega) (by unfold sCl sRow; omega), hE.step fX (fun x q => Or.inl (dy x q))⟩, dy, Rm.same hsz pk⟩
  rw [pk f' hf'] at ha
  obtain ⟨q1, q2, q3⟩ := hX f' p a hf' hp ha
  exact ⟨q1.fp W f (by unfold sCl sRow; omega), q2, fun f2 p2 hf2 hp2 h2 => q3 f2 p2 hf2 hp2 (by rw [← pk f2 hf2]; exact h2)⟩
/-- the class expands a title's text as the evaluator says -/
theorem X1_expand_ (hL : Lay b C) (hX : RXc b C) (hN : RowV C (b + 6) []) (hR : RwA C (b + 11)) (hE : EnvC b E VA up C) (hEn : EnP E) {t : Nat} (ht : t < 24) (hne : eSn E t ≠ -1) {acc' : List Int} {s' : ASt} (hrun : runX E m false 0 0 0 0 (eTl E (eSn E t).toNat) [] (uFr aS0 (topF E t)) = some (acc', s')) :
   ∃ C', fX1_expand (b + 1) (t : Int) (some (VA (eSn E t).toNat + 1)) up C = some ((), C') ∧ XS b C' E VA up s' 0 ∧ RowV C' (b + 11) acc' ∧ Fp (sX b (DyC b C)) C C' ∧ (∀ x, DyC b C' x → DyC b C x ∨ csz C ≤ x) ∧ Rm b C C' := by
  have W := hL.W
  have hz := hL.sz
  obtain ⟨n1, n2, n3⟩ := hEn.1 t ht hne
  obtain ⟨C1, e1, f1, r1, s1, l1, v3, v4, v5, v6, v7⟩ := X4_clear_ hL hR
  have hs4 : ∀ {k : Nat}, 408 ≤ k ∧ k ≤ 411 → sCl b 0 k (b + 1) := fun h => Or.inl ⟨rfl, Or.inl ⟨rfl, h⟩⟩
  have f5 : Fp (sCl b) C (cSetI (cSetI (cSetI (cSetI C1 408 (b + 1) 0) 409 (b + 1) 0) 410 (b + 1) 0) 411 (b + 1) up) := (((f1.sI (hs4 (by decide))).sI (hs4 (by decide))).sI (hs4 (by decide))).sI (hs4 (by decide))
  have f15 : Fp (fun q k a => q = 0 ∧ 408 ≤ k ∧ k ≤ 411 ∧ a = b + 1) C1 (cSetI (cSetI (cSetI (cSetI C1 408 (b + 1) 0) 409 (b + 1) 0) 410 (b + 1) 0) 411 (b + 1) up) := ((((Fp.rf f1.wf).sI ⟨rfl, by decide, by decide, rfl⟩).sI ⟨rfl, by decide, by decide, rfl⟩).sI ⟨rfl, by decide, by decide, rfl⟩).sI ⟨rfl, by decide, by decide, rfl⟩
  have z10 : b + 10 < csz C1 := by omega
  have n70 : ∀ {k : Nat}, 703 ≤ k → cI (cSetI (cSetI (cSetI (cSetI C1 408 (b + 1) 0) 409 (b + 1) 0) 410 (b + 1) 0) 411 (b + 1) up) k (b + 10) = cI C1 k (b + 10) := fun hk => f15.fI z10 (by omega)
  obtain ⟨x1, d1, m1⟩ := xs_start hL hX hN hE f5 ⟨s1, l1⟩ ((n70 (by decide)).trans v3) ((n70 (by decide)).trans v4) ((n70 (by decide)).trans v5) ((n70 (by decide)).trans v6) ((n70 (by decide)).trans v7)
    ((cI_I2 _ _ (Or.inl (by decide))).trans ((cI_I2 _ _ (Or.inl (by decide))).trans ((cI_I2 _ _ (Or.inl (by decide))).trans (cI_I1 _ _ _ _)))) ((cI_I2 _ _ (Or.inl (by decide))).trans ((cI_I2 _ _ (Or.inl (by decide))).trans (cI_I1 _ _ _ _))) ((cI_I2 _ _ (Or.inl (by decide))).trans (cI_I1 _ _ _ _)) (cI_I1 _ _ _ _)
  generalize hC5 : cSetI (cSetI (cSetI (cSetI C1 408 (b + 1) 0) 409 (b + 1) 0) 410 (b + 1) 0) 411 (b + 1) up = C5 at *
  have hL5 := x1.1
  have W5 := hL5.W
  have hz5 := hL5.sz
  have hI5 := x1.2.2.2.2.2.2.1
  have hStl := (x1.2.2.2.2.2.2.2.2.now W5).1 t ht hne
  have r5 : RowV C5 (b + 11) [] := r1.fp f1.wf f15 (by omega) (by omega) (by omega) (by omega)
  obtain ⟨C6, e6, f6, s6, l6, w1, w2, ⟨w3, w4, w5, w6⟩, w7, w8, w9, w10, w11, w12⟩ := X1_openFrame_ hL5 (g := 0) (R := 0) (n := eTl E (eSn E t).toNat) (t := VA (eSn E t).toNat + 1) (ti := (t : Int)) (cl := none) (d := 0) (row := some (b + 11)) (by decide) hI5.1 hI5.2.2.1 (by decide) hStl.1.isO_ hStl.1.sz (Or.inl ⟨rfl, rfl⟩)
  obtain ⟨x6, fX6, d6⟩ := x1.frame (C' := C6) (F := topF E t) (fun _ => rfl) (by decide) (by decide) f6 w1 w2 w9 w7 ht w8 (by show (0 : Nat) ≤ 6; decide) (Or.inl ⟨rfl, w10⟩) w11 w12 ⟨t, ht, hne, rfl⟩ n2 n3 (fun x hx => Or.inl rfl)
  have r6 : RowV C6 (b + 11) [] := r5.fp W5 f6 (by unfold sOf sBeg sRun; omega) (by unfold sOf sBeg sRun; omega) (by unfold sOf sBeg sRun; omega) (by unfold sOf sBeg sRun; omega)
  have hpre : Pre b C6 E VA up (uFr aS0 (topF E t)) 0 0 (b + 11) 0 (eTl E (eSn E t).toNat) [] := ⟨x6, ⟨fun f' _ p => rfl, Nat.le_refl 1⟩, Or.inl rfl, r6, ⟨by decide, by decide, w3, w4, w5⟩, w6⟩
  have m6 : Rm b C5 C6 := Rm.same ⟨s6, l6⟩ (fun f' hf' x => f6.fP (W5 _ (hL5.fro hf').1) (by unfold sOf sBeg sRun; omega) x)
  obtain ⟨k, C7, q1, q2, q3⟩ := seg_ok hEn m false 0 0 0 0 _ [] _ acc' s' hrun C6 (b + 11) _ hpre (Nat.lt_succ_self 0) (Bl.whole n2) (Nat.le_refl _) n2.1.2
  have hL7 := q2.1.1
  have hI7 := q2.1.2.2.2.2.2.2.1
  have kp := q2.2.2.2.2.2.2
  have tc := Tc_le s'
  have nn := n2.1.2
  -- the last run is taken off
  have g8 : Fp (fun q k a => q = 0 ∧ (k = 409 ∨ k = 410) ∧ a = b + 1) C7 (cSetI C7 409 (b + 1) ((0 : Nat) : Int)) := (Fp.rf hL7.W).sI ⟨rfl, Or.inl rfl, rfl⟩
  have x8 := q2.1.cnt (s' := s') (R' := 0) g8 (cI_I1 _ _ _ _) ((cI_I2 _ _ (Or.inl (by decide))).trans hI7.2.2.2.1) hI7.2.2.2.2.1 (Or.inl rfl)
  have q8 : KSts b (k + 1) C6 (cSetI C7 409 (b + 1) ((0 : Nat) : Int)) := q1.app (KSts.one ⟨hL7, 0, hI7.2.2.1, by decide, eTl E (eSn E t).toNat, eTl E (eSn E t).toNat, q2.2.2.2.2.1.2.2.2.2, q2.2.2.2.2.2.1, by omega, by omega, Or.inr ⟨Nat.le_refl _, rfl⟩⟩)
  have fX5 : Fp (sX b (DyC b C)) C C5 := f5.mono (fun _ _ _ _ z => z.x)
  have fX56 : Fp (sX b (DyC b C)) C C6 := sX.tr fX5 (fun x h => Or.inl (d1 x h)) fX6
  have d56 : ∀ x, DyC b C6 x → DyC b C x ∨ csz C ≤ x := fun x h => Or.inl (d1 x (d6 x h))
  have fX7 : Fp (sX b (DyC b C)) C C7 := sX.tr fX56 d56 kp.2.2.2.2.1
  have d7 : ∀ x, DyC b C7 x → DyC b C x ∨ csz C ≤ x := fun x h => (kp.2.2.2.2.2.1 x h).elim (d56 x) (fun z => Or.inr (Nat.le_trans fX56.1 z))
  refine ⟨cSetI C7 409 (b + 1) ((0 : Nat) : Int), ?_, x8, q2.2.2.2.1.fp hL7.W g8 (by omega) (by omega) (by omega) (by omega), fX7.tr2 g8 (fun q k a _ z => Or.inl ⟨z.1, Or.inl ⟨z.2.2, by omega, by omega⟩⟩), d7, (m1.tr m6).tr (kp.2.2.2.2.2.2.tr (Rm.same ⟨rfl, rfl⟩ (fun _ _ _ => rfl)))⟩
  have o1 := (hL.keep (f1.mono (fun _ _ _ _ z => (sCl.x (D := fun _ => False) z).mu))).oe
  unfold fX1_expand
  rw [if_pos hL.oe, bnd_eq, drf_eq hL.x7, if_pos hL.od, cal_of e1, if_pos o1, bnd_eq, if_pos (show isO (cSetI C1 408 (b + 1) 0) (b + 1) 4 from o1), bnd_eq, if_pos (show isO (cSetI (cSetI C1 408 (b + 1) 0) 409 (b + 1) 0) (b + 1) 4 from o1), bnd_eq, if_pos (show isO (cSetI (cSetI (cSetI C1 408 (b + 1) 0) 409 (b + 1) 0) 410 (b + 1) 0) (b + 1) 4 from o1), bnd_eq, hC5]
  rw [if_pos hL5.oe, bnd_eq, drf_eq hL5.x7, if_pos hL5.od, bnd_eq, hL5.x8, if_pos hL5.oe, cal_of e6, bnd_eq]
  refine lpn_rule (P := fun mm (L : Int → Cd → Option (Unit × Cd)) => ∀ (k v : Nat) (C C' : Cd), KSts b k C C' → Lay b C' → cI C' 409 (b + 1) = 0 → v + k < 1000000 → k < mm → L (v : Int) C = some ((), C')) (fun k _ _ _ _ _ _ _ h => absurd h (Nat.not_lt_zero _)) (fun mm L hLL k v C C' hk hLC h9 hv hm => ?_) FU (k + 1) 0 C6 _ q8 x8.1 (cI_I1 _ _ _ _) (by omega) (by unfold FU; omega)
  rw [bnd_eq, if_neg (by rw [w32_n (by omega), show w32 1000000 = 1000000 from rfl]; omega)]
  cases k with
  | zero =>
    have e : C' = C := hk
    subst e
    rw [if_pos hLC.oe, h9, if_pos (by decide)]
  | succ k =>
    obtain ⟨D, ⟨hLD, R, r9, rlt, i, e, i2, i3, i4, i5, hst⟩, d2⟩ := hk
    have hin : inR ((R : Int) + 1 - 1) (cn C (b + 5)) := by
      rw [show (R : Int) + 1 - 1 = (R : Int) by omega, hLD.nu]
      exact inR_n rlt (by decide)
    have step := hLL k (v + 1) D C' d2 hLC h9 (by omega) (by omega)
    rw [show ((v + 1 : Nat) : Int) = (v : Int) + 1 by omega] at step
    rw [if_pos hLD.oe, r9, if_neg (by rw [w32_of (by omega) (by omega)]; omega), if_pos hLD.oe, bnd_eq, if_pos hLD.oe, drf_eq hLD.x3, if_pos ⟨hLD.ou, hin⟩, bnd_eq, show (R : Int) + 1 - 1 = (R : Int) by omega, ix_n (by omega), drf_eq (hLD.up rlt), if_pos (hLD.uo rlt), if_pos (hLD.uo rlt), bnd_eq, i2, i3, w32_n (by omega), w32_n (by omega)]
    rcases hst with ⟨y1, y2⟩ | ⟨y1, y2⟩
    · rw [if_pos (by omega), if_pos hLD.oe, cal_of y2]
      exact step
    · rw [if_neg (by omega), if_pos hLD.oe, if_pos hLD.oe, bnd_eq, ← y2]
      exact step
end EXPD2
