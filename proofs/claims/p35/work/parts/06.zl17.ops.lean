/-! THE STEPS OF WHAT CHANGES PAGES: the clock, the draft, one more version -/
section OPS
variable {b kc : Nat} {M M' M1 : Md} {C C' : Cd} {P : Nat → Prop} {S : Nat → Nat → Nat → Prop} {VA PA LE AA : Nat → Nat} {nv np na : Nat}
/-- what the titles' own, modules, draft, stage do not feel -/
def CorS (b : Nat) (S : Nat → Nat → Nat → Prop) : Prop := ∀ q k a, S q k a → (q = 0 ∧ ((k = 801 ∨ k = 802) → b + 13 ≤ a ∧ a < b + 157) ∧ k ≠ 1102 ∧ k ≠ 1002 ∧ k ≠ 1204 ∧ k ≠ 1205 ∧ k ≠ 1409 ∧ k ≠ 1406 ∧ k ≠ 1408) ∨ (q = 1 ∧ ((k = 1203 ∧ a < b + 157 ∧ b + 13 ≤ a) ∨ ((k = 601 ∨ k = 602 ∨ k = 201) ∧ b + 854 ≤ a))) ∨ (q = 2 ∧ b + 13 ≤ a ∧ a < b + 157 ∧ (a - b - 13) % 6 = 3) ∨ (q = 3 ∧ b + 854 ≤ a)
theorem CorS.mu (h : CorS b S) {q k a : Nat} (z : S q k a) : Mu b q k a := by
  have := h q k a z
  unfold Mu
  omega
theorem RQ.core (h1 : RLy b C) (h2 : ∃ dn g, RD b M C dn g) (h3 : RS b M C) (h4 : ∀ t, t < 24 → RTi b M C t) (h5 : ∀ j, j < 4 → RMo b M C j) (f : Fp S C C') (hs : CorS b S) (m1 : ∀ j, (j = 1 ∨ j = 2 ∨ j = 5 ∨ j = 13 ∨ j = 68 ∨ j = 71) → M'.1 j = M.1 j) (m2 : ∀ k, (k = 0 ∨ k = 3 ∨ k = 4 ∨ (17 ≤ k ∧ k ≤ 21)) → M'.2 k = M.2 k) :
   RLy b C' ∧ (∃ dn g, RD b M' C' dn g) ∧ RS b M' C' ∧ (∀ t, t < 24 → RTi b M' C' t) ∧ ∀ j, j < 4 → RMo b M' C' j := by
  have hL := h1.1
  have W := hL.W
  obtain ⟨dn, g, hd⟩ := h2
  refine ⟨h1.low f (fun q k a _ z => hs.mu z) (fun z => by have := hs _ _ _ z; omega) (fun z => by have := hs _ _ _ z; omega) (fun z => by have := hs _ _ _ z; omega) (fun z => by have := hs _ _ _ z; omega) (fun _ z => by have := hs _ _ _ z; omega) (fun z => by have := hs _ _ _ z; omega) (fun z => by have := hs _ _ _ z; omega) (fun _ z => by have := hs _ _ _ z; omega) (fun z => by have := hs _ _ _ z; omega) (fun z => by have := hs _ _ _ z; omega) (fun _ _ z => by have := hs _ _ _ z; omega) (fun _ _ _ z => by have := hs _ _ _ z; omega), ⟨dn, g, hd.low W f (fun z => by have := hs _ _ _ z; omega) (fun z => by have := hs _ _ _ z; omega) (fun z => by have := hs _ _ _ z; omega) (fun z => by have := hs _ _ _ z; omega) (m1 1 (by decide)) (m2 0 (by decide))⟩, h3.low hL f (fun z => by have := hs _ _ _ z; omega) (fun z => by have := hs _ _ _ z; omega) (fun z => by have := hs _ _ _ z; omega) (fun j hj => m1 j (by omega)) (Or.inl (m1 71 (by decide))) (Or.inl (m1 68 (by decide))), fun t ht => (h4 t ht).low hL ht f (fun z => by have := hs _ _ _ z; omega) (fun z => by have := hs _ _ _ z; omega) (fun z => by have := hs _ _ _ z; omega) (fun z => by have := hs _ _ _ z; omega) (fun k hk => m2 k (by omega)), fun j hj => (h5 j hj).low hL hj f (fun z => by have := hs _ _ _ z; omega) (fun z => by have := hs _ _ _ z; omega) (fun z => by have := hs _ _ _ z; omega) (fun k hk => m2 k (by omega))⟩
theorem RGp.sets (h : RGp P b M C) : ∃ lk ct rd cd us : Nat → Nat, ∀ t, t < 24 → ∃ r, RGx P b M C t r (lk t) (ct t) (rd t) (cd t) (us t) := by
  have q : ∀ t, ∃ z : Nat × Nat × Nat × Nat × Nat, t < 24 → ∃ r, RGx P b M C t r z.1 z.2.1 z.2.2.1 z.2.2.2.1 z.2.2.2.2 := fun t => by
    by_cases ht : t < 24
    · obtain ⟨r, lk, ct, rd, cd, us, hg⟩ := h t ht
      exact ⟨(lk, ct, rd, cd, us), fun _ => ⟨r, hg⟩⟩
    · exact ⟨(0, 0, 0, 0, 0), fun z => absurd z ht⟩
  exact ⟨fun t => (Classical.choose (q t)).1, fun t => (Classical.choose (q t)).2.1, fun t => (Classical.choose (q t)).2.2.1, fun t => (Classical.choose (q t)).2.2.2.1, fun t => (Classical.choose (q t)).2.2.2.2, fun t ht => Classical.choose_spec (q t) ht⟩
theorem RGx.cd_ {t : Nat} {r : List Int} {lk ct rd cd us : Nat} (h : RGx P b M C t r lk ct rd cd us) : (cI C 704 (b + 13 + 6 * t + 1) = (ct : Int) ∧ ct < 256) ∧ (cI C 705 (b + 13 + 6 * t + 1) = (rd : Int) ∧ rd < 16777216) ∧ (cI C 706 (b + 13 + 6 * t + 1) = (cd : Int) ∧ cd < 256) := ⟨h.2.2.2.1.2.1, h.2.2.2.1.2.2.1, h.2.2.2.1.2.2.2.1⟩
/-- the renderings, where nothing of them is touched -/
theorem RGx.low {t : Nat} {r : List Int} {lk ct rd cd us : Nat} (h : RGx P b M C t r lk ct rd cd us) (hL : Lay b C) (ht : t < 24) (f : Fp S C C') (s1 : ∀ k, 701 ≤ k → k ≤ 707 → ¬ S 0 k (b + 13 + 6 * t + 1)) (s2 : ¬ S 1 800 (b + 13 + 6 * t + 2)) (s3 : ¬ S 0 801 (b + 13 + 6 * t + 2)) (s4 : ¬ S 0 802 (b + 13 + 6 * t + 2)) (s5 : ¬ S 2 0 (b + 13 + 6 * t + 2 + 1))
   (e : ∀ k, ((23 ≤ k ∧ k ≤ 35) ∨ k = 6) → M'.2 k = M.2 k) : RGx P b M' C' t r lk ct rd cd us := by
  have hz := hL.sz
  obtain ⟨h1, h2, h3, h4, h5, h6, h7⟩ := h
  have fi : ∀ k, 701 ≤ k → k ≤ 707 → cI C' k (b + 13 + 6 * t + 1) = cI C k (b + 13 + 6 * t + 1) := fun k a b => f.fI (by omega) (s1 k a b)
  have eo : OldQ P M' t rd cd us ↔ OldQ P M t rd cd us := by
    unfold OldQ OldP
    rw [e 23 (by decide), e 24 (by decide), e 25 (by decide), e 28 (by decide)]
  unfold RGx
  rw [e 27 (by decide), e 29 (by decide), e 30 (by decide), e 31 (by decide), e 32 (by decide), e 33 (by decide), e 34 (by decide), e 35 (by decide), e 6 (by decide), fi 701 (by decide) (by decide), fi 702 (by decide) (by decide), fi 703 (by decide) (by decide), fi 704 (by decide) (by decide), fi 705 (by decide) (by decide), fi 706 (by decide) (by decide), fi 707 (by decide) (by decide), eo]
  exact ⟨h1, h2, h3.fp hL.W f s2 s3 s4 s5, h4, h5, h6, h7⟩
theorem RKp.same (h : RKp P M nv) (vs : VSame M M') (e : M'.1 22 = M.1 22) (e2 : ∀ k, ((23 ≤ k ∧ k ≤ 26) ∨ k = 28) → M'.2 k = M.2 k) : RKp P M' nv := by
  obtain ⟨h1, h2, h3, h4, h5⟩ := h
  refine ⟨fun t ht => ?_, ?_, ?_, ?_, ?_⟩
  · rw [e2 26 (by decide), prAt_same vs]; exact h1 t ht
  · rw [e2 23 (by decide), e]; exact h2
  · rw [e2 24 (by decide), e]; exact h3
  · rw [e2 25 (by decide), e]; exact h4
  · rw [e2 28 (by decide), e]; exact h5
/-- the clock goes on by 1 -/
theorem RQ.tick (h : RQ P b M C VA PA LE AA nv np na) {x : Int} (hx : M.1 5 = x) (h0 : M' = mSet M 5 (x + 1)) : cI C 1406 b = x ∧ RQ P b M' (cSetI C 1406 b (x + 1)) VA PA LE AA nv np na := by
  subst h0
  obtain ⟨h1, ⟨dn, g, h2⟩, h3, h5, h6, h7, h8, h9⟩ := h
  have hL := h1.1
  have W := hL.W
  have f : Fp (fun q k a => q = 0 ∧ k = 1406 ∧ a = b) C (cSetI C 1406 b (x + 1)) := Fp.I W _ _ _ ⟨rfl, rfl, rfl⟩
  have m1 : ∀ j, j ≠ 5 → (mSet M 5 (x + 1)).1 j = M.1 j := fun j a => mS2 _ _ a
  have vs : VSame M (mSet M 5 (x + 1)) := ⟨fun j hj => m1 j (by omega), fun _ _ => rfl⟩
  refine ⟨h3.2.1.symm.trans hx, h1.low f (fun q k a _ z => Or.inl z.1) (by omega) (by omega) (by omega) (by omega) (fun _ => by omega) (by omega) (by omega) (fun _ => by omega) (by omega) (by omega) (fun _ _ => by omega) (fun _ _ _ => by omega), ⟨dn, g, h2.low W f (by omega) (by omega) (by omega) (by omega) (m1 1 (by decide)) rfl⟩, ?_, fun t ht => (h5 t ht).low hL ht f (by omega) (by omega) (by omega) (by omega) (fun _ _ => rfl), fun j hj => (h6 j hj).low hL hj f (by omega) (by omega) (by omega) (fun _ _ => rfl), h7.low W hL h1.2.1 f (fun q k a ha z hb => by omega) vs (by rw [mS1]; omega) (by omega) (fun _ _ => by omega), h8.same vs (m1 22 (by decide)) (fun _ _ => rfl), fun t ht => ?_⟩
  · obtain ⟨⟨r1, r2, r3⟩, r4, r5, r6, r7⟩ := h3
    refine ⟨⟨?_, ?_, ?_⟩, ?_, ?_, ?_, ?_⟩
    · rw [m1 2 (by decide), cI_I2 _ _ (Or.inl (by decide))]; exact r1
    · rw [m1 2 (by decide)]; exact r2
    · rw [m1 2 (by decide)]; exact r3
    · rw [mS1]; exact (cI_I1 _ _ _ _).symm
    · rw [m1 13 (by decide), cI_I2 _ _ (Or.inl (by decide))]; exact r5
    · rw [m1 71 (by decide)]; exact r6
    · rw [m1 68 (by decide)]; exact r7
  · obtain ⟨r, lk, ct, rd, cd, us, hg⟩ := h9 t ht
    exact ⟨r, lk, ct, rd, cd, us, hg.low hL ht f (fun _ _ _ => by omega) (by omega) (by omega) (by omega) (by omega) (fun _ _ => rfl)⟩
/-- the draft is emptied -/
theorem RQ.clear (h : RQ P b M C VA PA LE AA nv np na) (h0 : M' = mSet M 1 0) : ∃ C', fX8_clear (b + 845) C = some ((), C') ∧ RQ P b M' C' VA PA LE AA nv np na ∧ Fp (sTx (b + 845)) C C' ∧ csz C' = csz C ∧ csl C' = csl C := by
  subst h0
  obtain ⟨h1, ⟨dn, g, h2⟩, h3, h5, h6, h7, h8, h9⟩ := h
  have hL := h1.1
  have W := hL.W
  have hz := hL.sz
  obtain ⟨d1, d2, d3, d4, d5⟩ := h2
  obtain ⟨C', e1, v1, o1⟩ := X8_clear_ d3.1 g
  have f := o1.fp W
  have m1 : ∀ j, j ≠ 1 → (mSet M 1 0).1 j = M.1 j := fun j a => mS2 _ _ a
  have vs : VSame M (mSet M 1 0) := ⟨fun j hj => m1 j (by omega), fun _ _ => rfl⟩
  refine ⟨C', e1, ⟨h1.low f (fun q k a _ z => by unfold sTx at z; unfold Mu; omega) (by unfold sTx; omega) (by unfold sTx; omega) (by unfold sTx; omega) (by unfold sTx; omega) (fun _ => by unfold sTx; omega) (by unfold sTx; omega) (by unfold sTx; omega) (fun _ => by unfold sTx; omega) (by unfold sTx; omega) (by unfold sTx; omega) (fun _ _ => by unfold sTx; omega) (fun _ _ _ => by unfold sTx; omega), ⟨0, g, mS1 _ _ _, Nat.zero_le _, v1, fun k hk => absurd hk (Nat.not_lt_zero _), fun k hk => absurd hk (Nat.not_lt_zero _)⟩, h3.low hL f (by unfold sTx; omega) (by unfold sTx; omega) (by unfold sTx; omega) (fun j hj => m1 j (by omega)) (Or.inl (m1 71 (by decide))) (Or.inl (m1 68 (by decide))), fun t ht => (h5 t ht).low hL ht f (by unfold sTx; omega) (by unfold sTx; omega) (by unfold sTx; omega) (by unfold sTx; omega) (fun _ _ => rfl), fun j hj => (h6 j hj).low hL hj f (by unfold sTx; omega) (by unfold sTx; omega) (by unfold sTx; omega) (fun _ _ => rfl), h7.low W hL h1.2.1 f (fun q k a ha z hb => by unfold sTx at z; omega) vs (Int.le_of_eq (m1 5 (by decide)).symm) (by unfold sTx; omega) (fun _ _ => by unfold sTx; omega), h8.same vs (m1 22 (by decide)) (fun _ _ => rfl), fun t ht => ?_⟩, f, o1.csz, o1.csl⟩
  obtain ⟨r, lk, ct, rd, cd, us, hg⟩ := h9 t ht
  exact ⟨r, lk, ct, rd, cd, us, hg.low hL ht f (fun _ _ _ => by unfold sTx; omega) (by unfold sTx; omega) (by unfold sTx; omega) (by unfold sTx; omega) (by unfold sTx; omega) (fun _ _ => rfl)⟩
/-- one more version of a page -/
theorem RQ.addV (h : RQ P b M C VA PA LE AA nv np na) {t p : Nat} (ht : t < 24) (hp : p < np) (h6 : M.2 6 t = (p : Int)) {src cap n : Nat} {g : Nat → Int} (hs : TxV C src cap g n) (hg : isTx g n = true) (hk : Tkv g n) (hnv : nv < 120) {tm : Int} (htm : I32 tm) (hm : NvM M M1 (p : Int) tm g n nv) :
   ∃ (C' : Cd) (VA' LE' : Nat → Nat) (D : Nat → Prop), fX11_addVersion b (t : Int) (some (PA p)) (some src) tm C = some ((nv : Int), C') ∧ RQ (fun s => P s ∨ D s) b M1 C' VA' PA LE' AA (nv + 1) np na ∧ (∀ s, D s → s = t) ∧ (csz C ≤ csz C' ∧ csz C' ≤ csz C + 5) ∧ (csl C ≤ csl C' ∧ csl C' ≤ csl C + 400) ∧ Fp (sAv b (PA p) (LE p)) C C' ∧ ∀ q, q ≠ (p : Int) → prs M1 q (nv + 1) = prs M q nv := by
  obtain ⟨h1, h2, h3, h5, h6', h7, h8, h9⟩ := h
  have hL := h1.1
  have W := hL.W
  have hz := hL.sz
  have hn := isTx_n hg
  obtain ⟨a1, a2, a3⟩ := h7.1
  obtain ⟨y1, ⟨y2, y3, y4⟩, y5, y6, y7, y8⟩ := h7.2.2.2.2.2.1 p hp
  obtain ⟨hA, _⟩ := ord_all M (p : Int) nv
  obtain ⟨lk, ct, rd, cd, us, hgs⟩ := h9.sets
  obtain ⟨pv, hpv, hprs, _, h601⟩ := h7.pres hp
  obtain ⟨C1, e1, v1, i1, f1, s1, l1⟩ := X11_makeVersion_ hL (t := tm) hs a3
  have zp := W _ y2.1
  have zl := W _ y4.1.1
  have ze := W _ y4.2.2.2.2.1.1
  have W1 := f1.wf
  have hcn := cnt_le (onp M (p : Int)) nv
  have pg1 : PgA C1 (PA p) (cnt (onp M (p : Int)) nv) (LE p) (fun i => VA (vsl M (p : Int) nv i)) := ⟨f1.ob W y2, (f1.fR zp (by unfold sVm; omega)).trans y3, y4.fp W f1 (by unfold sVm; omega) (by unfold sVm; omega) (by unfold sVm; omega)⟩
  obtain ⟨C2, e', e2, v2, v3, f2, s2, l2, he⟩ := X3_put_ (w := csz C) (t := tm) (tm := fun i => M.2 11 (vsl M (p : Int) nv i)) W1 pg1 (by omega) (fun i hi => by
    have q := hA i hi
    have q2 := (h7.2.2.2.2.1 _ q.1).1
    exact ⟨f1.ob W q2.1, (f1.fI (W _ q2.1.1) (by unfold sVm; omega)).trans q2.2.2.1, a1.2.2.1 _ q.1⟩) v1.1 v1.2.2.1 htm ((f1.fR zp (by unfold sVm; omega)).trans h601)
  have hVp : VA pv < csz C := W _ (h7.2.2.2.2.1 _ hpv).1.1.1
  generalize hpos : ipos (fun i => M.2 11 (vsl M (p : Int) nv i)) tm (cnt (onp M (p : Int)) nv) = pos at *
  have f12 : Fp (sAv b (PA p) (LE p)) C C2 := (f1.mono (fun q k a _ z => by unfold sVm at z; unfold sAv; omega)).tr (f2.mono (fun q k a _ z => by unfold sPg sLL at z; unfold sAv; omega))
  have hC : CorS b (sAv b (PA p) (LE p)) := fun q k a z => by unfold sAv at z; omega
  have hL2 := hL.keep (f12.mono (fun q k a _ z => hC.mu z))
  have W2 := hL2.W
  have w702 : ∀ k a, a < b + 854 → 702 ≤ k → k ≤ 707 → cI C2 k a = cI C k a := fun k a ha k1 k2 => (f2.fI (by have := f1.1; omega) (by unfold sPg sLL; omega)).trans (f1.fI (by omega) (by unfold sVm; omega))
  have c704 : ∀ k u, u < 24 → 703 ≤ k → k ≤ 707 → cI C2 k (b + 13 + 6 * u + 1) = cI C k (b + 13 + 6 * u + 1) := fun k u hu k1 k2 => w702 k _ (by omega) (by omega) k2
  have o2 : isO C2 (csz C) 13 := f2.ob W1 v1.1
  -- what goes stale
  have key : ∃ C3, fX11_addVersion b (t : Int) (some (PA p)) (some src) tm C = some ((nv : Int), C3) ∧ Fp (sSt b) C2 C3 ∧ csz C3 = csz C2 ∧ csl C3 = csl C2 ∧ ∀ j, j < 24 → cI C3 702 (b + 13 + 6 * j + 1) = if pos = cnt (onp M (p : Int)) nv ∧ (j = t ∨ (rd j).testBit t = true) then 1 else cI C2 702 (b + 13 + 6 * j + 1) := by
    have n2 : cI C2 1300 (csz C) = (nv : Int) := (f2.fI (W1 _ v1.1.1) (by unfold sPg sLL; omega)).trans v1.2.1
    by_cases c : pos = cnt (onp M (p : Int)) nv
    · obtain ⟨C3, e3, f3, s3, l3, n3⟩ := X11_noteTitleChange_ hL2 ht (rd := rd) (fun j hj => by
        obtain ⟨r, hr⟩ := hgs j hj
        rw [c704 705 j hj (by decide) (by decide)]
        exact hr.cd_.2.1)
      refine ⟨C3, ?_, f3, s3, l3, fun j hj => ?_⟩
      · unfold fX11_addVersion
        rw [if_pos hL.o, cal_of e1, drf_some, if_pos (f1.ob W y2), cal_of e2, if_pos v2.1, bnd_eq, v3, if_pos c, bnd_eq, if_neg (fun z => z rfl), if_pos hL2.o, cal_of e3]
        dsimp only
        rw [drf_some, if_pos (f3.ob W2 o2), (f3.fI (W2 _ o2.1) (fun z => absurd z.nk.2 (by decide))).trans n2]
      · rw [n3 j hj]
        by_cases d1 : j = t
        · rw [decide_eq_true d1, Bool.true_or, if_pos rfl, if_pos ⟨c, Or.inl d1⟩]
        · rw [decide_eq_false d1, Bool.false_or]
          by_cases d2 : (rd j).testBit t = true
          · rw [if_pos d2, if_pos ⟨c, Or.inr d2⟩]
          · rw [if_neg d2, if_neg (fun z => z.2.elim d1 d2)]
    · refine ⟨C2, ?_, Fp.rf W2, rfl, rfl, fun j hj => by rw [if_neg (fun z => c z.1)]⟩
      unfold fX11_addVersion
      rw [if_pos hL.o, cal_of e1, drf_some, if_pos (f1.ob W y2), cal_of e2, if_pos v2.1, bnd_eq, v3, if_neg c, bnd_eq, if_pos (fun z => by have := Option.some.inj z; omega)]
      dsimp only
      rw [drf_some, if_pos o2, n2]
  obtain ⟨C', eX, f3, s3, l3, n3⟩ := key
  have f : Fp (sAv b (PA p) (LE p)) C C' := f12.tr (f3.mono (fun q k a _ z => by
    obtain ⟨z1, z2, u, z3, z4⟩ := z
    exact Or.inl ⟨z1, Or.inr (Or.inl ⟨z2, by omega⟩)⟩))
  have zp2 : PA p < csz C2 := by have := f12.1; omega
  have v1' : VerO C' (csz C) nv tm g n := by
    have z2 : csz C1 = csz C + 4 := s1
    have q1 := v1.fp W1 f2 (by unfold sPg sLL; omega) (by unfold sPg sLL; omega) (by unfold sPg sLL; omega) (by unfold sPg sLL; omega) (by unfold sPg sLL; omega) (by unfold sPg sLL; omega) (by unfold sPg sLL; omega) (by unfold sPg sLL; omega)
    exact q1.fp W2 f3 (fun z => absurd z.nk.2 (by decide)) (fun z => absurd z.nk.2 (by decide)) (fun z => absurd z.nk.1 (by decide)) (fun z => absurd z.nk.1 (by decide)) (fun z => absurd z.nk.1 (by decide)) (fun z => absurd z.nk.2 (by decide)) (fun z => absurd z.nk.1 (by decide)) (fun z => absurd z.nk.1 (by decide))
  have v2' : PgA C' (PA p) (cnt (onp M (p : Int)) nv + 1) e' (ins (fun i => VA (vsl M (p : Int) nv i)) pos (csz C)) := ⟨f3.ob W2 v2.1, (f3.fR zp2 (fun z => absurd z.nk.1 (by decide))).trans v2.2.1, v2.2.2.fp W2 f3 (fun z => absurd z.nk.2 (by decide)) (fun z => absurd z.nk.1 (by decide)) (fun z => absurd z.nk.1 (by decide))⟩
  have v3' : cR C' 601 (PA p) = if pos = cnt (onp M (p : Int)) nv then some (csz C) else cR C 601 (PA p) := by rw [f3.fR zp2 (fun z => absurd z.nk.1 (by decide)), v3, h601]
  have i2 : cI C' 1407 b = (nv : Int) + 1 := ((f3.fI (by omega) (fun z => absurd z.nk.2 (by decide))).trans (f2.fI (by have := f1.1; omega) (by unfold sPg sLL; omega))).trans i1
  obtain ⟨kH, kp, ko⟩ := h7.addV W hL hp hnv hm htm hg hk f v1' (Nat.le_refl _) i2 hpos.symm v2' v3' (by
    rcases he with z | z
    · exact Or.inl z
    · exact Or.inr (Nat.le_trans f1.1 z))
  have m1 := hm.1
  have m2 := hm.2.2.1
  obtain ⟨k1, k2, k3, k4, k5⟩ := RQ.core (M' := M1) h1 h2 h3 h5 h6' f hC (fun j hj => m1 j (by omega)) (fun k hk => m2 k (by omega))
  refine ⟨C', _, _, fun s => s = t ∧ pos = cnt (onp M (p : Int)) nv, eX, ⟨k1, k2, k3, k4, k5, kH, ⟨fun s hs => ?_, ?_, ?_, ?_, ?_⟩, fun u hu => ?_⟩, fun s z => z.1, ⟨f.1, by have : csz C1 = csz C + 4 := s1; omega⟩, ⟨f.2.1, by have : csl C1 = csl C + 6 + 2 * n := l1; omega⟩, f, ko⟩
  · obtain ⟨r1, r2, r3⟩ := h8.1 s hs
    rw [m2 26 (by decide)]
    have ep : prAt M1 (nv + 1) s = if s = t ∧ pos = cnt (onp M (p : Int)) nv then (nv : Int) else prAt M nv s := by
      unfold prAt
      rw [m2 6 (by decide)]
      by_cases c : M.2 6 s = -1
      · rw [if_pos c, if_neg (fun z => by rw [z.1, h6] at c; omega), if_pos c]
      · rw [if_neg c, if_neg c]
        by_cases d : s = t
        · rw [d, h6, kp]
          by_cases e : pos = cnt (onp M (p : Int)) nv
          · rw [if_pos e, if_pos ⟨rfl, e⟩]
          · rw [if_neg e, if_neg (fun z => e z.2)]
        · rw [if_neg (fun z => d z.1)]
          refine ko _ (fun z => ?_)
          rcases h7.2.2.2.1.2 s t hs ht (z.trans h6.symm) with y | y
          · exact c y
          · exact d y
    rw [ep]
    refine ⟨⟨r1.1, by omega⟩, fun z => ?_, fun z => ?_⟩
    · by_cases e : s = t ∧ pos = cnt (onp M (p : Int)) nv
      · rw [if_pos e]; omega
      · rw [if_neg e]
        rcases z with z | z
        · exact r2 z
        · exact absurd z e
    · rw [if_neg (fun y => z (Or.inr y))]
      exact r3 (fun y => z (Or.inl y))
  · rw [m2 23 (by decide), m1 22 (by decide)]; exact h8.2.1
  · rw [m2 24 (by decide), m1 22 (by decide)]; exact h8.2.2.1
  · rw [m2 25 (by decide), m1 22 (by decide)]; exact h8.2.2.2.1
  · rw [m2 28 (by decide), m1 22 (by decide)]; exact h8.2.2.2.2
  · obtain ⟨r, hr⟩ := hgs u hu
    have cdu := hr.cd_
    refine ⟨r, lk u, ct u, rd u, cd u, us u, hr.more hu h8 (fun _ => False) (fun k hk => by rw [m2 k (by omega)]) (m2 29 (by decide)) (m2 23 (by decide)) (m2 25 (by decide)) (fun z => by rw [m2 6 (by decide)]; exact z) (fun c hc => ⟨fun z => z.elim, fun _ => by rw [m2 24 (by decide)]⟩) (fun k q1 q2 q3 => ?_) (fun z => ?_) (fun z => ?_) (fun z => ?_)⟩
    · exact f.fI (by omega) (by unfold sAv; omega)
    · exact z.fp W f (by unfold sAv; omega) (by unfold sAv; omega) (by unfold sAv; omega) (by unfold sAv; omega)
    · rw [n3 u hu]
      rcases z with z | ⟨k, z1, z2, z3⟩ | ⟨_, _, z, _⟩
      · rw [if_pos ⟨z.2, Or.inl z.1⟩]
      · rw [if_pos ⟨z2.2, Or.inr (by rw [← z2.1]; exact z3)⟩]
      · exact z.elim
    · rw [n3 u hu, if_neg (fun y => z (by
        rcases y.2 with w | w
        · exact Or.inl ⟨w, y.1⟩
        · exact Or.inr (Or.inl ⟨t, ht, ⟨rfl, y.1⟩, w⟩)))]
      exact w702 702 _ (by omega) (by decide) (by decide)
end OPS
