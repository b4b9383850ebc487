/-! THE CALL approve -/
section APV
variable {b kc : Nat} {M M' M1 M2 : Md} {C C' C1 : Cd} {P : Nat → Prop} {S : Nat → Nat → Nat → Prop} {VA PA LE AA : Nat → Nat} {nv np na : Nat}
def apR (M_26 : Md) (a1 t0_26 : Int) : Option (Int × Md) :=
bnd (mSet M_26 36 t0_26) fun (M3 : Md) =>
if w32 (M3.1 36) ≤ 0 then
bnd (mSet M3 5 ((M3.1 5) + 1)) fun (M4 : Md) =>
if inR a1 (mLen 6) then
if inR (M4.1 13) (mLen 14) then bnd (mPut M4 14 (ix (M4.1 13)) (M4.2 6 (ix a1))) fun (M5 : Md) =>
if inR (M5.1 13) (mLen 15) then bnd (mPut M5 15 (ix (M5.1 13)) (M5.1 5)) fun (M6 : Md) =>
cal (fX12_presentAt a1 M6) fun r8 M7 =>
if inR (M6.1 13) (mLen 16) then bnd (mPut M7 16 (ix (M6.1 13)) r8) fun (M9 : Md) =>
bnd (mSet M9 13 ((M9.1 13) + 1)) fun (M10 : Md) =>
some (M10.1 5, M10)
else none
else none
else none
else none
else
some (0, M3)
theorem apR_no {x : Int} (M : Md) {n : Nat} (hn : 0 < n ∧ n < 10) : apR M x (n : Int) = some (0, mSet M 36 (n : Int)) := by
  unfold apR
  rw [bnd_eq, mS1, if_neg (by rw [w32_n (by omega)]; omega)]
/-- the reference's state with one more approval -/
def ApM (M M1 : Md) (p v tm : Int) (na : Nat) : Prop := (∀ j, j ≠ 5 → j ≠ 13 → j ≠ 36 → M1.1 j = M.1 j) ∧ M1.1 5 = tm ∧ M1.1 13 = (na : Int) + 1 ∧ M1.1 36 = 0 ∧ (∀ k, ¬ (14 ≤ k ∧ k ≤ 16) → M1.2 k = M.2 k) ∧ (∀ k, M1.2 14 k = if k = na then p else M.2 14 k) ∧ (∀ k, M1.2 15 k = if k = na then tm else M.2 15 k) ∧ ∀ k, M1.2 16 k = if k = na then v else M.2 16 k
theorem apR_yes {t : Nat} {p : Int} {v : Int} (ht : t < 24) (hna : na < 2000) (h13 : M.1 13 = (na : Int)) (h6 : M.2 6 t = p) (hv : VI M nv) (hp : I32 p) (hpr : prAt M nv t = v) : ∃ M1, apR M (t : Int) 0 = some (M.1 5 + 1, M1) ∧ ApM M M1 p v (M.1 5 + 1) na := by
  generalize hM4 : mSet (mSet M 36 0) 5 ((mSet M 36 0).1 5 + 1) = M4
  have g1 : ∀ j, j ≠ 36 → j ≠ 5 → M4.1 j = M.1 j := fun j z1 z2 => by rw [← hM4, mS2 _ _ z2, mS2 _ _ z1]
  have g2 : M4.2 = M.2 := by rw [← hM4]; rfl
  have g5 : M4.1 5 = M.1 5 + 1 := by rw [← hM4, mS1, mS2 _ _ (by decide)]
  have g36 : M4.1 36 = 0 := by rw [← hM4, mS2 _ _ (by decide)]; exact mS1 _ _ _
  have g13 : M4.1 13 = (na : Int) := (g1 13 (by decide) (by decide)).trans h13
  generalize hM6 : mPut (mPut M4 14 na p) 15 na (M.1 5 + 1) = M6
  have i1 : M6.1 = M4.1 := by rw [← hM6]; rfl
  have i2 : ∀ k, k ≠ 14 → k ≠ 15 → M6.2 k = M.2 k := fun k z1 z2 => by rw [← hM6, mPut_ne _ _ _ z2, mPut_ne _ _ _ z1, g2]
  have i14 : ∀ k, M6.2 14 k = if k = na then p else M.2 14 k := fun k => by
    rw [← hM6, mPut_ne _ _ _ (by decide)]
    by_cases c : k = na
    · rw [if_pos c, c]; exact p2_1 _ _ _ _
    · rw [if_neg c, p2_2 (k := 14) (k' := 14) M4 _ (Or.inr c), g2]
  have i15 : ∀ k, M6.2 15 k = if k = na then M.1 5 + 1 else M.2 15 k := fun k => by
    rw [← hM6]
    by_cases c : k = na
    · rw [if_pos c, c]; exact p2_1 _ _ _ _
    · rw [if_neg c, p2_2 (k := 15) (k' := 15) _ _ (Or.inr c), mPut_ne _ _ _ (by decide), g2]
  have v6 : VI M6 nv := by
    unfold VI at hv ⊢
    rw [i1, g1 8 (by decide) (by decide), i2 10 (by decide) (by decide), i2 11 (by decide) (by decide), i2 12 (by decide) (by decide)]
    exact hv
  have te : TmE M M6 nv := fun w hw => ⟨by rw [i2 11 (by decide) (by decide)], by rw [i2 12 (by decide) (by decide)]⟩
  have ep := X12_presentAt_ v6 ht (by rw [i2 6 (by decide) (by decide), h6]; exact hp)
  have e8 : prAt M6 nv t = v := by
    rw [← hpr]
    unfold prAt
    rw [i2 6 (by decide) (by decide), prs_e te _ nv (Nat.le_refl _)]
  rw [e8] at ep
  refine ⟨mSet (mPut M6 16 na v) 13 ((na : Int) + 1), ?_, ⟨fun j z1 z2 z3 => ?_, ?_, mS1 _ _ _, ?_, fun k hk => ?_, fun k => ?_, fun k => ?_, fun k => ?_⟩⟩
  · unfold apR
    rw [bnd_eq, mS1, if_pos (by decide), bnd_eq, hM4, if_pos (inM (n := 24) rfl ht (by decide)), g13, if_pos (inM (n := 2000) rfl hna (by decide)), bnd_eq, ix_n (by omega), ix_n (by omega), show M4.2 6 t = p by rw [g2]; exact h6]
    rw [show (mPut M4 14 na p).1 13 = (na : Int) from g13, if_pos (inM (n := 2000) rfl hna (by decide)), bnd_eq, ix_n (by omega), show (mPut M4 14 na p).1 5 = M.1 5 + 1 from g5, hM6, cal_of ep, i1, g13, if_pos (inM (n := 2000) rfl hna (by decide)), bnd_eq, ix_n (by omega), bnd_eq]
    rw [show (mPut M6 16 na v).1 13 = (na : Int) by show M6.1 13 = _; rw [i1]; exact g13]
    rw [show (mSet (mPut M6 16 na v) 13 ((na : Int) + 1)).1 5 = M.1 5 + 1 by rw [mS2 _ _ (by decide)]; show M6.1 5 = _; rw [i1]; exact g5]
  · rw [mS2 _ _ z2]
    show M6.1 j = _
    rw [i1]; exact g1 j z3 z1
  · rw [mS2 _ _ (by decide)]
    show M6.1 5 = _
    rw [i1]; exact g5
  · rw [mS2 _ _ (by decide)]
    show M6.1 36 = _
    rw [i1]; exact g36
  · show (mPut M6 16 na v).2 k = _
    rw [mPut_ne _ _ _ (by omega), i2 k (by omega) (by omega)]
  · show (mPut M6 16 na v).2 14 k = _
    rw [mPut_ne _ _ _ (by decide)]; exact i14 k
  · show (mPut M6 16 na v).2 15 k = _
    rw [mPut_ne _ _ _ (by decide)]; exact i15 k
  · show (mPut M6 16 na v).2 16 k = _
    by_cases c : k = na
    · rw [if_pos c, c]; exact p2_1 _ _ _ _
    · rw [if_neg c, p2_2 (k := 16) (k' := 16) M6 _ (Or.inr c), i2 16 (by decide) (by decide)]
def sAp (b A q k a : Nat) : Prop := (q = 0 ∧ (k = 1406 ∨ k = 1408) ∧ a = b) ∨ (q = 1 ∧ k = 602 ∧ a = A)
theorem aRef_new {AA' : Nat → Nat} {p : Int} : ∀ n, n ≤ na → (∀ k, k < na → M1.2 14 k = M.2 14 k) → (∀ k, k < na → AA' k = AA k) → aRef M1 AA' p n = aRef M AA p n := by
  intro n
  induction n with
  | zero => intro _ _ _; rfl
  | succ n ih => intro h h1 h2; unfold aRef; rw [h1 n (by omega), h2 n (by omega), ih (by omega) h1 h2]
theorem RH.appr_ (h : RH b M C VA PA LE AA nv np na) (W : Wf C) (hL : Lay b C) {p A pv : Nat} {tm : Int} (hp : p < np) (hna : na < 512) (hm : ApM M M1 (p : Int) (pv : Int) tm na) (hpv : pv < nv) (htm : 0 ≤ tm ∧ M.1 5 ≤ tm) (f : Fp (sAp b (PA p)) C C') (hA : csz C ≤ A)
   (v1 : isO C' A 3) (v2 : cI C' 300 A = tm) (v3 : cR C' 301 A = some (VA pv + 1)) (v4 : cR C' 302 A = cR C 602 (PA p)) (v5 : cR C' 602 (PA p) = some A) : RH b M1 C' VA PA LE (fun k => if k = na then A else AA k) nv np (na + 1) := by
  have hh := h
  obtain ⟨⟨a1, a2, a3⟩, ⟨b1, b2, b3⟩, ⟨c1, c2, c3⟩, ⟨d1, d2⟩, e1, f1, g1⟩ := h
  have hz := hL.sz
  obtain ⟨m1, m5, m13, m36, m2, n14, n15, n16⟩ := hm
  have te : TmE M M1 nv := fun v hv => ⟨by rw [m2 11 (by decide)], by rw [m2 12 (by decide)]⟩
  have eo : ∀ p : Int, onp M1 p = onp M p := fun p => by funext v; unfold onp; rw [m2 12 (by decide)]
  have oA := (f1 p hp).2.1.1
  have ea : ∀ q : Int, ∀ n, n ≤ na → aRef M1 (fun k => if k = na then A else AA k) q n = aRef M AA q n := fun q n hn => aRef_new (na := na) n hn (fun k hk => by rw [n14, if_neg (by omega)]) (fun k hk => if_neg (by omega))
  have ea1 : ∀ q : Int, aRef M1 (fun k => if k = na then A else AA k) q (na + 1) = if q = (p : Int) then some A else aRef M AA q na := fun q => by
    rw [aRef, n14, if_pos rfl, ea q na (Nat.le_refl _)]
    rw [if_pos rfl]
    by_cases c : q = (p : Int)
    · rw [if_pos c.symm, if_pos c]
    · rw [if_neg (fun z => c z.symm), if_neg c]
  refine ⟨⟨?_, fun v hv => ?_, (f.fI (by omega) (by unfold sAp; omega)).trans a3⟩, ⟨(m1 7 (by decide) (by decide) (by decide)).trans b1, b2, fun v hv => by rw [m2 12 (by decide)]; exact b3 v hv⟩, ⟨by rw [m13]; omega, by omega, fun k hk => ?_⟩, ⟨fun t ht => ?_, fun t t' => by rw [m2 6 (by decide)]; exact d2 t t'⟩, fun v hv => ?_, fun q hq => ?_, fun k hk => ?_⟩
  · unfold VI at a1 ⊢
    rw [m1 8 (by decide) (by decide) (by decide), m2 10 (by decide), m2 11 (by decide), m2 12 (by decide)]
    exact a1
  · unfold tx tl
    rw [m2 9 (by decide), m2 10 (by decide)]
    exact a2 v hv
  · rw [n14, n15, n16, m5]
    by_cases c : k = na
    · rw [if_pos c, if_pos c, if_pos c]; omega
    · rw [if_neg c, if_neg c, if_neg c]
      obtain ⟨x1, x2, x3⟩ := c3 k (by omega)
      exact ⟨x1, by omega, x3⟩
  · rw [m2 6 (by decide), f.fR (by omega) (by unfold sAp; omega)]
    exact d1 t ht
  · obtain ⟨x1, x2⟩ := e1 v hv
    have et : tx M1 v = tx M v := by funext k; unfold tx; rw [m2 9 (by decide)]
    have el : tl M1 v = tl M v := by unfold tl; rw [m2 10 (by decide)]
    rw [m2 11 (by decide), et, el]
    exact ⟨x1.fp W f (by unfold sAp; omega) (by unfold sAp; omega) (by unfold sAp; omega) (by unfold sAp; omega) (by unfold sAp; omega) (by unfold sAp; omega) (by unfold sAp; omega) (by unfold sAp; omega), x2⟩
  · obtain ⟨x1, ⟨x2, x3, x4⟩, x5, x6, x7, x8⟩ := f1 q hq
    rw [eo, vsl_e te _ nv (Nat.le_refl _), prs_e te _ nv (Nat.le_refl _), ea1]
    have z0 := W _ x2.1
    refine ⟨x1, ⟨f.ob W x2, (f.fR z0 (by unfold sAp; omega)).trans x3, x4.fp W f (by unfold sAp; omega) (by unfold sAp; omega) (by unfold sAp; omega)⟩, (f.fR z0 (by unfold sAp; omega)).trans x5, ?_, x7, x8⟩
    by_cases c : q = p
    · rw [if_pos (by omega), c]; exact v5
    · rw [if_neg (by omega)]
      have n1 : PA q ≠ PA p := fun z => c (hh.paI hq hp z)
      exact (f.fR z0 (by unfold sAp; omega)).trans x6
  · rw [n14, n15, n16, ea _ k (by omega)]
    dsimp only
    by_cases c : k = na
    · rw [if_pos c, if_pos c, if_pos c, if_pos c, Int.toNat_natCast, c]
      exact ⟨v1, v2, v3, v4.trans (f1 p hp).2.2.2.1, by omega⟩
    · obtain ⟨x1, x2, x3, x4, x5⟩ := g1 k (by omega)
      have z0 := W _ x1.1
      have n1 := ty_ne x1 oA (by decide)
      rw [if_neg c, if_neg c, if_neg c, if_neg c]
      exact ⟨f.ob W x1, (f.fI z0 (by unfold sAp; omega)).trans x2, (f.fR z0 (by unfold sAp; omega)).trans x3, (f.fR z0 (by unfold sAp; omega)).trans x4, x5⟩
theorem call_approve (h : RR b kc M C) (hk : kc < 512) {x : Int} (hx : I32 x) : CallE b kc C cd2 (fX11_approve b x C) (fX12_approve x M) := by
  have hL := h.1.1
  have W := hL.W
  have hz := hL.sz
  have hB := h.2.2.2.1
  have hY0 : ∀ {r : Int}, fX12_hasPage x M = some (r, M) → fX12_approve x M = (if ¬ w32 r = 0 then
cal (fX12_mayAt x M) fun r12 M11 =>
if ¬ w32 r12 = 0 then
apR M11 x 0
else
apR M11 x 2
else
apR M x 1) := fun {r} e => by
    unfold fX12_approve
    rw [cal_of e]
    rfl
  rcases h.pageC hx with ⟨t, q, rfl, ht, hne, eX, hq, eY⟩ | ⟨eX, eY⟩
  · have hY1 := hY0 eY
    rw [if_pos (by decide)] at hY1
    rcases h.may ht with ⟨a1, a2⟩ | ⟨a1, a2⟩
    · rw [cal_of a2, if_pos (by decide)] at hY1
      obtain ⟨_, VA, PA, LE, AA, nv, np, na, hq0⟩ := h.rq
      obtain ⟨h1, h2, h3, h5', h6', h7, h8, h9⟩ := hq0
      obtain ⟨p, hp, h6, hqp⟩ := RQ.page ⟨h1, h2, h3, h5', h6', h7, h8, h9⟩ ht hq
      subst hqp
      obtain ⟨pv, hpv, hprs, _, h601⟩ := h7.pres hp
      obtain ⟨c1, c2, c3⟩ := h7.2.2.1
      have hna : na < 512 := by have := hB.2.1; omega
      have n120 := h7.nv120
      obtain ⟨M1, eM, am⟩ := apR_yes (M := M) (nv := nv) (p := (p : Int)) (v := (pv : Int)) ht (by omega : na < 2000) c1 h6 h7.1.1 ⟨by omega, by omega⟩ (by unfold prAt; rw [h6, if_neg (by omega)]; exact hprs)
      have oP := (h7.2.2.2.2.2.1 p hp).2.1.1
      have oV := (h7.2.2.2.2.1 pv hpv).1.1
      have rV := (h7.2.2.2.2.1 pv hpv).1.2.2.2.1
      have zP := W _ oP.1
      have zV := W _ oV.1
      have e5 : cI C 1406 b = M.1 5 := h3.2.1.symm
      have e13 : cI C 1408 b = (na : Int) := h3.2.2.1.symm.trans c1
      -- the class's states
      generalize hC9 : cSetI (cSetI C 1406 b (M.1 5 + 1)) 1408 b ((na : Int) + 1) = C9
      have f9 : Fp (sAp b (PA p)) C C9 := by
        rw [← hC9]
        exact ((Fp.rf W).sI (Or.inl ⟨rfl, Or.inl rfl, rfl⟩)).sI (Or.inl ⟨rfl, Or.inr rfl, rfl⟩)
      have z9 : csz C9 = csz C := by rw [← hC9]; rfl
      have l9 : csl C9 = csl C := by rw [← hC9]; rfl
      have i9 : cI C9 1406 b = M.1 5 + 1 := by rw [← hC9, cI_I2 _ _ (Or.inl (by decide))]; exact cI_I1 _ _ _ _
      have j9 : cI C9 1408 b = (na : Int) + 1 := by rw [← hC9]; exact cI_I1 _ _ _ _
      have r9 : ∀ k a, cR C9 k a = cR C k a := fun k a => by rw [← hC9]; rfl
      have W9 := f9.wf
      have fN : Fp (sAp b (PA p)) C (cNew C9 3) := f9.sN
      have oN : isO (cNew C9 3) (csz C) 3 := by rw [← z9]; exact isO_N1 C9 3
      have fx : ∀ {k a : Nat}, a < csz C → cR (cNew C9 3) k a = cR C k a := fun {k a} ha => ((Fp.N (S := fun _ _ _ => False) W9 3).fR (by omega) (fun z => z)).trans (r9 k a)
      have fi : ∀ {k a : Nat}, a < csz C → cI (cNew C9 3) k a = cI C9 k a := fun {k a} ha => (Fp.N (S := fun _ _ _ => False) W9 3).fI (by omega) (fun z => z)
      generalize hCC : cSetR (cSetR (cSetR (cSetI (cNew C9 3) 300 (csz C) (M.1 5 + 1)) 301 (csz C) (some (VA pv + 1))) 302 (csz C) (cR C 602 (PA p))) 602 (PA p) (some (csz C)) = CC
      have f : Fp (sAp b (PA p)) C CC := by
        have g : Fp (fun q k a => sAp b (PA p) q k a ∨ csz C ≤ a) C CC := by
          rw [← hCC]
          exact (((((fN.mono (T := fun q k a => sAp b (PA p) q k a ∨ csz C ≤ a) (fun _ _ _ _ z => Or.inl z)).sI (Or.inr (Nat.le_refl _))).sR (Or.inr (Nat.le_refl _))).sR (Or.inr (Nat.le_refl _))).sR (Or.inl (Or.inr ⟨rfl, rfl, rfl⟩)))
        exact g.mono (fun q k a ha z => z.elim id (fun z => by omega))
      have WC := f.wf
      have zC : csz CC = csz C + 1 := by rw [← hCC, ← z9]; rfl
      have lC : csl CC = csl C + 3 := by rw [← hCC, ← l9]; rfl
      have iC : ∀ k a, a < csz C → cI CC k a = cI C9 k a := fun k a ha => by
        rw [← hCC]
        show cI (cSetI (cNew C9 3) 300 (csz C) (M.1 5 + 1)) k a = _
        rw [cI_I2 _ _ (Or.inr (by omega))]
        exact fi ha
      have hX1 : fX11_approve b (t : Int) C = some (.inl (M.1 5 + 1), CC) := by
        have oC9 : ∀ a s, isO C a s → isO C9 a s := fun a s ho => by rw [← hC9]; exact ho
        have q601 : cR (cNew C9 3) 601 (PA p) = some (VA pv) := (fx zP).trans h601
        have q602 : cR (cNew C9 3) 602 (PA p) = cR C 602 (PA p) := fx zP
        have q1302 : cR (cNew C9 3) 1302 (VA pv) = some (VA pv + 1) := (fx zV).trans rV
        have q1406 : cI (cNew C9 3) 1406 b = M.1 5 + 1 := (fi (by omega)).trans i9
        have e0 : fX0_init (csz C) (M.1 5 + 1) (some (VA pv + 1)) (cR C 602 (PA p)) (cNew C9 3) = some ((), cSetR (cSetR (cSetI (cNew C9 3) 300 (csz C) (M.1 5 + 1)) 301 (csz C) (some (VA pv + 1))) 302 (csz C) (cR C 602 (PA p))) := by
          unfold fX0_init
          rw [if_pos oN, bnd_eq, if_pos (show isO (cSetI (cNew C9 3) 300 (csz C) (M.1 5 + 1)) (csz C) 3 from oN), bnd_eq, if_pos (show isO (cSetR (cSetI (cNew C9 3) 300 (csz C) (M.1 5 + 1)) 301 (csz C) (some (VA pv + 1))) (csz C) 3 from oN), bnd_eq]
        unfold fX11_approve
        rw [if_pos hL.o, calx_of eX, if_pos hL.o, bnd_eq, hL.r1, drf_some, if_pos ⟨hL.ot, by rw [hL.nt]; exact inR_n ht (by decide)⟩, bnd_eq, hL.tt ht, if_pos hL.o, cal_of a1, if_pos (by decide), if_pos hL.o, if_pos hL.o, bnd_eq, e5]
        rw [if_pos (show isO (cSetI C 1406 b (M.1 5 + 1)) b 14 from hL.o), bnd_eq, show cI (cSetI C 1406 b (M.1 5 + 1)) 1408 b = (na : Int) from (cI_I2 _ _ (Or.inl (by decide))).trans e13, if_neg (by rw [w32_n (by omega), show w32 512 = 512 from rfl]; omega), if_pos (show isO (cSetI C 1406 b (M.1 5 + 1)) b 14 from hL.o), if_pos (show isO (cSetI C 1406 b (M.1 5 + 1)) b 14 from hL.o), bnd_eq, hC9, bnd_eq, if_pos (fN.ob W hL.o), drf_some, if_pos (fN.ob W oP), bnd_eq, q601, drf_some, if_pos (fN.ob W oV), bnd_eq, q1302, if_pos (fN.ob W oP), bnd_eq, q602, z9, q1406, cal_of e0]
        rw [if_pos (show isO (cSetR (cSetR (cSetI (cNew C9 3) 300 (csz C) (M.1 5 + 1)) 301 (csz C) (some (VA pv + 1))) 302 (csz C) (cR C 602 (PA p))) (PA p) 6 from fN.ob W oP), bnd_eq, hCC]
        dsimp only
        rw [if_pos (f.ob W hL.o), iC 1406 b (by omega), i9]
      have kH := h7.appr_ (M1 := M1) (tm := M.1 5 + 1) (A := csz C) W hL hp hna am hpv ⟨by have := hB.1.1; omega, by omega⟩ f (Nat.le_refl _) (by rw [← hCC]; exact oN) (by rw [← hCC]; exact cI_I1 _ _ _ _) (by
        rw [← hCC, cR_R2 _ _ (Or.inl (by decide)), cR_R2 _ _ (Or.inl (by decide))]; exact cR_R1 _ _ _ _) (by
        rw [← hCC, cR_R2 _ _ (Or.inl (by decide))]; exact cR_R1 _ _ _ _) (by rw [← hCC]; exact cR_R1 _ _ _ _)
      obtain ⟨m1, m5, m13, m36, m2, n14, n15, n16⟩ := am
      obtain ⟨dn, g, hd⟩ := h2
      have te : TmE M M1 nv := fun v hv => ⟨by rw [m2 11 (by decide)], by rw [m2 12 (by decide)]⟩
      have hPb := (h7.2.2.2.2.2.1 p hp).2.2.2.2.1
      have kRL : RLy b CC := h1.low f (fun q k a _ z => by unfold sAp at z; unfold Mu; omega) (by unfold sAp; omega) (by unfold sAp; omega) (by unfold sAp; omega) (by unfold sAp; omega) (fun _ => by unfold sAp; omega) (by unfold sAp; omega) (by unfold sAp; omega) (fun _ => by unfold sAp; omega) (by unfold sAp; omega) (by unfold sAp; omega) (fun _ _ => by unfold sAp; omega) (fun _ _ _ => by unfold sAp; omega)
      have kRS : RS b M1 CC := by
        obtain ⟨⟨r1, r2, r3⟩, r4, r5, r6, r7, r8⟩ := h3
        refine ⟨⟨?_, ?_, ?_⟩, ?_, ?_, ?_, ?_, ?_⟩
        · rw [m1 2 (by decide) (by decide) (by decide), f.fI (by omega) (by unfold sAp; omega)]; exact r1
        · rw [m1 2 (by decide) (by decide) (by decide)]; exact r2
        · rw [m1 2 (by decide) (by decide) (by decide)]; exact r3
        · rw [m5, iC 1406 b (by omega), i9]
        · rw [m13, iC 1408 b (by omega), j9]
        · rw [m1 71 (by decide) (by decide) (by decide)]; exact r6
        · rw [m1 68 (by decide) (by decide) (by decide)]; exact r7
        · rw [m1 68 (by decide) (by decide) (by decide)]; exact r8
      have hr : RR b (kc + 1) M1 CC := by
        refine ⟨kRL, ⟨dn, g, hd.low W f (by unfold sAp; omega) (by unfold sAp; omega) (by unfold sAp; omega) (by unfold sAp; omega) (m1 1 (by decide) (by decide) (by decide)) (m2 0 (by decide))⟩, kRS, ?_, fun s hs => (h5' s hs).low hL hs f (by unfold sAp; omega) (by unfold sAp; omega) (by unfold sAp; omega) (by unfold sAp; omega) (fun k hk => m2 k (by omega)), fun j hj => (h6' j hj).low hL hj f (by unfold sAp; omega) (by unfold sAp; omega) (by unfold sAp; omega) (fun k hk => m2 k (by omega)), ⟨VA, PA, LE, _, nv, np, na + 1, kH, fun s hs => ?_, ?_, ?_, ?_, ?_⟩, h.2.2.2.2.2.2.2.low hL f (fun _ _ _ _ _ => by unfold sAp; omega) (fun _ _ => by unfold sAp; omega) (fun _ _ => by unfold sAp; omega) (fun _ _ => by unfold sAp; omega) (fun _ _ => by unfold sAp; omega) (fun k hk => m2 k (by omega))⟩
        · obtain ⟨⟨b1, b2⟩, b3, b4, b5⟩ := hB
          unfold RB
          rw [m5, m13, m1 22 (by decide) (by decide) (by decide)]
          exact ⟨⟨by omega, by omega⟩, by omega, by omega, by omega⟩
        · rw [m2 26 (by decide), (h8.1 s hs).2.2 (fun z => z)]
          unfold prAt
          rw [m2 6 (by decide), prs_e te _ nv (Nat.le_refl _)]
        · rw [m2 23 (by decide), m1 22 (by decide) (by decide) (by decide)]; exact h8.2.1
        · rw [m2 24 (by decide), m1 22 (by decide) (by decide) (by decide)]; exact h8.2.2.1
        · rw [m2 25 (by decide), m1 22 (by decide) (by decide) (by decide)]; exact h8.2.2.2.1
        · rw [m2 28 (by decide), m1 22 (by decide) (by decide) (by decide)]; exact h8.2.2.2.2
      exact ⟨M1, CC, _, hY1.trans eM, hr, RmL.fr hz (f.fr (fun a z => by unfold sAp at z; omega)) (by omega) (by omega), Or.inl ⟨hX1, m36⟩⟩
    · rw [cal_of a2, if_neg (fun z => z (by decide))] at hY1
      have := apR_no (x := (t : Int)) M (n := 2) (by decide)
      refine h.exc (e := 1) ?_ (hY1.trans this) (sc36 M 2) (mS1 _ _ _) (by decide)
      unfold fX11_approve
      rw [if_pos hL.o, calx_of eX, if_pos hL.o, bnd_eq, hL.r1, drf_some, if_pos ⟨hL.ot, by rw [hL.nt]; exact inR_n ht (by decide)⟩, bnd_eq, hL.tt ht, if_pos hL.o, cal_of a1, if_neg (fun z => z (by decide))]
  · have hY1 := hY0 eY
    rw [if_neg (fun z => z (by decide))] at hY1
    have := apR_no (x := x) M (n := 1) (by decide)
    refine h.exc (e := 2) ?_ (hY1.trans this) (sc36 M 1) (mS1 _ _ _) (by decide)
    unfold fX11_approve
    rw [if_pos hL.o, calx_ofx eX]
end APV
