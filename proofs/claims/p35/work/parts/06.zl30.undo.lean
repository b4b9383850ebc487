/-! THE CALL undo -/
section UND
variable {b kc : Nat} {M M' M1 M2 M11 : Md} {C C' C1 C2 : Cd} {P : Nat → Prop} {VA PA LE AA : Nat → Nat} {nv np na : Nat} {d f g : Nat → Int} {n m dn : Nat} {A B : Nat → Bool}
def unE (a0 : Nat) (a1 : Int) (p3 p25 : Nat) (C26 : Cd) : Option ((Int ⊕ Nat) × Cd) :=
cal (fX11_addNextVersion a0 a1 (some p3) (some p25) C26) fun (r30 : Int) (C29 : Cd) =>
some (.inl r30, C29)
def unT (a0 : Nat) (a1 : Int) (p3 : Nat) (t0_103 : Int) (C_103 : Cd) : Option ((Int ⊕ Nat) × Cd) :=
bnd (fun  (C_137 : Cd) =>
some (.inr 1, cBump C_137)) fun J137 =>
if w32 t0_103 = 0 then
J137 C_103
else
if isO C_103 a0 14 then bnd (cR C_103 1405 a0) fun (z17 : Option Nat) =>
drf z17 fun (p18 : Nat) =>
if isO C_103 p18 11 then cal (fX8_isText p18 C_103) fun (r20 : Int) (C19 : Cd) =>
if w32 r20 = 0 then
J137 C19
else
if isO C19 a0 14 then bnd (cR C19 1405 a0) fun (z21 : Option Nat) =>
if isO C19 p3 6 then bnd (cR C19 601 p3) fun (z22 : Option Nat) =>
drf z22 fun (p23 : Nat) =>
if isO C19 p23 13 then bnd (cR C19 1302 p23) fun (z24 : Option Nat) =>
drf z21 fun (p25 : Nat) =>
if isO C19 p25 11 then cal (fX8_sameAs p25 z24 C19) fun (r27 : Int) (C26 : Cd) =>
if w32 r27 = 0 then
if isO C26 a0 14 then bnd (cR C26 1405 a0) fun (z28 : Option Nat) =>
if isO C26 a0 14 then cal (fX11_addNextVersion a0 a1 (some p3) z28 C26) fun (r30 : Int) (C29 : Cd) =>
some (.inl r30, C29)
else none
else none
else
J137 C26
else none
else none
else none
else none
else none
else none
theorem unT_no {t : Int} {p3 : Nat} : unT b t p3 0 C = some (.inr 1, cBump C) := by
  unfold unT
  rw [bnd_eq, if_pos (by decide)]
theorem unT_yes (hL : Lay b C) {t : Int} {p3 cap w capw : Nat} (hT : TxV C (b + 851) cap g n) (hw : TxV C (w + 1) capw f m) (hp : isO C p3 6) (h601 : cR C 601 p3 = some w) (ow : isO C w 13) (rw_ : cR C 1302 w = some (w + 1)) :
   ∃ C3, Fp (fun _ _ _ => False) C C3 ∧ csz C3 ≤ csz C + 1 ∧ csl C3 ≤ csl C + 31 ∧ ((NwC g n f m ∧ unT b t p3 1 C = unE b t p3 (b + 851) C3) ∨ (¬ NwC g n f m ∧ unT b t p3 1 C = some (.inr 1, cBump C3))) := by
  have W := hL.W
  obtain ⟨C3, e1, k1, s1, hl, l1⟩ := X8_isText_2 W hT
  have f1 : Fp (fun _ _ _ => False) C C3 := Fp.of k1 hl (fun _ _ _ _ z => z)
  have hL3 := hL.keep (f1.mono (fun _ _ _ _ z => z.elim))
  have hT3 := hT.fp W f1 (fun z => z) (fun z => z) (fun z => z) (fun z => z)
  have hw3 := hw.fp W f1 (fun z => z) (fun z => z) (fun z => z) (fun z => z)
  refine ⟨C3, f1, s1, l1, ?_⟩
  unfold unT
  rw [bnd_eq, if_neg (by decide), if_pos hL.o, bnd_eq, hL.r5, drf_some, if_pos hT.isO_, cal_of e1]
  by_cases c : isTx g n = true
  · rw [if_pos c, if_neg (by decide), if_pos hL3.o, bnd_eq, hL3.r5, if_pos (f1.ob W hp), bnd_eq, (f1.fR (W _ hp.1) (fun z => z)).trans h601, drf_some, if_pos (f1.ob W ow), bnd_eq, (f1.fR (W _ ow.1) (fun z => z)).trans rw_, drf_some, if_pos hT3.isO_]
    rcases X8_sameAs_ hT3 hw3 with ⟨e, q⟩ | ⟨e, q⟩
    · rw [cal_of e, if_neg (by decide)]
      exact Or.inr ⟨fun z => z.2 q, rfl⟩
    · rw [cal_of e, if_pos (by decide), if_pos hL3.o, bnd_eq, hL3.r5, if_pos hL3.o]
      exact Or.inl ⟨⟨c, q⟩, rfl⟩
  · rw [if_neg c, if_pos (by decide)]
    exact Or.inr ⟨fun z => c z.1, rfl⟩
def unR (M_98 : Md) (a1 t0_98 : Int) : Option (Int × Md) :=
bnd (mSet M_98 36 t0_98) fun (M12 : Md) =>
if w32 (M12.1 36) ≤ 0 then
if inR a1 (mLen 6) then
cal (fX12_newVersionNow (M12.2 6 (ix a1)) 76 0 (M12.1 77) M12) fun r14 M13 =>
cal (fX12_settleTitles M13) fun r16 M15 =>
some (r14, M15)
else none
else
some (0, M12)
theorem unR_no {x : Int} (M : Md) : unR M x 2 = some (0, mSet M 36 2) := by
  unfold unR
  rw [bnd_eq, mS1, if_neg (by decide)]
def unN (a1 r5 : Int) (M17 : Md) : Option (Int × Md) :=
cal (fX12_isNew r5 M17) fun r20 M19 =>
if w32 r20 = 0 then
unR M19 a1 2
else
unR M19 a1 0
theorem unN_ {x : Int} {w : Nat} (hV : VI M nv) (hT : TI M nv) (hw : w < nv) (hr : RV M g n) : ∃ M', MO noS rTx M M' ∧ ((NewP g n (tx M w) (tl M w) nv ∧ unN x (w : Int) M = unR M' x 0) ∨ (¬ NewP g n (tx M w) (tl M w) nv ∧ unN x (w : Int) M = unR M' x 2)) := by
  obtain ⟨M', e, o⟩ := X12_isNew_ hV hT hw hr
  refine ⟨M', o, ?_⟩
  unfold unN
  rcases e with ⟨e, q⟩ | ⟨e, q⟩
  · rw [cal_of e, if_neg (by decide)]; exact Or.inl ⟨q, rfl⟩
  · rw [cal_of e, if_pos (by decide)]; exact Or.inr ⟨q, rfl⟩
def unJ (a1 a2 r5 r9 r11 : Int) (M10 : Md) : Option (Int × Md) :=
if w32 r11 = 0 then
unR M10 a1 2
else
cal (fX12_undoes r9 a2 r5 M10) fun r18 M17 =>
if w32 r18 = 0 then
unR M17 a1 2
else
unN a1 r5 M17
def unA (M_25 : Md) (a1 a2 t0_25 : Int) : Option (Int × Md) :=
bnd (mSet M_25 36 t0_25) fun (M3 : Md) =>
if w32 (M3.1 36) ≤ 0 then
cal (fX12_presentAt a1 M3) fun r5 M4 =>
if inR a1 (mLen 6) then
cal (fX12_aheadOf a2 M4) fun r7 M6 =>
cal (fX12_versionIn (M4.2 6 (ix a1)) (r7 - 1) M6) fun r9 M8 =>
cal (fX12_mayAt a1 M8) fun r11 M10 =>
unJ a1 a2 r5 r9 r11 M10
else none
else
some (0, M3)
theorem unA_no {x y : Int} (M : Md) : unA M x y 1 = some (0, mSet M 36 1) := by
  unfold unA
  rw [bnd_eq, mS1, if_neg (by decide)]
theorem undo_def {x y : Int} {r : Int} (e : fX12_isVersionAt x y M = some (r, M)) : fX12_undo x y M = (if w32 r = 0 then
unA M x y 1
else
cal (fX12_aheadOf y M) fun r22 M21 =>
if w32 r22 ≤ 0 then
unA M21 x y 1
else
unA M21 x y 0) := by
  unfold fX12_undo
  rw [cal_of e]
  rfl
/-- the undoing done -/
theorem RR.undone (h : RR b kc M C) (hk5 : kc ≤ 600) {t q : Nat} (ht : t < 24) (hq : cR C 1203 (b + 13 + 6 * t) = some q) {T cap : Nat} (hT : TxV C T cap g n) (hg : isTx g n = true) (hk : Tkv g n) (h8 : M.1 8 = (nv : Int)) (hnv : nv < 120) (hr : RV M g n) :
   ∃ C' M', unE b (t : Int) q T C = some (.inl (nv : Int), C') ∧ unR M (t : Int) 0 = some ((nv : Int), M') ∧ RR b (kc + 1) M' C' ∧ M'.1 36 = 0 ∧ Fp (sFr b) C C' ∧ csz C' ≤ csz C + 5 ∧ csl C' ≤ csl C + 400 := by
  have h0 := h.setB 0
  have g1 : ∀ j, j ≠ 36 → (mSet M 36 0).1 j = M.1 j := fun j hj => mS2 _ _ hj
  obtain ⟨p, C3, M12, h6, eC, eM, ⟨P, VA, PA, LE, AA, nv', np, na, hq3⟩, j1, j5, f3, s3, l3⟩ := h0.addNext (M11 := mSet M 36 0) hk5 (fun _ _ => rfl) rfl ht hq hT hg hk ((g1 8 (by decide)).trans h8) hnv ⟨by rw [g1 77 (by decide)]; exact hr.1, hr.2⟩
  have j12 : M12.1 1 = (mSet M 36 0).1 1 := j1 1 (by decide) (by decide)
  have e12 : mSet M12 1 ((mSet M 36 0).1 1) = M12 := by
    have := mSet_self M12 1
    rw [j12] at this
    exact this
  rw [e12] at hq3
  obtain ⟨M', m4, hr4, r36⟩ := hq3.done (M0 := M) h.2.2.2.1 (by rw [j5, g1 5 (by decide)]; omega) ((j1 13 (by decide) (by decide)).trans (g1 13 (by decide))) (by rw [j1 22 (by decide) (by decide), g1 22 (by decide)]; omega) ((j1 36 (by decide) (by decide)).trans (mS1 _ _ _))
  refine ⟨C3, M', ?_, ?_, hr4, r36, f3, by omega, by omega⟩
  · unfold unE
    rw [cal_of eC]
  · unfold unR
    have h77 : (mSet M 36 0).1 77 = (n : Int) := by rw [g1 77 (by decide)]; exact hr.1
    rw [bnd_eq, mS1, if_pos (by decide), if_pos (inM (n := 24) rfl ht (by decide)), ix_n (by omega), h6, h77, cal_of eM, cal_of m4]
theorem RR.unBad (h2 : RR b kc M2 C2) (hz : b + 854 ≤ csz C) (F : Fp (sFr b) C C2) (s : csz C2 ≤ csz C + 100) (l : csl C2 ≤ csl C + 1000) {t : Nat} {X : Option ((Int ⊕ Nat) × Cd)} {Y : Option (Int × Md)} (hX : X = some (.inr 1, cBump C2)) (o : ScO M2 M') (hY : Y = unR M' (t : Int) 2) : CallE b kc C cd2 X Y :=
  h2.excS (e := 1) hz F (by omega) (by omega) hX (hY.trans (unR_no M')) (o.tr (sc36 M' 2)) (mS1 _ _ _) (by decide)
theorem RR.unFin (h2 : RR b kc M2 C2) (hq2 : RQ no0 b M2 C2 VA PA LE AA nv np na) (hz : b + 854 ≤ csz C) (F : Fp (sFr b) C C2) (s : csz C2 ≤ csz C + 50) (l : csl C2 ≤ csl C + 500) (hk5 : kc ≤ 600) {t p pv cap : Nat} (ht : t < 24) (hp : p < np) (hc : cR C2 1203 (b + 13 + 6 * t) = some (PA p)) (hpv : pv < nv) (hprs : prs M2 (p : Int) nv = (pv : Int)) (hT : TxV C2 (b + 851) cap g n) (hr : RV M2 g n) (hk : Tkv g n) (hnv : nv < 120) :
   CallE b kc C cd2 (unT b (t : Int) (PA p) 1 C2) (unN (t : Int) (pv : Int) M2) := by
  have hH := hq2.2.2.2.2.2.1
  have W := h2.1.1.W
  obtain ⟨y1, ⟨y2, y3, y4⟩, y5, _⟩ := hH.2.2.2.2.2.1 p hp
  have hv := (hH.2.2.2.2.1 pv hpv).1
  rw [hprs, Int.toNat_natCast] at y5
  obtain ⟨C3, f3, s3, l3, hX⟩ := unT_yes (t := (t : Int)) h2.1.1 hT (hH.txv hpv) y2 y5 hv.1 hv.2.2.2.1
  obtain ⟨M3, o3, hY⟩ := unN_ (x := (t : Int)) hH.1.1 hH.1.2.1 hpv hr
  have sc : ScO M2 M3 := scMO o3 (fun _ z => z.elim) (fun k z => by omega)
  have h3 : RR b kc M3 C3 := h2.qb f3 (fun _ _ _ z => z.elim) (fun _ _ _ _ z => z.elim) (h2.1.nil f3) sc
  have F3 := F.tr (f3.fr (fun _ z => z.elim))
  have eqv : NewP g n (tx M2 pv) (tl M2 pv) nv ↔ NwC g n (tx M2 pv) (tl M2 pv) := ⟨fun z => ⟨z.2.1, z.1⟩, fun z => ⟨z.2, z.1, hnv⟩⟩
  rcases hX with ⟨q, eX⟩ | ⟨q, eX⟩
  · rcases hY with ⟨_, eY⟩ | ⟨q2, _⟩
    · have q76 : M3.2 76 = M2.2 76 := o3.2 76 (by decide)
      have hr3 : RV M3 g n := ⟨(o3.1 77 (fun z => z)).trans hr.1, hr.2.1, hr.2.2.1, fun i hi => by rw [q76]; exact hr.2.2.2.1 i hi, hr.2.2.2.2⟩
      obtain ⟨C4, M4, eC, eM, hr4, r36, f4, s4, l4⟩ := h3.undone hk5 ht ((f3.fR (by have := h2.1.1.sz; omega) (fun z => z)).trans hc) (hT.fp W f3 (fun z => z) (fun z => z) (fun z => z) (fun z => z)) q.1 hk ((sc.1 8 (by decide)).trans hH.1.1.1) hnv hr3
      rw [eX, eY]
      exact ⟨M4, C4, _, eM, hr4, RmL.fr hz (F3.tr f4) (by omega) (by omega), Or.inl ⟨eC, r36⟩⟩
    · exact absurd (eqv.mpr q) q2
  · rcases hY with ⟨q2, _⟩ | ⟨_, eY⟩
    · exact absurd (eqv.mp q2) q
    · rw [eY]
      exact h3.unBad hz F3 (by omega) (by omega) eX ScO.rf rfl
def unK (a0 : Nat) (a1 : Int) (p3 p10 p11 : Nat) (r16 : Int) (C15 : Cd) : Option ((Int ⊕ Nat) × Cd) :=
if w32 r16 = 0 then
unT a0 a1 p3 0 C15
else
if isO C15 a0 14 then
if w32 120 ≤ w32 (cI C15 1407 a0) then
unT a0 a1 p3 0 C15
else
if isO C15 p10 13 then bnd (cR C15 1302 p10) fun (z31 : Option Nat) =>
if isO C15 p11 13 then bnd (cR C15 1302 p11) fun (z32 : Option Nat) =>
if isO C15 p3 6 then bnd (cR C15 601 p3) fun (z33 : Option Nat) =>
drf z33 fun (p34 : Nat) =>
if isO C15 p34 13 then bnd (cR C15 1302 p34) fun (z35 : Option Nat) =>
if isO C15 a0 14 then cal (fX11_merge a0 z31 z32 z35 0 C15) fun (r37 : Int) (C36 : Cd) =>
if w32 r37 = 0 then
unT a0 a1 p3 0 C36
else
unT a0 a1 p3 1 C36
else none
else none
else none
else none
else none
else none
theorem call_undo (h : RR b kc M C) (hk5 : kc ≤ 600) {x y : Int} (hx : I32 x) (hy : I32 y) : CallE b kc C cd2 (fX11_undo b x y C) (fX12_undo x y M) := by
  have hL := h.1.1
  have W := hL.W
  have hz := hL.sz
  rcases h.pageC hx with ⟨t, q, rfl, ht, hne, eX, hq, eY⟩ | ⟨eX, eY⟩
  · obtain ⟨hB, VA, PA, LE, AA, nv, np, na, hq0⟩ := h.rq
    obtain ⟨p, hp, h6, hqp⟩ := hq0.page ht hq
    subst hqp
    have hH := hq0.2.2.2.2.2.1
    have n120 := hH.nv120
    have pgA := (hH.2.2.2.2.2.1 p hp).2.1
    have oP := pgA.1
    rcases hH.verAt hp ht h6 hy with ⟨v, i, rfl, hv, hon, hi, hrk, hvs, eI, eA, eV⟩ | ⟨eI, eA, eV⟩
    · have ov := hH.2.2.2.2.1 v hv
      have hY1 := undo_def eV
      have eAh := X12_aheadOf_ hH.1.1 hv
      rw [hrk] at eAh
      have hcn := cnt_le (onp M (p : Int)) nv
      rw [if_neg (by decide), cal_of eAh, w32_n (by omega)] at hY1
      by_cases c0 : i = 0
      · subst c0
        rw [if_pos (by decide), unA_no] at hY1
        refine h.exc (e := 2) ?_ hY1 (sc36 M 1) (mS1 _ _ _) (by decide)
        have eA2 : fX3_versionAtIndex (PA p) (((0 : Nat) : Int) - 1) C = some (none, C) := X3_versionAtIndex_out pgA ⟨by decide, by decide⟩ (Or.inl (by decide))
        unfold fX11_undo
        rw [if_pos hL.o, calx_of eX, drf_some, if_pos oP, cal_of eI, if_pos oP, cal_of eA, if_pos oP, cal_of eA2, bnd_eq, opt_some, opt_none]
      · obtain ⟨j, rfl⟩ : ∃ j, i = j + 1 := ⟨i - 1, by omega⟩
        rw [if_neg (by omega)] at hY1
        obtain ⟨hA, _⟩ := ord_all M (p : Int) nv
        have aj := hA j (by omega)
        generalize hu : vsl M (p : Int) nv j = u at aj
        have ou := hH.2.2.2.2.1 u aj.1
        have eA2 : fX3_versionAtIndex (PA p) (((j + 1 : Nat) : Int) - 1) C = some (some (VA u), C) := by
          rw [show ((j + 1 : Nat) : Int) - 1 = (j : Int) by omega]
          have e := X3_versionAtIndex_in pgA (i := j) (by omega) (by rw [hu]; exact ou.1.1)
          rw [hu] at e
          exact e
        obtain ⟨pv, hpv, hprs, _, h601⟩ := hH.pres hp
        have opv := hH.2.2.2.2.1 pv hpv
        have h0 := h.setB 0
        have hq3 : RQ no0 b (mSet M 36 0) C VA PA LE AA nv np na := hq0.quiet (Fp.rf W (S := fun _ _ _ => False)) (fun _ _ _ z => z.elim) (fun _ _ _ _ z => z.elim) h.1 (sc36 M 0)
        have hH3 := hq3.2.2.2.2.2.1
        have vs3 := (sc36 M 0).vs
        have ep : fX12_presentAt (t : Int) (mSet M 36 0) = some ((pv : Int), mSet M 36 0) := by
          have e := X12_presentAt_ hH3.1.1 ht (by rw [show (mSet M 36 0).2 6 t = (p : Int) from h6]; exact ⟨by omega, by omega⟩)
          have e2 : prAt (mSet M 36 0) nv t = (pv : Int) := by
            unfold prAt
            rw [show (mSet M 36 0).2 6 t = (p : Int) from h6, if_neg (by omega), prs_same vs3]
            exact hprs
          rw [e2] at e
          exact e
        have eAh3 : fX12_aheadOf (v : Int) (mSet M 36 0) = some (((j + 1 : Nat) : Int), mSet M 36 0) := by
          have e := X12_aheadOf_ hH3.1.1 hv
          have e2 : rk (mSet M 36 0) v nv = j + 1 := by rw [← hrk]; rfl
          rw [e2] at e
          exact e
        have eVi : fX12_versionIn (p : Int) (((j + 1 : Nat) : Int) - 1) (mSet M 36 0) = some ((u : Int), mSet M 36 0) := by
          rw [show ((j + 1 : Nat) : Int) - 1 = (j : Int) by omega]
          have e := X12_versionIn_ hH3.1.1 (p := (p : Int)) (x := (j : Int)) ⟨by omega, by omega⟩ ⟨by omega, by omega⟩
          rw [vin_ord, vsl_same vs3, onp_same vs3, if_pos ⟨by omega, by omega⟩, Int.toNat_natCast, hu] at e
          exact e
        have hYr : ∀ {r : Int}, fX12_mayAt (t : Int) (mSet M 36 0) = some (r, mSet M 36 0) → unA M (t : Int) (v : Int) 0 = unJ (t : Int) (v : Int) (pv : Int) (u : Int) r (mSet M 36 0) := fun {r} e => by
          unfold unA
          rw [bnd_eq, mS1, if_pos (by decide), cal_of ep, if_pos (inM (n := 24) rfl ht (by decide)), cal_of eAh3, ix_n (n := t) (by omega), show (mSet M 36 0).2 6 t = (p : Int) from h6, cal_of eVi, cal_of e]
        have hXr : ∀ {r : Int}, fX11_mayActAt b (some (b + 13 + 6 * t)) C = some (r, C) → fX11_undo b (t : Int) (v : Int) C = unK b (t : Int) (PA p) (VA v) (VA u) r C := fun {r} e => by
          unfold fX11_undo
          rw [if_pos hL.o, calx_of eX, drf_some, if_pos oP, cal_of eI, if_pos oP, cal_of eA, if_pos oP, cal_of eA2, bnd_eq, opt_some, opt_some, if_pos hL.o, bnd_eq, hL.r1, drf_some, if_pos ⟨hL.ot, by rw [hL.nt]; exact inR_n ht (by decide)⟩, bnd_eq, hL.tt ht, if_pos hL.o, cal_of e]
          rfl
        have F0 : Fp (sFr b) C C := Fp.rf W
        have e1407 : cI C 1407 b = (nv : Int) := hH.1.2.2
        -- the reference undoes
        have hAx : ∃ A : Nat → Bool, ∀ i, i < 900 → (A i = true ↔ SameS (tx (mSet M 36 0) u) (tl (mSet M 36 0) u) (tx (mSet M 36 0) v) (tl (mSet M 36 0) v) i) := ⟨fun i => @decide _ (Classical.propDecidable (SameS (tx (mSet M 36 0) u) (tl (mSet M 36 0) u) (tx (mSet M 36 0) v) (tl (mSet M 36 0) v) i)), fun i _ => @decide_eq_true_iff _ (Classical.propDecidable _)⟩
        have hBx : ∃ B : Nat → Bool, ∀ i, i < 900 → (B i = true ↔ SameS (tx (mSet M 36 0) pv) (tl (mSet M 36 0) pv) (tx (mSet M 36 0) v) (tl (mSet M 36 0) v) i) := ⟨fun i => @decide _ (Classical.propDecidable (SameS (tx (mSet M 36 0) pv) (tl (mSet M 36 0) pv) (tx (mSet M 36 0) v) (tl (mSet M 36 0) v) i)), fun i _ => @decide_eq_true_iff _ (Classical.propDecidable _)⟩
        obtain ⟨A, hAA⟩ := hAx
        obtain ⟨B, hBB⟩ := hBx
        obtain ⟨M2, eM, oM, qM⟩ := X12_undoes_ (A := A) (B := B) hH3.1.1 hH3.1.2.1 aj.1 hv hpv hAA hBB
        have sc : ScO (mSet M 36 0) M2 := scMO oM (fun k z => by omega) (fun k z => by omega)
        rw [hY1]
        rcases h0.may ht with ⟨a1, a2⟩ | ⟨a1, a2⟩
        · rw [hYr a2, hXr a1]
          unfold unJ unK
          rw [if_neg (show ¬ w32 1 = 0 by decide), if_neg (show ¬ w32 1 = 0 by decide), if_pos hL.o, e1407, cal_of eM]
          by_cases cv : nv = 120
          · rw [if_pos (show w32 120 ≤ w32 (nv : Int) by rw [cv]; decide), unT_no]
            cases hres : mgO A B (tx (mSet M 36 0) v) (tx (mSet M 36 0) u) (tx (mSet M 36 0) pv) (tl (mSet M 36 0) v) (tl (mSet M 36 0) u) (tl (mSet M 36 0) pv) with
            | none =>
              rw [show isS (none : Option ((Nat → Int) × Nat)) = 0 from rfl, if_pos (show w32 0 = 0 by decide)]
              exact h0.unBad hz F0 (by omega) (by omega) rfl sc rfl
            | some r =>
              obtain ⟨g2, n2⟩ := r
              rw [show isS (some (g2, n2)) = 1 from rfl, if_neg (show ¬ w32 1 = 0 by decide)]
              obtain ⟨M3, o3, hYY⟩ := unN_ (x := (t : Int)) (hH3.1.1.same sc.vs) (hH3.1.2.1.same sc.vs) hpv (qM g2 n2 hres)
              rcases hYY with ⟨q, _⟩ | ⟨_, eY⟩
              · exact absurd q.2.2 (by omega)
              · exact h0.unBad hz F0 (by omega) (by omega) rfl (sc.tr (scMO o3 (fun _ z => z.elim) (fun k z => by omega))) eY
          · rw [if_neg (show ¬ w32 120 ≤ w32 (nv : Int) by rw [w32_n (by omega), show w32 120 = 120 from rfl]; omega), if_pos ov.1.1, bnd_eq, ov.1.2.2.2.1, if_pos ou.1.1, bnd_eq, ou.1.2.2.2.1, if_pos oP, bnd_eq, h601, drf_some, if_pos opv.1.1, bnd_eq, opv.1.2.2.2.1, if_pos hL.o]
            have tv := hH3.txv hv
            have tu := hH3.txv aj.1
            have tp := hH3.txv hpv
            have lu := hH3.1.1.2.2.2.2 u aj.1
            have lp := hH3.1.1.2.2.2.2 pv hpv
            have lu' : tl (mSet M 36 0) u ≤ 30 := by unfold tl; omega
            have lp' : tl (mSet M 36 0) pv ≤ 30 := by unfold tl; omega
            obtain ⟨C2, eC, o2, t2, q2⟩ := X11_merge_ (ag := false) (A := A) (B := B) hL tv tu tp h.1.2.2.2.2 (by omega) (by omega) (by omega) (by omega) hAA (fun i hi => by rw [hBB i hi]; exact ⟨Or.inl, fun z => z.elim id (fun z => absurd z.1 (by decide))⟩)
            have eC' : fX11_merge b (some (VA v + 1)) (some (VA u + 1)) (some (VA pv + 1)) 0 C = some (isS (mgO A B (tx (mSet M 36 0) v) (tx (mSet M 36 0) u) (tx (mSet M 36 0) pv) (tl (mSet M 36 0) v) (tl (mSet M 36 0) u) (tl (mSet M 36 0) pv)), C2) := eC
            rw [cal_of eC']
            have f2 : Fp (sSc b) C C2 := (o2.fp W).mono (fun _ _ _ _ z => Or.inr z)
            have tm2 : ∃ g n, TxV C2 (b + 848) 60 g n := by
              obtain ⟨g5, n5, t5⟩ := h.1.2.2.2.1
              exact ⟨g5, n5, t5.keep o2 (by omega)⟩
            have hl2 := h.1.tx f2 tm2 t2
            have h2 : RR b kc M2 C2 := h0.qb f2 sSc_qt sSc_hs hl2 sc
            have hq2 : RQ no0 b M2 C2 VA PA LE AA nv np na := hq3.quiet f2 sSc_qt sSc_hs hl2 sc
            have F2 := sSc_fr f2
            have z2 := o2.csz
            have z3 := o2.csl
            cases hres : mgO A B (tx (mSet M 36 0) v) (tx (mSet M 36 0) u) (tx (mSet M 36 0) pv) (tl (mSet M 36 0) v) (tl (mSet M 36 0) u) (tl (mSet M 36 0) pv) with
            | none =>
              rw [show isS (none : Option ((Nat → Int) × Nat)) = 0 from rfl, if_pos (show w32 0 = 0 by decide), if_pos (show w32 0 = 0 by decide), unT_no]
              exact h2.unBad hz F2 (by omega) (by omega) rfl ScO.rf rfl
            | some r =>
              obtain ⟨g2, n2⟩ := r
              rw [show isS (some (g2, n2)) = 1 from rfl, if_neg (show ¬ w32 1 = 0 by decide), if_neg (show ¬ w32 1 = 0 by decide)]
              exact h2.unFin hq2 hz F2 (by omega) (by omega) hk5 ht hp ((f2.fR (by omega) (fun z => by unfold sSc sTx at z; omega)).trans hq) hpv (by rw [prs_same sc.vs, prs_same vs3]; exact hprs) (q2 g2 n2 hres) (qM g2 n2 hres) (Tkv_mgO (hH3.1.2.1 u aj.1).2 (hH3.1.2.1 pv hpv).2 hres) (by omega)
        · rw [hYr a2, hXr a1]
          unfold unJ unK
          rw [if_pos (show w32 0 = 0 by decide), if_pos (show w32 0 = 0 by decide), unT_no]
          exact h0.unBad hz F0 (by omega) (by omega) rfl ScO.rf rfl
    · have hY1 := undo_def eV
      rw [if_pos (by decide), unA_no] at hY1
      refine h.exc (e := 2) ?_ hY1 (sc36 M 1) (mS1 _ _ _) (by decide)
      obtain ⟨r9, e9⟩ : ∃ r9, fX3_versionAtIndex (PA p) (-1 - 1) C = some (r9, C) := ⟨_, X3_versionAtIndex_out pgA ⟨by decide, by decide⟩ (Or.inl (by decide))⟩
      unfold fX11_undo
      rw [if_pos hL.o, calx_of eX, drf_some, if_pos oP, cal_of eI, if_pos oP, cal_of eA, if_pos oP, cal_of e9, bnd_eq, opt_none]
  · have eV : fX12_isVersionAt x y M = some (0, M) := by
      unfold fX12_isVersionAt
      rw [cal_of eY, bnd_eq, bnd_eq, if_pos (by decide)]
      rfl
    have hY1 := undo_def eV
    rw [if_pos (by decide), unA_no] at hY1
    refine h.exc (e := 2) ?_ hY1 (sc36 M 1) (mS1 _ _ _) (by decide)
    unfold fX11_undo
    rw [if_pos hL.o, calx_ofx eX]
end UND
