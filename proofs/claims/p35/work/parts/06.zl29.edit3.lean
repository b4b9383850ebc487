/-! THE CALL edit, whole -/
section EDW
variable {b kc : Nat} {M M' M1 M2 M11 : Md} {C C' C1 C2 : Cd} {P : Nat → Prop} {VA PA LE AA : Nat → Nat} {nv np na : Nat} {d f g : Nat → Int} {n m dn : Nat} {A B : Nat → Bool}
theorem RR.edFin (h2 : RR b kc M2 C2) (hq2 : RQ no0 b M2 C2 VA PA LE AA nv np na) (hz : b + 854 ≤ csz C) (F : Fp (sFr b) C C2) (s : csz C2 ≤ csz C + 100) (l : csl C2 ≤ csl C + 1000) (hk5 : kc ≤ 600) {t p pv T cap : Nat} (ht : t < 24) (hp : p < np) (hc : cR C2 1203 (b + 13 + 6 * t) = some (PA p)) (hpv : pv < nv) (hprs : prs M2 (p : Int) nv = (pv : Int)) (hT : TxV C2 T cap g n) (hr : RV M2 g n) (hk : Tkv g n) (hnv : nv < 120) :
   CallE b kc C cd2 (edT b (t : Int) (PA p) (some T) 1 C2) (edJ (t : Int) (pv : Int) 1 M2) := by
  have hH := hq2.2.2.2.2.2.1
  have W := h2.1.1.W
  obtain ⟨y1, ⟨y2, y3, y4⟩, y5, _⟩ := hH.2.2.2.2.2.1 p hp
  have hv := (hH.2.2.2.2.1 pv hpv).1
  rw [hprs, Int.toNat_natCast] at y5
  obtain ⟨C3, f3, s3, l3, hX⟩ := edT_yes (b := b) (t := (t : Int)) W hT (hH.txv hpv) y2 y5 hv.1 hv.2.2.2.1
  obtain ⟨M3, o3, hY⟩ := edJ_yes (x := (t : Int)) hH.1.1 hH.1.2.1 hpv hr
  have sc : ScO M2 M3 := scMO o3 (fun _ z => z.elim) (fun k z => by omega)
  have h3 : RR b kc M3 C3 := h2.qb f3 (fun _ _ _ z => z.elim) (fun _ _ _ _ z => z.elim) (h2.1.nil f3) sc
  have F3 := F.tr (f3.fr (fun _ z => z.elim))
  have eqv : NewP g n (tx M2 pv) (tl M2 pv) nv ↔ NwC g n (tx M2 pv) (tl M2 pv) := ⟨fun z => ⟨z.2.1, z.1⟩, fun z => ⟨z.2, z.1, hnv⟩⟩
  rcases hX with ⟨q, eX⟩ | ⟨q, eX⟩
  · rcases hY with ⟨_, eY⟩ | ⟨q2, _⟩
    · have q76 : M3.2 76 = M2.2 76 := o3.2 76 (by decide)
      have hr3 : RV M3 g n := ⟨(o3.1 77 (fun z => z)).trans hr.1, hr.2.1, hr.2.2.1, fun i hi => by rw [q76]; exact hr.2.2.2.1 i hi, hr.2.2.2.2⟩
      obtain ⟨C4, M4, eC, eM, hr4, r36, f4, s4, l4⟩ := h3.edited hk5 ht ((f3.fR (by have := h2.1.1.sz; omega) (fun z => z)).trans hc) (hT.fp W f3 (fun z => z) (fun z => z) (fun z => z) (fun z => z)) q.1 hk ((sc.1 8 (by decide)).trans hH.1.1.1) hnv hr3
      rw [eX, eY]
      exact ⟨M4, C4, _, eM, hr4, RmL.fr hz (F3.tr f4) (by omega) (by omega), Or.inl ⟨eC, r36⟩⟩
    · exact absurd (eqv.mpr q) q2
  · rcases hY with ⟨q2, _⟩ | ⟨_, eY⟩
    · exact absurd (eqv.mp q2) q
    · rw [eY]
      exact h3.excS (e := 1) hz F3 (by omega) (by omega) eX (edR_no M3) (sc36 M3 2) (mS1 _ _ _) (by decide)
theorem RR.edBad (h2 : RR b kc M2 C2) (hz : b + 854 ≤ csz C) (F : Fp (sFr b) C C2) (s : csz C2 ≤ csz C + 100) (l : csl C2 ≤ csl C + 1000) {t : Nat} {X : Option ((Int ⊕ Nat) × Cd)} {Y : Option (Int × Md)} (hX : X = some (.inr 1, cBump C2)) (o : ScO M2 M') (hY : Y = edR M' (t : Int) 2) : CallE b kc C cd2 X Y :=
  h2.excS (e := 1) hz F (by omega) (by omega) hX (hY.trans (edR_no M')) (o.tr (sc36 M' 2)) (mS1 _ _ _) (by decide)
def edM (a1 a2 r5 r9 : Int) (M8 : Md) : Option (Int × Md) :=
if w32 r9 = 0 then
edJ a1 r5 0 M8
else
if w32 a2 = w32 r5 then
edJ a1 r5 1 M8
else
cal (fX12_merges a2 r5 M8) fun r19 M18 =>
if w32 r19 = 0 then
edJ a1 r5 0 M18
else
edJ a1 r5 1 M18
def edA (M_39 : Md) (a1 a2 a3 t0_39 : Int) : Option (Int × Md) :=
bnd (mSet M_39 36 t0_39) fun (M3 : Md) =>
if w32 (M3.1 36) ≤ 0 then
cal (fX12_presentAt a1 M3) fun r5 M4 =>
cal (fX12_layMeant a2 a3 M4) fun r7 M6 =>
cal (fX12_mayAt a1 M6) fun r9 M8 =>
edM a1 a2 r5 r9 M8
else
some (0, M3)
theorem edA_no {x y z : Int} (M : Md) : edA M x y z 1 = some (0, mSet M 36 1) := by
  unfold edA
  rw [bnd_eq, mS1, if_neg (by decide)]
theorem edit_def {x y z : Int} {r : Int} (e : fX12_isVersionAt x y M = some (r, M)) : fX12_edit x y z M = (if w32 r = 0 then
edA M x y z 1
else
if w32 z = w32 (-1) then
edA M x y z 0
else
cal (fX12_sectionsOf y M) fun r21 M20 =>
cal (fX12_in z 0 (r21 - 1) M20) fun r23 M22 =>
if ¬ w32 r23 = 0 then
edA M22 x y z 0
else
edA M22 x y z 1) := by
  unfold fX12_edit
  rw [cal_of e]
  rfl
def edK (a0 : Nat) (a1 : Int) (p3 p8 : Nat) (z13 : Option Nat) (t0_99 : Int) (C_99 : Cd) : Option ((Int ⊕ Nat) × Cd) :=
if w32 t0_99 = 0 then
edT a0 a1 p3 z13 t0_99 C_99
else
if isO C_99 p3 6 then bnd (cR C_99 601 p3) fun (z36 : Option Nat) =>
if (some p8) = z36 then
edT a0 a1 p3 z13 t0_99 C_99
else
if isO C_99 a0 14 then bnd (cR C_99 1405 a0) fun (z37 : Option Nat) =>
if isO C_99 p8 13 then bnd (cR C_99 1302 p8) fun (z38 : Option Nat) =>
if isO C_99 a0 14 then bnd (cR C_99 1404 a0) fun (z39 : Option Nat) =>
if isO C_99 p3 6 then bnd (cR C_99 601 p3) fun (z40 : Option Nat) =>
drf z40 fun (p41 : Nat) =>
if isO C_99 p41 13 then bnd (cR C_99 1302 p41) fun (z42 : Option Nat) =>
if isO C_99 a0 14 then cal (fX11_merge a0 z38 z39 z42 1 C_99) fun (r44 : Int) (C43 : Cd) =>
edT a0 a1 p3 z37 r44 C43
else none
else none
else none
else none
else none
else none
else none
/-- an edit, behind what is meant, with leave and room -/
theorem RR.edGo (h1 : RR b kc M1 C1) (hq1 : RQ no0 b M1 C1 VA PA LE AA nv np na) (hz : b + 854 ≤ csz C) (F : Fp (sFr b) C C1) (s : csz C1 ≤ csz C + 50) (l : csl C1 ≤ csl C + 500) (hk5 : kc ≤ 600) {t p v pv : Nat} (ht : t < 24) (hp : p < np) (hc : cR C1 1203 (b + 13 + 6 * t) = some (PA p)) (hv : v < nv) (hpv : pv < nv) (hprs : prs M1 (p : Int) nv = (pv : Int)) (hT : TxV C1 (b + 848) 60 g n) (hn : n ≤ 60) (hr : RV M1 g n) (hm : MV M1 74 0 g n) (h75 : M1.1 75 = (n : Int)) (hk : Tkv g n) (hnv : nv < 120) :
   CallE b kc C cd2 (edK b (t : Int) (PA p) (VA v) (some (b + 848)) 1 C1) (edM (t : Int) (v : Int) (pv : Int) 1 M1) := by
  have hH := hq1.2.2.2.2.2.1
  have hL := h1.1.1
  have W := hL.W
  obtain ⟨y1, ⟨y2, y3, y4⟩, y5, _⟩ := hH.2.2.2.2.2.1 p hp
  rw [hprs, Int.toNat_natCast] at y5
  have ov := (hH.2.2.2.2.1 v hv)
  have op := (hH.2.2.2.2.1 pv hpv)
  unfold edK edM
  rw [if_neg (show ¬ w32 1 = 0 by decide), if_neg (show ¬ w32 1 = 0 by decide), if_pos y2, bnd_eq, y5]
  by_cases e : v = pv
  · rw [if_pos (show some (VA v) = some (VA pv) by rw [e]), if_pos (show w32 (v : Int) = w32 (pv : Int) by rw [e])]
    exact h1.edFin hq1 hz F (by omega) (by omega) hk5 ht hp hc hpv hprs hT hr hk hnv
  · have ne : ¬ (some (VA v) = some (VA pv)) := fun z => e (hH.vaI hv hpv (Option.some.inj z))
    have hv120 := hH.1.1.2.1
    rw [if_neg ne, if_neg (show ¬ (w32 (v : Int) = w32 (pv : Int)) by rw [w32_n (by omega), w32_n (by omega)]; omega), if_pos hL.o, bnd_eq, hL.r5, if_pos ov.1.1, bnd_eq, ov.1.2.2.2.1, if_pos hL.o, bnd_eq, hL.r4, if_pos y2, bnd_eq, drf_some, if_pos op.1.1, bnd_eq, op.1.2.2.2.1, if_pos hL.o]
    have tb := hH.txv hv
    have tp := hH.txv hpv
    have lp := hH.1.1.2.2.2.2 pv hpv
    have lp' : tl M1 pv ≤ 30 := by unfold tl; omega
    have hAx : ∃ A : Nat → Bool, ∀ i, i < 900 → (A i = true ↔ SameS g n (tx M1 v) (tl M1 v) i) := ⟨fun i => @decide _ (Classical.propDecidable (SameS g n (tx M1 v) (tl M1 v) i)), fun i _ => @decide_eq_true_iff _ (Classical.propDecidable _)⟩
    have hBx : ∃ B : Nat → Bool, ∀ i, i < 900 → (B i = true ↔ (SameS (tx M1 pv) (tl M1 pv) (tx M1 v) (tl M1 v) i ∨ SameS (tx M1 pv) (tl M1 pv) g n i)) := ⟨fun i => @decide _ (Classical.propDecidable (SameS (tx M1 pv) (tl M1 pv) (tx M1 v) (tl M1 v) i ∨ SameS (tx M1 pv) (tl M1 pv) g n i)), fun i _ => @decide_eq_true_iff _ (Classical.propDecidable _)⟩
    obtain ⟨A, hA⟩ := hAx
    obtain ⟨B, hB⟩ := hBx
    obtain ⟨C2, eC, o2, t2, q2⟩ := X11_merge_ (ag := true) (A := A) (B := B) hL tb hT tp h1.1.2.2.2.2 (by omega) (by omega) (by omega) (by omega) hA (fun i hi => by rw [hB i hi]; exact ⟨fun z => z.elim Or.inl (fun z => Or.inr ⟨rfl, z⟩), fun z => z.elim Or.inl (fun z => Or.inr z.2)⟩)
    obtain ⟨M2, eM, oM, qM⟩ := X12_merges_ (A := A) (B := B) hH.1.1 hH.1.2.1 hv hpv hm h75 hn hA hB
    have eC' : fX11_merge b (some (VA v + 1)) (some (b + 848)) (some (VA pv + 1)) 1 C1 = some (isS (mgO A B (tx M1 v) g (tx M1 pv) (tl M1 v) n (tl M1 pv)), C2) := eC
    rw [cal_of eC', cal_of eM]
    have f2 : Fp (sSc b) C1 C2 := (o2.fp W).mono (fun _ _ _ _ z => Or.inr z)
    have tm2 : ∃ g n, TxV C2 (b + 848) 60 g n := ⟨g, n, hT.keep o2 (by omega)⟩
    have hl2 := h1.1.tx f2 tm2 t2
    have sc : ScO M1 M2 := scMO oM (fun k z => by omega) (fun k z => by omega)
    have h2 : RR b kc M2 C2 := h1.qb f2 sSc_qt sSc_hs hl2 sc
    have hq2 : RQ no0 b M2 C2 VA PA LE AA nv np na := hq1.quiet f2 sSc_qt sSc_hs hl2 sc
    have F2 := F.tr (sSc_fr f2)
    have z2 := o2.csz
    have z3 := o2.csl
    cases hres : mgO A B (tx M1 v) g (tx M1 pv) (tl M1 v) n (tl M1 pv) with
    | none =>
      rw [show isS (none : Option ((Nat → Int) × Nat)) = 0 from rfl, if_pos (by decide), edJ_no, edT_no]
      exact h2.edBad hz F2 (by omega) (by omega) rfl ScO.rf rfl
    | some r =>
      obtain ⟨g2, n2⟩ := r
      rw [show isS (some (g2, n2)) = 1 from rfl, if_neg (by decide)]
      exact h2.edFin hq2 hz F2 (by omega) (by omega) hk5 ht hp ((f2.fR (by have := hL.sz; omega) (fun z => by unfold sSc sTx at z; omega)).trans hc) hpv (by rw [prs_same sc.vs]; exact hprs) (q2 g2 n2 hres) (qM g2 n2 hres) (Tkv_mgO hk (hH.1.2.1 pv hpv).2 hres) hnv
/-- an edit, where no version can be made -/
theorem RR.edFull (h1 : RR b kc M1 C1) (hq1 : RQ no0 b M1 C1 VA PA LE AA nv np na) (hz : b + 854 ≤ csz C) (F : Fp (sFr b) C C1) (s : csz C1 ≤ csz C + 50) (l : csl C1 ≤ csl C + 500) {t v pv : Nat} (hv : v < nv) (hpv : pv < nv) (hn : n ≤ 60) (hr : RV M1 g n) (hm : MV M1 74 0 g n) (h75 : M1.1 75 = (n : Int)) (hnv : nv = 120) {X : Option ((Int ⊕ Nat) × Cd)} (hX : X = some (.inr 1, cBump C1)) : CallE b kc C cd2 X (edM (t : Int) (v : Int) (pv : Int) 1 M1) := by
  have hH := hq1.2.2.2.2.2.1
  have hv120 := hH.1.1.2.1
  unfold edM
  rw [if_neg (by decide)]
  by_cases e : v = pv
  · rw [if_pos (by rw [e])]
    obtain ⟨M3, o3, hY⟩ := edJ_yes (x := (t : Int)) hH.1.1 hH.1.2.1 hpv hr
    rcases hY with ⟨q, _⟩ | ⟨_, eY⟩
    · exact absurd q.2.2 (by omega)
    · exact h1.edBad hz F (by omega) (by omega) hX (scMO o3 (fun _ z => z.elim) (fun k z => by omega)) eY
  · rw [if_neg (by rw [w32_n (by omega), w32_n (by omega)]; omega)]
    have hAx : ∃ A : Nat → Bool, ∀ i, i < 900 → (A i = true ↔ SameS g n (tx M1 v) (tl M1 v) i) := ⟨fun i => @decide _ (Classical.propDecidable (SameS g n (tx M1 v) (tl M1 v) i)), fun i _ => @decide_eq_true_iff _ (Classical.propDecidable _)⟩
    have hBx : ∃ B : Nat → Bool, ∀ i, i < 900 → (B i = true ↔ (SameS (tx M1 pv) (tl M1 pv) (tx M1 v) (tl M1 v) i ∨ SameS (tx M1 pv) (tl M1 pv) g n i)) := ⟨fun i => @decide _ (Classical.propDecidable (SameS (tx M1 pv) (tl M1 pv) (tx M1 v) (tl M1 v) i ∨ SameS (tx M1 pv) (tl M1 pv) g n i)), fun i _ => @decide_eq_true_iff _ (Classical.propDecidable _)⟩
    obtain ⟨A, hA⟩ := hAx
    obtain ⟨B, hB⟩ := hBx
    obtain ⟨M2, eM, oM, qM⟩ := X12_merges_ (A := A) (B := B) hH.1.1 hH.1.2.1 hv hpv hm h75 hn hA hB
    rw [cal_of eM]
    have sc : ScO M1 M2 := scMO oM (fun k z => by omega) (fun k z => by omega)
    cases hres : mgO A B (tx M1 v) g (tx M1 pv) (tl M1 v) n (tl M1 pv) with
    | none =>
      rw [show isS (none : Option ((Nat → Int) × Nat)) = 0 from rfl, if_pos (by decide), edJ_no]
      exact h1.edBad hz F (by omega) (by omega) hX sc rfl
    | some r =>
      obtain ⟨g2, n2⟩ := r
      rw [show isS (some (g2, n2)) = 1 from rfl, if_neg (by decide)]
      obtain ⟨M3, o3, hY⟩ := edJ_yes (x := (t : Int)) (hH.1.1.same sc.vs) (hH.1.2.1.same sc.vs) hpv (qM g2 n2 hres)
      rcases hY with ⟨q, _⟩ | ⟨_, eY⟩
      · exact absurd q.2.2 (by omega)
      · exact h1.edBad hz F (by omega) (by omega) hX (sc.tr (scMO o3 (fun _ z => z.elim) (fun k z => by omega))) eY
theorem call_edit (h : RR b kc M C) (hk5 : kc ≤ 600) {x y z : Int} (hx : I32 x) (hy : I32 y) (hzz : I32 z) : CallE b kc C cd2 (fX11_edit b x y z C) (fX12_edit x y z M) := by
  have hL := h.1.1
  have W := hL.W
  have hz := hL.sz
  have wz : w32 z = z := w32_of hzz.1 hzz.2
  rcases h.pageC hx with ⟨t, q, rfl, ht, hne, eX, hq, eY⟩ | ⟨eX, eY⟩
  · obtain ⟨hB, VA, PA, LE, AA, nv, np, na, hq0⟩ := h.rq
    obtain ⟨p, hp, h6, hqp⟩ := hq0.page ht hq
    subst hqp
    have hH := hq0.2.2.2.2.2.1
    have n120 := hH.nv120
    have oP := (hH.2.2.2.2.2.1 p hp).2.1.1
    rcases hH.verAt hp ht h6 hy with ⟨v, i, rfl, hv, hon, hi, hrk, hvs, eI, eA, eV⟩ | ⟨eI, eA, eV⟩
    · have ov := hH.2.2.2.2.1 v hv
      have tv := hH.txv hv
      have lv := hH.1.1.2.2.2.2 v hv
      have lv' : tl M v ≤ 30 := by unfold tl; omega
      have sl := secs_le (tx M v) (tl M v)
      have es := X8_sections_ tv
      have esM := X12_sectionsOf_ hH.1.1 hH.1.2.1 hv
      have hY1 := edit_def (z := z) eV
      rw [if_neg (by decide), wz, show w32 (-1) = -1 from rfl, cal_of esM, show (((1 + secs (tx M v) (tl M v) : Nat) : Int) - 1) = ((secs (tx M v) (tl M v) : Nat) : Int) by omega] at hY1
      have hI := X12_in_ (x := z) (lo := 0) (hi := ((secs (tx M v) (tl M v) : Nat) : Int)) M hzz (by decide) ⟨by omega, by omega⟩
      by_cases hs : z = -1 ∨ (0 ≤ z ∧ z < 1 + (secs (tx M v) (tl M v) : Int))
      · have hY2 : fX12_edit (t : Int) (v : Int) z M = edA M (t : Int) (v : Int) z 0 := by
          rw [hY1]
          by_cases c : z = -1
          · rw [if_pos c]
          · rw [if_neg c]
            rcases hI with ⟨e, q⟩ | ⟨e, q⟩
            · rw [cal_of e, if_pos (by decide)]
            · exact absurd ⟨by omega, by omega⟩ q
        rw [hY2]
        obtain ⟨dn, d, d1, d2, d3, d4, d5⟩ := h.2.1
        -- what is meant
        obtain ⟨C1, eC1, t1, o1⟩ := X11_mean_ hL d3 tv (by omega) h.1.2.2.2.1 lv' hs
        have h0 := h.setB 0
        have hq3 : RQ no0 b (mSet M 36 0) C VA PA LE AA nv np na := hq0.quiet (Fp.rf W (S := fun _ _ _ => False)) (fun _ _ _ z => z.elim) (fun _ _ _ _ z => z.elim) h.1 (sc36 M 0)
        have hH3 := hq3.2.2.2.2.2.1
        obtain ⟨M6, eM6, r6, m6, q75, o6⟩ := X12_layMeant_ (M := mSet M 36 0) (d := d) (dn := dn) hH3.1.1 hH3.1.2.1 hv ((mS2 _ _ (by decide)).trans d1) d2 d5 d3.tks hs
        obtain ⟨pv, hpv, hprs, _, h601⟩ := hH.pres hp
        have sc : ScO (mSet M 36 0) M6 := scMO o6 (fun k z => by omega) (fun k z => by omega)
        have sc0 : ScO M M6 := (sc36 M 0).tr sc
        have f1 : Fp (sSc b) C C1 := (o1.fp W).mono (fun _ _ _ _ z => Or.inl z)
        have hl1 := h.1.tx f1 ⟨_, _, t1⟩ (by
          obtain ⟨g5, n5, t5⟩ := h.1.2.2.2.2
          exact ⟨g5, n5, t5.keep o1 (by omega)⟩)
        have h1 : RR b kc M6 C1 := h.qb f1 sSc_qt sSc_hs hl1 sc0
        have hq1 : RQ no0 b M6 C1 VA PA LE AA nv np na := hq0.quiet f1 sSc_qt sSc_hs hl1 sc0
        have hL1 := h1.1.1
        have F1 := sSc_fr f1
        have zs := o1.csz
        have zl := o1.csl
        have hN : mnN (tx M v) (tl M v) dn z ≤ 60 := Nat.le_trans mnN_le (by omega)
        have kG : Tkv (mnG (tx M v) d (tl M v) dn z) (mnN (tx M v) (tl M v) dn z) := Tkv_mn (hH.1.2.1 v hv).2 d4
        have ep : fX12_presentAt (t : Int) (mSet M 36 0) = some ((pv : Int), mSet M 36 0) := by
          have e := X12_presentAt_ hH3.1.1 ht (by rw [show (mSet M 36 0).2 6 t = (p : Int) from h6]; exact ⟨by omega, by omega⟩)
          have e2 : prAt (mSet M 36 0) nv t = (pv : Int) := by
            unfold prAt
            rw [show (mSet M 36 0).2 6 t = (p : Int) from h6, if_neg (by omega), prs_same (sc36 M 0).vs]
            exact hprs
          rw [e2] at e
          exact e
        have hprs6 : prs M6 (p : Int) nv = (pv : Int) := by rw [prs_same sc0.vs]; exact hprs
        have hc1 : cR C1 1203 (b + 13 + 6 * t) = some (PA p) := (f1.fR (by omega) (fun z => by unfold sSc sTx at z; omega)).trans hq
        have e1407 : cI C1 1407 b = (nv : Int) := hq1.2.2.2.2.2.1.1.2.2
        have hYr : ∀ {r : Int}, fX12_mayAt (t : Int) M6 = some (r, M6) → edA M (t : Int) (v : Int) z 0 = edM (t : Int) (v : Int) (pv : Int) r M6 := fun {r} e => by
          unfold edA
          rw [bnd_eq, mS1, if_pos (by decide), cal_of ep, cal_of eM6, cal_of e]
        have hXr : ∀ {r : Int}, fX11_mayActAt b (some (b + 13 + 6 * t)) C1 = some (r, C1) → fX11_edit b (t : Int) (v : Int) z C = (if w32 r = 0 then
edK b (t : Int) (PA p) (VA v) (some (b + 848)) 0 C1
else
if isO C1 b 14 then
if w32 120 ≤ w32 (cI C1 1407 b) then
edK b (t : Int) (PA p) (VA v) (some (b + 848)) 0 C1
else
edK b (t : Int) (PA p) (VA v) (some (b + 848)) 1 C1
else none) := fun {r} e => by
          unfold fX11_edit
          rw [if_pos hL.o, calx_of eX, drf_some, if_pos oP, cal_of eI, if_pos oP, cal_of eA, bnd_eq, opt_some, if_neg (by rw [wz, show w32 (-1) = -1 from rfl]; omega), if_pos ov.1.1, bnd_eq, ov.1.2.2.2.1, drf_some, if_pos tv.isO_, cal_of es, if_pos (by rw [wz, w32_n (by omega)]; omega), if_pos hL.o, bnd_eq, hL.r4, if_pos ov.1.1, bnd_eq, ov.1.2.2.2.1, if_pos hL.o, cal_of eC1, if_pos hL1.o, bnd_eq, hL1.r1, drf_some, if_pos ⟨hL1.ot, by rw [hL1.nt]; exact inR_n ht (by decide)⟩, bnd_eq, hL1.tt ht, if_pos hL1.o, cal_of e]
          rfl
        rcases h1.may ht with ⟨a1, a2⟩ | ⟨a1, a2⟩
        · rw [hYr a2, hXr a1, if_neg (by decide), if_pos hL1.o, e1407]
          by_cases cv : nv = 120
          · rw [if_pos (by rw [cv]; decide)]
            refine h1.edFull hq1 hz F1 (by omega) (by omega) hv hpv hN r6 m6 q75 cv ?_
            unfold edK
            rw [if_pos (by decide), edT_no]
          · rw [if_neg (by rw [w32_n (by omega), show w32 120 = 120 from rfl]; omega)]
            exact h1.edGo hq1 hz F1 (by omega) (by omega) hk5 ht hp hc1 hv hpv hprs6 t1 hN r6 m6 q75 kG (by omega)
        · rw [hYr a2, hXr a1, if_pos (by decide)]
          unfold edK edM
          rw [if_pos (show w32 0 = 0 by decide), if_pos (show w32 0 = 0 by decide), edT_no, edJ_no]
          exact h1.edBad hz F1 (by omega) (by omega) rfl ScO.rf rfl
      · -- no such section
        have hY2 : fX12_edit (t : Int) (v : Int) z M = some (0, mSet M 36 1) := by
          rw [hY1, if_neg (fun c => hs (Or.inl c))]
          rcases hI with ⟨e, q⟩ | ⟨e, q⟩
          · exact absurd (Or.inr ⟨q.1, by omega⟩) hs
          · rw [cal_of e, if_neg (fun c => c (by decide)), edA_no]
        refine h.exc (e := 2) ?_ hY2 (sc36 M 1) (mS1 _ _ _) (by decide)
        unfold fX11_edit
        rw [if_pos hL.o, calx_of eX, drf_some, if_pos oP, cal_of eI, if_pos oP, cal_of eA, bnd_eq, opt_some]
        by_cases c : z < -1
        · rw [if_pos (by rw [wz, show w32 (-1) = -1 from rfl]; exact c)]
        · rw [if_neg (by rw [wz, show w32 (-1) = -1 from rfl]; exact c), if_pos ov.1.1, bnd_eq, ov.1.2.2.2.1, drf_some, if_pos tv.isO_, cal_of es, if_neg (by rw [wz, w32_n (by omega)]; omega)]
    · have hY1 := edit_def (z := z) eV
      rw [if_pos (by decide), edA_no] at hY1
      refine h.exc (e := 2) ?_ hY1 (sc36 M 1) (mS1 _ _ _) (by decide)
      unfold fX11_edit
      rw [if_pos hL.o, calx_of eX, drf_some, if_pos oP, cal_of eI, if_pos oP, cal_of eA, bnd_eq, opt_none]
  · have eV : fX12_isVersionAt x y M = some (0, M) := by
      unfold fX12_isVersionAt
      rw [cal_of eY, bnd_eq, bnd_eq, if_pos (by decide)]
      rfl
    have hY1 := edit_def (z := z) eV
    rw [if_pos (by decide), edA_no] at hY1
    refine h.exc (e := 2) ?_ hY1 (sc36 M 1) (mS1 _ _ _) (by decide)
    unfold fX11_edit
    rw [if_pos hL.o, calx_ofx eX]
end EDW
