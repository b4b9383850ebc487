/-! THE CALL moveTree: the pages that lead there are written anew -/
section MTW
variable {b kc : Nat} {M M' M1 M2 : Md} {C C' C1 C2 : Cd} {P : Nat → Prop} {VA PA LE AA : Nat → Nat} {nv np na n : Nat} {g : Nat → Int}
theorem RQ.addNext (hq0 : RQ P b M C VA PA LE AA nv np na) (hb5 : 0 ≤ M.1 5 ∧ M.1 5 ≤ 1000000) {t p : Nat} (ht : t < 24) (hp : p < np) (h6 : M.2 6 t = (p : Int)) {T cap : Nat} (hT : TxV C T cap g n) (hg : isTx g n = true) (hk : Tkv g n) (hnv : nv < 120) (hr : RV M g n) :
   ∃ (C3 : Cd) (M12 : Md) (VA' LE' : Nat → Nat) (D : Nat → Prop), fX11_addNextVersion b (t : Int) (some (PA p)) (some T) C = some ((nv : Int), C3) ∧ fX12_newVersionNow (p : Int) 76 0 (n : Int) M = some ((nv : Int), M12) ∧ RQ (fun s => P s ∨ D s) b M12 C3 VA' PA LE' AA (nv + 1) np na ∧ (∀ s, D s → s = t) ∧ NvM (mSet M 5 (M.1 5 + 1)) M12 (p : Int) (M.1 5 + 1) g n nv ∧ (∀ q, q ≠ (p : Int) → prs M12 q (nv + 1) = prs M q nv) ∧ Fp (sFr b) C C3 ∧ (csz C ≤ csz C3 ∧ csz C3 ≤ csz C + 5) ∧ (csl C ≤ csl C3 ∧ csl C3 ≤ csl C + 400) := by
  have hn := isTx_n hg
  have h8 : M.1 8 = (nv : Int) := hq0.2.2.2.2.2.1.1.1.1
  obtain ⟨ec, hq1⟩ := hq0.tick (x := M.1 5) rfl rfl
  have hL := hq0.1.1
  have W := hL.W
  obtain ⟨r1, r2, r3, r4, r5⟩ := hr
  rw [ml_76] at r2
  obtain ⟨M12, eN, nm⟩ := X12_newVersion_ (M := mSet M 5 (M.1 5 + 1)) (p := (p : Int)) (tm := M.1 5 + 1) (nv := nv) (n := n) (g := g) (k := 76) (fr := 0) ((mS2 _ _ (by decide)).trans h8) hnv hn.2 (by decide) (by rw [ml_76]; omega) (by decide) r4
  obtain ⟨C3, VA3, LE3, D, eC, hq3, hD, s3, l3, f3, ko⟩ := hq1.addV ht hp h6 (hT.fp W (S := fun q k a => q = 0 ∧ k = 1406) (Fp.I W _ _ _ ⟨rfl, rfl⟩) (by omega) (by omega) (by omega) (by omega)) hg hk hnv (tm := M.1 5 + 1) ⟨by omega, by omega⟩ nm
  have fT : Fp (sFr b) C (cSetI C 1406 b (M.1 5 + 1)) := (Fp.I (S := fun q _ _ => q = 0) W _ _ _ rfl).fr (fun a z => by omega)
  have hLE : b + 854 ≤ LE p := (hq0.2.2.2.2.2.1.2.2.2.2.2.1 p hp).2.2.2.2.2
  have zc : csz (cSetI C 1406 b (M.1 5 + 1)) = csz C := rfl
  have zd : csl (cSetI C 1406 b (M.1 5 + 1)) = csl C := rfl
  have te : TmE M (mSet M 5 (M.1 5 + 1)) nv := fun _ _ => ⟨rfl, rfl⟩
  refine ⟨C3, M12, VA3, LE3, D, ?_, ?_, hq3, hD, nm, fun q hq => (ko q hq).trans (prs_e te q nv (Nat.le_refl _)), fT.tr (f3.fr (fun a z => by unfold sAv at z; omega)), by omega, by omega⟩
  · unfold fX11_addNextVersion
    rw [if_pos hL.o, if_pos hL.o, bnd_eq, ec, if_pos (show isO (cSetI C 1406 b (M.1 5 + 1)) b 14 from hL.o), if_pos (show isO (cSetI C 1406 b (M.1 5 + 1)) b 14 from hL.o), cI_I1, cal_of eC]
  · unfold fX12_newVersionNow
    have eN' : fX12_newVersion (p : Int) (M.1 5 + 1) 76 0 (n : Int) (mSet M 5 (M.1 5 + 1)) = some ((nv : Int), M12) := eN
    rw [bnd_eq, mS1, cal_of eN']
def WrI (b : Nat) (M0 : Md) (C0 : Cd) (PA AA : Nat → Nat) (nv np na fr to had G : Nat) (many r4 x5 : Int) (i : Nat) (M : Md) (C : Cd) : Prop :=
  (∃ (P : Nat → Prop) (VA LE : Nat → Nat) (nvi : Nat), RQ P b M C VA PA LE AA nvi np na ∧ (∀ s, P s → s < i) ∧ nv ≤ nvi ∧ nvi + cnt (fun s => decide (i ≤ s) && leF M0 nv G s) 24 ≤ 120 ∧ ∀ s, i ≤ s → s < 24 → M0.2 6 s ≠ -1 → prs M (M0.2 6 s) nvi = prs M0 (M0.2 6 s) nv) ∧
  (∀ F, lpn zM1 (mt2 (fr : Int) (to : Int) (had : Int) many) (F + i) 0 M0 = lpn zM1 (mt2 (fr : Int) (to : Int) (had : Int) many) F (i : Int) M) ∧
  (∀ F, lpn zC1 (c2B b (G : Int) r4 x5) (F + i) 0 C0 = lpn zC1 (c2B b (G : Int) r4 x5) F (i : Int) C) ∧
  M.2 6 = M0.2 6 ∧ (∀ v, v < nv → tl M v = tl M0 v ∧ ∀ k, k < 30 → tx M v k = tx M0 v k) ∧
  (M0.1 5 ≤ M.1 5 ∧ M.1 5 ≤ M0.1 5 + (i : Int)) ∧ (M.1 13 = M0.1 13 ∧ M.1 22 = M0.1 22 ∧ M.1 36 = M0.1 36) ∧
  (csz C ≤ csz C0 + 5 * i ∧ csl C ≤ csl C0 + 400 * i) ∧ Fp (sFr b) C0 C
theorem WrI.step {M0 : Md} {C0 : Cd} {fr to had G i : Nat} {many r4 x5 : Int} (hfr : fr < 6) (hto : to < 6) (hhad : had < 16) (hx5 : x5 = ((to : Int) - (fr : Int)) * 4) (hG : G < 16777216) (hGb : ∀ v, v < 24 → G.testBit v = (decide (v / 4 = fr) && had.testBit (v % 4))) (h5 : 0 ≤ M0.1 5 ∧ M0.1 5 ≤ 900000) (hi : i < 24)
   (h : WrI b M0 C0 PA AA nv np na fr to had G many r4 x5 i M C) : ∃ M' C', WrI b M0 C0 PA AA nv np na fr to had G many r4 x5 (i + 1) M' C' := by
  obtain ⟨⟨P, VA, LE, nvi, hq, hP, hnv, hcap, hpr⟩, hr, hc, h6, htx, hb5, ⟨e13, e22, e36⟩, ⟨hsz, hsl⟩, hf⟩ := h
  have hL := hq.1.1
  have hz := hL.sz
  have hH := hq.2.2.2.2.2.1
  have n120 := hH.nv120
  have hle0 : cnt (fun s => decide (i + 1 ≤ s) && leF M0 nv G s) 24 ≤ cnt (fun s => decide (i ≤ s) && leF M0 nv G s) 24 := cnt_imp (fun s _ z => by
    rw [Bool.and_eq_true] at z ⊢
    exact ⟨decide_eq_true (by have := of_decide_eq_true z.1; omega), z.2⟩)
  -- the class comes to the title's page
  have cturn : ∀ F, lpn zC1 (c2B b (G : Int) r4 x5) (F + (i + 1)) 0 C0 = c2B b (G : Int) r4 x5 (lpn zC1 (c2B b (G : Int) r4 x5) F) (i : Int) C := fun F => by
    rw [show F + (i + 1) = (F + 1) + i by omega, hc (F + 1), lpn_succ]
  have mturn : ∀ F, lpn zM1 (mt2 (fr : Int) (to : Int) (had : Int) many) (F + (i + 1)) 0 M0 = mt2 (fr : Int) (to : Int) (had : Int) many (lpn zM1 (mt2 (fr : Int) (to : Int) (had : Int) many) F) (i : Int) M := fun F => by
    rw [show F + (i + 1) = (F + 1) + i by omega, hr (F + 1), lpn_succ]
  have ei : (i : Int) + 1 = ((i + 1 : Nat) : Int) := by omega
  rcases hH.2.2.2.1.1 i hi with ⟨c1, c2⟩ | ⟨p, hp, c1, c2⟩
  · -- no page
    refine ⟨M, C, ⟨P, VA, LE, nvi, hq, fun s z => by have := hP s z; omega, hnv, by omega, fun s h1 h2 h3 => hpr s (by omega) h2 h3⟩, fun F => ?_, fun F => ?_, h6, htx, ⟨hb5.1, by omega⟩, ⟨e13, e22, e36⟩, ⟨by omega, by omega⟩, hf⟩
    · rw [mturn F]
      unfold mt2
      rw [if_neg (by rw [show w32 24 = 24 from rfl, w32_n (by omega)]; omega), if_pos (inM (n := 24) rfl hi (by decide)), bnd_eq, ix_n (by omega), c1, if_pos rfl, ei]
    · rw [cturn F]
      unfold c2B
      rw [if_pos hL.o, bnd_eq, hL.r1, drf_some, if_pos hL.ot, hL.nt, if_neg (by rw [show w32 ((24 : Nat) : Int) = 24 from rfl, w32_n (by omega)]; omega), if_pos hL.o, bnd_eq, drf_some, hL.nt, if_pos ⟨hL.ot, inR_n hi (by decide)⟩, bnd_eq, hL.tt hi, drf_some, if_pos (hL.to hi), bnd_eq, bnd_eq, c2, opt_none, ei]
  · -- a page
    obtain ⟨y1, ⟨y2, y3, y4⟩, y5, _⟩ := hH.2.2.2.2.2.1 p hp
    obtain ⟨pv, hpv, hprs, _, h601⟩ := hH.pres hp
    have hpr0 : prs M0 (p : Int) nv = (pv : Int) := by
      have z := hpr i (Nat.le_refl _) hi (by rw [← h6, c1]; omega)
      rw [← h6, c1, hprs] at z
      exact z.symm
    have hpv0 : pv < nv := by
      have := prs_rng M0 (p : Int) nv
      rw [hpr0] at this
      omega
    have opv := hH.2.2.2.2.1 pv hpv
    have tpv := hH.txv hpv
    have kpv := hH.1.2.1 pv hpv
    have lpv := hH.1.1.2.2.2.2 pv hpv
    have l30 : tl M pv ≤ 30 := by unfold tl; omega
    have hle : leF M0 nv G i = anyN (liB (tx M pv) G) (tl M pv) := by
      have t := htx pv hpv0
      unfold leF lpF
      rw [← h6, c1, decide_eq_true (by omega), Bool.true_and, hpr0, Int.toNat_natCast, t.1]
      exact anyN_congr _ (fun k hk => by unfold liB; rw [t.2 k (by rw [t.1] at l30; omega)])
    obtain ⟨M9, e9, o9, r9⟩ := X12_turns_ hH.1.1 hH.1.2.1 (t := i) (pv := pv) (fr := fr) (to := to) (had := had) (G := G) hi (by rw [c1]; exact ⟨by omega, by omega⟩) hpv (by unfold prAt; rw [c1, if_neg (by omega)]; exact hprs) hfr hto hhad hGb
    have sc : ScO M M9 := scMO o9 (fun k z => by omega) (fun k z => by omega)
    have h69 : M9.2 6 = M.2 6 := o9.2 6 (by decide)
    have tx9 : ∀ v, v < nv → tl M9 v = tl M0 v ∧ ∀ k, k < 30 → tx M9 v k = tx M0 v k := fun v hv => by
      rw [tl_same sc.vs, tx_same sc.vs]; exact htx v hv
    have mhead : ∀ F, lpn zM1 (mt2 (fr : Int) (to : Int) (had : Int) many) (F + (i + 1)) 0 M0 = (if w32 (if anyN (liB (tx M pv) G) (tl M pv) = true then 1 else 0) = 0 then
lpn zM1 (mt2 (fr : Int) (to : Int) (had : Int) many) F ((i + 1 : Nat) : Int) M9
else
cal (fX12_newVersionNow (p : Int) 76 0 (M9.1 77) M9) fun r12 M11 =>
lpn zM1 (mt2 (fr : Int) (to : Int) (had : Int) many) F ((i + 1 : Nat) : Int) M11) := fun F => by
      rw [mturn F]
      unfold mt2
      rw [if_neg (by rw [show w32 24 = 24 from rfl, w32_n (by omega)]; omega), if_pos (inM (n := 24) rfl hi (by decide)), bnd_eq, ix_n (by omega), c1, if_neg (by rw [w32_n (by omega), show w32 (-1) = -1 from rfl]; omega), cal_of e9, ei, if_pos (inM (n := 24) rfl hi (by decide)), h69, c1]
    have hLI := X8_leadsInto_2 tpv kpv.2 hG
    have chead : ∀ {r : Int} F, fX8_leadsInto_ (VA pv + 1) (G : Int) C = some (r, C) → lpn zC1 (c2B b (G : Int) r4 x5) (F + (i + 1)) 0 C0 = (if w32 r = 0 then
lpn zC1 (c2B b (G : Int) r4 x5) F ((i + 1 : Nat) : Int) C
else
cal (fX8_writeLeadingOn (VA pv + 1) (G : Int) x5 (some (b + 851)) C) fun (r33 : Unit) (C32 : Cd) =>
if isO C32 b 14 then bnd (cR C32 1405 b) fun (z34 : Option Nat) =>
if isO C32 b 14 then cal (fX11_addNextVersion b (i : Int) (some (PA p)) z34 C32) fun (r36 : Int) (C35 : Cd) =>
lpn zC1 (c2B b (G : Int) r4 x5) F ((i + 1 : Nat) : Int) C35
else none
else none) := fun {r} F e => by
      rw [cturn F]
      unfold c2B
      rw [if_pos hL.o, bnd_eq, hL.r1, drf_some, if_pos hL.ot, hL.nt, if_neg (by rw [show w32 ((24 : Nat) : Int) = 24 from rfl, w32_n (by omega)]; omega), if_pos hL.o, bnd_eq, drf_some, hL.nt, if_pos ⟨hL.ot, inR_n hi (by decide)⟩, bnd_eq, hL.tt hi, drf_some, if_pos (hL.to hi), bnd_eq, bnd_eq, c2, opt_some, if_pos y2, bnd_eq, h601, drf_some, if_pos opv.1.1, bnd_eq, opv.1.2.2.2.1, drf_some, if_pos tpv.isO_, cal_of e, ei]
      by_cases c : w32 r = 0
      · rw [if_pos c, if_pos c]
      · rw [if_neg c, if_neg c, if_pos y2, bnd_eq, h601, drf_some, if_pos opv.1.1, bnd_eq, opv.1.2.2.2.1, if_pos hL.o, bnd_eq, hL.r5, drf_some, if_pos tpv.isO_]
    have bi : (∃ k, k < tl M pv ∧ LI (tx M pv) G k) ↔ anyN (liB (tx M pv) G) (tl M pv) = true := by
      rw [anyN_iff]
      exact ⟨fun ⟨k, h1, h2⟩ => ⟨k, h1, liB_iff.mpr h2⟩, fun ⟨k, h1, h2⟩ => ⟨k, h1, liB_iff.mp h2⟩⟩
    have b9 : 0 ≤ M9.1 5 ∧ M9.1 5 ≤ 1000000 := by rw [sc.1 5 (by decide)]; omega
    by_cases d : anyN (liB (tx M pv) G) (tl M pv) = true
    · -- written anew
      rcases hLI with ⟨eL, _⟩ | ⟨_, q⟩
      · have okw : ∀ k, k < tl M pv → okt (wlo (tx M pv) G (4 * ((to : Int) - (fr : Int))) k) := fun k hk => wlo_ok hfr hto hGb (kpv.2 k hk)
        have ex : x5 = 4 * ((to : Int) - (fr : Int)) := by rw [hx5]; omega
        obtain ⟨C2, e2, t2, o2⟩ := X8_writeLeadingOn_ (a := VA pv + 1) (b := b + 851) (by omega) tpv kpv.2 (by
          obtain ⟨g5, n5, t5⟩ := hq.1.2.2.2.2
          exact ⟨n5, g5, t5⟩) (by omega) hG (by_ := x5) (by omega) (by omega) (fun k hk hLI => by
          have z := okw k hk
          rw [wlo_t hLI, ← ex] at z
          exact ⟨z.1, z.2.1⟩)
        rw [ex] at e2 t2
        have f2 : Fp (sSc b) C C2 := (o2.fp hL.W).mono (fun _ _ _ _ z => Or.inr z)
        have hl2 := hq.1.tx f2 (by
          obtain ⟨g5, n5, t5⟩ := hq.1.2.2.2.1
          exact ⟨g5, n5, t5.keep o2 (by omega)⟩) ⟨_, _, t2⟩
        have hq9 : RQ P b M9 C2 VA PA LE AA nvi np na := hq.quiet f2 sSc_qt sSc_hs hl2 sc
        have hlt : cnt (fun s => decide (i + 1 ≤ s) && leF M0 nv G s) 24 < cnt (fun s => decide (i ≤ s) && leF M0 nv G s) 24 := cnt_lt (j := i) (fun s _ z => by
          rw [Bool.and_eq_true] at z ⊢
          exact ⟨decide_eq_true (by have := of_decide_eq_true z.1; omega), z.2⟩) hi (by rw [decide_eq_false (by omega), Bool.false_and]) (by rw [decide_eq_true (Nat.le_refl _), Bool.true_and, hle]; exact d)
        obtain ⟨C3, M12, VA3, LE3, D, eC, eM, hq3, hD, nm, ko, f3, s3, l3⟩ := hq9.addNext b9 hi hp (by rw [h69]; exact c1) t2 (by rw [isTx_kinds (fun k hk => wlo_kind hfr hto hGb (kpv.2 k hk))]; exact kpv.1) okw (by omega) r9
        have hL2 := hl2.1
        have z2 := o2.csz
        have z3 := o2.csl
        have m11 : ∀ j, j ≠ 5 → j ≠ 8 → M12.1 j = M9.1 j := fun j q1 q2 => (nm.1 j q2).trans (mS2 _ _ q1)
        have m5 : M12.1 5 = M.1 5 + 1 := (nm.1 5 (by decide)).trans ((mS1 _ _ _).trans (by rw [sc.1 5 (by decide)]))
        have e77 : M9.1 77 = (tl M pv : Int) := r9.1
        refine ⟨M12, C3, ⟨_, VA3, LE3, nvi + 1, hq3, fun s z => ?_, by omega, by omega, fun s h1 h2 h3 => ?_⟩, fun F => ?_, fun F => ?_, ?_, fun v hv => ?_, ⟨by rw [m5]; omega, by rw [m5]; omega⟩, ⟨?_, ?_, ?_⟩, ⟨by omega, by omega⟩, (hf.tr (sSc_fr f2)).tr f3⟩
        · rcases z with z | z
          · have := hP s z; omega
          · have := hD s z; omega
        · have ne : M0.2 6 s ≠ (p : Int) := fun z => by
            rcases hH.2.2.2.1.2 s i h2 hi (by rw [h6, z, ← h6, c1]) with y | y
            · rw [h6] at y; exact h3 y
            · omega
          rw [ko _ ne, prs_same sc.vs]
          exact hpr s (by omega) h2 h3
        · rw [mhead F, if_pos d, if_neg (by decide), e77, cal_of eM]
        · rw [chead F eL, if_neg (by decide), ex, cal_of e2, if_pos hL2.o, bnd_eq, hL2.r5, if_pos hL2.o, cal_of eC]
        · rw [nm.2.2.1 6 (by decide)]
          exact h69.trans h6
        · have t9 := tx9 v hv
          have no := nm.2.2.2.1 v (by omega)
          refine ⟨?_, fun k hk => ?_⟩
          · rw [← t9.1]; unfold tl; rw [no.1]; rfl
          · rw [← t9.2 k hk]; exact no.2.2.2 k hk
        · rw [m11 13 (by decide) (by decide), sc.1 13 (by decide)]; exact e13
        · rw [m11 22 (by decide) (by decide), sc.1 22 (by decide)]; exact e22
        · rw [m11 36 (by decide) (by decide), o9.1 36 (by decide)]; exact e36
      · exact absurd (bi.mpr d) q
    · -- it stays
      rcases hLI with ⟨_, q⟩ | ⟨eL, _⟩
      · exact absurd (bi.mp q) d
      · have hq9 : RQ P b M9 C VA PA LE AA nvi np na := hq.quiet (Fp.rf hL.W (S := fun _ _ _ => False)) (fun _ _ _ z => z.elim) (fun _ _ _ _ z => z.elim) hq.1 sc
        refine ⟨M9, C, ⟨P, VA, LE, nvi, hq9, fun s z => by have := hP s z; omega, hnv, by omega, fun s h1 h2 h3 => by rw [prs_same sc.vs]; exact hpr s (by omega) h2 h3⟩, fun F => ?_, fun F => ?_, h69.trans h6, tx9, ⟨by rw [sc.1 5 (by decide)]; omega, by rw [sc.1 5 (by decide)]; omega⟩, ⟨by rw [sc.1 13 (by decide)]; exact e13, by rw [sc.1 22 (by decide)]; exact e22, by rw [o9.1 36 (by decide)]; exact e36⟩, ⟨by omega, by omega⟩, hf⟩
        · rw [mhead F, if_neg d, if_pos (by decide)]
        · rw [chead F eL, if_pos (by decide)]
theorem RQ.written (hq : RQ no0 b M C VA PA LE AA nv np na) {fr to had G : Nat} {many r4 x5 : Int} (hfr : fr < 6) (hto : to < 6) (hhad : had < 16) (hx5 : x5 = ((to : Int) - (fr : Int)) * 4) (hG : G < 16777216) (hGb : ∀ v, v < 24 → G.testBit v = (decide (v / 4 = fr) && had.testBit (v % 4))) (h5 : 0 ≤ M.1 5 ∧ M.1 5 ≤ 900000) (hcap : nv + cnt (leF M nv G) 24 ≤ 120) :
   ∀ i, i ≤ 24 → ∃ M' C', WrI b M C PA AA nv np na fr to had G many r4 x5 i M' C' := by
  intro i
  induction i with
  | zero =>
    intro _
    refine ⟨M, C, ⟨no0, VA, LE, nv, hq, fun s z => z.elim, Nat.le_refl _, ?_, fun s _ _ _ => rfl⟩, fun F => rfl, fun F => rfl, rfl, fun v _ => ⟨rfl, fun _ _ => rfl⟩, ⟨Int.le_refl _, by omega⟩, ⟨rfl, rfl, rfl⟩, ⟨by omega, by omega⟩, Fp.rf hq.1.1.W⟩
    rw [cnt_congr (q := leF M nv G) (fun k _ => by rw [decide_eq_true (Nat.zero_le k), Bool.true_and])]
    exact hcap
  | succ i ih =>
    intro hi
    obtain ⟨M1, C1, h1⟩ := ih (by omega)
    exact h1.step hfr hto hhad hx5 hG hGb h5 (by omega)
end MTW
