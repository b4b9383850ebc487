/-! THE CALL moveTree -/
section MTT
variable {b kc : Nat} {M M' M1 M2 : Md} {C C' C1 C2 : Cd} {P : Nat → Prop} {VA PA LE AA : Nat → Nat} {nv np na n : Nat} {g : Nat → Int}
/-- the tree moved: both sides, all asked -/
theorem RQ.treed (hq : RQ no0 b M C VA PA LE AA nv np na) (hB : RB kc M) (hk5 : kc ≤ 600) {fr to G : Nat} {M0 : Md} (h0 : M = mSet M0 36 0) {r4 : Int} (hfr : fr < 6) (hto : to < 6) (hne : fr ≠ to) (hG : G < 16777216) (hGb : ∀ i, i < 24 → G.testBit i = (decide (i / 4 = fr) && decide (M.2 6 i ≠ -1))) (hpt : ∀ k, k < 4 → M.2 6 (4 * to + k) = -1) {many : Int} (hcap : nv + cnt (leF M nv G) 24 ≤ 120) :
   ∃ M' C', mtG (fr : Int) (to : Int) (hadF M fr : Int) many 0 M0 = some (many, M') ∧ c0K b (fr : Int) (to : Int) (G : Int) r4 C = some (.inl r4, C') ∧ RR b (kc + 1) M' C' ∧ M'.1 36 = 0 ∧ Fp (sFr b) C C' ∧ csz C' ≤ csz C + 120 ∧ csl C' ≤ csl C + 9600 := by
  have hGb2 : ∀ v, v < 24 → G.testBit v = (decide (v / 4 = fr) && (hadF M fr).testBit (v % 4)) := fun v hv => by
    rw [hGb v hv, hadF_bit M fr (by omega)]
    by_cases c : v / 4 = fr
    · rw [show 4 * fr + v % 4 = v by omega]
    · rw [decide_eq_false c, Bool.false_and, Bool.false_and]
  obtain ⟨M8, C8, ⟨⟨P8, hq8, _⟩, m8, _, _, ⟨g1, g22, g2⟩, hcnt, s8, l8, f8⟩, c8⟩ := hq.brought (many := many) (r4 := r4) (x5 := ((to : Int) - (fr : Int)) * 4) hfr hto hne rfl hG hGb hpt
  obtain ⟨M9, e9, st, hq9⟩ := hq8.settles
  obtain ⟨t1, t2, t3, t4, t5⟩ := st
  have hb5 := hB.1
  have h59 : M9.1 5 = M.1 5 := (t1 5 (by decide)).trans (g1 5 (by decide))
  have lpE : cnt (leF M9 nv G) 24 = cnt (leF M nv G) 24 := by
    rw [← hcnt]
    refine cnt_congr (fun s _ => ?_)
    unfold leF
    rw [t4 6 (by decide) (by decide), lpF_same (fun q hq' => t4 q (by omega) (by omega))]
  obtain ⟨M10, C10, ⟨⟨P, VA2, LE2, nvi, hq10, _⟩, m10, c10, _, _, w5, ⟨w13, w22, w36⟩, ⟨ws, wl⟩, wf⟩⟩ := hq9.written (fr := fr) (to := to) (had := hadF M fr) (G := G) (many := many) (r4 := r4) (x5 := ((to : Int) - (fr : Int)) * 4) hfr hto (hadF_lt M fr) rfl hG hGb2 (by rw [h59]; omega) (by rw [lpE]; exact hcap) 24 (Nat.le_refl _)
  have d13 : M10.1 13 = M.1 13 := w13.trans ((t1 13 (by decide)).trans (g1 13 (by decide)))
  have d36 : M10.1 36 = 0 := w36.trans ((t1 36 (by decide)).trans ((g1 36 (by decide)).trans (by rw [h0]; exact mS1 _ _ _)))
  obtain ⟨M11, e11, hr, r36⟩ := hq10.done (M0 := M) hB (by rw [h59] at w5; omega) d13 (by rw [w22]; omega) d36
  obtain ⟨F, hF⟩ : ∃ F, FU = F + 25 := ⟨FU - 25, by unfold FU; omega⟩
  obtain ⟨F4, hF4⟩ : ∃ F, FU = F + 5 := ⟨FU - 5, by unfold FU; omega⟩
  have hL8 := hq8.1.1
  have hL10 := hq10.1.1
  refine ⟨M11, C10, ?_, ?_, hr, r36, f8.tr wf, by omega, by omega⟩
  · unfold mtG
    rw [bnd_eq, mS1, if_pos (by decide), bnd_eq, ← h0]
    have x1 : lpn zM1 (mt1 (fr : Int) (to : Int) (hadF M fr : Int) many) FU 0 M = lpn zM1 (mt1 (fr : Int) (to : Int) (hadF M fr : Int) many) (F4 + 1) ((4 : Nat) : Int) M8 := by
      rw [hF4]; exact m8 (F4 + 1)
    have x2 : lpn zM1 (mt2 (fr : Int) (to : Int) (hadF M fr : Int) many) FU 0 M9 = lpn zM1 (mt2 (fr : Int) (to : Int) (hadF M fr : Int) many) (F + 1) ((24 : Nat) : Int) M10 := by
      rw [hF]; exact m10 (F + 1)
    rw [x1, lpn_succ]
    have y1 : mt1 (fr : Int) (to : Int) (hadF M fr : Int) many (lpn zM1 (mt1 (fr : Int) (to : Int) (hadF M fr : Int) many) F4) ((4 : Nat) : Int) M8 = lpn zM1 (mt2 (fr : Int) (to : Int) (hadF M fr : Int) many) FU 0 M9 := by
      unfold mt1
      rw [if_pos (by decide), cal_of e9, bnd_eq]
    rw [y1, x2, lpn_succ]
    unfold mt2
    rw [if_pos (by decide), cal_of e11]
  · unfold c0K
    rw [bnd_eq, bnd_eq]
    have x1 : lpn zC1 (c1B b (G : Int) r4 (((to : Int) - (fr : Int)) * 4)) FU 0 C = lpn zC1 (c1B b (G : Int) r4 (((to : Int) - (fr : Int)) * 4)) (F + 1) ((24 : Nat) : Int) C8 := by
      rw [hF]; exact c8 (F + 1)
    have x2 : lpn zC1 (c2B b (G : Int) r4 (((to : Int) - (fr : Int)) * 4)) FU 0 C8 = lpn zC1 (c2B b (G : Int) r4 (((to : Int) - (fr : Int)) * 4)) (F + 1) ((24 : Nat) : Int) C10 := by
      rw [hF]; exact c10 (F + 1)
    rw [x1, lpn_succ]
    have y1 : c1B b (G : Int) r4 (((to : Int) - (fr : Int)) * 4) (lpn zC1 (c1B b (G : Int) r4 (((to : Int) - (fr : Int)) * 4)) F) ((24 : Nat) : Int) C8 = lpn zC1 (c2B b (G : Int) r4 (((to : Int) - (fr : Int)) * 4)) FU 0 C8 := by
      unfold c1B
      rw [if_pos hL8.o, bnd_eq, hL8.r1, drf_some, if_pos hL8.ot, hL8.nt, if_pos (Int.le_refl _), bnd_eq]
    rw [y1, x2, lpn_succ]
    unfold c2B
    rw [if_pos hL10.o, bnd_eq, hL10.r1, drf_some, if_pos hL10.ot, hL10.nt, if_pos (Int.le_refl _)]
theorem RQ.leads (hq : RQ no0 b M C VA PA LE AA nv np na) {G : Nat} (hG : G < 16777216) : fX11_pagesLeadingInto b (G : Int) C = some ((cnt (leF M nv G) 24 : Int), C) := by
  have hH := hq.2.2.2.2.2.1
  refine X11_pagesLeadingInto_ hq.1.1 (fun t ht => ?_)
  rcases hH.2.2.2.1.1 t ht with ⟨c1, c2⟩ | ⟨p, hp, c1, c2⟩
  · exact Or.inl ⟨by unfold leF; rw [decide_eq_false (fun z => z c1), Bool.false_and], c2⟩
  · obtain ⟨y1, ⟨y2, y3, y4⟩, y5, _⟩ := hH.2.2.2.2.2.1 p hp
    obtain ⟨pv, hpv, hprs, _, h601⟩ := hH.pres hp
    have opv := hH.2.2.2.2.1 pv hpv
    have tpv := hH.txv hpv
    have kpv := hH.1.2.1 pv hpv
    refine Or.inr ⟨PA p, VA pv, c2, y2, h601, opv.1.1, opv.1.2.2.2.1, tpv.isO_, ?_⟩
    have hle : leF M nv G t = anyN (liB (tx M pv) G) (tl M pv) := by
      unfold leF lpF
      rw [c1, decide_eq_true (by omega), Bool.true_and, hprs, Int.toNat_natCast]
    have bi : (∃ k, k < tl M pv ∧ LI (tx M pv) G k) ↔ anyN (liB (tx M pv) G) (tl M pv) = true := by
      rw [anyN_iff]
      exact ⟨fun ⟨k, h1, h2⟩ => ⟨k, h1, liB_iff.mpr h2⟩, fun ⟨k, h1, h2⟩ => ⟨k, h1, liB_iff.mp h2⟩⟩
    rw [hle]
    rcases X8_leadsInto_2 tpv kpv.2 hG with ⟨e, q⟩ | ⟨e, q⟩
    · rw [e, if_pos (bi.mp q)]
    · rw [e, if_neg (fun z => q (bi.mpr z))]
theorem call_moveTree (h : RR b kc M C) (hk5 : kc ≤ 600) {x y : Int} (hx : I32 x) (hy : I32 y) : CallE b kc C cd2 (fX11_moveTree b x y C) (fX12_moveTree x y M) := by
  have hL := h.1.1
  have W := hL.W
  have hz := hL.sz
  have wx : w32 x = x := w32_of hx.1 hx.2
  have wy : w32 y = y := w32_of hy.1 hy.2
  have w6 : w32 6 = 6 := rfl
  have bad : ¬ ((0 ≤ x ∧ x ≤ 5) ∧ 0 ≤ y ∧ y ≤ 5) → CallE b kc C cd2 (fX11_moveTree b x y C) (fX12_moveTree x y M) := by
    intro hn
    have hA1 : mtA x y 1 M = some (0, mSet M 36 1) := by
      unfold mtA
      rw [bnd_eq, bnd_eq]
      obtain ⟨F, hF⟩ : ∃ F, FU = F + 1 := ⟨FU - 1, by unfold FU; omega⟩
      rw [hF, lpn_succ]
      unfold mtE
      rw [bnd_eq, if_neg (by decide), mS1, if_pos (by decide)]
      dsimp only
      rw [bnd_eq, hF, lpn_succ]
      unfold mtC
      rw [bnd_eq, if_neg (by decide), mS1, if_pos (by decide)]
      unfold mtQ
      dsimp only
      rw [bnd_eq, bnd_eq, mS1, if_pos (by decide)]
      dsimp only
      rw [mS1]
      unfold mtG
      rw [bnd_eq, mS1, if_neg (by decide), mSet_set]
    refine h.exc (e := 2) (M' := mSet M 36 1) ?_ ?_ (sc36 M 1) (mS1 _ _ _) (by decide)
    · unfold fX11_moveTree
      rw [bnd_eq, wx, wy, w6]
      by_cases c1 : x < 0
      · rw [if_pos c1]
      · rw [if_neg c1]
        by_cases c2 : 6 ≤ x
        · rw [if_pos c2]
        · rw [if_neg c2]
          by_cases c3 : y < 0
          · rw [if_pos c3]
          · rw [if_neg c3, if_neg (by omega)]
    · rw [moveTree_def]
      rcases X12_in_ (x := x) (lo := 0) (hi := 5) M hx (by decide) (by decide) with ⟨e, p⟩ | ⟨e, p⟩
      · rcases X12_in_ (x := y) (lo := 0) (hi := 5) M hy (by decide) (by decide) with ⟨e2, p2⟩ | ⟨e2, p2⟩
        · exact absurd ⟨p, p2⟩ hn
        · rw [cal_of e, bnd_eq, bnd_eq, if_neg (by decide), cal_of e2, if_pos (by decide)]
          exact hA1
      · rw [cal_of e, bnd_eq, bnd_eq, if_pos (by decide)]
        exact hA1
  by_cases hxy : (0 ≤ x ∧ x ≤ 5) ∧ 0 ≤ y ∧ y ≤ 5
  · obtain ⟨fr, rfl⟩ : ∃ fr : Nat, x = (fr : Int) := ⟨x.toNat, by omega⟩
    obtain ⟨to, rfl⟩ : ∃ to : Nat, y = (to : Int) := ⟨y.toNat, by omega⟩
    have hfr : fr < 6 := by omega
    have hto : to < 6 := by omega
    have eY : fX12_moveTree (fr : Int) (to : Int) M = mtA (fr : Int) (to : Int) 0 M := by
      rw [moveTree_def]
      rcases X12_in_ (x := (fr : Int)) (lo := 0) (hi := 5) M hx (by decide) (by decide) with ⟨e, p⟩ | ⟨e, p⟩
      · rcases X12_in_ (x := (to : Int)) (lo := 0) (hi := 5) M hy (by decide) (by decide) with ⟨e2, p2⟩ | ⟨e2, p2⟩
        · rw [cal_of e, bnd_eq, bnd_eq, if_neg (by decide), cal_of e2, if_neg (by decide)]
        · exact absurd hxy.2 p2
      · exact absurd hxy.1 p
    have h0 := h.setB 0
    obtain ⟨hB3, VA, PA, LE, AA, nv, np, na, hq3⟩ := h0.rq
    have hH := hq3.2.2.2.2.2.1
    have n120 := hH.nv120
    have hpg : ∀ t, t < 24 → (decide ((mSet M 36 0).2 6 t ≠ -1) = false ∧ cR C 1203 (b + 13 + 6 * t) = none) ∨ (decide ((mSet M 36 0).2 6 t ≠ -1) = true ∧ ∃ p, cR C 1203 (b + 13 + 6 * t) = some p) := fun t ht => by
      rcases hH.2.2.2.1.1 t ht with ⟨c1, c2⟩ | ⟨p, hp, c1, c2⟩
      · exact Or.inl ⟨decide_eq_false (fun z => z c1), c2⟩
      · exact Or.inr ⟨decide_eq_true (by omega), PA p, c2⟩
    have eG := X11_pagesOfTree_ hL hpg hfr
    have eT := X11_pagesOfTree_ hL hpg hto
    have hG24 : bitsN (fun i => decide (i / 4 = fr) && decide ((mSet M 36 0).2 6 i ≠ -1)) 24 < 16777216 := bitsN_24 _ (Nat.le_refl _)
    have hT24 : bitsN (fun i => decide (i / 4 = to) && decide ((mSet M 36 0).2 6 i ≠ -1)) 24 < 16777216 := bitsN_24 _ (Nat.le_refl _)
    have hGb : ∀ i, i < 24 → (bitsN (fun i => decide (i / 4 = fr) && decide ((mSet M 36 0).2 6 i ≠ -1)) 24).testBit i = (decide (i / 4 = fr) && decide ((mSet M 36 0).2 6 i ≠ -1)) := fun i hi => by rw [bitsN_bit, decide_eq_true hi, Bool.true_and]
    have hG0 : bitsN (fun i => decide (i / 4 = fr) && decide ((mSet M 36 0).2 6 i ≠ -1)) 24 = 0 ↔ ∀ k, k < 4 → (mSet M 36 0).2 6 (4 * fr + k) = -1 := by
      constructor
      · intro z k hk
        have y := hGb (4 * fr + k) (by omega)
        rw [z, Nat.zero_testBit, decide_eq_true (by omega), Bool.true_and] at y
        exact Classical.byContradiction (fun c => absurd (decide_eq_true c) (by rw [← y]; decide))
      · intro z
        refine Nat.eq_of_testBit_eq (fun i => ?_)
        rw [Nat.zero_testBit, bitsN_bit]
        by_cases c : i < 24 ∧ i / 4 = fr
        · rw [decide_eq_false (p := (mSet M 36 0).2 6 i ≠ -1) (fun c2 => c2 (by have := z (i % 4) (by omega); rw [show 4 * fr + i % 4 = i by omega] at this; exact this)), Bool.and_false, Bool.and_false]
        · by_cases c2 : i < 24
          · rw [decide_eq_false (p := i / 4 = fr) (fun c3 => c ⟨c2, c3⟩), Bool.false_and, Bool.and_false]
          · rw [decide_eq_false c2, Bool.false_and]
    have hT0 : bitsN (fun i => decide (i / 4 = to) && decide ((mSet M 36 0).2 6 i ≠ -1)) 24 = 0 ↔ ∀ k, k < 4 → (mSet M 36 0).2 6 (4 * to + k) = -1 := by
      constructor
      · intro z k hk
        have y : (bitsN (fun i => decide (i / 4 = to) && decide ((mSet M 36 0).2 6 i ≠ -1)) 24).testBit (4 * to + k) = (decide ((4 * to + k) / 4 = to) && decide ((mSet M 36 0).2 6 (4 * to + k) ≠ -1)) := by rw [bitsN_bit, decide_eq_true (by omega), Bool.true_and]
        rw [z, Nat.zero_testBit, decide_eq_true (by omega), Bool.true_and] at y
        exact Classical.byContradiction (fun c => absurd (decide_eq_true c) (by rw [← y]; decide))
      · intro z
        refine Nat.eq_of_testBit_eq (fun i => ?_)
        rw [Nat.zero_testBit, bitsN_bit]
        by_cases c : i < 24 ∧ i / 4 = to
        · rw [decide_eq_false (p := (mSet M 36 0).2 6 i ≠ -1) (fun c2 => c2 (by have := z (i % 4) (by omega); rw [show 4 * to + i % 4 = i by omega] at this; exact this)), Bool.and_false, Bool.and_false]
        · by_cases c2 : i < 24
          · rw [decide_eq_false (p := i / 4 = to) (fun c3 => c ⟨c2, c3⟩), Bool.false_and, Bool.and_false]
          · rw [decide_eq_false c2, Bool.false_and]
    have hGb2 : ∀ v, v < 24 → (bitsN (fun i => decide (i / 4 = fr) && decide ((mSet M 36 0).2 6 i ≠ -1)) 24).testBit v = (decide (v / 4 = fr) && (hadF (mSet M 36 0) fr).testBit (v % 4)) := fun v hv => by
      rw [hGb v hv, hadF_bit (mSet M 36 0) fr (by omega)]
      by_cases c : v / 4 = fr
      · rw [show 4 * fr + v % 4 = v by omega]
      · rw [decide_eq_false c, Bool.false_and, Bool.false_and]
    have hH0 : hadF (mSet M 36 0) fr = 0 ↔ ∀ k, k < 4 → (mSet M 36 0).2 6 (4 * fr + k) = -1 := by
      constructor
      · intro z k hk
        have y := hadF_bit (mSet M 36 0) fr hk
        rw [z, Nat.zero_testBit] at y
        exact Classical.byContradiction (fun c => absurd (decide_eq_true c) (by rw [← y]; decide))
      · intro z
        refine Nat.eq_of_testBit_eq (fun i => ?_)
        unfold hadF
        rw [Nat.zero_testBit, bitsN_bit]
        by_cases c : i < 4
        · rw [decide_eq_false (p := (mSet M 36 0).2 6 (4 * fr + i) ≠ -1) (fun c2 => c2 (z i c)), Bool.and_false]
        · rw [decide_eq_false c, Bool.false_and]
    have eLd := hq3.leads hG24
    generalize hGG : bitsN (fun i => decide (i / 4 = fr) && decide ((mSet M 36 0).2 6 i ≠ -1)) 24 = G at *
    generalize hTT : bitsN (fun i => decide (i / 4 = to) && decide ((mSet M 36 0).2 6 i ≠ -1)) 24 = T at *
    have hmn : cnt (leF (mSet M 36 0) nv G) 24 ≤ 24 := cnt_le _ 24
    generalize hmany : cnt (leF (mSet M 36 0) nv G) 24 = many at *
    -- the rights
    have e36 : (mSet M 36 0).1 36 = 0 := mS1 _ _ _
    obtain ⟨⟨r1, r2, r3⟩, _⟩ := h0.2.2.1
    have p3 : ∀ t, t < 24 → 0 ≤ (mSet M 36 0).2 3 t ∧ (mSet M 36 0).2 3 t ≤ 2 := fun t ht => (h0.2.2.2.2.1 t ht).1.2
    have hmay : ∀ t, t < 24 → fX11_mayActAt b (some (b + 13 + 6 * t)) C = some (if decide ((mSet M 36 0).2 3 t ≤ (mSet M 36 0).1 2) = true then 1 else 0, C) := fun t ht => by
      obtain ⟨⟨q1, q2, q3⟩, _⟩ := h0.2.2.2.2.1 t ht
      rcases X11_mayActAt_ hL ht r1.symm q1.symm ⟨r2, r3⟩ ⟨q2, q3⟩ with ⟨e, q⟩ | ⟨e, q⟩
      · rw [e, decide_eq_true q, ite_tt]
      · rw [e, decide_eq_false q, ite_ff]
    have mF := X11_mayActInTree_ hL hmay hfr
    have mT := X11_mayActInTree_ hL hmay hto
    -- the reference
    obtain ⟨M6, o6, e6⟩ := mtC_ (M := mSet M 36 0) (nv := nv) (fr := fr) (to := to) (had := hadF (mSet M 36 0) fr) (G := G) (can := if alN (canF (mSet M 36 0) fr to) 4 = true then 1 else 0) hH.1.1 hH.1.2.1 e36 (fun t ht => by
      rcases hH.2.2.2.1.1 t ht with ⟨c1, _⟩ | ⟨p, hp, c1, _⟩
      · exact Or.inl c1
      · obtain ⟨pv, hpv, hprs, _⟩ := hH.pres hp
        exact Or.inr ⟨p, pv, c1, by omega, hpv, hprs⟩) hfr hto (hadF_lt _ _) hGb2
    rw [hmany] at e6
    have eA : mtA (fr : Int) (to : Int) 0 M = mtQ (fr : Int) (to : Int) (hadF (mSet M 36 0) fr : Int) (if alN (canF (mSet M 36 0) fr to) 4 = true then 1 else 0) (many : Int) M6 := by
      unfold mtA
      rw [bnd_eq, bnd_eq, mtE_ hfr hto e36 ⟨r2, r3⟩ p3 (fun t ht => h0.pg ht), e6]
    have m36 : M6.1 36 = 0 := (o6.1 36 (by decide)).trans e36
    have m8 : M6.1 8 = (nv : Int) := (o6.1 8 (by decide)).trans hH.1.1.1
    have sc6 : ScO M M6 := (sc36 M 0).tr (scMO o6 (fun k z => by omega) (fun k z => by omega))
    have hal : alN (canF (mSet M 36 0) fr to) 4 = true ↔ ((∀ k, k < 4 → (mSet M 36 0).2 6 (4 * to + k) = -1) ∧ (∀ i, i < 24 → i / 4 = fr → decide ((mSet M 36 0).2 3 i ≤ (mSet M 36 0).1 2) = true) ∧ (∀ i, i < 24 → i / 4 = to → decide ((mSet M 36 0).2 3 i ≤ (mSet M 36 0).1 2) = true)) := by
      rw [alN_iff]
      constructor
      · intro z
        have z' : ∀ k, k < 4 → (mSet M 36 0).2 6 (4 * to + k) = -1 ∧ decide ((mSet M 36 0).2 3 (4 * fr + k) ≤ (mSet M 36 0).1 2) = true ∧ decide ((mSet M 36 0).2 3 (4 * to + k) ≤ (mSet M 36 0).1 2) = true := fun k hk => by
          have y := z k hk
          unfold canF at y
          rw [Bool.and_eq_true, Bool.and_eq_true] at y
          exact ⟨of_decide_eq_true y.1, y.2.1, y.2.2⟩
        refine ⟨fun k hk => (z' k hk).1, fun i hi he => ?_, fun i hi he => ?_⟩
        · have y := (z' (i % 4) (by omega)).2.1
          rw [show 4 * fr + i % 4 = i by omega] at y
          exact y
        · have y := (z' (i % 4) (by omega)).2.2
          rw [show 4 * to + i % 4 = i by omega] at y
          exact y
      · rintro ⟨z1, z2, z3⟩ k hk
        unfold canF
        rw [decide_eq_true (z1 k hk), z2 (4 * fr + k) (by omega) (by omega), z3 (4 * to + k) (by omega) (by omega)]
        rfl
    have c1407 : cI C 1407 b = (nv : Int) := hH.1.2.2
    have hX1 : fX11_moveTree b (fr : Int) (to : Int) C = (if w32 (G : Int) = 0 then
some (.inr 1, cBump C)
else
if ¬ w32 (T : Int) = 0 then
some (.inr 1, cBump C)
else
cal (fX11_mayActInTree b (fr : Int) C) fun (r8 : Int) (C7 : Cd) =>
if w32 r8 = 0 then
some (.inr 1, cBump C7)
else
if isO C7 b 14 then cal (fX11_mayActInTree b (to : Int) C7) fun (r10 : Int) (C9 : Cd) =>
if w32 r10 = 0 then
some (.inr 1, cBump C9)
else
if isO C9 b 14 then
if w32 ((cI C9 1407 b) + (many : Int)) ≤ w32 120 then
c0K b (fr : Int) (to : Int) (G : Int) (many : Int) C9
else
some (.inr 1, cBump C9)
else none
else none) := by
      unfold fX11_moveTree
      rw [bnd_eq, wx, wy, w6, if_neg (by omega), if_neg (by omega), if_neg (by omega), if_pos (by omega), if_pos hL.o, cal_of eG, if_pos hL.o, cal_of eLd, bnd_eq]
      by_cases c1 : w32 (G : Int) = 0
      · rw [if_pos c1, if_pos c1]
      · rw [if_neg c1, if_neg c1, if_pos hL.o, cal_of eT]
        by_cases c2 : ¬ w32 (T : Int) = 0
        · rw [if_pos c2, if_pos c2]
        · rw [if_neg c2, if_neg c2, if_pos hL.o]
          rfl
    rw [eY, eA]
    have wG : w32 (G : Int) = (G : Int) := w32_n (by omega)
    have wT : w32 (T : Int) = (T : Int) := w32_n (by omega)
    have no : ∀ {X : Option ((Int ⊕ Nat) × Cd)}, X = some (.inr 1, cBump C) → ((if alN (canF (mSet M 36 0) fr to) 4 = true then (1 : Int) else 0) = 0 ∨ hadF (mSet M 36 0) fr = 0 ∨ 120 < nv + many) → CallE b kc C cd2 X (mtQ (fr : Int) (to : Int) (hadF (mSet M 36 0) fr : Int) (if alN (canF (mSet M 36 0) fr to) 4 = true then 1 else 0) (many : Int) M6) := fun {X} hX ho => by
      have e := mtQ_no (fr := fr) (to := to) (had := hadF (mSet M 36 0) fr) (many := many) (nv := nv) (can := if alN (canF (mSet M 36 0) fr to) 4 = true then 1 else 0) m36 m8 n120.1 hmn (hadF_lt _ _) (by
        by_cases c : alN (canF (mSet M 36 0) fr to) 4 = true
        · rw [if_pos c]; exact Or.inr rfl
        · rw [if_neg c]; exact Or.inl rfl) ho
      exact h.exc (e := 1) hX e (sc6.tr (sc36 M6 2)) (mS1 _ _ _) (by decide)
    have canN : ¬ alN (canF (mSet M 36 0) fr to) 4 = true → (if alN (canF (mSet M 36 0) fr to) 4 = true then (1 : Int) else 0) = 0 := fun z => if_neg z
    by_cases g0 : G = 0
    · exact no (by rw [hX1, if_pos (by rw [wG, g0]; rfl)]) (Or.inr (Or.inl (hH0.mpr (hG0.mp g0))))
    · rw [if_neg (by rw [wG]; omega)] at hX1
      by_cases t0 : T = 0
      · rw [if_neg (fun z => z (by rw [wT, t0]; rfl))] at hX1
        rcases mF with ⟨eF, qF⟩ | ⟨eF, qF⟩
        · rw [cal_of eF, if_neg (by decide), if_pos hL.o] at hX1
          rcases mT with ⟨eT2, qT⟩ | ⟨eT2, qT⟩
          · rw [cal_of eT2, if_neg (by decide), if_pos hL.o, c1407, show (nv : Int) + (many : Int) = ((nv + many : Nat) : Int) by omega] at hX1
            by_cases hc : nv + many ≤ 120
            · -- all is well
              rw [if_pos (by rw [w32_n (by omega), show w32 120 = 120 from rfl]; omega)] at hX1
              have ha : alN (canF (mSet M 36 0) fr to) 4 = true := hal.mpr ⟨hT0.mp t0, qF, qT⟩
              have hn0 : hadF (mSet M 36 0) fr ≠ 0 := fun z => g0 (hG0.mpr (hH0.mp z))
              have hne : fr ≠ to := fun z => g0 (hG0.mpr (by rw [z]; exact hT0.mp t0))
              rw [if_pos ha, mtQ_yes m36 m8 hc hn0 (hadF_lt _ _)]
              have h66 : M6.2 6 = (mSet M 36 0).2 6 := o6.2 6 (by decide)
              have sc7 : ScO (mSet M 36 0) (mSet M6 36 0) := (scMO o6 (fun k z => by omega) (fun k z => by omega)).tr (sc36 M6 0)
              have hq7 : RQ no0 b (mSet M6 36 0) C VA PA LE AA nv np na := hq3.quiet (Fp.rf W (S := fun _ _ _ => False)) (fun _ _ _ z => z.elim) (fun _ _ _ _ z => z.elim) h.1 sc7
              have hB7 : RB kc (mSet M6 36 0) := by
                obtain ⟨⟨b1, b2⟩, b3, b4, b5⟩ := hB3
                unfold RB
                rw [sc7.1 5 (by decide), sc7.1 13 (by decide), sc7.1 22 (by decide)]
                exact ⟨⟨b1, b2⟩, b3, b4, b5⟩
              have had7 : hadF (mSet M6 36 0) fr = hadF (mSet M 36 0) fr := by unfold hadF; rw [show (mSet M6 36 0).2 6 = (mSet M 36 0).2 6 from h66]
              have le7 : cnt (leF (mSet M6 36 0) nv G) 24 = many := by
                rw [← hmany]
                refine cnt_congr (fun s _ => ?_)
                unfold leF
                rw [show (mSet M6 36 0).2 6 = (mSet M 36 0).2 6 from h66, lpF_same (M := mSet M 36 0) (M' := mSet M6 36 0) (fun q hq' => o6.2 q (by omega))]
              obtain ⟨M', C', eM, eC, hr, r36, ff, s, l⟩ := hq7.treed (M0 := M6) (r4 := (many : Int)) (many := (many : Int)) hB7 hk5 rfl hfr hto hne hG24 (fun i hi => by rw [show (mSet M6 36 0).2 6 = (mSet M 36 0).2 6 from h66]; exact hGb i hi) (fun k hk => by rw [show (mSet M6 36 0).2 6 = (mSet M 36 0).2 6 from h66]; exact hT0.mp t0 k hk) (by rw [le7]; exact hc)
              rw [had7] at eM
              exact ⟨M', C', _, eM, hr, RmL.fr hz ff (by omega) (by omega), Or.inl ⟨hX1.trans eC, r36⟩⟩
            · rw [if_neg (by rw [w32_n (by omega), show w32 120 = 120 from rfl]; omega)] at hX1
              exact no hX1 (Or.inr (Or.inr (by omega)))
          · rw [cal_of eT2, if_pos (by decide)] at hX1
            exact no hX1 (Or.inl (canN (fun z => qT (hal.mp z).2.2)))
        · rw [cal_of eF, if_pos (by decide)] at hX1
          exact no hX1 (Or.inl (canN (fun z => qF (hal.mp z).2.1)))
      · rw [if_pos (by rw [wT]; omega)] at hX1
        exact no hX1 (Or.inl (canN (fun z => t0 (hT0.mpr (hal.mp z).1))))
  · exact bad hxy
end MTT
