/-! LONELY TITLES, both sides; the call odd -/
section LON2
variable {b kc : Nat} {M M' : Md} {C C' : Cd} {lk : Nat → Nat} {G : Nat → Int}
theorem X12_odd_0 {x : Int} (hx : w32 x = 0) (h0 : ScW M (mSet M 36 0)) (h : ∀ t, t < 24 → lk t < 16777216 ∧ ((M.2 27 t = 0 ∧ lk t = 0) ∨ (M.2 27 t = 1 ∧ M.2 31 t = (lk t : Int)))) (hG : ∀ t, t < 24 → (G t = -1 ∨ (0 ≤ G t ∧ G t < 24))) (gM : ∀ M1, ScW M M1 → ∀ t : Nat, t < 24 → ∃ M2, fX12_leadsTo (t : Int) M1 = some (G t, M2) ∧ ScW M M2 ∧ M2.1 36 = M1.1 36) :
   ∃ M2, fX12_odd x M = some ((bitsN (fun t => decide (G t = (t : Int)) && !anyN (lkF lk G t) 24) 24 : Int), M2) ∧ ScW M M2 := by
  unfold fX12_odd
  rw [bnd_eq, bnd_eq]
  refine lpn_rule (P := fun mm (L : Int → Int → Md → Option (Int × Md)) => ∀ (i : Nat) (M2 : Md), i ≤ 24 → 24 - i < mm → ScW M M2 → ∃ M3, L (bitsN (fun t => decide (G t = (t : Int)) && !anyN (lkF lk G t) 24) i : Int) (i : Int) M2 = some ((bitsN (fun t => decide (G t = (t : Int)) && !anyN (lkF lk G t) 24) 24 : Int), M3) ∧ ScW M M3) (fun i _ _ h => absurd h (Nat.not_lt_zero _)) (fun mm L hLL i M2 hi hm o2 => ?_) FU 0 (mSet M 36 0) (by decide) (by unfold FU; omega) h0
  rcases Nat.lt_or_ge i 24 with hlt | hge
  · have q := hLL (i + 1)
    rw [bitsN] at q
    have hb := bitsN_24 (fun t => decide (G t = (t : Int)) && !anyN (lkF lk G t) 24) hi
    obtain ⟨M3, e3, o3, z3⟩ := gM M2 o2 i hlt
    have hg := hG i hlt
    rw [if_neg (by rw [show w32 24 = 24 from rfl, w32_n (by omega)]; omega), bnd_eq, if_pos hx, cal_of e3, bnd_eq, bnd_eq, w32_of (x := G i) (by omega) (by omega)]
    by_cases ce : G i = (i : Int)
    · obtain ⟨M4, e4, o4, z4⟩ := X12_isLinked_ h hG gM hlt o3
      rw [if_neg (fun y => y (by rw [w32_n (by omega)]; exact ce)), cal_of e4, i01]
      by_cases ca : anyN (lkF lk G i) 24 = true
      · rw [if_pos ca, if_pos (by decide)]
        dsimp only
        rw [bnd_eq, if_pos (by decide)]
        dsimp only
        rw [bnd_eq, orI_0 (by omega)]
        rw [ca, Bool.not_true, Bool.and_false, ite_ff, Nat.or_zero] at q
        exact q M4 (by omega) (by omega) o4
      · rw [if_neg ca, if_neg (fun y => y rfl)]
        dsimp only
        rw [bnd_eq, if_neg (by decide)]
        dsimp only
        rw [bnd_eq, orI_set hb hlt]
        rw [eq_false_of_ne_true ca, Bool.not_false, Bool.and_true, decide_eq_true ce, ite_tt] at q
        exact q M4 (by omega) (by omega) o4
    · rw [if_pos (by rw [w32_n (by omega)]; exact ce)]
      dsimp only
      rw [bnd_eq, if_pos (by decide)]
      dsimp only
      rw [bnd_eq, orI_0 (by omega)]
      rw [decide_eq_false ce, Bool.false_and, ite_ff, Nat.or_zero] at q
      exact q M3 (by omega) (by omega) o3
  · have e : i = 24 := by omega
    subst e
    rw [if_pos (by decide)]
    exact ⟨M2, rfl, o2⟩
theorem X11_lonelyTitles_ (hL : Lay b C) (h : ∀ t, t < 24 → cI C 703 (b + 13 + 6 * t + 1) = (lk t : Int) ∧ lk t < 16777216) (hG : ∀ t, t < 24 → (G t = -1 ∨ (0 ≤ G t ∧ G t < 24))) (gC : ∀ C1, Fp (sWy b) C C1 → ∀ t : Nat, t < 24 → ∃ C2, fX1_goalOf (b + 1) (t : Int) (-1) C1 = some (G t, C2) ∧ Fp (sWy b) C C2 ∧ csz C2 = csz C1 ∧ csl C2 = csl C1)
   (hp : ∀ t : Nat, t < 24 → (G t ≠ (t : Int) ∧ cR C 1203 (b + 13 + 6 * t) = none) ∨ ∃ p a, cR C 1203 (b + 13 + 6 * t) = some p ∧ isO C p 6 ∧ cR C 601 p = some a ∧ isO C a 13 ∧ cR C 1302 a = some (a + 1) ∧ isO C (a + 1) 11 ∧ fX8_isRedirect (a + 1) C = some (if G t = (t : Int) then 0 else 1, C)) :
   ∃ C2, fX11_lonelyTitles b C = some ((bitsN (fun t => decide (G t = (t : Int)) && !anyN (clrF lk G t) 24) 24 : Int), C2) ∧ Fp (sWy b) C C2 ∧ csz C2 = csz C ∧ csl C2 = csl C := by
  have W := hL.W
  have hz := hL.sz
  unfold fX11_lonelyTitles
  rw [bnd_eq]
  refine lpn_rule (P := fun mm (L : Int → Int → Cd → Option (Int × Cd)) => ∀ i, i ≤ 24 → 24 - i < mm → ∃ C2, L (bitsN (fun t => decide (G t = (t : Int))) i : Int) (i : Int) C = some ((bitsN (fun t => decide (G t = (t : Int)) && !anyN (clrF lk G t) 24) 24 : Int), C2) ∧ Fp (sWy b) C C2 ∧ csz C2 = csz C ∧ csl C2 = csl C) (fun i _ h => absurd h (Nat.not_lt_zero _)) (fun mm L hLL i hi hm => ?_) FU 0 (by decide) (by unfold FU; omega)
  rw [if_pos hL.o, bnd_eq, hL.r1, drf_some, if_pos hL.ot, hL.nt]
  rcases Nat.lt_or_ge i 24 with hlt | hge
  · have q := hLL (i + 1) (by omega) (by omega)
    rw [bitsN] at q
    rw [if_neg (by rw [show w32 ((24 : Nat) : Int) = 24 from rfl, w32_n (by omega)]; omega), if_pos hL.o, bnd_eq, drf_some, hL.nt, if_pos ⟨hL.ot, inR_n hlt (by decide)⟩, bnd_eq, hL.tt hlt, drf_some, if_pos (hL.to hlt), bnd_eq, bnd_eq]
    rcases hp i hlt with ⟨p1, p2⟩ | ⟨p, a, p2, p3, p4, p5, p6, p7, p8⟩
    · rw [decide_eq_false p1, ite_ff, Nat.or_zero] at q
      rw [p2, opt_none]
      exact q
    · rw [p2, opt_some, if_pos hL.o, bnd_eq, drf_some, hL.nt, if_pos ⟨hL.ot, inR_n hlt (by decide)⟩, bnd_eq, hL.tt hlt, drf_some, if_pos (hL.to hlt), bnd_eq, p2, drf_some, if_pos p3, bnd_eq, p4, drf_some, if_pos p5, bnd_eq, p6, drf_some, if_pos p7, cal_of p8]
      by_cases ce : G i = (i : Int)
      · rw [decide_eq_true ce, ite_tt] at q
        rw [if_pos ce, if_neg (fun y => y (by decide)), bnd_eq, orI_set (bitsN_24 _ hi) hlt]
        exact q
      · rw [decide_eq_false ce, ite_ff, Nat.or_zero] at q
        rw [if_neg ce, if_pos (by decide)]
        exact q
  · have e : i = 24 := by omega
    subst e
    rw [if_pos (by decide), bnd_eq]
    refine lpn_rule (P := fun mm (L' : Int → Int → Cd → Option (Int × Cd)) => ∀ (j : Nat) (v : Int) (C1 : Cd), j ≤ 24 → 24 - j < mm → v = (bitsN (fun t => decide (G t = (t : Int)) && !anyN (clrF lk G t) j) 24 : Int) → Fp (sWy b) C C1 → csz C1 = csz C → csl C1 = csl C → ∃ C2, L' v (j : Int) C1 = some ((bitsN (fun t => decide (G t = (t : Int)) && !anyN (clrF lk G t) 24) 24 : Int), C2) ∧ Fp (sWy b) C C2 ∧ csz C2 = csz C ∧ csl C2 = csl C) (fun i _ _ _ h => absurd h (Nat.not_lt_zero _)) (fun mm' L' hL' j v C1 hj hm' hv f1 s1 l1 => ?_) FU 0 _ C (by decide) (by unfold FU; omega) (by
      have := bitsN_congr (f := fun t => decide (G t = (t : Int))) (g := fun t => decide (G t = (t : Int)) && !anyN (clrF lk G t) 0) 24 (fun k _ => by rw [show anyN (clrF lk G k) 0 = false from rfl, Bool.not_false, Bool.and_true])
      rw [this]) (Fp.rf W) rfl rfl
    have hL1 := hL.keep (f1.mono (fun _ _ _ _ z => z.mu))
    rw [if_pos hL1.o, bnd_eq, hL1.r1, drf_some, if_pos hL1.ot, hL1.nt]
    rcases Nat.lt_or_ge j 24 with hlt | hge
    · have q := hL' (j + 1)
      obtain ⟨C2, e2, f2, s2, l2⟩ := gC C1 f1 j hlt
      have hL2 := hL.keep (f2.mono (fun _ _ _ _ z => z.mu))
      have hg := hG j hlt
      rw [if_neg (by rw [show w32 ((24 : Nat) : Int) = 24 from rfl, w32_n (by omega)]; omega), if_pos hL1.o, bnd_eq, hL1.r0, drf_some, if_pos hL1.oe, cal_of e2, bnd_eq, w32_of (x := G j) (by omega) (by omega), show w32 (-1) = -1 from rfl]
      by_cases c1 : G j = -1
      · rw [if_pos c1]
        refine q v C2 (by omega) (by omega) ?_ f2 (s2.trans s1) (l2.trans l1)
        rw [hv, bitsN_congr (g := fun t => decide (G t = (t : Int)) && !anyN (clrF lk G t) (j + 1)) 24 (fun t _ => ?_)]
        rw [anyN, show clrF lk G t j = false by unfold clrF; rw [decide_eq_false (show ¬ G j = (t : Int) by omega), Bool.false_and], Bool.or_false]
      · obtain ⟨g, hgn⟩ : ∃ g : Nat, G j = (g : Int) := ⟨(G j).toNat, by omega⟩
        have hg24 : g < 24 := by omega
        have hlk := X11_linkingTo_ hL2 (lk := lk) (fun t ht => ⟨(f2.fI (by omega) (by unfold sWy; omega)).trans (h t ht).1, (h t ht).2⟩) hlt
        have b24 := bitsN_24 (fun t => (lk t).testBit j) (Nat.le_refl 24)
        have b24' := bitsN_24 (fun i => (lk i).testBit j && !decide (i = g)) (Nat.le_refl 24)
        rw [if_neg c1, if_pos hL2.o, cal_of hlk, hgn, two_N (by omega), clr_and (by omega), bits_clr _ hg24, w32_n (by omega)]
        have ecl : ∀ t, t < 24 → clrF lk G t j = (decide (t = g) && anyN (fun s => (lk s).testBit j && !decide (s = g)) 24) := by
          intro t ht
          unfold clrF
          by_cases ct : t = g
          · subst ct
            rw [decide_eq_true hgn, decide_eq_true (rfl : t = t), Bool.true_and, Bool.true_and]
            have ef : (fun s => decide (s ≠ t) && (lk s).testBit j) = fun s => (lk s).testBit j && !decide (s = t) := by
              funext s
              rw [Bool.and_comm]
              congr 1
              by_cases z : s = t
              · rw [decide_eq_true z, decide_eq_false (fun y => y z)]; rfl
              · rw [decide_eq_false z, decide_eq_true z]; rfl
            rw [ef]
          · rw [decide_eq_false (show ¬ G j = (t : Int) by omega), decide_eq_false ct, Bool.false_and, Bool.false_and]
        rcases bitsN_0 (fun i => (lk i).testBit j && !decide (i = g)) 24 with ⟨z1, z2⟩ | ⟨z1, z2⟩
        · rw [z2, if_pos (by decide)]
          refine q v C2 (by omega) (by omega) ?_ f2 (s2.trans s1) (l2.trans l1)
          rw [hv, bitsN_congr (g := fun t => decide (G t = (t : Int)) && !anyN (clrF lk G t) (j + 1)) 24 (fun t ht => ?_)]
          rw [anyN, ecl t ht, z1, Bool.and_false, Bool.or_false]
        · have b3 := bitsN_24 (fun t => decide (G t = (t : Int)) && !anyN (clrF lk G t) j) (Nat.le_refl 24)
          rw [if_neg (by omega), bnd_eq, hv, clr_and (by omega), bits_clr _ hg24]
          refine q _ C2 (by omega) (by omega) ?_ f2 (s2.trans s1) (l2.trans l1)
          rw [bitsN_congr (g := fun t => decide (G t = (t : Int)) && !anyN (clrF lk G t) (j + 1)) 24 (fun t ht => ?_)]
          rw [anyN, ecl t ht, z1, Bool.and_true, Bool.not_or, Bool.and_assoc]
    · have e : j = 24 := by omega
      subst e
      rw [if_pos (by decide), hv]
      exact ⟨C1, rfl, f1, s1, l1⟩
theorem call_odd (h : RR b kc M C) (hk : kc ≤ 10000) {x : Int} : CallP b kc C (fX11_odd b x C) (fX12_odd x M) := by
  have hL := h.1.1
  have W := hL.W
  obtain ⟨lk, ct, rd, cd, us, hg⟩ := h.sets
  have h703 : ∀ t, t < 24 → cI C 703 (b + 13 + 6 * t + 1) = (lk t : Int) ∧ lk t < 16777216 := fun t ht => by obtain ⟨r, q⟩ := hg t ht; exact q.2.2.2.1.1
  have hlk : ∀ t, t < 24 → lk t < 16777216 ∧ ((M.2 27 t = 0 ∧ lk t = 0) ∨ (M.2 27 t = 1 ∧ M.2 31 t = (lk t : Int))) := fun t ht => by
    obtain ⟨r, q1, q2, q3, q4, q5, q6, q7⟩ := hg t ht
    refine ⟨q4.1.2, ?_⟩
    rcases q1.2 with m | m
    · exact Or.inl ⟨m, (q7 m).2.1⟩
    · exact Or.inr ⟨m, (q6 m).2.1.1⟩
  by_cases hx : w32 x = 0
  · obtain ⟨E, G, VA, PA, LE, AA, nv, np, na, hH, hs, hE, hG, gC, gM⟩ := h.ways hk
    have hG1 : ∀ t, t < 24 → (G t = -1 ∨ (0 ≤ G t ∧ G t < 24)) := fun t ht => (hG t ht).1
    obtain ⟨M2, e2, o2⟩ := X12_odd_0 (M := M) (lk := lk) (G := G) hx (sc36w h 0) hlk hG1 gM
    obtain ⟨C2, e3, f3, s3, l3⟩ := X11_lonelyTitles_ hL h703 hG1 gC (fun t ht => by
      rcases hH.2.2.2.1.1 t ht with ⟨c1, c2⟩ | ⟨p, p1, p2, p3⟩
      · refine Or.inl ⟨fun z => ?_, c2⟩
        have z2 := ((hG t ht).2.1 z).1
        rw [hs] at z2
        unfold prAt at z2
        rw [if_pos c1] at z2
        exact z2 rfl
      · obtain ⟨v, v1, v2, v3, v4⟩ := hH.pres p1
        obtain ⟨w1, w2⟩ := hH.2.2.2.2.1 v v1
        have hT := w1.2.2.2.2
        have tl1 := (hH.1.1.2.2.2.2 v v1).1
        have htl := tl_eq hH.1.1 v1
        have hr := X8_isRedirect_ hT.1.1 (by omega)
        rw [hT.1.2 0 (by omega)] at hr
        have ev : eSn E t = (v : Int) := by
          rw [hs]
          unfold prAt
          rw [if_neg (by omega), p2]
          exact v2
        have hg2 := (hG t ht).2
        rw [ev, Int.toNat_natCast, show eTx E v 0 = tx M v 0 by show E.1 v 0 = _; rw [hE]] at hg2
        refine Or.inr ⟨PA p, VA v, p3, (hH.2.2.2.2.2.1 p p1).2.1.1, v4, w1.1, w1.2.2.2.1, hT.1.isO_, ?_⟩
        rw [hr]
        by_cases c : tx M v 0 / 1000 = 12
        · rw [if_pos c, if_neg (fun z => (hg2.1 z).2 c)]
        · rw [if_neg c, if_pos (hg2.2 ⟨by omega, c⟩)])
    rw [bitsN_congr (g := fun t => decide (G t = (t : Int)) && !anyN (lkF lk G t) 24) 24 (fun t _ => by rw [lon_eq])] at e3
    refine ⟨M2, C2, _, e2, h.quiet f3 sWy_qt sWy_hs (h.1.wy f3) o2.sc, RmL.of hL.sz f3 (fun _ _ => by unfold sWy; omega) (by omega) (by omega), ?_⟩
    unfold fX11_odd
    rw [bnd_eq, if_pos hx, if_pos hL.o, cal_of e3]
  · obtain ⟨VA, PA, LE, AA, nv, np, na, hH, hK⟩ := h.2.2.2.2.2.2.1
    obtain ⟨nv1, np1⟩ := hH.nv120
    have e2 := X12_odd_1 (M := M) (lk := lk) hx hlk (pg := fun t => !decide (M.2 6 t = -1)) (fun t ht => by
      have := hH.t6 ht
      refine ⟨⟨by omega, by omega⟩, ?_⟩
      by_cases c : M.2 6 t = -1
      · rw [decide_eq_true c]; exact ⟨fun _ => c, fun _ => rfl⟩
      · rw [decide_eq_false c]; exact ⟨fun z => absurd z (by decide), fun z => absurd z c⟩)
    have e3 := X11_wantedTitles_ hL h703 (pg := fun t => !decide (M.2 6 t = -1)) (fun t ht => by
      rcases hH.2.2.2.1.1 t ht with ⟨c1, c2⟩ | ⟨p, p1, p2, p3⟩
      · exact Or.inl ⟨by rw [decide_eq_true c1]; rfl, c2⟩
      · exact Or.inr ⟨by rw [decide_eq_false (by omega)]; rfl, _, p3⟩)
    refine ⟨mSet M 36 0, C, _, e2, h.nil (Fp.rf W) (sc36 M 0), RmL.of hL.sz (Fp.rf W) (S := fun _ _ _ => False) (fun _ _ z => z) (Nat.le_add_right _ _) (Nat.le_add_right _ _), ?_⟩
    unfold fX11_odd
    rw [bnd_eq, if_neg hx, if_pos hL.o, cal_of e3]
end LON2
