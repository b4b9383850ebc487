/-! A PAGE BROUGHT OVER, in both -/
section BRM
variable {b kc : Nat} {M M' M1 M2 : Md} {C C' : Cd} {P : Nat → Prop} {S : Nat → Nat → Nat → Prop} {VA PA LE AA : Nat → Nat} {nv np na : Nat}
/-- the high part, where titles change their pages -/
theorem RH.lowD (h : RH b M C VA PA LE AA nv np na) (W : Wf C) (hL : Lay b C) (f : Fp S C C') (hs : ∀ q k a, S q k a → a < b + 854) (vs1 : ∀ j, (j = 7 ∨ j = 8 ∨ j = 13) → M'.1 j = M.1 j) (vs2 : ∀ k, ((9 ≤ k ∧ k ≤ 12) ∨ (14 ≤ k ∧ k ≤ 16)) → M'.2 k = M.2 k) (h5 : M.1 5 ≤ M'.1 5) (s1 : ¬ S 0 1407 b)
   (hd : (∀ t, t < 24 → (M'.2 6 t = -1 ∧ cR C' 1203 (b + 13 + 6 * t) = none) ∨ ∃ p, p < np ∧ M'.2 6 t = (p : Int) ∧ cR C' 1203 (b + 13 + 6 * t) = some (PA p)) ∧ ∀ t t', t < 24 → t' < 24 → M'.2 6 t = M'.2 6 t' → M'.2 6 t = -1 ∨ t = t') : RH b M' C' VA PA LE AA nv np na := by
  obtain ⟨⟨a1, a2, a3⟩, ⟨b1, b2, b3⟩, ⟨c1, c2, c3⟩, ⟨d1, d2⟩, e1, f1, g1⟩ := h
  have hz := hL.sz
  have lo : ∀ {q k a : Nat}, b + 854 ≤ a → ¬ S q k a := fun hb z => by have := hs _ _ _ z; omega
  have te : TmE M M' nv := fun v hv => ⟨by rw [vs2 11 (by decide)], by rw [vs2 12 (by decide)]⟩
  have eo : ∀ p : Int, onp M' p = onp M p := fun p => by funext v; unfold onp; rw [vs2 12 (by decide)]
  have ea : ∀ p : Int, ∀ n, aRef M' AA p n = aRef M AA p n := fun p n => aRef_congr n (fun k _ => by rw [vs2 14 (by decide)])
  refine ⟨⟨?_, fun v hv => ?_, (f.fI (by omega) s1).trans a3⟩, ⟨(vs1 7 (by decide)).trans b1, b2, fun v hv => by rw [vs2 12 (by decide)]; exact b3 v hv⟩, ⟨(vs1 13 (by decide)).trans c1, c2, fun k hk => ?_⟩, hd, fun v hv => ?_, fun p hp => ?_, fun k hk => ?_⟩
  · unfold VI at a1 ⊢
    rw [vs1 8 (by decide), vs2 10 (by decide), vs2 11 (by decide), vs2 12 (by decide)]
    exact a1
  · unfold tx tl
    rw [vs2 9 (by decide), vs2 10 (by decide)]
    exact a2 v hv
  · obtain ⟨x1, x2, x3⟩ := c3 k hk
    rw [vs2 14 (by decide), vs2 15 (by decide), vs2 16 (by decide)]
    exact ⟨x1, ⟨x2.1, Int.le_trans x2.2 h5⟩, x3⟩
  · obtain ⟨x1, x2⟩ := e1 v hv
    have et : tx M' v = tx M v := by funext k; unfold tx; rw [vs2 9 (by decide)]
    have el : tl M' v = tl M v := by unfold tl; rw [vs2 10 (by decide)]
    rw [vs2 11 (by decide), et, el]
    exact ⟨x1.fp W f (lo x2) (lo x2) (lo x2) (lo (by omega)) (lo (by omega)) (lo (by omega)) (lo (by omega)) (lo (by omega)), x2⟩
  · obtain ⟨x1, ⟨x2, x3, x4⟩, x5, x6, x7, x8⟩ := f1 p hp
    rw [eo, vsl_e te _ nv (Nat.le_refl _), prs_e te _ nv (Nat.le_refl _), ea]
    have z0 := W _ x2.1
    exact ⟨x1, ⟨f.ob W x2, (f.fR z0 (lo x7)).trans x3, x4.fp W f (lo (by omega)) (lo (by omega)) (lo x8)⟩, (f.fR z0 (lo x7)).trans x5, (f.fR z0 (lo x7)).trans x6, x7, x8⟩
  · obtain ⟨x1, x2, x3, x4, x5⟩ := g1 k hk
    have z0 := W _ x1.1
    rw [vs2 14 (by decide), vs2 15 (by decide), vs2 16 (by decide), ea]
    exact ⟨f.ob W x1, (f.fI z0 (lo x5)).trans x2, (f.fR z0 (lo x5)).trans x3, (f.fR z0 (lo x5)).trans x4, x5⟩
/-- a rendering dropped, in the reference -/
def DrM (M M1 : Md) (u ct : Nat) : Prop := (∀ j, j ≠ 22 → M1.1 j = M.1 j) ∧ (M.1 22 ≤ M1.1 22 ∧ M1.1 22 ≤ M.1 22 + 8) ∧ (∀ k, k ≠ 24 → k ≠ 27 → k ≠ 32 → M1.2 k = M.2 k) ∧ (∀ c, c < 8 → (ct.testBit c = true → M.1 22 < M1.2 24 c ∧ M1.2 24 c ≤ M1.1 22) ∧ (¬ ct.testBit c = true → M1.2 24 c = M.2 24 c)) ∧ (M1.2 27 u = 0 ∧ M1.2 32 u = 0) ∧ ∀ s, s ≠ u → M1.2 27 s = M.2 27 s ∧ M1.2 32 s = M.2 32 s
theorem X12_dropM_ {u : Nat} {r : List Int} {lk ct rd cd us : Nat} (hu : u < 24) (h : RGx P b M C u r lk ct rd cd us) : ∃ M1, fX12_dropRendering (u : Int) M = some ((), M1) ∧ DrM M M1 u ct := by
  have hct := h.cd_.1.2
  rcases h.1.2 with z | z
  · have e : ct = 0 := (h.2.2.2.2.2.2 z).2.2.1
    have h32 := h.2.2.2.2.1
    refine ⟨M, X12_drop_0 hu z, fun _ _ => rfl, ⟨Int.le_refl _, by omega⟩, fun _ _ _ _ => rfl, fun c _ => ⟨fun y => ?_, fun _ => rfl⟩, ⟨z, by rw [h32, e]; rfl⟩, fun _ _ => ⟨rfl, rfl⟩⟩
    rw [e, Nat.zero_testBit] at y
    exact absurd y (by decide)
  · obtain ⟨M1, e1, ⟨c1, c2, c3, c4⟩, k1, k2, k3⟩ := X12_drop_ hu z hct h.2.2.2.2.1
    have p22 : (mPut M 27 u 0).1 22 = M.1 22 := rfl
    rw [p22] at c2 c3
    refine ⟨M1, e1, fun j hj => c1 j hj, ⟨c2, by omega⟩, fun k q1 q2 q3 => (k1 k q1 q3).trans (mPut_ne M _ _ q2), fun c hc => ?_, ⟨by rw [k1 27 (by decide) (by decide)]; exact p2_1 _ _ _ _, k2⟩, fun s hs => ⟨by rw [k1 27 (by decide) (by decide)]; exact p2_2 (k := 27) (k' := 27) M _ (Or.inr hs), k3 s hs⟩⟩
    have y := c4 c hc
    rw [p22, show (mPut M 27 u 0).2 24 = M.2 24 from mPut_ne M _ _ (by decide), Nat.zero_testBit] at y
    by_cases w : ct.testBit c = true
    · rw [if_pos ⟨hc, by rw [w]; decide⟩] at y
      exact ⟨fun _ => y, fun q => absurd w q⟩
    · rw [if_neg (fun q => w (by
        cases hb : ct.testBit c
        · exact absurd hb q.2
        · rfl))] at y
      exact ⟨fun q => absurd q w, fun _ => y⟩
theorem meets {x y : Nat} (hx : x < 256) : (x &&& y ≠ 0) ↔ ∃ c, c < 8 ∧ y.testBit c = true ∧ x.testBit c = true := by
  have e := met (a := x) (x := y) (y := 0) hx
  rw [Nat.xor_zero] at e
  rw [e]
  constructor
  · rintro ⟨c, h1, h2, h3⟩
    refine ⟨c, h1, ?_, h2⟩
    rw [Nat.zero_testBit] at h3
    cases hb : y.testBit c
    · exact absurd hb h3
    · rfl
  · rintro ⟨c, h1, h2, h3⟩
    exact ⟨c, h1, h3, by rw [h2, Nat.zero_testBit]; decide⟩
theorem RQ.bring (h : RQ P b M C VA PA LE AA nv np na) {u w p : Nat} (hu : u < 24) (hw : w < 24) (hp : M.2 6 u = (p : Int)) (hw6 : M.2 6 w = -1) (hPu : ¬ P u) (hPw : ¬ P w) :
   ∃ M1 C', fX12_dropRendering (u : Int) M = some ((), M1) ∧ fX11_bringOver b (u : Int) (w : Int) C = some (.inl (), C') ∧ ((∀ j, j ≠ 22 → M1.1 j = M.1 j) ∧ (M.1 22 ≤ M1.1 22 ∧ M1.1 22 ≤ M.1 22 + 8) ∧ ∀ k, k ≠ 24 → k ≠ 27 → k ≠ 32 → M1.2 k = M.2 k) ∧
    (∀ M2 : Md, M2.1 = M1.1 → (∀ k, k ≠ 6 → M2.2 k = M1.2 k) → (∀ s, s < 24 → M2.2 6 s = if s = w then (p : Int) else if s = u then -1 else M.2 6 s) → RQ (fun s => P s ∨ (s = u ∨ s = w)) b M2 C' VA PA LE AA nv np na) ∧ csz C' = csz C ∧ csl C' = csl C ∧ Fp (sBo b u w) C C' := by
  obtain ⟨h1, h2, h3, h5', h6', h7, h8, h9⟩ := h
  have hL := h1.1
  have W := hL.W
  have hz := hL.sz
  have huw : u ≠ w := fun e => by rw [e, hw6] at hp; omega
  obtain ⟨lk, ct, rd, cd, us, hgs⟩ := h9.sets
  obtain ⟨ru, hru⟩ := hgs u hu
  obtain ⟨M1, eM, dm⟩ := X12_dropM_ hu hru
  have hpr : ∃ p', p' < np ∧ M.2 6 u = (p' : Int) ∧ cR C 1203 (b + 13 + 6 * u) = some (PA p') := by
    rcases h7.2.2.2.1.1 u hu with z | z
    · rw [z.1] at hp; omega
    · exact z
  obtain ⟨p', hp1, hp2, hp3⟩ := hpr
  have ep : p' = p := by omega
  subst ep
  obtain ⟨C', eC, f, s1, l1, r1, r2, rw1, v1, n1⟩ := X11_bringOver_ hL hu hw huw hp3 (ct := ct) (rd := rd) (cd := cd) (fun j hj => by obtain ⟨r, hr⟩ := hgs j hj; exact hr.cd_.1) (fun j hj => by obtain ⟨r, hr⟩ := hgs j hj; exact hr.cd_.2.1) (fun j hj => by obtain ⟨r, hr⟩ := hgs j hj; exact hr.cd_.2.2)
  obtain ⟨d1, d2, d3, d4, d5, d6⟩ := dm
  refine ⟨M1, C', eM, eC, ⟨d1, d2, d3⟩, fun M2 e1 e2 e6 => ?_, s1, l1, f⟩
  have sl : ∀ {q k a : Nat}, sBo b u w q k a → (q = 1 ∧ k = 1203 ∧ (a = b + 13 + 6 * u ∨ a = b + 13 + 6 * w)) ∨ (q = 0 ∧ (701 ≤ k ∧ k ≤ 707) ∧ a = b + 13 + 6 * u + 1) ∨ (q = 0 ∧ (k = 801 ∨ k = 802) ∧ a = b + 13 + 6 * u + 2) ∨ (q = 2 ∧ a = b + 13 + 6 * u + 2 + 1) ∨ (q = 0 ∧ k = 702 ∧ a < b + 157) := fun z => by
    rcases z with z | z | ⟨z1, z2, x, z3, z4⟩
    · exact Or.inl z
    · unfold sTk sRow at z; omega
    · exact Or.inr (Or.inr (Or.inr (Or.inr ⟨z1, z2, by omega⟩)))
  have hC : CorS b (sBo b u w) := fun q k a z => by have := sl z; omega
  have g1 : ∀ j, j ≠ 22 → M2.1 j = M.1 j := fun j hj => by rw [e1]; exact d1 j hj
  have g2 : ∀ k, k ≠ 6 → k ≠ 24 → k ≠ 27 → k ≠ 32 → M2.2 k = M.2 k := fun k q1 q2 q3 q4 => (e2 k q1).trans (d3 k q2 q3 q4)
  have g22 : M2.1 22 = M1.1 22 := by rw [e1]
  obtain ⟨k1, k2, k3, k4, k5⟩ := RQ.core (M' := M2) h1 h2 h3 h5' h6' f hC (fun j hj => g1 j (by omega)) (fun k hk => g2 k (by omega) (by omega) (by omega) (by omega))
  have t6 := fun s (hs : s < 24) => h7.t6 hs
  have inj := h7.2.2.2.1.2
  have cR0 : ∀ s, s < 24 → s ≠ u → s ≠ w → cR C' 1203 (b + 13 + 6 * s) = cR C 1203 (b + 13 + 6 * s) := fun s hs q1 q2 => f.fR (by omega) (fun z => by have := sl z; omega)
  have kH : RH b M2 C' VA PA LE AA nv np na := h7.lowD W hL f (fun q k a z => by have := sl z; omega) (fun j hj => g1 j (by omega)) (fun k hk => g2 k (by omega) (by omega) (by omega) (by omega)) (Int.le_of_eq (g1 5 (by decide)).symm) (fun z => by have := sl z; omega) ⟨fun s hs => by
      rw [e6 s hs]
      by_cases q1 : s = w
      · rw [if_pos q1, q1]; exact Or.inr ⟨p', hp1, rfl, r1⟩
      · rw [if_neg q1]
        by_cases q2 : s = u
        · rw [if_pos q2, q2]; exact Or.inl ⟨rfl, r2⟩
        · rw [if_neg q2, cR0 s hs q2 q1]; exact h7.2.2.2.1.1 s hs, fun s s' hs hs' e => by
      rw [e6 s hs, e6 s' hs'] at e
      rw [e6 s hs]
      by_cases q1 : s = w
      · rw [if_pos q1] at e ⊢
        by_cases q1' : s' = w
        · exact Or.inr (q1.trans q1'.symm)
        · rw [if_neg q1'] at e
          by_cases q2' : s' = u
          · rw [if_pos q2'] at e; omega
          · rw [if_neg q2'] at e
            rcases inj s' u hs' hu (by omega) with z | z
            · omega
            · exact absurd z q2'
      · rw [if_neg q1] at e ⊢
        by_cases q2 : s = u
        · rw [if_pos q2]; exact Or.inl rfl
        · rw [if_neg q2] at e ⊢
          by_cases q1' : s' = w
          · rw [if_pos q1'] at e
            rcases inj s u hs hu (by omega) with z | z
            · exact Or.inl z
            · exact absurd z q2
          · rw [if_neg q1'] at e
            by_cases q2' : s' = u
            · rw [if_pos q2'] at e; exact Or.inl e
            · rw [if_neg q2'] at e; exact inj s s' hs hs' e⟩
  have te : TmE M M2 nv := fun v hv => ⟨by rw [g2 11 (by decide) (by decide) (by decide) (by decide)], by rw [g2 12 (by decide) (by decide) (by decide) (by decide)]⟩
  have ep : ∀ s, s < 24 → prAt M2 nv s = if s = w then prs M (p' : Int) nv else if s = u then -1 else prAt M nv s := fun s hs => by
    unfold prAt
    rw [e6 s hs]
    by_cases q1 : s = w
    · rw [if_pos q1, if_pos q1, if_neg (by omega), prs_e te _ nv (Nat.le_refl _)]
    · rw [if_neg q1, if_neg q1]
      by_cases q2 : s = u
      · rw [if_pos q2, if_pos q2, if_pos rfl]
      · rw [if_neg q2, if_neg q2, prs_e te _ nv (Nat.le_refl _)]
  obtain ⟨pv, hpv, hprs, _, _⟩ := h7.pres hp1
  refine ⟨k1, k2, k3, k4, k5, kH, ⟨fun s hs => ?_, fun k hk => ?_, fun k hk => ?_, fun k hk => ?_, fun k hk => ?_⟩, fun s hs => ?_⟩
  · obtain ⟨y1, y2, y3⟩ := h8.1 s hs
    rw [g2 26 (by decide) (by decide) (by decide) (by decide), ep s hs]
    refine ⟨y1, fun z => ?_, fun z => ?_⟩
    · by_cases q1 : s = w
      · have y4 := y3 (by rw [q1]; exact hPw)
        unfold prAt at y4
        rw [q1, if_pos hw6] at y4
        rw [if_pos q1, q1, y4, hprs]; omega
      · rw [if_neg q1]
        by_cases q2 : s = u
        · have y4 := y3 (by rw [q2]; exact hPu)
          unfold prAt at y4
          rw [q2, if_neg (by omega), hp, hprs] at y4
          rw [if_pos q2, q2, y4]; omega
        · rw [if_neg q2]
          rcases z with z | z | z
          · exact y2 z
          · exact absurd z q2
          · exact absurd z q1
    · rw [if_neg (fun q => z (Or.inr (Or.inr q))), if_neg (fun q => z (Or.inr (Or.inl q)))]
      exact y3 (fun q => z (Or.inl q))
  · rw [g2 23 (by decide) (by decide) (by decide) (by decide), g22]; have := h8.2.1 k hk; omega
  · rw [e2 24 (by decide), g22]
    have y := h8.2.2.1 k hk
    rcases Classical.em ((ct u).testBit k = true) with z | z
    · have := (d4 k hk).1 z; omega
    · rw [(d4 k hk).2 z]; omega
  · rw [g2 25 (by decide) (by decide) (by decide) (by decide), g22]; have := h8.2.2.2.1 k hk; omega
  · rw [g2 28 (by decide) (by decide) (by decide) (by decide), g22]; have := h8.2.2.2.2 k hk; omega
  · by_cases q2 : s = u
    · subst q2
      refine ⟨[], 0, 0, 0, 0, 0, ⟨?_, Or.inl ?_⟩, ?_, rw1, ⟨⟨v1 703 (by decide) (by decide) (by decide), by decide⟩, ⟨v1 704 (by decide) (by decide) (by decide), by decide⟩, ⟨v1 705 (by decide) (by decide) (by decide), by decide⟩, ⟨v1 706 (by decide) (by decide) (by decide), by decide⟩, v1 707 (by decide) (by decide) (by decide), by decide⟩, ?_, fun z => ?_, fun _ => ⟨rfl, rfl, rfl, rfl, rfl, rfl⟩⟩
      · rw [v1 701 (by decide) (by decide) (by decide), e2 27 (by decide)]; exact d5.1.symm
      · rw [e2 27 (by decide)]; exact d5.1
      · rw [n1 s hs, if_pos (Or.inl rfl)]; exact Or.inr rfl
      · rw [e2 32 (by decide)]; exact d5.2
      · rw [e2 27 (by decide), d5.1] at z; exact absurd z (by decide)
    · obtain ⟨r, hr⟩ := hgs s hs
      have cds := hr.cd_
      refine ⟨r, lk s, ct s, rd s, cd s, us s, hr.more (D := fun s => s = u ∨ s = w) hs h8 (fun c => (ct u).testBit c = true) (fun k hk => ?_) (g2 29 (by decide) (by decide) (by decide) (by decide)) (g2 23 (by decide) (by decide) (by decide) (by decide)) (g2 25 (by decide) (by decide) (by decide) (by decide)) (fun z => ?_) (fun c hc => ?_) (fun k z1 z2 z3 => ?_) (fun z => ?_) (fun z => ?_) (fun z => ?_)⟩
      · by_cases z27 : k = 27
        · rw [z27, e2 27 (by decide)]; exact (d6 s q2).1
        · by_cases z32 : k = 32
          · rw [z32, e2 32 (by decide)]; exact (d6 s q2).2
          · rw [g2 k (by omega) (by omega) z27 z32]
      · rw [e6 s hs]
        by_cases q1 : s = w
        · rw [if_pos q1]; omega
        · rw [if_neg q1, if_neg q2]; exact z
      · rw [e2 24 (by decide)]
        exact ⟨fun z => ((d4 c hc).1 z).1, (d4 c hc).2⟩
      · exact f.fI (by omega) (fun z => by have := sl z; omega)
      · exact z.fp W f (fun z => by have := sl z; omega) (fun z => by have := sl z; omega) (fun z => by have := sl z; omega) (fun z => by have := sl z; omega)
      · rw [n1 s hs]
        rcases z with z | ⟨k, z1, z2, z3⟩ | z
        · rw [if_pos (by
            rcases z with z | z
            · exact Or.inl z
            · exact Or.inr (Or.inl z))]
        · rw [if_pos (by
            rcases z2 with z | z
            · rw [z] at z3; exact Or.inr (Or.inr (Or.inl z3))
            · rw [z] at z3; exact Or.inr (Or.inr (Or.inr (Or.inl z3))))]
        · rw [if_pos (Or.inr (Or.inr (Or.inr (Or.inr ((meets cds.2.2.2).mpr z)))))]
      · rw [n1 s hs, if_neg (fun y => z (by
          rcases y with y | y | y | y | y
          · exact Or.inl (Or.inl y)
          · exact Or.inl (Or.inr y)
          · exact Or.inr (Or.inl ⟨u, hu, Or.inl rfl, y⟩)
          · exact Or.inr (Or.inl ⟨w, hw, Or.inr rfl, y⟩)
          · exact Or.inr (Or.inr ((meets cds.2.2.2).mp y))))]
end BRM
