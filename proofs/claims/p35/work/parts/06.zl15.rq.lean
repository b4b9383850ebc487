/-! THE RELATION WHILE TITLES ARE UNSETTLED -/
section RQS
variable {b kc : Nat} {M M' M1 : Md} {C C' : Cd} {P : Nat → Prop} {VA PA LE AA : Nat → Nat} {nv np na : Nat}
/-- the ticks, where the titles in P are unsettled -/
def RKp (P : Nat → Prop) (M : Md) (nv : Nat) : Prop := (∀ t, t < 24 → (-1 ≤ M.2 26 t ∧ M.2 26 t < (nv : Int)) ∧ (P t → M.2 26 t ≠ prAt M nv t) ∧ (¬ P t → M.2 26 t = prAt M nv t)) ∧ (∀ k, k < 24 → 0 ≤ M.2 23 k ∧ M.2 23 k ≤ M.1 22) ∧ (∀ k, k < 8 → 0 ≤ M.2 24 k ∧ M.2 24 k ≤ M.1 22) ∧ (∀ k, k < 4 → 0 ≤ M.2 25 k ∧ M.2 25 k ≤ M.1 22) ∧ ∀ t, t < 24 → 0 ≤ M.2 28 t ∧ M.2 28 t ≤ M.1 22
/-- a rendering that is behind, or will be -/
def OldQ (P : Nat → Prop) (M : Md) (t rd cd us : Nat) : Prop := OldP M t rd cd us ∨ P t ∨ ∃ k, k < 24 ∧ P k ∧ rd.testBit k = true
def RGx (P : Nat → Prop) (b : Nat) (M : Md) (C : Cd) (t : Nat) (r : List Int) (lk ct rd cd us : Nat) : Prop :=
  (cI C 701 (b + 13 + 6 * t + 1) = M.2 27 t ∧ (M.2 27 t = 0 ∨ M.2 27 t = 1)) ∧ (cI C 702 (b + 13 + 6 * t + 1) = 0 ∨ cI C 702 (b + 13 + 6 * t + 1) = 1) ∧ RowV C (b + 13 + 6 * t + 2) r ∧
  ((cI C 703 (b + 13 + 6 * t + 1) = (lk : Int) ∧ lk < 16777216) ∧ (cI C 704 (b + 13 + 6 * t + 1) = (ct : Int) ∧ ct < 256) ∧ (cI C 705 (b + 13 + 6 * t + 1) = (rd : Int) ∧ rd < 16777216) ∧ (cI C 706 (b + 13 + 6 * t + 1) = (cd : Int) ∧ cd < 256) ∧ (cI C 707 (b + 13 + 6 * t + 1) = (us : Int) ∧ us < 16)) ∧
  M.2 32 t = (ct : Int) ∧
  (M.2 27 t = 1 → (M.2 30 t = (r.length : Int) ∧ ∀ k, k < r.length → M.2 29 (150 * t + k) = r.getD k 0) ∧ (M.2 31 t = (lk : Int) ∧ M.2 33 t = (rd : Int) ∧ M.2 34 t = (cd : Int) ∧ M.2 35 t = (us : Int)) ∧ (cI C 702 (b + 13 + 6 * t + 1) = 1 ↔ OldQ P M t rd cd us) ∧ M.2 6 t ≠ -1) ∧
  (M.2 27 t = 0 → r = [] ∧ lk = 0 ∧ ct = 0 ∧ rd = 0 ∧ cd = 0 ∧ us = 0)
def RGp (P : Nat → Prop) (b : Nat) (M : Md) (C : Cd) : Prop := ∀ t, t < 24 → ∃ r lk ct rd cd us, RGx P b M C t r lk ct rd cd us
def no0 : Nat → Prop := fun _ => False
theorem OldQ.no {t rd cd us : Nat} : OldQ no0 M t rd cd us ↔ OldP M t rd cd us := ⟨fun h => h.elim id (fun h => h.elim (fun z => z.elim) (fun ⟨_, _, z, _⟩ => z.elim)), Or.inl⟩
theorem RGx.rg {t : Nat} {r : List Int} {lk ct rd cd us : Nat} (h : RGx no0 b M C t r lk ct rd cd us) : RG b M C t r lk ct rd cd us :=
  ⟨h.1, h.2.1, h.2.2.1, h.2.2.2.1, h.2.2.2.2.1, fun z => ⟨(h.2.2.2.2.2.1 z).1, (h.2.2.2.2.2.1 z).2.1, (h.2.2.2.2.2.1 z).2.2.1.trans OldQ.no, (h.2.2.2.2.2.1 z).2.2.2⟩, h.2.2.2.2.2.2⟩
theorem RG.rgx {t : Nat} {r : List Int} {lk ct rd cd us : Nat} (h : RG b M C t r lk ct rd cd us) : RGx no0 b M C t r lk ct rd cd us :=
  ⟨h.1, h.2.1, h.2.2.1, h.2.2.2.1, h.2.2.2.2.1, fun z => ⟨(h.2.2.2.2.2.1 z).1, (h.2.2.2.2.2.1 z).2.1, (h.2.2.2.2.2.1 z).2.2.1.trans OldQ.no.symm, (h.2.2.2.2.2.1 z).2.2.2⟩, h.2.2.2.2.2.2⟩
/-- the relation, unsettled -/
def RQ (P : Nat → Prop) (b : Nat) (M : Md) (C : Cd) (VA PA LE AA : Nat → Nat) (nv np na : Nat) : Prop := RLy b C ∧ (∃ dn g, RD b M C dn g) ∧ RS b M C ∧ (∀ t, t < 24 → RTi b M C t) ∧ (∀ j, j < 4 → RMo b M C j) ∧ RH b M C VA PA LE AA nv np na ∧ RKp P M nv ∧ RGp P b M C
theorem RR.rq (h : RR b kc M C) : RB kc M ∧ ∃ VA PA LE AA nv np na, RQ no0 b M C VA PA LE AA nv np na := by
  obtain ⟨h1, h2, h3, h4, h5, h6, ⟨VA, PA, LE, AA, nv, np, na, h7, k1, k2⟩, h8⟩ := h
  refine ⟨h4, VA, PA, LE, AA, nv, np, na, h1, h2, h3, h5, h6, h7, ⟨fun t ht => ⟨?_, fun z => z.elim, fun _ => k1 t ht⟩, k2⟩, fun t ht => ?_⟩
  · rw [k1 t ht]
    rcases prAt_rng M nv t with z | z
    · exact z
    · rw [z]; exact ⟨by decide, by omega⟩
  · obtain ⟨r, lk, ct, rd, cd, us, hg⟩ := h8 t ht
    exact ⟨r, lk, ct, rd, cd, us, hg.rgx⟩
theorem RQ.rr (h : RQ no0 b M C VA PA LE AA nv np na) (hb : RB kc M) : RR b kc M C := by
  obtain ⟨h1, h2, h3, h5, h6, h7, ⟨k1, k2⟩, h8⟩ := h
  refine ⟨h1, h2, h3, hb, h5, h6, ⟨VA, PA, LE, AA, nv, np, na, h7, fun t ht => (k1 t ht).2.2 (fun z => z), k2⟩, fun t ht => ?_⟩
  obtain ⟨r, lk, ct, rd, cd, us, hg⟩ := h8 t ht
  exact ⟨r, lk, ct, rd, cd, us, hg.rg⟩
/-- the titles settle -/
theorem RQ.settle (h : RQ P b M C VA PA LE AA nv np na) (s : StM M M' nv) : RQ no0 b M' C VA PA LE AA nv np na := by
  obtain ⟨h1, ⟨dn, g, h2⟩, h3, h5, h6, h7, ⟨k1, k2, k3, k4, k5⟩, h8⟩ := h
  obtain ⟨s1, s2, s3, s4, s5⟩ := s
  have W := h1.1.W
  have hL := h1.1
  have f : Fp (fun _ _ _ => False) C C := Fp.rf W
  have vs : VSame M M' := ⟨fun j hj => s1 j (by omega), fun k hk => s4 k (by omega) (by omega)⟩
  refine ⟨h1, ⟨dn, g, h2.low W f (fun z => z) (fun z => z) (fun z => z) (fun z => z) (s1 1 (by decide)) (s4 0 (by decide) (by decide))⟩, h3.low hL f (fun z => z) (fun z => z) (fun z => z) (fun j hj => s1 j (by omega)) (Or.inl (s1 71 (by decide))) (Or.inl (s1 68 (by decide))), fun t ht => (h5 t ht).low hL ht f (fun z => z) (fun z => z) (fun z => z) (fun z => z) (fun k hk => s4 k (by omega) (by omega)), fun j hj => (h6 j hj).low hL hj f (fun z => z) (fun z => z) (fun z => z) (fun k hk => s4 k (by omega) (by omega)), h7.low W hL h1.2.1 f (fun _ _ _ _ z => z.elim) vs (Int.le_of_eq (s1 5 (by decide)).symm) (fun z => z) (fun _ _ z => z), ⟨fun t ht => ⟨?_, fun z => z.elim, fun _ => ?_⟩, fun k hk => ?_, fun k hk => ?_, fun k hk => ?_, fun t ht => ?_⟩, fun t ht => ?_⟩
  · rw [(s5 t ht).1]
    rcases prAt_rng M nv t with z | z
    · exact z
    · rw [z]; exact ⟨by decide, by omega⟩
  · rw [prAt_same vs]; exact (s5 t ht).1
  · have y := (s5 k hk).2
    have y2 := k2 k hk
    by_cases c : M.2 26 k = prAt M nv k
    · rw [if_pos c] at y; rw [y]; omega
    · rw [if_neg c] at y; omega
  · rw [s4 24 (by decide) (by decide)]; have := k3 k hk; omega
  · rw [s4 25 (by decide) (by decide)]; have := k4 k hk; omega
  · rw [s4 28 (by decide) (by decide)]; have := k5 t ht; omega
  · obtain ⟨r, lk, ct, rd, cd, us, g1, g2, g3, g4, g5, g6, g7⟩ := h8 t ht
    have t28 := k5 t ht
    have tk : ∀ k, k < 24 → (M'.2 28 t < M'.2 23 k ↔ (M.2 28 t < M.2 23 k ∨ P k)) := fun k hk => by
      have y := (s5 k hk).2
      have q := k1 k hk
      rw [s4 28 (by decide) (by decide)]
      by_cases c : P k
      · rw [if_neg (q.2.1 c)] at y
        exact ⟨fun _ => Or.inr c, fun _ => by omega⟩
      · rw [if_pos (q.2.2 c)] at y
        rw [y]
        exact ⟨Or.inl, fun z => z.elim id (fun z => absurd z c)⟩
    have eo : OldQ no0 M' t rd cd us ↔ OldQ P M t rd cd us := by
      rw [OldQ.no]
      unfold OldQ OldP
      rw [tk t ht, s4 24 (by decide) (by decide), s4 25 (by decide) (by decide)]
      constructor
      · rintro ((z | z) | ⟨k, z1, z2, z3⟩ | z | z)
        · exact Or.inl (Or.inl z)
        · exact Or.inr (Or.inl z)
        · rcases (tk k z1).mp z3 with y | y
          · exact Or.inl (Or.inr (Or.inl ⟨k, z1, z2, y⟩))
          · exact Or.inr (Or.inr ⟨k, z1, y, z2⟩)
        · rw [s4 28 (by decide) (by decide)] at z; exact Or.inl (Or.inr (Or.inr (Or.inl z)))
        · rw [s4 28 (by decide) (by decide)] at z; exact Or.inl (Or.inr (Or.inr (Or.inr z)))
      · rw [s4 28 (by decide) (by decide)]
        rintro ((z | ⟨k, z1, z2, z3⟩ | z | z) | z | ⟨k, z1, z2, z3⟩)
        · exact Or.inl (Or.inl z)
        · exact Or.inr (Or.inl ⟨k, z1, z2, by have := (tk k z1).mpr (Or.inl z3); rw [s4 28 (by decide) (by decide)] at this; exact this⟩)
        · exact Or.inr (Or.inr (Or.inl z))
        · exact Or.inr (Or.inr (Or.inr z))
        · exact Or.inl (Or.inr z)
        · exact Or.inr (Or.inl ⟨k, z1, z3, by have := (tk k z1).mpr (Or.inr z2); rw [s4 28 (by decide) (by decide)] at this; exact this⟩)
    refine ⟨r, lk, ct, rd, cd, us, ?_, g2, g3, g4, ?_, fun z => ?_, fun z => ?_⟩
    · rw [s4 27 (by decide) (by decide)]; exact g1
    · rw [s4 32 (by decide) (by decide)]; exact g5
    · rw [s4 27 (by decide) (by decide)] at z
      obtain ⟨y1, y2, y3, y4⟩ := g6 z
      rw [s4 29 (by decide) (by decide), s4 30 (by decide) (by decide), s4 31 (by decide) (by decide), s4 33 (by decide) (by decide), s4 34 (by decide) (by decide), s4 35 (by decide) (by decide), s4 6 (by decide) (by decide), eo]
      exact ⟨y1, y2, y3, y4⟩
    · rw [s4 27 (by decide) (by decide)] at z
      exact g7 z
/-- a rendering, when more titles are unsettled and categories are ticked -/
theorem RGx.more {D : Nat → Prop} {u : Nat} {r : List Int} {lk ct rd cd us : Nat} (h : RGx P b M C u r lk ct rd cd us) (hu : u < 24) (hk : RKp P M nv) (ec : Nat → Prop) (m2 : ∀ k, (k = 27 ∨ k = 28 ∨ (30 ≤ k ∧ k ≤ 35)) → M'.2 k u = M.2 k u) (m29 : M'.2 29 = M.2 29) (m23 : M'.2 23 = M.2 23) (m25 : M'.2 25 = M.2 25) (m6 : M.2 6 u ≠ -1 → M'.2 6 u ≠ -1) (m24 : ∀ c, c < 8 → (ec c → M.1 22 < M'.2 24 c) ∧ (¬ ec c → M'.2 24 c = M.2 24 c))
   (fi : ∀ k, 701 ≤ k → k ≤ 707 → k ≠ 702 → cI C' k (b + 13 + 6 * u + 1) = cI C k (b + 13 + 6 * u + 1)) (fr : RowV C (b + 13 + 6 * u + 2) r → RowV C' (b + 13 + 6 * u + 2) r)
   (q1 : (D u ∨ (∃ k, k < 24 ∧ D k ∧ rd.testBit k = true) ∨ ∃ c, c < 8 ∧ ec c ∧ cd.testBit c = true) → cI C' 702 (b + 13 + 6 * u + 1) = 1) (q2 : ¬ (D u ∨ (∃ k, k < 24 ∧ D k ∧ rd.testBit k = true) ∨ ∃ c, c < 8 ∧ ec c ∧ cd.testBit c = true) → cI C' 702 (b + 13 + 6 * u + 1) = cI C 702 (b + 13 + 6 * u + 1)) : RGx (fun s => P s ∨ D s) b M' C' u r lk ct rd cd us := by
  obtain ⟨g1, g2, g3, ⟨⟨a1, a2⟩, ⟨a3, a4⟩, ⟨a5, a6⟩, ⟨a7, a8⟩, a9, a10⟩, g5, g6, g7⟩ := h
  have h28 := hk.2.2.2.2 u hu
  have eo : OldQ (fun s => P s ∨ D s) M' u rd cd us ↔ OldQ P M u rd cd us ∨ (D u ∨ (∃ k, k < 24 ∧ D k ∧ rd.testBit k = true) ∨ ∃ c, c < 8 ∧ ec c ∧ cd.testBit c = true) := by
    unfold OldQ OldP
    rw [m2 28 (by decide), m23, m25]
    constructor
    · rintro ((z | z | ⟨c, z1, z2, z3⟩ | z) | z | ⟨k, z1, z2, z3⟩)
      · exact Or.inl (Or.inl (Or.inl z))
      · exact Or.inl (Or.inl (Or.inr (Or.inl z)))
      · rcases Classical.em (ec c) with y | y
        · exact Or.inr (Or.inr (Or.inr ⟨c, z1, y, z2⟩))
        · rw [(m24 c z1).2 y] at z3
          exact Or.inl (Or.inl (Or.inr (Or.inr (Or.inl ⟨c, z1, z2, z3⟩))))
      · exact Or.inl (Or.inl (Or.inr (Or.inr (Or.inr z))))
      · rcases z with y | y
        · exact Or.inl (Or.inr (Or.inl y))
        · exact Or.inr (Or.inl y)
      · rcases z2 with y | y
        · exact Or.inl (Or.inr (Or.inr ⟨k, z1, y, z3⟩))
        · exact Or.inr (Or.inr (Or.inl ⟨k, z1, y, z3⟩))
    · rintro (((z | z | ⟨c, z1, z2, z3⟩ | z) | z | ⟨k, z1, z2, z3⟩) | z | ⟨k, z1, z2, z4⟩ | ⟨c, z1, z2, z3⟩)
      · exact Or.inl (Or.inl z)
      · exact Or.inl (Or.inr (Or.inl z))
      · refine Or.inl (Or.inr (Or.inr (Or.inl ⟨c, z1, z2, ?_⟩)))
        rcases Classical.em (ec c) with y | y
        · have := (m24 c z1).1 y; omega
        · rw [(m24 c z1).2 y]; exact z3
      · exact Or.inl (Or.inr (Or.inr (Or.inr z)))
      · exact Or.inr (Or.inl (Or.inl z))
      · exact Or.inr (Or.inr ⟨k, z1, Or.inl z2, z3⟩)
      · exact Or.inr (Or.inl (Or.inr z))
      · exact Or.inr (Or.inr ⟨k, z1, Or.inr z2, z4⟩)
      · exact Or.inl (Or.inr (Or.inr (Or.inl ⟨c, z1, z3, by have := (m24 c z1).1 z2; omega⟩)))
  refine ⟨?_, ?_, fr g3, ⟨⟨(fi 703 (by decide) (by decide) (by decide)).trans a1, a2⟩, ⟨(fi 704 (by decide) (by decide) (by decide)).trans a3, a4⟩, ⟨(fi 705 (by decide) (by decide) (by decide)).trans a5, a6⟩, ⟨(fi 706 (by decide) (by decide) (by decide)).trans a7, a8⟩, (fi 707 (by decide) (by decide) (by decide)).trans a9, a10⟩, ?_, fun z => ?_, fun z => ?_⟩
  · rw [fi 701 (by decide) (by decide) (by decide), m2 27 (by decide)]; exact g1
  · rcases Classical.em (D u ∨ (∃ k, k < 24 ∧ D k ∧ rd.testBit k = true) ∨ ∃ c, c < 8 ∧ ec c ∧ cd.testBit c = true) with y | y
    · exact Or.inr (q1 y)
    · rw [q2 y]; exact g2
  · rw [m2 32 (by decide)]; exact g5
  · rw [m2 27 (by decide)] at z
    obtain ⟨y1, y2, y3, y4⟩ := g6 z
    rw [m29, m2 30 (by decide), m2 31 (by decide), m2 33 (by decide), m2 34 (by decide), m2 35 (by decide), eo]
    refine ⟨y1, y2, ?_, m6 y4⟩
    rw [← y3]
    rcases Classical.em (D u ∨ (∃ k, k < 24 ∧ D k ∧ rd.testBit k = true) ∨ ∃ c, c < 8 ∧ ec c ∧ cd.testBit c = true) with y | y
    · exact ⟨fun _ => Or.inr y, fun _ => q1 y⟩
    · rw [q2 y]; exact ⟨fun z => Or.inl z, fun z => z.elim id (fun z => absurd z y)⟩
  · rw [m2 27 (by decide)] at z
    exact g7 z
end RQS
