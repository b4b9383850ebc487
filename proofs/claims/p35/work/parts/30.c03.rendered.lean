/-! A RENDERING, kept in the law's rows: the two wikis agree behind it -/
abbrev cB3 (C : Cd) : Cd := cBumpA (cBumpA (cBumpA C 8) 8) 8
theorem zR1 (E : Rw) (k : Nat) : zRow E k k = fun _ => 0 := if_pos rfl
theorem zR2 (E : Rw) {k j : Nat} (h : j ≠ k) : zRow E k j = E j := if_neg h
section RD3
variable {b kc N np t kz w : Nat} {E : Rw} {G : Md} {C : Cd} {T : Nat → List Nat} {En : Env} {q : Nat → Nat}
theorem W_renders3 (hz : kz = 10 ∨ kz = 11) (hL : LRw N G T E) (hE : LEn N G T En) (hw : w < 150) (ht : t < 8) (hp : prAt G N t ≠ -1) (h6 : E kz 6 = (w : Int)) (hC : csz C ≠ 0) : ∃ E' q', fW_renders3 kz (t : Int) E C q = some (digF (mX En T 6 [t] (T (prAt G N t).toNat) mA0).1, (E', cB3 C, q')) ∧ ZE kz w E' (mX En T 6 [t] (T (prAt G N t).toNat) mA0) ∧ (∀ r, r ≠ kz → r ≠ 12 → r ≠ 13 → r ≠ 14 → E' r = E r) ∧ ∀ j, j ≤ 11 → q' j = q j := by
  have z : ∀ r, r ≠ 12 → r ≠ 13 → r ≠ 14 → zRow (zRow (zRow E 12) 13) 14 r = E r := fun r r1 r2 r3 => by rw [zR2 _ r3, zR2 _ r2, zR2 _ r1]
  obtain ⟨E', e1, e2, e3⟩ := W_renders (E := zRow (zRow (zRow E 12) 13) 14) hz (hL.row (fun r hr => z r (by omega) (by omega) (by omega))) hE hw ht hp (by rw [z kz (by omega) (by omega) (by omega)]; exact h6) (by rw [zR2 _ (by decide), zR1])
  refine ⟨E', setq (setq (setq q 12 (csz C)) 13 (csz C + 1)) 14 (csz C + 2), ?_, e2, fun r r1 r2 r3 r4 => (e3 r r1 r2 r3 r4).trans (z r r2 r3 r4), fun j hj => ?_⟩
  · unfold fW_renders3
    rw [if_neg hC, e1]
    rfl
  · unfold setq
    rw [if_neg (by omega), if_neg (by omega), if_neg (by omega)]
/-- the law's row of renderings, written -/
def Rd6 (t : Nat) (x : Int) (A : MSt) (E1 : Rw) : Rw := wPut (wPut (wPut (wPut (wPut (wPut E1 6 (7 * t + 4) (A.2.2.2.1 : Int)) 6 (7 * t) (x + 1)) 6 (7 * t + 1) (A.1.length : Int)) 6 (7 * t + 2) (A.2.2.1 : Int)) 6 (7 * t + 3) (A.2.2.2.2.1 : Int)) 6 (7 * t + 5) (A.2.2.2.2.2 : Int)
theorem Rd6_r (t : Nat) (x : Int) (A : MSt) (E1 : Rw) {r : Nat} (h : r ≠ 6) : Rd6 t x A E1 r = E1 r := by
  unfold Rd6
  rw [wPk _ _ h, wPk _ _ h, wPk _ _ h, wPk _ _ h, wPk _ _ h, wPk _ _ h]
theorem Rd6_o (t : Nat) (x : Int) (A : MSt) (E1 : Rw) {i : Nat} (h : i < 7 * t ∨ 7 * t + 5 < i) : Rd6 t x A E1 6 i = E1 6 i := by
  unfold Rd6
  rw [wP2 _ _ (by omega), wP2 _ _ (by omega), wP2 _ _ (by omega), wP2 _ _ (by omega), wP2 _ _ (by omega), wP2 _ _ (by omega)]
theorem Rd6_t (t : Nat) (x : Int) (A : MSt) (E1 : Rw) : Rd6 t x A E1 6 (7 * t) = x + 1 ∧ Rd6 t x A E1 6 (7 * t + 1) = (A.1.length : Int) ∧ Rd6 t x A E1 6 (7 * t + 2) = (A.2.2.1 : Int) ∧ Rd6 t x A E1 6 (7 * t + 3) = (A.2.2.2.2.1 : Int) ∧ Rd6 t x A E1 6 (7 * t + 4) = (A.2.2.2.1 : Int) ∧ Rd6 t x A E1 6 (7 * t + 5) = (A.2.2.2.2.2 : Int) := by
  unfold Rd6
  refine ⟨?_, ?_, ?_, ?_, ?_, ?_⟩
  · rw [wP2 _ _ (by omega), wP2 _ _ (by omega), wP2 _ _ (by omega), wP2 _ _ (by omega), wP1]
  · rw [wP2 _ _ (by omega), wP2 _ _ (by omega), wP2 _ _ (by omega), wP1]
  · rw [wP2 _ _ (by omega), wP2 _ _ (by omega), wP1]
  · rw [wP2 _ _ (by omega), wP1]
  · rw [wP2 _ _ (by omega), wP2 _ _ (by omega), wP2 _ _ (by omega), wP2 _ _ (by omega), wP2 _ _ (by omega), wP1]
  · rw [wP1]
/-- what the law's rows are behind a rendering -/
def RdE (t : Nat) (A : MSt) (o : Nat) (E E' : Rw) : Prop := ∃ E1, E' = Rd6 t (E 0 3) A E1 ∧ (∀ r, r ≠ 0 → r ≠ 7 → r ≠ 8 → r ≠ 10 → r ≠ 12 → r ≠ 13 → r ≠ 14 → E1 r = E r) ∧ (∀ i, i ≠ 3 → E1 0 i = E 0 i) ∧ (E 0 3 ≤ E1 0 3 ∧ E1 0 3 ≤ E 0 3 + 8) ∧ (E1 7 t = digF A.1 ∧ ∀ u, u ≠ t → E1 7 u = E 7 u) ∧ (∀ k, k < 8 → (o.testBit k = A.2.2.2.1.testBit k ∧ E1 8 k = E 8 k) ∨ (o.testBit k ≠ A.2.2.2.1.testBit k ∧ E 0 3 < E1 8 k ∧ E1 8 k ≤ E1 0 3)) ∧ E1 10 6 = 0
theorem W_rendered (hL : LRw N G T E) (hE : LEn N G T En) (ht : t < 8) (hp : prAt G N t ≠ -1) (h6 : E 10 6 = 0) (hC : csz C ≠ 0) : ∃ E' q', fW_rendered (t : Int) E C q = some ((), (E', cB3 C, q')) ∧ RdE t (mX En T 6 [t] (T (prAt G N t).toNat) mA0) (ctF G t) E E' ∧ ∀ j, j ≤ 11 → q' j = q j := by
  obtain ⟨E2, q', e1, e2, e3, e4⟩ := W_renders3 (q := q) (w := 0) (C := C) (Or.inl rfl) hL hE (by decide) ht hp h6 hC
  generalize mX En T 6 [t] (T (prAt G N t).toNat) mA0 = A at *
  obtain ⟨⟨z0, y0⟩, ⟨z1, y1⟩, ⟨z2, y2⟩, ⟨z3, y3⟩, ⟨z4, y4⟩, z6, z7⟩ := e2
  have i7 : inR (t : Int) (wLen 7) := inWn 8 wl_7 ht (by decide)
  have w5 : ∀ r, r ≠ 7 → wPut E2 7 t (digF A.1) r = E2 r := fun r hr => wPk _ _ hr
  have s6 : ∀ r, r ≠ 10 → r ≠ 12 → r ≠ 13 → r ≠ 14 → r ≠ 7 → wPut E2 7 t (digF A.1) r = E r := fun r a b c d e => (w5 r e).trans (e3 r a b c d)
  have k0 := hL.2.2.2.2.1
  have hr0 := (hL.2.2.2.1.1 t ht).r0 hL.2.2.2.2 ht
  obtain ⟨c1, c2, c3⟩ := (hL.2.2.2.1.1 t ht).ct
  obtain ⟨E1, p1, ⟨p2, p3, p4, p5, p6⟩⟩ := W_sets (E := wPut E2 7 t (digF A.1)) ht (o := ctF G t) (c := A.2.2.2.1) c1 y2 (by rw [s6 6 (by decide) (by decide) (by decide) (by decide) (by decide)]; omega) (by
    rw [s6 6 (by decide) (by decide) (by decide) (by decide) (by decide)]
    rcases c3 with x | x
    · exact Or.inl x
    · exact Or.inr ⟨x.2.1, x.2.2⟩) (by rw [s6 0 (by decide) (by decide) (by decide) (by decide) (by decide)]; omega)
  rw [s6 0 (by decide) (by decide) (by decide) (by decide) (by decide)] at p3 p4 p5
  rw [s6 8 (by decide) (by decide) (by decide) (by decide) (by decide)] at p5
  have ten : ∀ j, E1 10 j = E2 10 j := fun j => by rw [p2 10 (by decide) (by decide), w5 10 (by decide)]
  have i3 : inR 3 (wLen 0) := inW 4 wl_0 (by decide) (by decide) (by decide)
  have j2 : inR 2 (wLen 10) := inW 8 wl_10 (by decide) (by decide) (by decide)
  have j4 : inR 4 (wLen 10) := inW 8 wl_10 (by decide) (by decide) (by decide)
  have j0 : inR 0 (wLen 10) := inW 8 wl_10 (by decide) (by decide) (by decide)
  have j1 : inR 1 (wLen 10) := inW 8 wl_10 (by decide) (by decide) (by decide)
  have j3 : inR 3 (wLen 10) := inW 8 wl_10 (by decide) (by decide) (by decide)
  have r0 : inR (7 * (t : Int)) (wLen 6) := inW 56 wl_6 (by omega) (by omega) (by decide)
  have r1 : inR ((7 * (t : Int)) + 1) (wLen 6) := inW 56 wl_6 (by omega) (by omega) (by decide)
  have r2 : inR ((7 * (t : Int)) + 2) (wLen 6) := inW 56 wl_6 (by omega) (by omega) (by decide)
  have r3 : inR ((7 * (t : Int)) + 3) (wLen 6) := inW 56 wl_6 (by omega) (by omega) (by decide)
  have r5 : inR ((7 * (t : Int)) + 5) (wLen 6) := inW 56 wl_6 (by omega) (by omega) (by decide)
  have x0 : ix (7 * (t : Int)) = 7 * t := ixn (by omega) (by omega)
  have x1 : ix ((7 * (t : Int)) + 1) = 7 * t + 1 := ixn (by omega) (by omega)
  have x2 : ix ((7 * (t : Int)) + 2) = 7 * t + 2 := ixn (by omega) (by omega)
  have x3 : ix ((7 * (t : Int)) + 3) = 7 * t + 3 := ixn (by omega) (by omega)
  have x5 : ix ((7 * (t : Int)) + 5) = 7 * t + 5 := ixn (by omega) (by omega)
  refine ⟨Rd6 t (E 0 3) A E1, q', ?_, ⟨E1, rfl, fun r a0 a7 a8 a10 a12 a13 a14 => (p2 r a0 a8).trans (s6 r a10 a12 a13 a14 a7), p3, p4, ⟨?_, fun u hu => ?_⟩, p5, ?_⟩, e4⟩
  · unfold fW_rendered
    have t5 : wPut E2 7 t (digF A.1) 10 2 = (A.2.2.2.1 : Int) := by rw [w5 10 (by decide)]; exact z2
    rw [if_pos i3, bnd_eq, show ix 3 = 3 from rfl, cal3_of e1, if_pos i7, bnd_eq, if_pos j2, ix_n (n := t) (by omega), show ix 2 = 2 from rfl, t5, cal1_of p1, if_pos r0, bnd_eq, if_pos j4, if_pos r1, bnd_eq, x0, x1, show ix 4 = 4 from rfl]
    rw [if_pos j0, if_pos r2, bnd_eq, x2, show ix 0 = 0 from rfl, if_pos j1, if_pos r3, bnd_eq, x3, show ix 1 = 1 from rfl, if_pos j3, if_pos r5, bnd_eq, x5]
    have t10 : ∀ (F : Rw) (i : Nat) (x : Int) (j : Nat), wPut F 6 i x 10 j = F 10 j := fun F i x j => congrFun (wPk F x (by decide)) j
    unfold Rd6
    simp only [t10, ten, z4, z0, z1, z3]
  · rw [p2 7 (by decide) (by decide), wP1]
  · rw [p2 7 (by decide) (by decide), wP2 _ _ (Or.inr hu), e3 7 (by decide) (by decide) (by decide) (by decide)]
  · rw [ten 6]; exact z6
/-- both wikis, rendered -/
theorem LW.rendered {G' : Md} {A : MSt} {E' : Rw} (h : RR b kc G C) (hL : LW N np T E G) (ht : t < 8) (h3 : E 0 3 + 8 < 100000) (hA : A.2.2.1 < 256 ∧ A.2.2.2.2.1 < 256 ∧ A.2.2.2.1 < 256 ∧ A.2.2.2.2.2 < 256 ∧ A.1.length ≤ 150) (hG : RdG G G' t A) (hE : RdE t A (ctF G t) E E') : LW N np T E' G' ∧ (E 0 3 ≤ E' 0 3 ∧ E' 0 3 ≤ E 0 3 + 8) ∧ (∀ r, (r = 1 ∨ r = 2 ∨ r = 3 ∨ r = 4 ∨ r = 5 ∨ r = 9) → E' r = E r) ∧ ∀ i, i ≠ 3 → E' 0 i = E 0 i := by
  obtain ⟨⟨hV, hP, hT, hWG, hK⟩, hD, hTr, ⟨o1, o2, o3⟩, ⟨n1, n2⟩, n8, n10⟩ := hL
  obtain ⟨E1, rfl, a1, a2, a3, ⟨a4, a5⟩, a6, a7⟩ := hE
  obtain ⟨g1, g2, g3, g4, g5, g6, ⟨g7, g8, g9, g10⟩, ⟨g11, g12, g13, g14, g15⟩, g16⟩ := hG
  obtain ⟨VA, PA, LE, AA, np', na, hH, hRK⟩ := h.nN n8
  have row : ∀ r, (r = 1 ∨ r = 2 ∨ r = 3 ∨ r = 4 ∨ r = 5 ∨ r = 9) → Rd6 t (E 0 3) A E1 r = E r := fun r hr => by
    rw [Rd6_r _ _ _ _ (by omega)]
    exact a1 r (by omega) (by omega) (by omega) (by omega) (by omega) (by omega) (by omega)
  have row0 : ∀ i, i ≠ 3 → Rd6 t (E 0 3) A E1 0 i = E 0 i := fun i hi => by rw [Rd6_r _ _ _ _ (by decide)]; exact a2 i hi
  have row03 : Rd6 t (E 0 3) A E1 0 3 = E1 0 3 := by rw [Rd6_r _ _ _ _ (by decide)]
  have row8 : Rd6 t (E 0 3) A E1 8 = E1 8 := Rd6_r _ _ _ _ (by decide)
  have row7 : Rd6 t (E 0 3) A E1 7 = E1 7 := Rd6_r _ _ _ _ (by decide)
  have e6 : E1 6 = E 6 := a1 6 (by decide) (by decide) (by decide) (by decide) (by decide) (by decide) (by decide)
  obtain ⟨t0, t1, t2, t3, t4, t5⟩ := Rd6_t t (E 0 3) A E1
  have oth : ∀ u, u < 8 → u ≠ t → ∀ j, j < 7 → Rd6 t (E 0 3) A E1 6 (7 * u + j) = E 6 (7 * u + j) := fun u hu hut j hj => by rw [Rd6_o _ _ _ _ (by omega), e6]
  have oth0 : ∀ u, u < 8 → u ≠ t → Rd6 t (E 0 3) A E1 6 (7 * u) = E 6 (7 * u) := fun u hu hut => by rw [Rd6_o _ _ _ _ (by omega), e6]
  have t6 : Rd6 t (E 0 3) A E1 6 (7 * t + 6) = E 6 (7 * t + 6) := by rw [Rd6_o _ _ _ _ (by omega), e6]
  have hV0 := hV
  obtain ⟨v1, v2, v3, v4, v5, v6, v7⟩ := hV
  obtain ⟨k1, k2, k3, k4⟩ := hK
  refine ⟨⟨⟨?_, ?_, ?_, ⟨fun u hu => ?_, fun u a b => ?_⟩, ?_⟩, fun u hu h27 => ?_, ?_, ⟨(g1 2 (by decide) (by decide)).trans o1, ?_, ?_⟩, ⟨(row0 1 (by decide)).trans n1, (g1 7 (by decide) (by decide)).trans n2⟩, (g1 8 (by decide) (by decide)).trans n8, ?_⟩, ⟨by rw [row03]; exact a3.1, by rw [row03]; exact a3.2⟩, row, row0⟩
  · unfold WV
    rw [row0 0 (by decide), row0 2 (by decide), row 2 (by omega), g4 12 (by omega), g4 11 (by omega), g1 5 (by decide) (by decide)]
    exact hV0
  · unfold WP
    rw [row 1 (by omega), g4 6 (by omega)]
    exact hP
  · intro v hv
    obtain ⟨b1, b2, b3, b4, b5⟩ := hT v hv
    refine ⟨by rw [row 3 (by omega)]; exact b1, b2, b3, ?_, fun k hk => ?_⟩
    · rw [← b4]; unfold tl; rw [g4 10 (by omega)]
    · rw [← b5 k hk]; unfold tx; rw [g4 9 (by omega)]
  · have gu := hWG.1 u hu
    by_cases e : u = t
    · subst e
      refine ⟨by rw [t6, g4 4 (by omega)]; exact gu.1, by rw [g4 4 (by omega)]; exact gu.2.1, Or.inr ⟨g7, by rw [t0]; omega, t1.trans g9.symm, ⟨A.2.2.1, A.2.2.2.2.1, A.2.2.2.1, A.2.2.2.2.2, ⟨hA.1, hA.2.1, hA.2.2.1, hA.2.2.2.1⟩, ⟨t2, g11⟩, ⟨t3, g13⟩, ⟨t4, g12⟩, t5, g14⟩, g15⟩⟩
    · unfold WG at gu ⊢
      rw [oth u hu e 6 (by decide), oth0 u hu e, oth u hu e 1 (by decide), oth u hu e 2 (by decide), oth u hu e 3 (by decide), oth u hu e 4 (by decide), oth u hu e 5 (by decide), g4 4 (by omega), g5 27 (by omega) u e, g5 32 (by omega) u e, g5 30 (by omega) u e, g5 31 (by omega) u e, g5 33 (by omega) u e, g5 34 (by omega) u e, g5 35 (by omega) u e]
      exact gu
  · rw [g5 27 (by omega) u (by omega), g5 32 (by omega) u (by omega)]
    exact hWG.2 u a b
  · -- the ticks
    have h23 : G'.2 23 = G.2 23 := g4 23 (by omega)
    refine ⟨by rw [row03]; omega, fun u hu => ?_, fun c hc => ?_, fun s hs h27 => ?_⟩
    · rw [row 4 (by omega), row 5 (by omega), row03, g4 26 (by omega)]
      have := k2 u hu
      exact ⟨⟨this.1.1, by omega⟩, this.2⟩
    · rw [row8, row03]
      have := k3 c hc
      rcases a6 c hc with y | y
      · rw [y.2]; omega
      · omega
    · have tick : ∀ c, c < 8 → ((A.2.2.2.1.testBit c ≠ (ctF G t).testBit c ∧ E 0 3 < E1 8 c ∧ G.1 22 < G'.2 24 c) ∨ (E1 8 c = E 8 c ∧ G'.2 24 c = G.2 24 c)) := fun c hc => by
        have q := g3 c hc
        rcases a6 c hc with y | y
        · rw [if_neg (fun z => z y.1)] at q
          exact Or.inr ⟨y.2, q⟩
        · rw [if_pos y.1] at q
          exact Or.inl ⟨fun z => y.1 z.symm, y.2.1, q⟩
      rw [row03, row 4 (by omega), row8, h23]
      by_cases e : s = t
      · subst e
        rw [t0, g8]
        refine ⟨by omega, fun k hk => ?_, fun c hc => ?_⟩
        · have x1 := (k2 k hk).1
          have x2 := hRK.2.1 k (by omega)
          constructor
          · intro z; omega
          · intro z; omega
        · rcases tick c hc with ⟨_, y2, y3⟩ | ⟨y2, y3⟩
          · constructor
            · intro _; exact y3
            · intro _; omega
          · rw [y2, y3]
            have x1 := k3 c hc
            have x2 := hRK.2.2.1 c hc
            constructor
            · intro z; omega
            · intro z; omega
      · rw [oth0 s hs e, g5 28 (by omega) s e]
        rw [g5 27 (by omega) s e] at h27
        obtain ⟨y1, y2, y3⟩ := k4 s hs h27
        refine ⟨by omega, y2, fun c hc => ?_⟩
        rcases tick c hc with ⟨_, z2, z3⟩ | ⟨z2, z3⟩
        · have x2 := hRK.2.2.2.2 s (by omega)
          constructor
          · intro _; omega
          · intro _; omega
        · rw [z2, z3]; exact y3 c hc
  · rw [row7]
    by_cases e : u = t
    · subst e
      exact ⟨A.1, hA.2.2.2.2, g9, g10, a4⟩
    · rw [g5 27 (by omega) u e] at h27
      obtain ⟨r, r1, r2, r3, r4⟩ := hD u hu h27
      refine ⟨r, r1, by rw [g5 30 (by omega) u e]; exact r2, fun k hk => ?_, (a5 u e).trans r4⟩
      rw [g6 (150 * u + k) (by omega)]
      exact r3 k hk
  · unfold LT at hTr ⊢
    rw [row 9 (by omega), g4 17 (by omega), g4 18 (by omega)]
    exact hTr
  · rw [g4 3 (by omega)]; exact o2
  · rw [g4 6 (by omega)]; exact o3
  · rw [Rd6_r _ _ _ _ (by decide)]; exact a7
end RD3
