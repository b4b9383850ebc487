/-! isWiki GIVES 1 -/
section WI5
variable {b kc N np t : Nat} {E : Rw} {G G' : Md} {C : Cd} {T : Nat → List Nat} {q : Nat → Nat} {y4 : Nat}
theorem stF_sm (s : SmG G G') (t : Nat) : stF G' t ↔ stF G t := by
  unfold stF OldP
  rw [s.2 6 (by decide) (by decide), s.2 27 (by decide) (by decide), s.2 33 (by decide) (by decide), s.2 34 (by decide) (by decide), s.2 35 (by decide) (by decide), s.2 28 (by decide) (by decide), s.2 23 (by decide) (by decide), s.2 24 (by decide) (by decide), s.2 25 (by decide) (by decide)]
theorem wtG_sm (s : SmG G G') (t : Nat) : wtG G' t = wtG G t := by
  have e : ∀ u, lkG G' u = lkG G u := fun u => by
    unfold lkG
    rw [s.2 27 (by decide) (by decide), s.2 31 (by decide) (by decide)]
  unfold wtG
  rw [s.2 6 (by decide) (by decide), show (fun s => (lkG G' s).testBit t) = fun s => (lkG G s).testBit t from funext (fun u => by rw [e u])]
/-- a title whole -/
theorem wiki_T {a10 : Int} {L32 : Int → Int → Int → Int → Rw → Cd → (Nat → Nat) → Option (Int × S3)} {v13 : Int} {n : Nat} {w : Nat → Bool} (hI : IS b kc N np T y4 E C q G) (hk : kc ≤ 900) (ht : t < 8) (ha : 0 ≤ a10 ∧ a10 < 100000000) (hn : n < 16777216) (hw : stF G t ↔ w t = true) : ∃ E' C' q' G', fW_isWiki_32 b a10 y4 L32 1 v13 (n : Int) (t : Int) E C q = L32 1 (v13 + (if w t = true then 1 else 0)) (acc n t (wtG G t) : Int) ((t : Int) + 1) E' C' q' ∧ IS b kc N np T y4 E' C' q' G' ∧ SmG G G' ∧ IsR b C C' 1007 20054 ∧ ∀ r, r ≤ 10 → E' r = E r := by
  obtain ⟨r19, hr, eA⟩ := wiki_A (a0 := b) (a10 := a10) (L32 := L32) (v13 := v13) (v14 := (n : Int)) (q := q) (C := C) (y4 := y4) hI.2.1 ht
  have hr01 : r19 = 0 ∨ r19 = 1 := by rcases hr with ⟨z, _⟩ | ⟨z, _⟩; exact Or.inr z; exact Or.inl z
  have hrw : r19 = (if w t = true then 1 else 0) := by
    rcases hr with ⟨z, p⟩ | ⟨z, p⟩
    · rw [if_pos (hw.mp p), z]
    · rw [if_neg (fun y => p (hw.mpr y)), z]
  obtain ⟨E1, C1, eB, hI1, rB, rowsB⟩ := wiki_B (L32 := L32) (v13 := v13) (v14 := (n : Int)) hI hk ht ha hr01
  obtain ⟨E2, C2, q2, G2, eC, hI2, smC, rC, rowsC⟩ := wiki_C (L32 := L32) (v14 := (n : Int)) (x13 := v13 + r19) hI1 hk ht ha hr
  have fl : flg E1 t = flg E t := by unfold flg; rw [rowsB 6 (by decide)]
  rw [fl] at eC
  have eD := wiki_D2 (L32 := L32) (x13 := v13 + r19) (q := q2) hI2.1 hI2.2.1 ht hn
  rw [wtG_sm smC, prAt_same smC.vs] at eD
  obtain ⟨C3, G3, eF, hI3, smF, rF⟩ := wiki_D1 (L32 := L32) (x13 := v13 + r19) (v14 := (acc n t (wtG G t) : Int)) (r15 := prAt G N t) hI2 ht (prAt_same smC.vs N t).symm
  refine ⟨E2, C3, q2, G3, ?_, hI3, smC.tr smF, (((rB.tr rC).tr rF).mono (by omega) (by omega)), fun r hr => (rowsC r hr).trans (rowsB r hr)⟩
  rw [eA, eB, eC, eD, eF, hrw]
theorem wtG_8 (hL : LW N np T E G) {k : Nat} (hk : 8 ≤ k) : wtG G k = false := by
  have e : anyN (fun s => (lkG G s).testBit k) 24 = false := by
    refine eq_false_of_ne_true (fun h => ?_)
    rw [anyN_8 hL.1.2.2.2.1] at h
    obtain ⟨s, s1, s2⟩ := anyN_iff.mp h
    have l : lkG G s < 256 := by
      rcases lk_ok hL s1 with ⟨_, z⟩ | ⟨_, _, z⟩
      · omega
      · exact z
    rw [Nat.testBit_lt_two_pow (Nat.lt_of_lt_of_le l (show 2 ^ 8 ≤ 2 ^ k from Nat.pow_le_pow_right (by decide) hk))] at s2
    cases s2
  unfold wtG
  rw [e, Bool.and_false]
/-- the members of the classes, the queue, the titles that are wanted -/
theorem wiki_650 {w : Nat → Bool} {g : Nat → Bool} (h : RR b kc G C) (hL : LW N np T E G) (hw : ∀ t, t < 8 → (stF G t ↔ w t = true)) (hg : ∀ t, wtG G t = g t) : fW_isWiki_650 b 1 (cnt w 8 : Int) (bitsN g 8 : Int) E C q = some (1, (E, C, q)) := by
  have ho := h.1.1.o
  have eq1 : cnt (wqC b C) 24 = cnt w 8 := by
    rw [show 24 = 8 + 16 from rfl, cnt_add, cnt_zero (p := fun x => wqC b C (8 + x)) (n := 16) (fun k hk => h.nopage (show 8 + k < 24 by omega) (hL.2.2.2.1.2.2 (8 + k) (by omega) (by omega))), Nat.add_zero]
    refine cnt_congr (fun k hk => Bool.eq_iff_iff.mpr ?_)
    exact (h.st (show k < 24 by omega)).symm.trans (hw k hk)
  have eq2 : bitsN (fun t => decide (G.2 6 t = -1) && anyN (fun s => (lkG G s).testBit t) 24) 24 = bitsN g 8 := by
    have z := bits_zero (wtG G) 8 16 (fun k a _ => wtG_8 hL a)
    rw [show 8 + 16 = 24 from rfl] at z
    refine Eq.trans (show _ = bitsN (wtG G) 24 from rfl) (z.trans (bitsN_congr 8 (fun k _ => hg k)))
  have Q := Q_queued h
  have O := Q_odd h
  rw [eq1] at Q
  rw [eq2] at O
  have F := lpn_rule (z := (fun (_ : Int) (_ : Int) (_ : Rw) (_ : Cd) (_ : (Nat → Nat)) => (none : Option (Int × S3)))) (body := fun L653 (v12_653 : Int) (v15_653 : Int) (E_653 : Rw) (C_653 : Cd) (q_653 : (Nat → Nat)) => fW_isWiki_653 b (cnt w 8 : Int) (bitsN g 8 : Int) L653 v12_653 v15_653 E_653 C_653 q_653) (P := fun mm (L : Int → Int → Rw → Cd → (Nat → Nat) → Option (Int × S3)) => ∀ u : Nat, u ≤ 8 → 8 - u < mm → L 1 (u : Int) E C q = some (1, (E, C, q))) (fun u _ h => absurd h (Nat.not_lt_zero _)) (fun mm L hLL u hu hm => by
    dsimp only
    unfold fW_isWiki_653
    rw [bnd_eq]
    rcases Nat.lt_or_ge u 8 with hlt | hge
    · have z := hLL (u + 1) (by omega) (by omega)
      have mb := Q_members h hlt
      rw [memb8 hL.1.2.2.2.1] at mb
      rw [if_neg (by rw [show w32 8 = 8 from rfl, w32_n (by omega)]; omega), if_neg (by decide), if_pos ho, calt_of mb, cal1_of (W_members hL.1.2.2.2.1 hL.1.2.2.2.2 hlt), bnd_eq, if_neg (fun z => z rfl)]
      unfold fW_isWiki_686
      exact z
    · have e : u = 8 := by omega
      subst e
      unfold fW_isWiki_694 fW_isWiki_723 fW_isWiki_722
      rw [if_pos (by decide)]; (try dsimp only); rw [bnd_eq, bnd_eq, if_neg (by decide), if_pos ho, cal1_of Q, if_neg (fun z => z rfl), if_pos ho, cal1_of O, if_neg (fun z => z rfl)]
      rfl) FU 0 (by decide) (by unfold FU; omega)
  rw [show ((0 : Nat) : Int) = 0 from rfl] at F
  unfold fW_isWiki_650
  rw [bnd_eq]
  exact F
/-- the titles, one behind another -/
theorem wiki_L {a10 : Int} {w g : Nat → Bool} (hI : IS b kc N np T y4 E C q G) (hk : kc ≤ 900) (ha : 0 ≤ a10 ∧ a10 < 100000000) (hw : ∀ t, t < 8 → (stF G t ↔ w t = true)) (hg : ∀ t, wtG G t = g t) : ∃ E' C' q' G', fW_isWiki_21 b a10 y4 1 E C q = some (1, (E', C', q')) ∧ IS b kc N np T y4 E' C' q' G' ∧ SmG G G' ∧ IsR b C C' 8056 160432 ∧ ∀ r, r ≤ 10 → E' r = E r := by
  have F := lpn_rule (z := (fun (_ : Int) (_ : Int) (_ : Int) (_ : Int) (_ : Rw) (_ : Cd) (_ : (Nat → Nat)) => (none : Option (Int × S3)))) (body := fun L32 (v12_32 : Int) (v13_32 : Int) (v14_32 : Int) (v15_32 : Int) (E_32 : Rw) (C_32 : Cd) (q_32 : (Nat → Nat)) => fW_isWiki_32 b a10 y4 L32 v12_32 v13_32 v14_32 v15_32 E_32 C_32 q_32) (P := fun mm (L : Int → Int → Int → Int → Rw → Cd → (Nat → Nat) → Option (Int × S3)) => ∀ (i : Nat) (E : Rw) (C : Cd) (q : Nat → Nat) (G : Md), i ≤ 8 → 8 - i < mm → IS b kc N np T y4 E C q G → (∀ t, t < 8 → (stF G t ↔ w t = true)) → (∀ t, wtG G t = g t) → ∃ E' C' q' G', L 1 (cnt w i : Int) (bitsN g i : Int) (i : Int) E C q = some (1, (E', C', q')) ∧ IS b kc N np T y4 E' C' q' G' ∧ SmG G G' ∧ IsR b C C' (1007 * (8 - i)) (20054 * (8 - i)) ∧ ∀ r, r ≤ 10 → E' r = E r) (fun i _ _ _ _ _ h => absurd h (Nat.not_lt_zero _)) (fun mm L hLL i E C q G hi hm hI hw hg => by
    dsimp only
    rcases Nat.lt_or_ge i 8 with hlt | hge
    · obtain ⟨E1, C1, q1, G1, e1, hI1, sm1, r1, rows1⟩ := wiki_T (L32 := L) (v13 := (cnt w i : Int)) (n := bitsN g i) hI hk hlt ha (bitsN_24 _ (by omega)) (hw i hlt)
      obtain ⟨E2, C2, q2, G2, e2, hI2, sm2, r2, rows2⟩ := hLL (i + 1) E1 C1 q1 G1 (by omega) (by omega) hI1 (fun t ht => (stF_sm sm1 t).trans (hw t ht)) (fun t => (wtG_sm sm1 t).trans (hg t))
      refine ⟨E2, C2, q2, G2, ?_, hI2, sm1.tr sm2, ((r1.tr r2).mono (by omega) (by omega)), fun r hr => (rows2 r hr).trans (rows1 r hr)⟩
      have ec : (cnt w i : Int) + (if w i = true then 1 else 0) = ((cnt w (i + 1) : Nat) : Int) := by
        rw [cnt_succ]
        by_cases c : w i = true
        · rw [if_pos c, if_pos c]; rfl
        · rw [if_neg c, if_neg c]; rfl
      have eb : acc (bitsN g i) i (wtG G i) = bitsN g (i + 1) := by
        rw [hg i]
        rfl
      rw [e1, ec, eb]
      exact e2
    · have e : i = 8 := by omega
      subst e
      refine ⟨E, C, q, G, ?_, hI, SmG.rf, ⟨by omega, by omega, Nat.le_refl _, Nat.le_refl _⟩, fun _ _ => rfl⟩
      unfold fW_isWiki_32
      rw [bnd_eq, if_pos (by decide)]
      exact wiki_650 hI.1 hI.2.1 hw hg) FU 0 E C q G (by decide) (by unfold FU; omega) hI hw hg
  rw [show cnt w 0 = 0 from rfl, show bitsN g 0 = 0 from rfl, show ((0 : Nat) : Int) = 0 from rfl, show 1007 * (8 - 0) = 8056 from rfl, show 20054 * (8 - 0) = 160432 from rfl] at F
  unfold fW_isWiki_21
  rw [bnd_eq]
  exact F
/-- isWiki gives 1 -/
theorem W_isWiki {a10 : Int} (h : RR b kc G C) (hL : LW N np T E G) (hk : kc ≤ 900) (ha : 0 ≤ a10 ∧ a10 < 100000000) : ∃ E' C' q' G', fW_isWiki b a10 E C q = some (1, (E', C', q')) ∧ RR b kc G' C' ∧ LW N np T E' G' ∧ SmG G G' ∧ IsR b C C' 8057 160440 ∧ ∀ r, r ≤ 10 → E' r = E r := by
  have hz := h.1.1.sz
  have h8 := h.bumpA 8
  have rows0 : ∀ r, r ≤ 10 → zRow E 11 r = E r := fun r hr => if_neg (by omega)
  have z11 : ∀ j, zRow E 11 11 j = 0 := fun j => by unfold zRow; rw [if_pos rfl]
  have hI : IS b kc N np T (csz C) (zRow E 11) (cBumpA C 8) (setq q 11 (csz C)) G := ⟨h8, hL.rows rows0, ⟨0, z11 1, by decide⟩, ⟨0, z11 6, by decide⟩, if_pos rfl, by omega⟩
  obtain ⟨E', C', q', G', e1, hI1, sm, r1, rows1⟩ := wiki_L (w := wqC b (cBumpA C 8)) (g := wtG G) hI hk ha (fun t ht => h8.st (show t < 24 by omega)) (fun _ => rfl)
  refine ⟨E', C', q', G', ?_, hI1.1, hI1.2.1, sm, (((IsR.bumpA C 8).tr r1).mono (by omega) (by omega)), fun r hr => (rows1 r hr).trans (rows0 r hr)⟩
  have e2 : zRow E 11 0 2 = G.1 5 := by
    rw [rows0 0 (by decide)]
    exact hL.1.1.2.2.2.2.2.2
  unfold fW_isWiki bnd4
  dsimp only
  rw [if_pos h8.1.1.o, cal1_of (Q_clock h8), if_pos (inW 4 wl_0 (by decide) (by decide) (by decide)), bnd_eq, show ix 2 = 2 from rfl, e2, if_neg (fun z => z rfl)]
  exact e1
end WI5
