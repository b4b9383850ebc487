/-! UNDOING, in both wikis -/
section UND
variable {b kc N np t : Nat} {E E' : Rw} {G G' M : Md} {C C' : Cd} {T : Nat → List Nat}
theorem LW.rep (hL : LW N np T E G) {v : Nat} (hv : v < N) : Rep (tx G v) (tl G v) (T v) ∧ (∀ m ∈ T v, okM m) ∧ okT (T v) ∧ 1 ≤ (T v).length ∧ (T v).length ≤ 5 := by
  obtain ⟨a1, a2, a3, a4, a5⟩ := hL.1.2.2.1 v hv
  exact ⟨⟨a4, fun k hk => a5 k (by omega)⟩, a2.1, a2, a3.1, a3.2⟩
theorem okM_cat {n : Nat} {p : Nat → List Nat} (h : ∀ k, ∀ m ∈ p k, okM m) : ∀ m ∈ catL n p, okM m := by
  intro m hm
  obtain ⟨k, hk, g⟩ := List.mem_flatMap.mp hm
  exact h k m g
theorem unW_ok {A V P R : List Nat} (hA : ∀ m ∈ A, okM m) (hP : ∀ m ∈ P, okM m) (h : unW A V P = some R) : ∀ m ∈ R, okM m := by
  unfold unW at h
  split at h
  · cases h
    exact okM_cat (fun k m hm => by
      split at hm
      · exact secF_ok hP k m hm
      · exact secF_ok hA k m hm)
  · cases h
/-- whether a row is a new text, in the reference -/
theorem newP_iff {g f : Nat → Int} {n m : Nat} {R P : List Nat} (hg : Rep g n R) (hf : Rep f m P) (hR : ∀ x ∈ R, okM x) (hP : ∀ x ∈ P, okM x) (hl : R.length ≤ 5) (hN : N < 120) : NewP g n f m N ↔ (isTL R = true ∧ R ≠ P) := by
  have e1 : isTx g n = isTL R := by
    rw [isTx_congr (f := tkG R) hg.2, hg.1]
    exact isTx_tks hR hl
  have e2 : (n = m ∧ ∀ k, k < n → g k = f k) ↔ R = P := by
    constructor
    · rintro ⟨h1, h2⟩
      have l : (tks R).length = (tks P).length := by rw [← hg.1, ← hf.1, h1]
      refine tks_inj _ _ hR hP (List.ext_getElem l (fun i hi hj => ?_))
      have a := h2 i (by rw [hg.1]; exact hi)
      rw [hg.2 i (by rw [hg.1]; exact hi), hf.2 i (by rw [hf.1]; exact hj), List.getD_eq_getElem?_getD, List.getD_eq_getElem?_getD, List.getElem?_eq_getElem hi, List.getElem?_eq_getElem hj] at a
      exact a
    · intro e
      subst e
      exact ⟨hg.1.trans hf.1.symm, fun k hk => by rw [hg.2 k hk, hf.2 k (by rw [hf.1, ← hg.1]; exact hk)]⟩
  unfold NewP
  rw [e1, e2]
  exact ⟨fun z => ⟨z.2.1, z.1⟩, fun z => ⟨z.2, z.1, hN⟩⟩
/-- a version written down out of the result -/
theorem R_wr {g : Nat → Int} {n : Nat} {R : List Nat} (hL : LW N np T E M) (hq : StQ M) (hr : RV M g n) (hg : Rep g n R) (ok : okT R) (hl : 1 ≤ R.length ∧ R.length ≤ 5) (h32 : N < 32) (hp : 0 ≤ M.2 6 t ∧ M.2 6 t ≤ (N : Int)) (clk : M.1 5 < 99000) (h3 : E 0 3 + 8 < 100000) : ∃ M1, fX12_newVersionNow (M.2 6 t) 76 0 (M.1 77) M = some ((N : Int), M1) ∧ M1.1 36 = M.1 36 ∧ ∀ Gs, SmG M1 Gs → Gs.1 36 = M.1 36 → ∃ G' E2, fX12_settleTitles Gs = some ((), G') ∧ G'.1 36 = M.1 36 ∧ fW_settles (avE (wPut E 0 2 (M.1 5 + 1)) N (M.2 6 t) (M.1 5 + 1) R) = some ((), E2) ∧ LW (N + 1) np (nT T N R) E2 G' ∧ E 0 3 ≤ E2 0 3 ∧ E2 0 3 ≤ E 0 3 + 8 := by
  have c0 := hL.1.1.2.2.2.2.2.1
  have hL2 := hL.clock (x := M.1 5 + 1) (by omega)
  obtain ⟨hr1, hr2⟩ := hr
  have l4 := (tks_len R).2
  have f5 : (mSet M 5 (M.1 5 + 1)).1 5 = M.1 5 + 1 := mS1 _ _ _
  have f36 : (mSet M 5 (M.1 5 + 1)).1 36 = M.1 36 := mS2 _ _ (by decide)
  have q5 : StQ (mSet M 5 (M.1 5 + 1)) := hq.of rfl rfl (mS2 _ _ (by decide))
  obtain ⟨M1, n1, n2⟩ := X12_newVersion_ (M := mSet M 5 (M.1 5 + 1)) (nv := N) (p := M.2 6 t) (tm := M.1 5 + 1) (n := n) (fr := 0) (k := 76) (g := g) hL2.2.2.2.2.2.1 (by omega) (by rw [hg.1]; omega) (by decide) (by rw [ml_76, hg.1]; omega) (by rw [ml_76]; decide) (fun i hi => hr2.2.2.1 i hi)
  refine ⟨M1, ?_, (n2.1 36 (by decide)).trans f36, fun Gs hs h36 => ?_⟩
  · unfold fX12_newVersionNow
    rw [bnd_eq, f5, hr1, show (0 : Int) = ((0 : Nat) : Int) from rfl, cal_of n1]
  · have e3 : wPut E 0 2 (M.1 5 + 1) 0 3 = E 0 3 := wP2 _ _ (by omega)
    obtain ⟨G', E2, s1, s2, s3, s4, s5, s6⟩ := hL2.fin q5 n2 hs (h36.trans f36.symm) h32 hp (by rw [f5]; omega) ok hl hg (by rw [e3]; exact h3)
    rw [e3] at s5 s6
    exact ⟨G', E2, s1, s2.trans f36, s3, s4, s5, s6⟩
theorem isVer (h : RR b kc G C) (hL : LW N np T E G) (ht : t < 8) (hp : G.2 6 t ≠ -1) {j : Nat} (hj : j < nVers G N t) : vsl G (G.2 6 t) N j < N ∧ fX12_isVersionAt (t : Int) (vsl G (G.2 6 t) N j : Int) G = some (1, G) ∧ rk G (vsl G (G.2 6 t) N j) N = j ∧ onp G (G.2 6 t) (vsl G (G.2 6 t) N j) = true := by
  unfold nVers at hj
  rw [if_neg hp] at hj
  obtain ⟨VA, PA, LE, AA, np', na, hH, hK, hc⟩ := h.atN hL.2.2.2.2.2.1 (show t < 24 by omega)
  rcases hc with z | ⟨p, p1, p2, p3⟩
  · exact absurd z.1 hp
  · rw [p2] at hj ⊢
    have a := (ord_all G (p : Int) N).1 j hj
    have n120 := hH.nv120
    rcases hH.verAt p1 (show t < 24 by omega) p2 (y := (vsl G (p : Int) N j : Int)) ⟨by omega, by omega⟩ with ⟨v, i, e, hv, hon, hi, hrk, hvs, _, _, eV⟩ | ⟨_, _, eV⟩
    · have ev : v = vsl G (p : Int) N j := by omega
      have ar := a.2.2
      refine ⟨a.1, eV, ?_, a.2.1⟩
      rw [rk_rkp (M := G) N (onp_eq a.2.1)]
      exact ar
    · exfalso
      have hx : fX12_isVersionAt (t : Int) (vsl G (p : Int) N j : Int) G = some (1, G) := by
        unfold fX12_isVersionAt
        rw [cal_of (hasP hL ht hp), bnd_eq, bnd_eq, if_neg (by decide)]
        rcases X12_in_ (x := (vsl G (p : Int) N j : Int)) (lo := 0) (hi := G.1 8 - 1) G ⟨by omega, by omega⟩ ⟨by decide, by decide⟩ ⟨by rw [hL.2.2.2.2.2.1]; omega, by rw [hL.2.2.2.2.2.1]; omega⟩ with ⟨e, q⟩ | ⟨e, q⟩
        · have e12 : G.2 12 (vsl G (p : Int) N j) = (p : Int) := onp_eq a.2.1
          rw [cal_of e, if_neg (by decide), if_pos (inM (n := 120) rfl (by omega) (by decide)), if_pos (inM (n := 24) rfl (show t < 24 by omega) (by decide)), ix_n (by omega), ix_n (by omega), e12, p2, if_neg (fun z => z rfl)]
          rfl
        · exact absurd ⟨by omega, by rw [hL.2.2.2.2.2.1]; omega⟩ q
      rw [hx] at eV
      cases eV
theorem R_undoX {j : Nat} (h : RR b kc G C) (hkc : kc ≤ 600) (hL : LW N np T E G) (ht : t < 8) (hp : G.2 6 t ≠ -1) (hj : j + 1 < nVers G N t) (h32 : N < 32) (h3 : E 0 3 + 8 < 100000) :
   (unW (T (vsl G (G.2 6 t) N j)) (T (vsl G (G.2 6 t) N (j + 1))) (T (prAt G N t).toNat) = none ∨ ∃ R, unW (T (vsl G (G.2 6 t) N j)) (T (vsl G (G.2 6 t) N (j + 1))) (T (prAt G N t).toNat) = some R ∧ R.length ≤ 5 ∧ ¬ (isTL R = true ∧ R ≠ T (prAt G N t).toNat)) ∧ (∃ C' G', fX11_undo b (t : Int) (vsl G (G.2 6 t) N (j + 1) : Int) C = some (.inr 1, C') ∧ RR b (kc + 1) G' C' ∧ RmL b C C' ∧ LW N np T E G') ∨
   (∃ R, unW (T (vsl G (G.2 6 t) N j)) (T (vsl G (G.2 6 t) N (j + 1))) (T (prAt G N t).toNat) = some R ∧ 5 < R.length) ∨
   (∃ R, unW (T (vsl G (G.2 6 t) N j)) (T (vsl G (G.2 6 t) N (j + 1))) (T (prAt G N t).toNat) = some R ∧ R.length ≤ 5 ∧ (isTL R = true ∧ R ≠ T (prAt G N t).toNat) ∧ ∃ C' G' E2, fX11_undo b (t : Int) (vsl G (G.2 6 t) N (j + 1) : Int) C = some (.inl (N : Int), C') ∧ RR b (kc + 1) G' C' ∧ RmL b C C' ∧ fW_settles (avE (wPut E 0 2 (G.1 5 + 1)) N (G.2 6 t) (G.1 5 + 1) R) = some ((), E2) ∧ LW (N + 1) np (nT T N R) E2 G' ∧ E 0 3 ≤ E2 0 3 ∧ E2 0 3 ≤ E 0 3 + 8) := by
  have sx := hL.six (show t < 24 by omega)
  have clk := h.2.2.2.1.1
  obtain ⟨u1, u2, u3, u4⟩ := isVer h hL ht hp (j := j) (by omega)
  obtain ⟨v1, v2, v3, v4⟩ := isVer h hL ht hp (j := j + 1) hj
  have npl : G.2 6 t ≤ (N : Int) := by
    have e12 : G.2 12 (vsl G (G.2 6 t) N j) = G.2 6 t := onp_eq u4
    have := hL.1.1.2.2.2.1 _ u1
    omega
  have pr := h.prN hL.2.2.2.2.2.1 (show t < 24 by omega) hp
  have prg := (prAt_lt (N := N) hL.1.2.1 ht).resolve_left pr
  obtain ⟨pv, hpv⟩ : ∃ pv : Nat, prAt G N t = (pv : Int) := ⟨(prAt G N t).toNat, by omega⟩
  have pvN : pv < N := by omega
  have vinj : vin G (G.2 6 t) N (j : Int) 0 N = (vsl G (G.2 6 t) N j : Int) := by
    unfold nVers at hj
    rw [if_neg hp] at hj
    rw [vin_ord, if_pos ⟨by omega, by omega⟩]
    rfl
  have j32 : j + 1 < 32 := by
    unfold nVers at hj
    rw [if_neg hp] at hj
    have := cnt_le (onp G (G.2 6 t)) N
    omega
  have sm0 := SmG.s36 G 0
  have hL0 := hL.sc sm0
  rw [hpv, Int.toNat_natCast]
  generalize vsl G (G.2 6 t) N j = u at *
  generalize vsl G (G.2 6 t) N (j + 1) = v at *
  obtain ⟨ru, ku, ou, lu1, lu2⟩ := hL0.rep u1
  obtain ⟨rv, kv, ov, lv1, lv2⟩ := hL0.rep v1
  obtain ⟨rp, kp, op, lp1, lp2⟩ := hL0.rep pvN
  have hV0 := hL0.vi
  obtain ⟨VA, PA, LE, AA, np', na, hH, hK⟩ := h.nN hL.2.2.2.2.2.1
  have hT0 : TI (mSet G 36 0) N := hH.1.2.1.same (sc36 G 0).vs
  -- down to the undoing
  have ev : fX12_undo (t : Int) (v : Int) G = unJ (t : Int) (v : Int) (pv : Int) (u : Int) 1 (mSet G 36 0) := by
    rw [undo_def v2, if_neg (by decide), cal_of (X12_aheadOf_ hL.vi v1), v3, if_neg (by rw [w32_n (by omega)]; omega)]
    unfold unA
    have pp := presP (G1 := mSet G 36 0) hL (t := t) (fun j hj => mS2 G _ (by omega)) (fun k hk => rfl) ht
    have ah := X12_aheadOf_ hV0 v1
    have ra : rk (mSet G 36 0) v N = j + 1 := v3
    rw [ra] at ah
    have vi := X12_versionIn_ hV0 (p := G.2 6 t) (x := (j : Int)) ⟨by omega, by omega⟩ ⟨by omega, by omega⟩
    have vj : vin (mSet G 36 0) (G.2 6 t) N (j : Int) 0 N = (u : Int) := by
      rw [vin_ord, vsl_same (sc36 G 0).vs, onp_same (sc36 G 0).vs, ← vin_ord]
      exact vinj
    rw [vj] at vi
    rw [bnd_eq, mS1, if_pos (by decide), cal_of pp, hpv, if_pos (inM (n := 24) rfl (show t < 24 by omega) (by decide)), cal_of ah, ix_n (by omega), show (mSet G 36 0).2 6 t = G.2 6 t from rfl, show ((j + 1 : Nat) : Int) - 1 = (j : Int) by omega, cal_of vi, cal_of (mayP hL0 (show t < 24 by omega))]
  obtain ⟨M2, m1, m2, m3⟩ := X12_undoes_ (M := mSet G 36 0) (A := fun i => decide (secF (T u) i = secF (T v) i)) (B := fun i => decide (secF (T pv) i = secF (T v) i)) hV0 hT0 u1 v1 pvN (fun i _ => by
    rw [decide_eq_true_iff]; exact (sameS_rep ru rv ku kv i).symm) (fun i _ => by
    rw [decide_eq_true_iff]; exact (sameS_rep rp rv kp kv i).symm)
  have sm2 : SmG (mSet G 36 0) M2 := ⟨fun j hj _ => m2.1 j (by intro z; omega), fun k hk _ => m2.2 k (by intro z; omega)⟩
  have mg := mgO_rep (a := fun i => decide (secF (T u) i = secF (T v) i)) (b' := fun i => decide (secF (T pv) i = secF (T v) i)) (okp := fun k => secF (T u) k = secF (T v) k ∨ secF (T pv) k = secF (T v) k) ru rv rp ku kv kp (fun i => by rw [decide_eq_true_iff, decide_eq_true_iff]) (fun i => decide_eq_true_iff) (unW (T u) (T v) (T pv)) rfl
  have ev2 : fX12_undo (t : Int) (v : Int) G = (cal (fX12_undoes (u : Int) (v : Int) (pv : Int) (mSet G 36 0)) fun r18 M17 =>
      if w32 r18 = 0 then
      unR M17 (t : Int) 2
      else
      unN (t : Int) (pv : Int) M17) := by
    rw [ev]; unfold unJ; rw [if_neg (by decide)]
  rw [cal_of m1] at ev2
  have hL2 := hL0.sc sm2
  have no : ∀ M3, SmG G M3 → fX12_undo (t : Int) (v : Int) G = unR M3 (t : Int) 2 → ∃ C' G', fX11_undo b (t : Int) (v : Int) C = some (.inr 1, C') ∧ RR b (kc + 1) G' C' ∧ RmL b C C' ∧ LW N np T E G' := by
    intro M3 sm hY
    rw [unR_no] at hY
    obtain ⟨C', e, e1, e2, e3, e4, e5⟩ := deed_no (call_undo h hkc (x := (t : Int)) (y := (v : Int)) ⟨by omega, by omega⟩ ⟨by omega, by omega⟩) hY (by rw [mS1]; decide)
    have e6 := ex_fX11_undo b (t : Int) (v : Int) C e C' e1
    rw [mS1] at e2
    have e7 : e = 1 := by
      simp only [List.mem_cons, List.not_mem_nil, or_false] at e6
      rcases e6 with z | z
      · exact z
      · subst z; exact absurd e2 (by decide)
    subst e7
    exact ⟨C', _, e1, e4, e5, (hL.sc sm).sc (SmG.s36 M3 2)⟩
  rcases mg with ⟨g1, g2⟩ | ⟨R, g, n, g1, g2, g3⟩
  · refine Or.inl ⟨Or.inl g1, no M2 (sm0.tr sm2) ?_⟩
    rw [ev2, g2, if_pos (by decide)]
  · rw [g2] at ev2
    have hrv := m3 g n g2
    rw [if_neg (show ¬ w32 (isS (some (g, n))) = 0 from (by decide : ¬ w32 1 = 0))] at ev2
    have okR := unW_ok ku kp g1
    by_cases l5 : R.length ≤ 5
    · have hT2 : TI M2 N := by
        have vs : VSame (mSet G 36 0) M2 := ⟨fun j hj => m2.1 j (by intro z; omega), fun k hk => m2.2 k (by intro z; omega)⟩
        exact hT0.same vs
      obtain ⟨M3, o3, e3⟩ := unN_ (x := (t : Int)) hL2.vi hT2 pvN hrv
      have rp2 : Rep (tx M2 pv) (tl M2 pv) (T pv) := (hL2.rep pvN).1
      have sm3 : SmG M2 M3 := MO.sm o3
      rcases e3 with ⟨q, e⟩ | ⟨q, e⟩
      · have q2 := (newP_iff g3 rp2 okR kp l5 (by omega)).mp q
        refine Or.inr (Or.inr ⟨R, g1, l5, q2, ?_⟩)
        have okt := isTL_ok okR q2.1
        have sm4 := (sm0.tr sm2).tr (sm3.tr (SmG.s36 M3 0))
        have hL4 := hL.sc sm4
        have q4 : StQ (mSet M3 36 0) := (hL.sto h).of (sm4.2 26 (by decide) (by decide)) (sm4.2 28 (by decide) (by decide)) (sm4.1 22 (by decide) (by decide))
        have r4 : RV (mSet M3 36 0) g n := by
          refine ⟨(mS2 M3 _ (by decide)).trans ((o3.1 77 (fun z => z)).trans hrv.1), hrv.2.1, hrv.2.2.1, fun i hi => ?_, hrv.2.2.2.2⟩
          show M3.2 76 (0 + i) = _
          rw [o3.2 76 (by decide)]
          exact hrv.2.2.2.1 i hi
        have e6 : (mSet M3 36 0).2 6 = G.2 6 := sm4.2 6 (by decide) (by decide)
        have e5 : (mSet M3 36 0).1 5 = G.1 5 := sm4.1 5 (by decide) (by decide)
        obtain ⟨M5, w1, h36, w2⟩ := R_wr (t := t) hL4 q4 r4 g3 okt.1 okt.2 h32 (by rw [e6]; omega) (by rw [e5]; omega) h3
        obtain ⟨G', E2, z1, z2, z3, z4, z5, z6⟩ := w2 M5 SmG.rf h36
        have hY : fX12_undo (t : Int) (v : Int) G = some ((N : Int), G') := by
          rw [ev2, e]
          unfold unR
          rw [bnd_eq, mS1, if_pos (by decide), if_pos (inM (n := 24) rfl (show t < 24 by omega) (by decide)), ix_n (by omega), cal_of w1, cal_of z1]
        obtain ⟨C', c1, c2, c3⟩ := deed_of (call_undo h hkc (x := (t : Int)) (y := (v : Int)) ⟨by omega, by omega⟩ ⟨by omega, by omega⟩) hY (z2.trans (mS1 M3 36 0)) cd2_ne
        rw [e5, e6] at z3
        exact ⟨C', G', E2, c1, c2, c3, z3, z4, z5, z6⟩
      · refine Or.inl ⟨Or.inr ⟨R, g1, l5, fun z => q ((newP_iff g3 rp2 okR kp l5 (by omega)).mpr z)⟩, no M3 ((sm0.tr sm2).tr sm3) ?_⟩
        rw [ev2, e]
    · exact Or.inr (Or.inl ⟨R, g1, by omega⟩)
end UND
