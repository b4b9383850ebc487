/-! A PAGE IS CREATED, in both wikis -/
section CRT
variable {b kc N np t : Nat} {E E' : Rw} {G G' : Md} {C C' : Cd} {T : Nat → List Nat}
theorem MO.sm {G G' : Md} (o : MO noS rTx G G') : SmG G G' := ⟨fun j _ _ => o.1 j (fun z => z), fun k hk _ => o.2 k (by intro z; unfold rTx at z; omega)⟩
theorem SmG.s36 (G : Md) (x : Int) : SmG G (mSet G 36 x) := ⟨fun j hj _ => mS2 G _ (by omega), fun _ _ _ => rfl⟩
theorem SmG.s1 (G : Md) (x : Int) : SmG G (mSet G 1 x) := ⟨fun j _ h1 => mS2 G _ h1, fun _ _ _ => rfl⟩
theorem LW.vi (hL : LW N np T E G) : VI G N := by
  obtain ⟨⟨⟨v1, v2, v3, v4, v5, v6, v7⟩, hP, hTt, hWG, hK⟩, hD, hTr, ho, hn, n8, n10⟩ := hL
  refine ⟨n8, by omega, fun v hv => ?_, v4, fun v hv => ?_⟩
  · have := v5 v hv
    exact ⟨by omega, by omega⟩
  · obtain ⟨b1, b2, b3, b4, b5⟩ := hTt v hv
    have l := tks_len (T v)
    have e : (G.2 10 v).toNat = (tks (T v)).length := b4
    omega
theorem LW.six (hL : LW N np T E G) {u : Nat} (hu : u < 24) : -1 ≤ G.2 6 u ∧ G.2 6 u < 120 := by
  by_cases c : u < 8
  · exact (hL.1.2.1 u c).2
  · rw [hL.2.2.2.1.2.2 u (by omega) hu]; decide
theorem LW.prp (hL : LW N np T E G) (ht : t < 8) : prAt G N t ≠ -1 → G.2 6 t ≠ -1 := fun h e => h (by unfold prAt; rw [if_pos e])
/-- the titles settle in the reference -/
theorem LW.st_ (hL : LW N np T E G) (h26 : ∀ u, u < 24 → -1 ≤ G.2 26 u ∧ G.2 26 u < 900) : ∃ G', fX12_settleTitles G = some ((), G') ∧ StM G G' N := X12_settleTitles_ hL.vi (fun u hu => by have := hL.six hu; exact ⟨by omega, by omega⟩) (fun u hu => by have := h26 u hu; exact ⟨by omega, by omega⟩)
/-- and in the law's rows -/
theorem LW.se_ (hL : LW N np T E G) (hS : StM G G' N) (h28 : ∀ u, u < 8 → G.2 28 u ≤ G.1 22) (h26 : ∀ u, u < 24 → -1 ≤ G.2 26 u ∧ G.2 26 u < 900) (h3 : E 0 3 + 8 < 100000) : ∃ E2, fW_settles E = some ((), E2) ∧ LW N np T E2 G' ∧ E 0 3 ≤ E2 0 3 ∧ E2 0 3 ≤ E 0 3 + 8 := by
  have k1 := hL.1.2.2.2.2.1
  obtain ⟨E2, e1, e2⟩ := W_settles hL.1.1 hL.1.2.1 (by omega) (fun u hu => by
    have := (hL.1.2.2.2.2.2.1 u hu).2
    have := h26 u (by omega)
    omega)
  have e3 := e2.2.2.1
  exact ⟨E2, e1, hL.settle h28 hS e2 (by omega), e3.1, e3.2⟩
theorem RR.h26 (h : RR b kc G C) (h8 : G.1 8 = (N : Int)) (hP : ∀ u, u < 24 → -1 ≤ G.2 6 u) (h32 : N ≤ 32) : (∀ u, u < 24 → -1 ≤ G.2 26 u ∧ G.2 26 u < 900) ∧ (∀ u, u < 8 → G.2 28 u ≤ G.1 22) ∧ ∀ u, u < 24 → G.2 26 u = prAt G N u := by
  obtain ⟨VA, PA, LE, AA, np, na, hH, hK⟩ := h.nN h8
  refine ⟨fun u hu => ?_, fun u hu => (hK.2.2.2.2 u (by omega)).2, hK.1⟩
  rw [hK.1 u hu]
  have := prAt_rng G N u
  omega
/-- a deed's answer, where the reference's is known -/
theorem deed_of {code : Nat → Int} {X : Option ((Int ⊕ Nat) × Cd)} {Y : Option (Int × Md)} {y : Int} (hc : CallE b kc C code X Y) (hY : Y = some (y, G')) (h36 : G'.1 36 = 0) (hcode : ∀ e, e < 3 → code e ≠ 0) : ∃ C', X = some (.inl y, C') ∧ RR b (kc + 1) G' C' ∧ RmL b C C' := by
  obtain ⟨M', C', y', e1, e2, e3, e4⟩ := hc
  rw [hY] at e1
  cases e1
  rcases e4 with ⟨e4, e5⟩ | ⟨e, e4, e5, e6⟩
  · exact ⟨C', e4, e2, e3⟩
  · exact absurd (e5.symm.trans h36) (hcode e e6)
theorem deed_no {code : Nat → Int} {X : Option ((Int ⊕ Nat) × Cd)} {Y : Option (Int × Md)} {y : Int} (hc : CallE b kc C code X Y) (hY : Y = some (y, G')) (h36 : G'.1 36 ≠ 0) : ∃ C' e, X = some (.inr e, C') ∧ G'.1 36 = code e ∧ e < 3 ∧ RR b (kc + 1) G' C' ∧ RmL b C C' := by
  obtain ⟨M', C', y', e1, e2, e3, e4⟩ := hc
  rw [hY] at e1
  cases e1
  rcases e4 with ⟨e4, e5⟩ | ⟨e, e4, e5, e6⟩
  · exact absurd e5 h36
  · exact ⟨C', e, e4, e5, e6, e2, e3⟩
theorem cd2_ne : ∀ e, e < 3 → cd2 e ≠ 0 := fun e _ => by unfold cd2; split <;> decide
/-- the law's rows behind a page made -/
def crE (E : Rw) (t N np : Nat) (x : Int) (Tn : List Nat) : Rw := wPut (wPut (wPut (wPut (wPut (wPut (wPut E 0 2 x) 1 t ((np : Int) + 1)) 0 1 ((np : Int) + 1)) 2 (2 * N) (np : Int)) 2 (2 * N + 1) x) 3 N (encT Tn)) 0 0 ((N : Int) + 1)
theorem R_create {Tn : List Nat} (h : RR b kc G C) (hkc : kc ≤ 600) (hL : LW N np T E G) (ht : t < 8) (hp : G.2 6 t = -1) (hD : DrA G (tks Tn)) (ok : okT Tn) (hl : 1 ≤ Tn.length ∧ Tn.length ≤ 5) (h32 : N < 32) (h3 : E 0 3 + 8 < 100000) :
   ∃ C' G' E2, fX11_create b (t : Int) C = some (.inl (N : Int), C') ∧ RR b (kc + 1) G' C' ∧ RmL b C C' ∧ fW_settles (crE E t N np (G.1 5 + 1) Tn) = some ((), E2) ∧ LW (N + 1) (np + 1) (fun v => if v = N then Tn else T v) E2 G' ∧ E 0 3 ≤ E2 0 3 ∧ E2 0 3 ≤ E 0 3 + 8 := by
  obtain ⟨hD1, hD2, hD3⟩ := hD
  obtain ⟨q1, q2, q3⟩ := h.h26 hL.2.2.2.2.2.1 (fun u hu => (hL.six hu).1) (by omega)
  have hnp : np ≤ N := by
    obtain ⟨VA, PA, LE, AA, np', na, hH, hK⟩ := h.nN hL.2.2.2.2.2.1
    have a := hH.2.1.1
    have b := hH.2.1.2.1
    have c := hL.2.2.2.2.1.2
    omega
  have clk := h.2.2.2.1.1
  have isx : isTx (tkG Tn) (tks Tn).length = true := by rw [isTx_tks ok.1 hl.2]; exact isTL_of ok hl.1 hl.2
  -- the draft is a text
  obtain ⟨M11, i1, o1⟩ := X12_isText_ (M := G) (k := 0) (fr := 0) (n := (tks Tn).length) (g := tkG Tn) (by decide) (by decide) ⟨by rw [ml_0]; omega, by decide, fun i hi => by rw [Nat.zero_add]; exact hD3 i hi, fun k hk => by
    obtain ⟨dn, g, hd⟩ := h.2.1
    have e1 : dn = (tks Tn).length := by have := hd.1; omega
    have tk := hd.2.2.1.tks k (by omega)
    rw [← hd.2.2.2.2 k (by omega), hD3 k hk] at tk
    exact tk⟩ (by omega)
  rw [if_pos isx] at i1
  have sm := o1.sm
  have hL1 := hL.sc sm
  have a1 : ∀ j, M11.1 j = G.1 j := fun j => o1.1 j (fun z => z)
  have d0 : ∀ k, k < (tks Tn).length → M11.2 0 k = tkG Tn k := fun k hk => by rw [o1.2 0 (by intro z; unfold rTx at z; omega)]; exact hD3 k hk
  have a26 : M11.2 26 = G.2 26 := sm.2 26 (by decide) (by decide)
  have a28 : M11.2 28 = G.2 28 := sm.2 28 (by decide) (by decide)
  -- the clock, the page
  have hL2 := hL1.sc (SmG.s36 M11 0)
  have hL3 := hL2.clock (x := (mSet M11 36 0).1 5 + 1) (by
    rw [mS2 M11 _ (by decide), a1]
    omega)
  have hL4 := hL3.page ht hnp
  have e5 : (mSet M11 36 0).1 5 = G.1 5 := (mS2 M11 _ (by decide)).trans (a1 5)
  have e7 : (mSet (mSet M11 36 0) 5 ((mSet M11 36 0).1 5 + 1)).1 7 = (np : Int) := (mS2 _ _ (by decide)).trans ((mS2 M11 _ (by decide)).trans ((a1 7).trans hL.2.2.2.2.1.2))
  have np_ := X12_newPage_ (M := mSet (mSet M11 36 0) 5 ((mSet M11 36 0).1 5 + 1)) (t := t) (by omega) e7
  have f1 : ∀ j, j ≠ 36 → j ≠ 5 → j ≠ 7 → (mSet (mPut (mSet (mSet M11 36 0) 5 ((mSet M11 36 0).1 5 + 1)) 6 t (np : Int)) 7 ((np : Int) + 1)).1 j = G.1 j := fun j j1 j2 j3 => by
    rw [mS2 (mPut (mSet (mSet M11 36 0) 5 ((mSet M11 36 0).1 5 + 1)) 6 t (np : Int)) _ j3]
    exact (mS2 (mSet M11 36 0) _ j2).trans ((mS2 M11 _ j1).trans (a1 j))
  have f5 : (mSet (mPut (mSet (mSet M11 36 0) 5 ((mSet M11 36 0).1 5 + 1)) 6 t (np : Int)) 7 ((np : Int) + 1)).1 5 = G.1 5 + 1 := by
    rw [mS2 (mPut (mSet (mSet M11 36 0) 5 ((mSet M11 36 0).1 5 + 1)) 6 t (np : Int)) _ (by decide)]
    show (mSet (mSet M11 36 0) 5 ((mSet M11 36 0).1 5 + 1)).1 5 = _
    rw [mS1, e5]
  have f36 : (mSet (mPut (mSet (mSet M11 36 0) 5 ((mSet M11 36 0).1 5 + 1)) 6 t (np : Int)) 7 ((np : Int) + 1)).1 36 = 0 := by
    rw [mS2 (mPut (mSet (mSet M11 36 0) 5 ((mSet M11 36 0).1 5 + 1)) 6 t (np : Int)) _ (by decide)]
    show (mSet (mSet M11 36 0) 5 ((mSet M11 36 0).1 5 + 1)).1 36 = 0
    rw [mS2 (mSet M11 36 0) _ (by decide), mS1]
  have f2 : ∀ k, k ≠ 6 → (mSet (mPut (mSet (mSet M11 36 0) 5 ((mSet M11 36 0).1 5 + 1)) 6 t (np : Int)) 7 ((np : Int) + 1)).2 k = M11.2 k := fun k hk => mPut_ne (mSet (mSet M11 36 0) 5 ((mSet M11 36 0).1 5 + 1)) _ _ hk
  have ecr : ∀ G', fX12_newPage (t : Int) (mSet (mSet M11 36 0) 5 ((mSet M11 36 0).1 5 + 1)) = some ((np : Int), mSet (mPut (mSet (mSet M11 36 0) 5 ((mSet M11 36 0).1 5 + 1)) 6 t (np : Int)) 7 ((np : Int) + 1)) → fX12_fromDraft (np : Int) ((mSet (mPut (mSet (mSet M11 36 0) 5 ((mSet M11 36 0).1 5 + 1)) 6 t (np : Int)) 7 ((np : Int) + 1)).1 5) (mSet (mPut (mSet (mSet M11 36 0) 5 ((mSet M11 36 0).1 5 + 1)) 6 t (np : Int)) 7 ((np : Int) + 1)) = some ((N : Int), G') → fX12_create (t : Int) G = some ((N : Int), G') := by
    intro G' n1 n2
    unfold fX12_create
    rcases X12_isTitle_ (x := (t : Int)) G ⟨by omega, by omega⟩ with ⟨e, p⟩ | ⟨e, p⟩
    · rw [cal_of e, bnd_eq, if_pos (by decide), if_pos (inM (n := 24) rfl (show t < 24 by omega) (by decide)), bnd_eq, ix_n (by omega), hp, if_neg (fun z => z rfl)]
      rcases X12_mayAt_ (M := G) (t := t) (by omega) (by rw [hL.2.2.2.1.1]; decide) (by rw [hL.2.2.2.1.2.1 t (by omega)]; decide) with ⟨m1, m2⟩ | ⟨m1, m2⟩
      · rw [cal_of m1, if_neg (by decide), hD1, show (0 : Int) = ((0 : Nat) : Int) from rfl, cal_of i1, if_neg (by decide), a1 8, hL.2.2.2.2.2.1, if_pos (by rw [w32_n (by omega), show w32 120 = 120 from rfl]; omega)]
        dsimp only
        rw [show ((0 : Nat) : Int) = 0 from rfl, bnd_eq, mS1, if_pos (by decide), bnd_eq, cal_of n1, cal_of n2]
      · exact absurd (by rw [hL.2.2.2.1.1, hL.2.2.2.1.2.1 t (by omega)]; decide) m2
    · exact absurd ⟨by omega, by omega⟩ p
  have hLE : wPut (wPut (wPut E 0 2 ((mSet M11 36 0).1 5 + 1)) 1 t ((np : Int) + 1)) 0 1 ((np : Int) + 1) = wPut (wPut (wPut E 0 2 (G.1 5 + 1)) 1 t ((np : Int) + 1)) 0 1 ((np : Int) + 1) := by rw [e5]
  rw [hLE] at hL4
  generalize mSet (mPut (mSet (mSet M11 36 0) 5 ((mSet M11 36 0).1 5 + 1)) 6 t (np : Int)) 7 ((np : Int) + 1) = G6 at *
  -- the version
  have z8 : G6.1 8 = (N : Int) := (f1 8 (by decide) (by decide) (by decide)).trans hL.2.2.2.2.2.1
  obtain ⟨M1, n1, n2⟩ := X12_fromDraft_ (M := G6) (nv := N) (p := (np : Int)) (tm := G6.1 5) (dn := (tks Tn).length) (g := tkG Tn) z8 (by omega) ((f1 1 (by decide) (by decide) (by decide)).trans hD1) hD2 (fun k hk => by rw [f2 0 (by decide)]; exact d0 k hk)
  have hL5 := (hL4.addV n1 h32 (by omega) (by rw [f5]; omega) ok hl ⟨rfl, fun k _ => rfl⟩).sc (SmG.s1 M1 0)
  have b26 : ∀ u, u < 24 → -1 ≤ (mSet M1 1 0).2 26 u ∧ (mSet M1 1 0).2 26 u < 900 := fun u hu => by
    have : (mSet M1 1 0).2 26 = G.2 26 := (n1.2.2.1 26 (by omega)).trans ((f2 26 (by decide)).trans a26)
    rw [this]; exact q1 u hu
  have b28 : ∀ u, u < 8 → (mSet M1 1 0).2 28 u ≤ (mSet M1 1 0).1 22 := fun u hu => by
    have e1 : (mSet M1 1 0).2 28 = G.2 28 := (n1.2.2.1 28 (by omega)).trans ((f2 28 (by decide)).trans a28)
    have e2 : (mSet M1 1 0).1 22 = G.1 22 := (mS2 M1 _ (by decide)).trans ((n1.1 22 (by decide)).trans (f1 22 (by decide) (by decide) (by decide)))
    rw [e1, e2]; exact q2 u hu
  obtain ⟨G', s1, s2⟩ := hL5.st_ b26
  have hY := ecr G' np_ (n2 G' s1)
  have hE3 : (wPut (wPut (wPut (wPut (wPut (wPut (wPut E 0 2 (G.1 5 + 1)) 1 t ((np : Int) + 1)) 0 1 ((np : Int) + 1)) 2 (2 * N) (np : Int)) 2 (2 * N + 1) (G6.1 5)) 3 N (encT Tn)) 0 0 ((N : Int) + 1)) 0 3 = E 0 3 := by
    rw [wP2 _ _ (by omega), wP2 _ _ (by omega), wP2 _ _ (by omega), wP2 _ _ (by omega), wP2 _ _ (by omega), wP2 _ _ (by omega), wP2 _ _ (by omega)]
  obtain ⟨E2, t1, t2, t3, t4⟩ := hL5.se_ s2 b28 b26 (by rw [hE3]; exact h3)
  rw [hE3] at t3 t4
  rw [f5] at t1
  have g36 : G'.1 36 = 0 := (s2.1 36 (by decide)).trans ((mS2 M1 _ (by decide)).trans ((n1.1 36 (by decide)).trans f36))
  obtain ⟨C', c1, c2, c3⟩ := deed_of (call_create h hkc (x := (t : Int)) ⟨by omega, by omega⟩) hY g36 cd2_ne
  exact ⟨C', G', E2, c1, c2, c3, t1, t2, t3, t4⟩
/-- a title that has a page -/
theorem R_createNo (h : RR b kc G C) (hkc : kc ≤ 600) (hL : LW N np T E G) (ht : t < 8) (hp : G.2 6 t ≠ -1) : ∃ C' G', fX11_create b (t : Int) C = some (.inr 1, C') ∧ RR b (kc + 1) G' C' ∧ RmL b C C' ∧ LW N np T E G' := by
  have pg := hL.six (show t < 24 by omega)
  have hY : fX12_create (t : Int) G = some (0, mSet G 36 2) := by
    unfold fX12_create
    rcases X12_isTitle_ (x := (t : Int)) G ⟨by omega, by omega⟩ with ⟨e, p⟩ | ⟨e, p⟩
    · rw [cal_of e, bnd_eq, if_pos (by decide), if_pos (inM (n := 24) rfl (show t < 24 by omega) (by decide)), bnd_eq, ix_n (by omega), if_pos (by rw [w32_of (by omega) (by omega), show w32 (-1) = -1 from rfl]; exact hp)]
      dsimp only
      rw [bnd_eq, mS1, if_neg (by decide)]
    · exact absurd ⟨by omega, by omega⟩ p
  obtain ⟨C', e, e1, e2, e3, e4, e5⟩ := deed_no (call_create h hkc (x := (t : Int)) ⟨by omega, by omega⟩) hY (by rw [mS1]; decide)
  have e6 := ex_fX11_create b (t : Int) C e C' e1
  rw [mS1] at e2
  have e7 : e = 1 := by
    simp only [List.mem_cons, List.not_mem_nil, or_false] at e6
    rcases e6 with z | z
    · exact z
    · subst z; exact absurd e2 (by decide)
  subst e7
  exact ⟨C', _, e1, e4, e5, hL.sc (SmG.s36 G 2)⟩
end CRT
