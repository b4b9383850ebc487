/-! THE CALL move -/
section MOV
variable {b kc : Nat} {M M' M1 M2 : Md} {C C' C1 : Cd} {P : Nat → Prop} {S : Nat → Nat → Nat → Prop} {VA PA LE AA : Nat → Nat} {nv np na : Nat}
theorem isTx_red : ∀ w : Nat, w < 24 → isTx (fun _ => 12000 + (w : Int)) 1 = true := by decide +kernel
theorem Tkv_red {w : Nat} (hw : w < 24) : Tkv (fun _ => 12000 + (w : Int)) 1 := fun k _ => by
  have e : (12000 + (w : Int)) = 1000 * ((12 : Nat) : Int) + (w : Int) := by omega
  show okt (12000 + (w : Int))
  rw [e]
  exact okt_of (by decide) (by omega) (by rw [show sAt 0 12 = 23 from rfl]; omega)
/-- the scratch texts -/
def sSc (b q k a : Nat) : Prop := sTx (b + 848) q k a ∨ sTx (b + 851) q k a
theorem RLy.tx (h : RLy b C) (f : Fp (sSc b) C C') (t1 : ∃ g n, TxV C' (b + 848) 60 g n) (t2 : ∃ g n, TxV C' (b + 851) 90 g n) : RLy b C' := by
  obtain ⟨h1, h2, h3, _, _⟩ := h
  have W := h1.W
  have hz := h1.sz
  have sl : ∀ {q k a : Nat}, sSc b q k a → (q = 0 ∧ k = 1102 ∧ (a = b + 848 ∨ a = b + 851)) ∨ (q = 2 ∧ (a = b + 849 ∨ a = b + 852)) := fun z => by
    unfold sSc sTx at z
    omega
  refine ⟨h1.keep (f.mono (fun q k a _ z => by have := sl z; unfold Mu; omega)), fun ff p a hf hp ha => ?_, h3.fp W f (fun z => by have := sl z; omega) (fun z => by have := sl z; omega) (fun z => by have := sl z; omega) (fun z => by have := sl z; omega), t1, t2⟩
  have pk : ∀ f', f' < 41 → ∀ x, cP C' (b + 169 + 4 * f' + 2) x = cP C (b + 169 + 4 * f' + 2) x := fun f' hf' x => f.fP (by omega) (fun z => by have := sl z; omega) x
  rw [pk ff hf] at ha
  obtain ⟨q1, q2, q3⟩ := h2 ff p a hf hp ha
  exact ⟨q1.fp W f (fun z => by have := sl z; omega), q2, fun f' p' hf' hp' z => q3 f' p' hf' hp' (by rw [← pk f' hf']; exact z)⟩
theorem sSc_qt : Qt b (sSc b) := fun q k a z _ => by unfold sSc sTx at z; omega
theorem sSc_hs : HS b C (sSc b) := fun q k a _ z hb => by unfold sSc sTx at z; omega
theorem sSc_fr (f : Fp (sSc b) C C') : Fp (sFr b) C C' := f.fr (fun a z => by unfold sSc sTx at z; omega)
/-- what changes nothing that lasts, unsettled -/
theorem RQ.quiet (h : RQ P b M C VA PA LE AA nv np na) (f : Fp S C C') (hq : Qt b S) (hs : HS b C S) (hl : RLy b C') (o : ScO M M') : RQ P b M' C' VA PA LE AA nv np na := by
  obtain ⟨h1, ⟨dn, g, h2⟩, h3, h5, h6, h7, h8, h9⟩ := h
  have hL := h1.1
  have no : ∀ {q k a : Nat}, (a = b ∨ (b + 2 ≤ a ∧ a ≤ b + 5) ∨ (b + 13 ≤ a ∧ a < b + 169) ∨ (b + 845 ≤ a ∧ a < b + 848)) → ¬ S q k a := fun ha => hq.no ha
  refine ⟨hl, ⟨dn, g, h2.low hL.W f (no (by omega)) (no (by omega)) (no (by omega)) (no (by omega)) (o.1 1 (by decide)) (o.2.1 0 (by decide))⟩, h3.low hL f (no (Or.inl rfl)) (no (Or.inl rfl)) (no (Or.inl rfl)) (fun j hj => o.1 j (by omega)) o.2.2.2 o.2.2.1, fun t ht => (h5 t ht).low hL ht f (no (by omega)) (no (by omega)) (no (by omega)) (no (by omega)) (fun k hk => o.2.1 k (by omega)), fun j hj => (h6 j hj).low hL hj f (no (by omega)) (no (by omega)) (no (by omega)) (fun k hk => o.2.1 k (by omega)), h7.low hL.W hL h1.2.1 f hs o.vs (Int.le_of_eq (o.1 5 (by decide)).symm) (no (Or.inl rfl)) (fun t ht => no (by omega)), h8.same o.vs (o.1 22 (by decide)) (fun k hk => o.2.1 k (by omega)), fun t ht => ?_⟩
  obtain ⟨r, lk, ct, rd, cd, us, hg⟩ := h9 t ht
  exact ⟨r, lk, ct, rd, cd, us, hg.low hL ht f (fun k _ _ => no (by omega)) (no (by omega)) (no (by omega)) (no (by omega)) (no (by omega)) (fun k hk => o.2.1 k (by omega))⟩
/-- at the end the titles settle -/
theorem RQ.done {M0 : Md} (h : RQ P b M1 C1 VA PA LE AA nv np na) (hb : RB kc M0) (e5 : M0.1 5 ≤ M1.1 5 ∧ M1.1 5 ≤ M0.1 5 + 50) (e13 : M1.1 13 = M0.1 13) (e22 : M0.1 22 ≤ M1.1 22 ∧ M1.1 22 ≤ M0.1 22 + 70) (e36 : M1.1 36 = 0) :
   ∃ M', fX12_settleTitles M1 = some ((), M') ∧ RR b (kc + 1) M' C1 ∧ M'.1 36 = 0 := by
  obtain ⟨M', m1, st, hq2⟩ := h.settles
  obtain ⟨s1, s2, s3, _⟩ := st
  obtain ⟨⟨b1, b2⟩, b3, b4, b5⟩ := hb
  refine ⟨M', m1, hq2.rr ?_, ?_⟩
  · unfold RB
    rw [s1 5 (by decide), s1 13 (by decide), e13]
    exact ⟨⟨by omega, by omega⟩, by omega, by omega, by omega⟩
  · rw [s1 36 (by decide)]; exact e36
def mvR (M_69 : Md) (a1 a2 t0_69 : Int) : Option (Int × Md) :=
bnd (mSet M_69 36 t0_69) fun (M3 : Md) =>
if w32 (M3.1 36) ≤ 0 then
cal (fX12_dropRendering a1 M3) fun r5 M4 =>
if inR a1 (mLen 6) then
if inR a2 (mLen 6) then bnd (mPut M4 6 (ix a2) (M4.2 6 (ix a1))) fun (M6 : Md) =>
if inR 0 (mLen 78) then bnd (mPut M6 78 (ix 0) (12000 + a2)) fun (M7 : Md) =>
cal (fX12_newPage a1 M7) fun r9 M8 =>
cal (fX12_newVersionNow r9 78 0 1 M8) fun r11 M10 =>
cal (fX12_settleTitles M10) fun r13 M12 =>
some (r11, M12)
else none
else none
else none
else
some (0, M3)
theorem mvR_no {x y : Int} (M : Md) {n : Nat} (hn : 0 < n ∧ n < 10) : mvR M x y (n : Int) = some (0, mSet M 36 (n : Int)) := by
  unfold mvR
  rw [bnd_eq, mS1, if_neg (by rw [w32_n (by omega)]; omega)]
/-- a page moved: both sides, all asked -/
theorem RR.moved (h : RR b kc M C) (hk : kc ≤ 600) {u w : Nat} (hu : u < 24) (hw : w < 24) (hu6 : M.2 6 u ≠ -1) (hw6 : M.2 6 w = -1) (hnv : M.1 8 ≠ 120) :
   ∃ nv M' C', mvR M (u : Int) (w : Int) 0 = some ((nv : Int), M') ∧ (calx (fX11_bringOver b (u : Int) (w : Int) C) fun (r16 : Unit) (C15 : Cd) =>
if isO C15 b 14 then bnd (cR C15 1405 b) fun (z17 : Option Nat) =>
drf z17 fun (p18 : Nat) =>
if isO C15 p18 11 then cal (fX8_clear p18 C15) fun (r20 : Unit) (C19 : Cd) =>
if isO C19 b 14 then bnd (cR C19 1405 b) fun (z21 : Option Nat) =>
drf z21 fun (p22 : Nat) =>
if isO C19 p22 11 then cal (fX8_add p22 (12000 + (w : Int)) C19) fun (r24 : Unit) (C23 : Cd) =>
if isO C23 b 14 then bnd (cR C23 1405 b) fun (z25 : Option Nat) =>
if isO C23 b 14 then cal (fX11_makePage b (u : Int) z25 C23) fun (r27 : Int) (C26 : Cd) =>
(some (.inl r27, C26) : Option ((Int ⊕ Nat) × Cd))
else none
else none
else none
else none
else none
else none) = some (.inl (nv : Int), C') ∧ RR b (kc + 1) M' C' ∧ M'.1 36 = 0 ∧ Fp (sFr b) C C' ∧ csz C' ≤ csz C + 7 ∧ csl C' ≤ csl C + 400 := by
  have hL := h.1.1
  have hz := hL.sz
  have huw : u ≠ w := fun e => hu6 (by rw [e]; exact hw6)
  have h3 : RR b kc (mSet M 36 0) C := (h.nil (Fp.rf hL.W) (sc36 M 0)).rb (by
    obtain ⟨⟨b1, b2⟩, b3, b4, b5⟩ := h.2.2.2.1
    exact ⟨⟨b1, b2⟩, b3, b4, b5⟩)
  obtain ⟨hB, VA, PA, LE, AA, nv, np, na, hq⟩ := h3.rq
  have hV := hq.2.2.2.2.2.1.1.1
  have h8 : (mSet M 36 0).1 8 = (nv : Int) := hV.1
  have h8' : M.1 8 = (nv : Int) := (mS2 M (k := 36) (k' := 8) 0 (by decide)).symm.trans h8
  have n120 := hV.2.1
  have hn2 : nv < 120 := by
    rcases Nat.lt_or_ge nv 120 with z | z
    · exact z
    · exact absurd (by rw [h8']; omega) hnv
  obtain ⟨p, hp, hp6⟩ : ∃ p : Nat, p < np ∧ (mSet M 36 0).2 6 u = (p : Int) := by
    rcases hq.2.2.2.2.2.1.2.2.2.1.1 u hu with z | ⟨p, z1, z2, _⟩
    · exact absurd z.1 hu6
    · exact ⟨p, z1, z2⟩
  obtain ⟨M4, C1, eD, eB, ⟨d1, d22, d2⟩, K, s1, l1, f1⟩ := hq.bring hu hw hp6 hw6 (fun z => z) (fun z => z)
  have d6 : M4.2 6 = M.2 6 := d2 6 (by decide) (by decide) (by decide)
  -- the state between, with no page at the title that was left
  have hqi := K (mPut (mPut M4 6 w (p : Int)) 6 u (-1)) rfl (fun k hk' => by rw [mPut_ne _ _ _ hk', mPut_ne _ _ _ hk']) (fun s hs => by
    by_cases c : s = u
    · rw [c, if_neg huw, if_pos rfl]; exact p2_1 _ _ _ _
    · rw [p2_2 (k := 6) (k' := 6) _ _ (Or.inr c)]
      by_cases c2 : s = w
      · rw [if_pos c2, c2]; exact p2_1 _ _ _ _
      · rw [if_neg c2, if_neg c, p2_2 (k := 6) (k' := 6) _ _ (Or.inr c2), d6]
        rfl)
  have hL1 := hqi.1.1
  obtain ⟨h1, ⟨gm, nm, tm⟩, ⟨g0, n0, t0⟩⟩ := (⟨hqi.1, hqi.1.2.2.2.1, hqi.1.2.2.2.2⟩ : RLy b C1 ∧ (∃ g n, TxV C1 (b + 848) 60 g n) ∧ ∃ g n, TxV C1 (b + 851) 90 g n)
  obtain ⟨C2, e2, v2, o2⟩ := X8_clear_ t0.1 g0
  obtain ⟨C3, e3, v3, o3⟩ := X8_add_ (v := 12000 + (w : Int)) v2 (by decide) (by omega) (by omega)
  have f2 : Fp (sSc b) C1 C2 := (o2.fp hL1.W).mono (fun _ _ _ _ z => Or.inr z)
  have f3 : Fp (sSc b) C2 C3 := (o3.fp f2.wf).mono (fun _ _ _ _ z => Or.inr z)
  have f23 := f2.tr f3
  have tm3 : TxV C3 (b + 848) 60 gm nm := tm.fp hL1.W ((o2.fp hL1.W).tr (o3.fp f2.wf)) (by unfold sTx; omega) (by unfold sTx; omega) (by unfold sTx; omega) (by unfold sTx; omega)
  have hl3 := h1.tx f23 ⟨gm, nm, tm3⟩ ⟨_, _, v3⟩
  have t3 : TxV C3 (b + 851) 90 (fun _ => 12000 + (w : Int)) 1 := v3.ext (fun k hk => by
    have e : k = 0 + 0 := by omega
    rw [e, cat_ge])
  have hL3 := hl3.1
  -- the row with one code
  generalize hMi : mPut (mPut (mPut M4 6 w (p : Int)) 78 0 (12000 + (w : Int))) 6 u (-1) = Mi
  have hq3 : RQ (fun s => no0 s ∨ (s = u ∨ s = w)) b Mi C3 VA PA LE AA nv np na := hqi.quiet f23 sSc_qt sSc_hs hl3 (by
    rw [← hMi]
    refine ⟨fun _ _ => rfl, fun k hk' => ?_, Or.inl rfl, Or.inl rfl⟩
    by_cases c : k = 6
    · subst c
      funext s
      by_cases d : s = u
      · rw [d]; exact (p2_1 _ _ _ _).trans (p2_1 _ _ _ _).symm
      · rw [p2_2 (k := 6) (k' := 6) _ _ (Or.inr d), p2_2 (k := 6) (k' := 6) _ _ (Or.inr d), mPut_ne _ _ _ (by decide)]
    · rw [mPut_ne _ _ _ c, mPut_ne _ _ _ (by omega), mPut_ne _ _ _ c, mPut_ne _ _ _ c, mPut_ne _ _ _ c])
  obtain ⟨ec, hq4⟩ := hq3.tick (x := Mi.1 5) rfl rfl
  have i1 : Mi.1 = M4.1 := by rw [← hMi]; rfl
  have i5 : M4.1 5 = M.1 5 := (d1 5 (by decide)).trans (mS2 _ _ (by decide))
  have h7 : M4.1 7 = (np : Int) := by rw [← i1]; exact hq3.2.2.2.2.2.1.2.1.1
  have h84 : M4.1 8 = (nv : Int) := by rw [← i1]; exact hq3.2.2.2.2.2.1.1.1.1
  generalize hM7 : mPut (mPut M4 6 w (p : Int)) 78 0 (12000 + (w : Int)) = M7 at *
  have j1 : M7.1 = M4.1 := by rw [← hM7]; rfl
  have e9 := X12_newPage_ (M := M7) (np := np) hu (by rw [j1]; exact h7)
  generalize hM8 : mSet (mPut M7 6 u (np : Int)) 7 ((np : Int) + 1) = M8 at *
  have k1 : ∀ j, j ≠ 7 → M8.1 j = M4.1 j := fun j hj => by rw [← hM8, mS2 _ _ hj]; exact congrFun j1 j
  generalize hMz : mSet M8 5 (M8.1 5 + 1) = Mz
  have z5 : Mz.1 5 = M4.1 5 + 1 := by rw [← hMz, mS1, k1 5 (by decide)]
  have zo : ∀ j, j ≠ 5 → j ≠ 7 → Mz.1 j = M4.1 j := fun j q1 q2 => by rw [← hMz, mS2 _ _ q1]; exact k1 j q2
  have z2 : ∀ k, k ≠ 6 → Mz.2 k = M7.2 k := fun k hk' => by rw [← hMz, ← hM8]; exact mPut_ne M7 _ _ hk'
  have m78 : M7.2 78 0 = 12000 + (w : Int) := by rw [← hM7]; exact p2_1 _ _ _ _
  have zp : ZpM (mSet Mi 5 (Mi.1 5 + 1)) Mz u np := by
    refine ⟨fun j hj => ?_, ?_, fun k hk' => ?_, fun s => ?_⟩
    · by_cases c : j = 5
      · rw [c, z5, mS1, i1]
      · rw [zo j c hj, mS2 _ _ c, i1]
    · rw [← hMz, mS2 _ _ (by decide), ← hM8]; exact mS1 _ _ _
    · rw [z2 k hk', ← hMi]
      exact (mPut_ne M7 _ _ hk').symm
    · rw [← hMz, ← hM8]
      show (mPut M7 6 u (np : Int)).2 6 s = _
      by_cases c : s = u
      · rw [if_pos c, c]; exact p2_1 _ _ _ _
      · rw [if_neg c, p2_2 (k := 6) (k' := 6) _ _ (Or.inr c), ← hMi]
        exact (p2_2 (k := 6) (k' := 6) M7 _ (Or.inr c)).symm
  obtain ⟨M6, e10, nm6⟩ := X12_newVersion_ (M := Mz) (p := (np : Int)) (tm := Mz.1 5) (nv := nv) (n := 1) (g := fun _ => 12000 + (w : Int)) (k := 78) (fr := 0) ((zo 8 (by decide) (by decide)).trans h84) hn2 (by decide) (by decide) (by rw [ml_78]; decide) (by decide) (fun i hi => by
    have e : i = 0 := by omega
    rw [e, z2 78 (by decide)]; exact m78)
  have g5 : (mSet Mi 5 (Mi.1 5 + 1)).1 5 = M4.1 5 + 1 := by rw [mS1, i1]
  have hb5 := h.2.2.2.1.1
  have nm6' : NvM Mz M6 (np : Int) ((mSet Mi 5 (Mi.1 5 + 1)).1 5) (fun _ => 12000 + (w : Int)) 1 nv := by rw [g5, ← z5]; exact nm6
  obtain ⟨C5, VA5, PA5, LE5, eC5, hq5, s5, l5, f5⟩ := hq4.newP hu (src := b + 851) (cap := 90) (t3.fp hL3.W (S := fun q k a => q = 0 ∧ k = 1406) (Fp.I hL3.W _ _ _ ⟨rfl, rfl⟩) (by omega) (by omega) (by omega) (by omega)) (isTx_red w hw) (Tkv_red hw) hn2 (by rw [g5]; exact ⟨by omega, by omega⟩) zp nm6'
  have n1 := nm6.1
  obtain ⟨M', eS, hr, r36⟩ := hq5.done (M0 := M) h.2.2.2.1 (by rw [n1 5 (by decide), z5]; omega) ((n1 13 (by decide)).trans ((zo 13 (by decide) (by decide)).trans ((d1 13 (by decide)).trans (mS2 _ _ (by decide))))) (by
    rw [n1 22 (by decide), zo 22 (by decide) (by decide)]
    rw [mS2 _ _ (by decide)] at d22
    omega) ((n1 36 (by decide)).trans ((zo 36 (by decide) (by decide)).trans ((d1 36 (by decide)).trans (mS1 _ _ _))))
  have fT : Fp (sFr b) C3 (cSetI C3 1406 b (Mi.1 5 + 1)) := (Fp.I (S := fun q _ _ => q = 0) hL3.W _ _ _ rfl).fr (fun a z => by omega)
  have zc : csz (cSetI C3 1406 b (Mi.1 5 + 1)) = csz C3 := rfl
  have zd : csl (cSetI C3 1406 b (Mi.1 5 + 1)) = csl C3 := rfl
  have y1 := o2.csz
  have y2 := o3.csz
  have y3 := o2.csl
  have y4 := o3.csl
  refine ⟨nv, M', C5, ?_, ?_, hr, r36, (((f1.fr (fun a z => ?_)).tr (sSc_fr f23)).tr fT).tr (f5.fr (fun a z => by unfold sNp at z; omega)), by omega, by omega⟩
  · unfold mvR
    rw [bnd_eq, mS1, if_pos (by decide), cal_of eD, if_pos (inM (n := 24) rfl hu (by decide)), if_pos (inM (n := 24) rfl hw (by decide)), bnd_eq, ix_n (by omega), ix_n (by omega), show M4.2 6 u = (p : Int) by rw [d6]; exact hp6, if_pos (show inR 0 (mLen 78) from inM (k := 78) (n := 1) (d := 0) rfl (by decide) (by decide)), bnd_eq, show ix 0 = 0 from rfl, hM7, cal_of e9]
    have e11 : fX12_newVersionNow (np : Int) 78 0 1 M8 = some ((nv : Int), M6) := by
      unfold fX12_newVersionNow
      have e10' : fX12_newVersion (np : Int) (Mz.1 5) 78 0 1 Mz = some ((nv : Int), M6) := e10
      rw [bnd_eq, hMz, cal_of e10']
    rw [cal_of e11, cal_of eS]
  · rw [calx_of eB, if_pos hL1.o, bnd_eq, hL1.r5, drf_some, if_pos t0.isO_, cal_of e2]
    have hL2 := hL1.keep (f2.mono (fun q k a _ z => by unfold sSc sTx at z; unfold Mu; omega))
    rw [if_pos hL2.o, bnd_eq, hL2.r5, drf_some, if_pos v2.isO_, cal_of e3, if_pos hL3.o, bnd_eq, hL3.r5, if_pos hL3.o, X11_makePage_t hL3.o, ec, cal_of eC5]
  · rcases z with z | z | z
    · omega
    · unfold sTk sRow at z; omega
    · exact absurd z.nk.1 (by decide)
theorem call_move (h : RR b kc M C) (hk : kc ≤ 600) {x y : Int} (hx : I32 x) (hy : I32 y) : CallE b kc C cd2 (fX11_move b x y C) (fX12_move x y M) := by
  have hL := h.1.1
  have W := hL.W
  have hz := hL.sz
  have e1 := mvR_no (x := x) (y := y) M (n := 1) (by decide)
  have e2' := mvR_no (x := x) (y := y) M (n := 2) (by decide)
  rcases X12_isTitle_ (x := x) M hx with ⟨e, p⟩ | ⟨e, p⟩
  · obtain ⟨u, rfl⟩ : ∃ u : Nat, x = (u : Int) := ⟨x.toNat, by omega⟩
    have hu : u < 24 := by omega
    rcases X12_isTitle_ (x := y) M hy with ⟨e2, p2⟩ | ⟨e2, p2⟩
    · obtain ⟨w, rfl⟩ : ∃ w : Nat, y = (w : Int) := ⟨y.toNat, by omega⟩
      have hw : w < 24 := by omega
      have ru := h.pg hu
      have rw_ := h.pg hw
      have w1 : w32 (M.2 6 u) = M.2 6 u := w32_of (by omega) (by omega)
      have w2 : w32 (M.2 6 w) = M.2 6 w := w32_of (by omega) (by omega)
      have wm : w32 (-1) = -1 := rfl
      by_cases cu : M.2 6 u = -1
      · refine h.exc (e := 2) (M' := mSet M 36 1) ?_ ?_ (sc36 M 1) (mS1 _ _ _) (by decide)
        · unfold fX11_move
          rw [if_pos hL.o, calx_of (X11_titleOf_in hL hu), if_pos hL.o, calx_of (X11_titleOf_in hL hw), drf_some, if_pos (hL.to hu), bnd_eq, (h.cr hu).mpr cu, opt_none]
        · unfold fX12_move
          rw [cal_of e, bnd_eq, bnd_eq, if_neg (by decide), cal_of e2, if_neg (by decide), if_pos (inM (n := 24) rfl hu (by decide)), ix_n (by omega), if_neg (fun z => z (by rw [cu]))]
          exact e1
      · obtain ⟨q, hq⟩ : ∃ q, cR C 1203 (b + 13 + 6 * u) = some q := by
          cases hc : cR C 1203 (b + 13 + 6 * u) with
          | none => exact absurd ((h.cr hu).mp hc) cu
          | some q => exact ⟨q, rfl⟩
        have hY0 : fX12_move (u : Int) (w : Int) M = (if inR (u : Int) (mLen 6) then
if ¬ w32 (M.2 6 (ix (u : Int))) = w32 (-1) then
if inR (w : Int) (mLen 6) then
if ¬ w32 (M.2 6 (ix (w : Int))) = w32 (-1) then
mvR M (u : Int) (w : Int) 2
else
cal (fX12_mayAt (u : Int) M) fun r17 M16 =>
if w32 r17 = 0 then
mvR M16 (u : Int) (w : Int) 2
else
cal (fX12_mayAt (w : Int) M16) fun r19 M18 =>
if w32 r19 = 0 then
mvR M18 (u : Int) (w : Int) 2
else
if ¬ w32 (M18.1 8) = w32 120 then
mvR M18 (u : Int) (w : Int) 0
else
mvR M18 (u : Int) (w : Int) 2
else none
else
mvR M (u : Int) (w : Int) 1
else none) := by
          unfold fX12_move
          rw [cal_of e, bnd_eq, bnd_eq, if_neg (by decide), cal_of e2, if_neg (by decide)]
          rfl
        have hY1 := hY0
        rw [if_pos (inM (n := 24) rfl hu (by decide)), ix_n (by omega), if_pos (by rw [w1, wm]; exact cu), if_pos (inM (n := 24) rfl hw (by decide)), ix_n (by omega)] at hY1
        by_cases cw : M.2 6 w = -1
        · rw [if_neg (fun z => z (by rw [cw]))] at hY1
          have hX1 : ∀ {r1 r2 : Int}, fX11_mayActAt b (some (b + 13 + 6 * u)) C = some (r1, C) → fX11_mayActAt b (some (b + 13 + 6 * w)) C = some (r2, C) → fX11_move b (u : Int) (w : Int) C = (if w32 r1 = 0 then
some (.inr 1, cBump C)
else
if w32 r2 = 0 then
some (.inr 1, cBump C)
else
if w32 (cI C 1407 b) < w32 120 then
(calx (fX11_bringOver b (u : Int) (w : Int) C) fun (r16 : Unit) (C15 : Cd) =>
if isO C15 b 14 then bnd (cR C15 1405 b) fun (z17 : Option Nat) =>
drf z17 fun (p18 : Nat) =>
if isO C15 p18 11 then cal (fX8_clear p18 C15) fun (r20 : Unit) (C19 : Cd) =>
if isO C19 b 14 then bnd (cR C19 1405 b) fun (z21 : Option Nat) =>
drf z21 fun (p22 : Nat) =>
if isO C19 p22 11 then cal (fX8_add p22 (12000 + (w : Int)) C19) fun (r24 : Unit) (C23 : Cd) =>
if isO C23 b 14 then bnd (cR C23 1405 b) fun (z25 : Option Nat) =>
if isO C23 b 14 then cal (fX11_makePage b (u : Int) z25 C23) fun (r27 : Int) (C26 : Cd) =>
(some (.inl r27, C26) : Option ((Int ⊕ Nat) × Cd))
else none
else none
else none
else none
else none
else none)
else
some (.inr 1, cBump C)) := fun {r1 r2} q1 q2 => by
            unfold fX11_move
            rw [if_pos hL.o, calx_of (X11_titleOf_in hL hu), if_pos hL.o, calx_of (X11_titleOf_in hL hw), drf_some, if_pos (hL.to hu), bnd_eq, hq, opt_some, drf_some, if_pos (hL.to hw), bnd_eq, bnd_eq, (h.cr hw).mpr cw, opt_none, if_pos hL.o, cal_of q1]
            by_cases c1 : w32 r1 = 0
            · rw [if_pos c1, if_pos c1]
            · rw [if_neg c1, if_neg c1, if_pos hL.o, cal_of q2]
              by_cases c2 : w32 r2 = 0
              · rw [if_pos c2, if_pos c2]
              · rw [if_neg c2, if_neg c2, if_pos hL.o]
                by_cases c3 : w32 (cI C 1407 b) < w32 120
                · rw [if_pos c3, if_pos c3, if_pos hL.o]
                · rw [if_neg c3, if_neg c3]
          rcases h.may hu with ⟨a1, a2⟩ | ⟨a1, a2⟩
          · rw [cal_of a2, if_neg (by decide)] at hY1
            rcases h.may hw with ⟨b1, b2⟩ | ⟨b1, b2⟩
            · rw [cal_of b2, if_neg (by decide)] at hY1
              have hX2 := hX1 a1 b1
              rw [if_neg (by decide), if_neg (by decide)] at hX2
              obtain ⟨_, VA, PA, LE, AA, nv, np, na, hq0⟩ := h.rq
              have c8 : M.1 8 = (nv : Int) := hq0.2.2.2.2.2.1.1.1.1
              have c1407 := hq0.2.2.2.2.2.1.1.2.2
              have n120 := hq0.2.2.2.2.2.1.1.1.2.1
              rw [c1407] at hX2
              by_cases cv : nv = 120
              · rw [if_neg (by rw [cv]; decide)] at hX2
                rw [if_neg (fun z => z (by rw [c8, cv]; rfl))] at hY1
                exact h.exc (e := 1) hX2 (hY1.trans e2') (sc36 M 2) (mS1 _ _ _) (by decide)
              · rw [if_pos (by rw [w32_n (by omega), show w32 120 = 120 from rfl]; omega)] at hX2
                rw [if_pos (by rw [c8, w32_n (by omega), show w32 120 = 120 from rfl]; omega)] at hY1
                obtain ⟨nv', M', C', eM, eC, hr, r36, ff, s, l⟩ := h.moved hk hu hw cu cw (by omega)
                exact ⟨M', C', _, hY1.trans eM, hr, RmL.fr hz ff (by omega) (by omega), Or.inl ⟨hX2.trans eC, r36⟩⟩
            · rw [cal_of b2, if_pos (by decide)] at hY1
              have hX2 := hX1 a1 b1
              rw [if_neg (by decide), if_pos (by decide)] at hX2
              exact h.exc (e := 1) hX2 (hY1.trans e2') (sc36 M 2) (mS1 _ _ _) (by decide)
          · rw [cal_of a2, if_pos (by decide)] at hY1
            refine h.exc (e := 1) ?_ (hY1.trans e2') (sc36 M 2) (mS1 _ _ _) (by decide)
            rcases h.may hw with ⟨b1, b2⟩ | ⟨b1, b2⟩
            · rw [hX1 a1 b1, if_pos (by decide)]
            · rw [hX1 a1 b1, if_pos (by decide)]
        · rw [if_pos (by rw [w2, wm]; exact cw)] at hY1
          refine h.exc (e := 1) ?_ (hY1.trans e2') (sc36 M 2) (mS1 _ _ _) (by decide)
          obtain ⟨q', hq'⟩ : ∃ q, cR C 1203 (b + 13 + 6 * w) = some q := by
            cases hc : cR C 1203 (b + 13 + 6 * w) with
            | none => exact absurd ((h.cr hw).mp hc) cw
            | some q => exact ⟨q, rfl⟩
          unfold fX11_move
          rw [if_pos hL.o, calx_of (X11_titleOf_in hL hu), if_pos hL.o, calx_of (X11_titleOf_in hL hw), drf_some, if_pos (hL.to hu), bnd_eq, hq, opt_some, drf_some, if_pos (hL.to hw), bnd_eq, bnd_eq, hq', opt_some]
    · refine h.exc (e := 2) (M' := mSet M 36 1) ?_ ?_ (sc36 M 1) (mS1 _ _ _) (by decide)
      · unfold fX11_move
        rw [if_pos hL.o, calx_of (X11_titleOf_in hL hu), if_pos hL.o, calx_ofx (X11_titleOf_out hL hy (by omega))]
      · unfold fX12_move
        rw [cal_of e, bnd_eq, bnd_eq, if_neg (by decide), cal_of e2, if_pos (by decide)]
        exact e1
  · refine h.exc (e := 2) (M' := mSet M 36 1) ?_ ?_ (sc36 M 1) (mS1 _ _ _) (by decide)
    · unfold fX11_move
      rw [if_pos hL.o, calx_ofx (X11_titleOf_out hL hx (by omega))]
    · unfold fX12_move
      rw [cal_of e, bnd_eq, bnd_eq, if_pos (by decide)]
      exact e1
end MOV
