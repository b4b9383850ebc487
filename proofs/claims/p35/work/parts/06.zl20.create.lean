/-! WHETHER A ROW IS A TEXT, with what it makes -/
section TX9
variable {C : Cd} {a cap n : Nat} {g : Nat → Int}
theorem X8_isText_2 (W : Wf C) (h : TxV C a cap g n) : ∃ C', fX8_isText a C = some (if isTx g n = true then 1 else 0, C') ∧ Kp (fun _ => False) C C' ∧ csz C' ≤ csz C + 1 ∧ csl C ≤ csl C' ∧ csl C' ≤ csl C + 31 := by
  have hO := h.isO_
  have hz := h.sz
  have hn := h.n90
  unfold isTx fX8_isText
  by_cases c1 : 1 ≤ n
  · by_cases c2 : n ≤ 30
    · have ha1 : a < csz C := W a hO.1
      have ha2 : a + 1 < csz C := W _ h.1.1.2.2.2.1.1
      have e0 : Int.toNat 31 = 31 := rfl
      have e1 : Int.toNat 0 = 0 := rfl
      have hk1 : Kp (fun _ => False) C (cNewA C 100 31) := Kp.A W 100 31
      have hk2 : Kp (fun q => q = csz C) (cNewA C 100 31) (cSetE (cNewA C 100 31) (csz C) 0 (-1)) := Kp.E (Wf_A W 100 31) _ _ _ rfl
      have hk3 : Kp (fun _ => False) C (cSetE (cNewA C 100 31) (csz C) 0 (-1)) := hk1.tr2 hk2 (fun b hb e => absurd e (Nat.ne_of_lt hb))
      generalize hL0 : (lpn (fun (_ : Int) (_ : Int) (_ : Cd) => (none : Option (Int × Cd))) (fun L32 (v2_32 : Int) (v3_32 : Int) (C_32 : Cd) =>
if isO C_32 a 11 then
if w32 (cI C_32 1102 a) ≤ w32 v3_32 then
bnd (fun (t0_141 : Int) (C_141 : Cd) =>
retZ t0_141 C_141) fun J141 =>
if ¬ w32 v2_32 = 0 then
J141 0 C_32
else
J141 1 C_32
else
if isO C_32 a 11 then cal (fX8_kindAt a v3_32 C_32) fun (r4 : Int) (C3 : Cd) =>
bnd (fun (t0_69 : Int) (C_69 : Cd) =>
if isO C_69 (csz C) 100 ∧ inR v2_32 (cn C_69 (csz C)) then
if isO C_69 a 11 then cal (fX8_fits a r4 (cE C_69 (csz C) (ix v2_32)) t0_69 C_69) fun (r6 : Int) (C5 : Cd) =>
if ¬ w32 r6 = 0 then
cal (fX8_opens r4 C5) fun (r8 : Int) (C7 : Cd) =>
bnd (fun (v2_126 : Int) (C_126 : Cd) =>
L32 v2_126 (v3_32 + 1) C_126) fun J126 =>
bnd (fun  (C_112 : Cd) =>
if ¬ w32 r4 = w32 7 then
J126 v2_32 C_112
else
if w32 v2_32 ≤ 0 then
J126 v2_32 C_112
else
J126 (v2_32 + (-1)) C_112) fun J112 =>
if w32 r8 = 0 then
J112 C7
else
if w32 30 ≤ w32 v2_32 then
J112 C7
else
if isO C7 (csz C) 100 ∧ inR (v2_32 + 1) (cn C7 (csz C)) then bnd (cSetE C7 (csz C) (ix (v2_32 + 1)) r4) fun (C9 : Cd) =>
J126 (v2_32 + 1) C9
else none
else
some (0, C5)
else none
else none) fun J69 =>
bnd (fun  (C_68 : Cd) =>
J69 0 C_68) fun J68 =>
if w32 v3_32 ≤ 0 then
J68 C3
else
if isO C3 a 11 then cal (fX8_kindAt a (v3_32 - 1) C3) fun (r11 : Int) (C10 : Cd) =>
cal (fX8_opens r11 C10) fun (r13 : Int) (C12 : Cd) =>
if w32 r13 = 0 then
J68 C12
else
J69 1 C12
else none
else none
else none) FU) = L0
      obtain ⟨C', r1, r2, r3, r4⟩ := X8_isText_loop (L0 := L0) (C0 := cSetE (cNewA C 100 31) (csz C) 0 (-1)) (z := csz C) c1 c2 (by omega) (by omega) ⟨isO_A1 C 100 31, cn_A1 C 100 31⟩ (Wf_E (Wf_A W 100 31) _ _ _) (h.kp W hk3 (fun e => e) (fun e => e)) (cE_E1 _ _ _ _) hL0.symm
      refine ⟨C', ?_, hk3.tr2 r2 (fun b hb e => absurd e (Nat.ne_of_lt hb)), ?_, ?_, ?_⟩
      · have e5 : (decide (1 ≤ n ∧ n ≤ 30)) = true := decide_eq_true ⟨c1, c2⟩
        rw [e5, Bool.true_and, ← r1]
        have o1 := isO_A1 C 100 31
        have o2 := cn_A1 C 100 31
        simp (disch := omega) only [isO, ↓bnd_eq, ↓reduceIte, ↓drf_some, ↓cal_some, ↓calx_inl, ↓calx_inr, ↓opt_some, ↓opt_none, w32_of, ix_of, inR, le_t, le_f, lt_t, lt_f, eq_t, eq_f, and_self, true_and, and_true, false_and, and_false, not_true_eq_false, not_false_eq_true, or_true, true_or, or_false, false_or, Bool.false_eq_true, hO, hz, e0, e1, o1, o2]
      · rw [r3]; exact Nat.le_refl _
      · rw [r4]; exact Nat.le_add_right _ _
      · rw [r4]; exact Nat.le_refl _
    · refine ⟨C, ?_, Kp.rf W _, Nat.le_succ _, Nat.le_refl _, by omega⟩
      rw [decide_eq_false (fun q => c2 q.2), Bool.false_and]
      simp (disch := omega) only [isO, ↓bnd_eq, ↓reduceIte, ↓drf_some, ↓cal_some, ↓calx_inl, ↓calx_inr, ↓opt_some, ↓opt_none, w32_of, ix_of, inR, le_t, le_f, lt_t, lt_f, eq_t, eq_f, and_self, true_and, and_true, false_and, and_false, not_true_eq_false, not_false_eq_true, or_true, true_or, or_false, false_or, Bool.false_eq_true, hO, hz]
  · refine ⟨C, ?_, Kp.rf W _, Nat.le_succ _, Nat.le_refl _, by omega⟩
    rw [decide_eq_false (fun q => c1 q.1), Bool.false_and]
    simp (disch := omega) only [isO, ↓bnd_eq, ↓reduceIte, ↓drf_some, ↓cal_some, ↓calx_inl, ↓calx_inr, ↓opt_some, ↓opt_none, w32_of, ix_of, inR, le_t, le_f, lt_t, lt_f, eq_t, eq_f, and_self, true_and, and_true, false_and, and_false, not_true_eq_false, not_false_eq_true, or_true, true_or, or_false, false_or, Bool.false_eq_true, hO, hz]
end TX9
/-! THE CALLS create AND bringIn -/
section CRE
variable {b kc : Nat} {M M' M1 M2 : Md} {C C' C1 : Cd} {P : Nat → Prop} {VA PA LE AA : Nat → Nat} {nv np na : Nat}
/-- frames' rows stay -/
def sFr (b q k a : Nat) : Prop := q ≠ 3 ∨ b + 854 ≤ a
theorem Fp.fr {S : Nat → Nat → Nat → Prop} (h : Fp S C C') (q : ∀ a, S 3 0 a → b + 854 ≤ a) : Fp (sFr b) C C' :=
  ⟨h.1, h.2.1, h.2.2.1, h.2.2.2.1, fun a ha => by
    have y := h.2.2.2.2 a ha
    refine ⟨fun k z => ?_, fun k z => ?_, fun z => ?_, fun z => y.2.2.2 (fun w => z (Or.inr (q a w)))⟩
    · exact absurd (Or.inl (by decide)) z
    · exact absurd (Or.inl (by decide)) z
    · exact absurd (Or.inl (by decide)) z⟩
theorem RmL.fr (hz : b + 854 ≤ csz C) (f : Fp (sFr b) C C') (h1 : csz C' ≤ csz C + 500) (h2 : csl C' ≤ csl C + 10000) : RmL b C C' := RmL.of hz f (fun f' hf z => by
  rcases z with z | z
  · exact z rfl
  · omega) h1 h2
theorem RR.may (h : RR b kc M C) {t : Nat} (ht : t < 24) : (fX11_mayActAt b (some (b + 13 + 6 * t)) C = some (1, C) ∧ fX12_mayAt (t : Int) M = some (1, M)) ∨ (fX11_mayActAt b (some (b + 13 + 6 * t)) C = some (0, C) ∧ fX12_mayAt (t : Int) M = some (0, M)) := by
  obtain ⟨⟨r1, r2, r3⟩, _⟩ := h.2.2.1
  obtain ⟨⟨p1, p2, p3⟩, _⟩ := h.2.2.2.2.1 t ht
  have a := X11_mayActAt_ h.1.1 ht r1.symm p1.symm ⟨r2, r3⟩ ⟨p2, p3⟩
  have c := X12_mayAt_ (M := M) ht ⟨r2, r3⟩ ⟨p2, p3⟩
  rcases a with ⟨a1, a2⟩ | ⟨a1, a2⟩ <;> rcases c with ⟨c1, c2⟩ | ⟨c1, c2⟩
  · exact Or.inl ⟨a1, c1⟩
  · exact absurd a2 c2
  · exact absurd c2 a2
  · exact Or.inr ⟨a1, c1⟩
/-- the draft, asked on both sides whether it is a text -/
theorem RR.draft (h : RR b kc M C) : ∃ dn g C1 M1, RD b M C dn g ∧ fX8_isText (b + 845) C = some (if isTx g dn = true then 1 else 0, C1) ∧ fX12_isText 0 0 (M.1 1) M = some (if isTx g dn = true then 1 else 0, M1) ∧ RR b kc M1 C1 ∧ Fp (fun _ _ _ => False) C C1 ∧ csz C1 ≤ csz C + 1 ∧ csl C1 ≤ csl C + 31 ∧ ScO M M1 ∧ M1.1 = M.1 := by
  obtain ⟨dn, g, hd⟩ := h.2.1
  have hd' := hd
  obtain ⟨d1, d2, d3, d4, d5⟩ := hd
  have W := h.1.1.W
  obtain ⟨C1, e1, k1, s1, hl, l1⟩ := X8_isText_2 W d3
  · obtain ⟨M1, e2, o2⟩ := X12_isText_ (M := M) (k := 0) (fr := 0) (n := dn) (g := g) (by decide) (by decide) ⟨by rw [ml_0]; omega, by decide, fun i hi => by rw [Nat.zero_add]; exact d5 i hi, d3.tks⟩ (by omega)
    have f : Fp (fun _ _ _ => False) C C1 := Fp.of k1 hl (fun _ _ _ _ z => z)
    have o : ScO M M1 := ⟨fun j _ => o2.1 j (fun z => z), fun k hk => o2.2 k (by omega), Or.inl (o2.1 68 (fun z => z)), Or.inl (o2.1 71 (fun z => z))⟩
    exact ⟨dn, g, C1, M1, hd', e1, by rw [d1]; exact e2, (h.nil f o).rb (by
      obtain ⟨⟨b1, b2⟩, b3, b4, b5⟩ := h.2.2.2.1
      unfold RB
      rw [o2.1 5 (fun z => z), o2.1 13 (fun z => z), o2.1 22 (fun z => z)]
      exact ⟨⟨b1, b2⟩, b3, b4, b5⟩), f, s1, l1, o, funext fun j => o2.1 j (fun z => z)⟩
theorem RR.excS (h : RR b kc M1 C1) {e : Nat} {code : Nat → Int} {X : Option ((Int ⊕ Nat) × Cd)} {Y : Option (Int × Md)} (hz : b + 854 ≤ csz C) (f : Fp (sFr b) C C1) (s : csz C1 ≤ csz C + 400) (l : csl C1 ≤ csl C + 9000) (hX : X = some (.inr e, cBump C1)) (hY : Y = some (0, M')) (o : ScO M1 M') (h36 : M'.1 36 = code e) (he : e < 3) : CallE b kc C code X Y := by
  have W := h.1.1.W
  refine ⟨M', cBump C1, 0, hY, h.nil (Fp.bump W) o, RmL.fr hz (f.tr ((Fp.bump W).fr (fun _ z => z.elim))) ?_ ?_, Or.inr ⟨e, hX, h36, he⟩⟩
  · show csz C1 + 1 ≤ _
    omega
  · show csl C1 + 6 ≤ _
    omega
theorem RQ.settles (h : RQ P b M C VA PA LE AA nv np na) : ∃ M', fX12_settleTitles M = some ((), M') ∧ StM M M' nv ∧ RQ no0 b M' C VA PA LE AA nv np na := by
  have n120 := h.2.2.2.2.2.1.nv120
  obtain ⟨M', e, s⟩ := X12_settleTitles_ h.2.2.2.2.2.1.1.1 (fun t ht => by
    have := h.2.2.2.2.2.1.t6 ht
    exact ⟨by omega, by omega⟩) (fun t ht => by
    have := (h.2.2.2.2.2.2.1.1 t ht).1
    exact ⟨by omega, by omega⟩)
  exact ⟨M', e, s, h.settle s⟩
/-- a new version of the draft's rows, in the reference, and the titles settled -/
theorem X12_fromDraft_ {p tm : Int} {dn : Nat} {g : Nat → Int} (h8 : M.1 8 = (nv : Int)) (hnv : nv < 120) (h1 : M.1 1 = (dn : Int)) (hdn : dn ≤ 30) (hg : ∀ k, k < dn → M.2 0 k = g k) :
   ∃ M1, NvM M M1 p tm g dn nv ∧ ∀ M', fX12_settleTitles (mSet M1 1 0) = some ((), M') → fX12_fromDraft p tm M = some ((nv : Int), M') := by
  obtain ⟨M1, e1, n1⟩ := X12_newVersion_ (p := p) (tm := tm) (g := g) (k := 0) (fr := 0) h8 hnv hdn (by decide) (by rw [ml_0]; omega) (by decide) (fun i hi => by rw [Nat.zero_add]; exact hg i hi)
  refine ⟨M1, n1, fun M' e => ?_⟩
  unfold fX12_fromDraft
  rw [h1, show (0 : Int) = ((0 : Nat) : Int) from rfl, cal_of e1, bnd_eq]
  rw [show ((0 : Nat) : Int) = 0 from rfl, cal_of e]
def crR (M_60 : Md) (a1 t0_60 : Int) : Option (Int × Md) :=
bnd (mSet M_60 36 t0_60) fun (M3 : Md) =>
if w32 (M3.1 36) ≤ 0 then
bnd (mSet M3 5 ((M3.1 5) + 1)) fun (M4 : Md) =>
cal (fX12_newPage a1 M4) fun r6 M5 =>
cal (fX12_fromDraft r6 (M5.1 5) M5) fun r8 M7 =>
some (r8, M7)
else
some (0, M3)
theorem crR_no {x : Int} (M : Md) {n : Nat} (hn : 0 < n ∧ n < 10) : crR M x (n : Int) = some (0, mSet M 36 (n : Int)) := by
  unfold crR
  rw [bnd_eq, mS1, if_neg (by rw [w32_n (by omega)]; omega)]
/-- behind a page made or brought in: the draft is emptied, the titles settle -/
theorem RQ.last {M0 : Md} (h : RQ P b M1 C1 VA PA LE AA nv np na) (hb : RB kc M0) (e5 : M1.1 5 = M0.1 5 ∨ M1.1 5 = M0.1 5 + 1) (e13 : M1.1 13 = M0.1 13) (e22 : M1.1 22 = M0.1 22) (e36 : M1.1 36 = 0) :
   ∃ C' M', fX8_clear (b + 845) C1 = some ((), C') ∧ fX12_settleTitles (mSet M1 1 0) = some ((), M') ∧ RR b (kc + 1) M' C' ∧ M'.1 36 = 0 ∧ Fp (sFr b) C1 C' ∧ csz C' = csz C1 ∧ csl C' = csl C1 := by
  obtain ⟨C', c1, hq, f, s, l⟩ := h.clear rfl
  obtain ⟨M', m1, st, hq2⟩ := hq.settles
  obtain ⟨s1, s2, s3, _⟩ := st
  have g : ∀ j, j ≠ 1 → (mSet M1 1 0).1 j = M1.1 j := fun j hj => mS2 _ _ hj
  rw [g 22 (by decide), e22] at s2 s3
  obtain ⟨⟨b1, b2⟩, b3, b4, b5⟩ := hb
  refine ⟨C', M', c1, m1, hq2.rr ?_, ?_, f.fr (fun a z => by unfold sTx at z; omega), s, l⟩
  · unfold RB
    rw [s1 5 (by decide), s1 13 (by decide), g 5 (by decide), g 13 (by decide), e13]
    exact ⟨⟨by omega, by omega⟩, by omega, by omega, by omega⟩
  · rw [s1 36 (by decide), g 36 (by decide)]; exact e36
theorem call_create (h : RR b kc M C) (hk : kc ≤ 600) {x : Int} (hx : I32 x) : CallE b kc C cd2 (fX11_create b x C) (fX12_create x M) := by
  have hL := h.1.1
  have W := hL.W
  have hz := hL.sz
  have hY0 : ∀ {t : Int} {M' : Md} {r : Int}, fX12_isTitle t M = some (r, M') → fX12_create t M = (if ¬ w32 r = 0 then
if inR t (mLen 6) then
bnd (fun  (M_55 : Md) =>
crR M_55 t 2) fun J55 =>
if ¬ w32 (M'.2 6 (ix t)) = w32 (-1) then
J55 M'
else
cal (fX12_mayAt t M') fun r10 M9 =>
if w32 r10 = 0 then
J55 M9
else
cal (fX12_isText 0 0 (M9.1 1) M9) fun r12 M11 =>
if w32 r12 = 0 then
J55 M11
else
if ¬ w32 (M11.1 8) = w32 120 then
crR M11 t 0
else
J55 M11
else none
else
crR M' t 1) := fun {t M' r} e => by
    unfold fX12_create
    rw [cal_of e]
    rfl
  rcases X12_isTitle_ (x := x) M hx with ⟨e, p⟩ | ⟨e, p⟩
  · obtain ⟨t, rfl⟩ : ∃ t : Nat, x = (t : Int) := ⟨x.toNat, by omega⟩
    have ht : t < 24 := by omega
    have hY1 := hY0 e
    rw [if_pos (by decide), if_pos (inM (n := 24) rfl ht (by decide)), bnd_eq, ix_n (by omega)] at hY1
    have hX1 : fX11_create b (t : Int) C = (bnd (cR C 1203 (b + 13 + 6 * t)) fun (z4 : Option Nat) =>
bnd (fun  (C_40 : Cd) =>
some (.inr 1, cBump C_40)) fun J40 =>
opt z4 (
if isO C b 14 then cal (fX11_mayActAt b (some (b + 13 + 6 * t)) C) fun (r7 : Int) (C6 : Cd) =>
if w32 r7 = 0 then
J40 C6
else
if isO C6 b 14 then bnd (cR C6 1403 b) fun (z8 : Option Nat) =>
drf z8 fun (p9 : Nat) =>
if isO C6 p9 11 then cal (fX8_isText p9 C6) fun (r11 : Int) (C10 : Cd) =>
if w32 r11 = 0 then
J40 C10
else
if isO C10 b 14 then
if w32 (cI C10 1407 b) < w32 120 then
if isO C10 b 14 then bnd (cR C10 1403 b) fun (z12 : Option Nat) =>
if isO C10 b 14 then cal (fX11_makePage b (t : Int) z12 C10) fun (r14 : Int) (C13 : Cd) =>
if isO C13 b 14 then bnd (cR C13 1403 b) fun (z15 : Option Nat) =>
drf z15 fun (p16 : Nat) =>
if isO C13 p16 11 then cal (fX8_clear p16 C13) fun (r18 : Unit) (C17 : Cd) =>
some (.inl r14, C17)
else none
else none
else none
else none
else
J40 C10
else none
else none
else none
else none) (fun (p5 : Nat) =>
J40 C)) := by
      unfold fX11_create
      rw [if_pos hL.o, calx_of (X11_titleOf_in hL ht), drf_some, if_pos (hL.to ht)]
    rw [bnd_eq, bnd_eq] at hX1
    by_cases c6 : M.2 6 t = -1
    · have cR6 := (h.cr ht).mpr c6
      rw [cR6, opt_none, if_pos hL.o] at hX1
      rw [c6, if_neg (fun z => z rfl)] at hY1
      rcases h.may ht with ⟨a1, a2⟩ | ⟨a1, a2⟩
      · rw [cal_of a1, if_neg (by decide), if_pos hL.o, bnd_eq, hL.r3, drf_some] at hX1
        rw [cal_of a2, if_neg (by decide)] at hY1
        obtain ⟨dn, g, C1, M1, ⟨d1, d2, d3, d4, d5⟩, i1, i2, h1, f1, s1, l1, o1, q1⟩ := h.draft
        have hL1 := h1.1.1
        rw [if_pos d3.isO_, cal_of i1] at hX1
        rw [cal_of i2] at hY1
        have fr1 : Fp (sFr b) C C1 := f1.fr (fun _ z => z.elim)
        by_cases ct : isTx g dn = true
        · rw [if_pos ct, if_neg (by decide), if_pos hL1.o] at hX1
          rw [if_pos ct, if_neg (by decide)] at hY1
          have h3 : RR b kc (mSet M1 36 0) C1 := (h1.nil (Fp.rf hL1.W) (sc36 M1 0)).rb (by
            obtain ⟨⟨b1, b2⟩, b3, b4, b5⟩ := h1.2.2.2.1
            exact ⟨⟨b1, b2⟩, b3, b4, b5⟩)
          obtain ⟨hB, VA, PA, LE, AA, nv, np, na, hq⟩ := h3.rq
          have hV := hq.2.2.2.2.2.1.1.1
          have h8 : (mSet M1 36 0).1 8 = (nv : Int) := hV.1
          have h8' : M1.1 8 = (nv : Int) := (mS2 M1 (k := 36) (k' := 8) 0 (by decide)).symm.trans h8
          have n120 := hV.2.1
          have c1407 := hq.2.2.2.2.2.1.1.2.2
          rw [c1407] at hX1
          rw [h8'] at hY1
          by_cases cv : nv = 120
          · rw [if_neg (by rw [cv]; decide)] at hX1
            rw [if_neg (fun z => z (by rw [cv]; rfl))] at hY1
            have := crR_no (x := (t : Int)) M1 (n := 2) (by decide)
            exact h1.excS (e := 1) hz fr1 (by omega) (by omega) hX1 (hY1.trans this) (sc36 M1 2) (mS1 _ _ _) (by decide)
          · rw [if_pos (by rw [w32_n (by omega), show w32 120 = 120 from rfl]; omega), if_pos hL1.o, bnd_eq, hL1.r3, if_pos hL1.o, X11_makePage_t hL1.o] at hX1
            rw [if_pos (by rw [w32_n (by omega), show w32 120 = 120 from rfl]; omega)] at hY1
            obtain ⟨ec, hq4⟩ := hq.tick (x := (mSet M1 36 0).1 5) rfl rfl
            rw [ec] at hX1
            have h7 := hq4.2.2.2.2.2.1.2.1.1
            have d3' : TxV (cSetI C1 1406 b ((mSet M1 36 0).1 5 + 1)) (b + 845) 30 g dn := (d3.fp W f1 (fun z => z) (fun z => z) (fun z => z) (fun z => z)).fp hL1.W (S := fun q k a => q = 0 ∧ k = 1406) (Fp.I hL1.W _ _ _ ⟨rfl, rfl⟩) (by omega) (by omega) (by omega) (by omega)
            generalize hM4 : mSet (mSet M1 36 0) 5 ((mSet M1 36 0).1 5 + 1) = M4 at *
            have g41 : ∀ j, j ≠ 36 → j ≠ 5 → M4.1 j = M.1 j := fun j z1 z2 => by rw [← hM4, mS2 _ _ z2, mS2 _ _ z1, q1]
            have g42 : M4.2 = M1.2 := by rw [← hM4]; rfl
            have g5 : M4.1 5 = M.1 5 + 1 := by rw [← hM4, mS1, mS2 _ _ (by decide), q1]
            have g36 : M4.1 36 = 0 := by rw [← hM4, mS2 _ _ (by decide)]; exact mS1 _ _ _
            have e5 := X12_newPage_ (M := M4) ht h7
            generalize hM5 : mSet (mPut M4 6 t (np : Int)) 7 ((np : Int) + 1) = M5 at *
            have z1 : ∀ j, j ≠ 7 → M5.1 j = M4.1 j := fun j hj => by rw [← hM5]; exact mS2 (mPut M4 6 t (np : Int)) _ hj
            have zp : ZpM M4 M5 t np := ⟨z1, by rw [← hM5]; exact mS1 (mPut M4 6 t (np : Int)) 7 _, fun k hk => by rw [← hM5]; exact mPut_ne M4 _ _ hk, fun s => by
              rw [← hM5]
              show (mPut M4 6 t (np : Int)).2 6 s = _
              by_cases c : s = t
              · rw [if_pos c, c]; exact p2_1 _ _ _ _
              · rw [if_neg c]; exact p2_2 (k := 6) (k' := 6) M4 _ (Or.inr c)⟩
            obtain ⟨M6, nm, eM⟩ := X12_fromDraft_ (M := M5) (p := (np : Int)) (tm := M5.1 5) (nv := nv) (dn := dn) (g := g) ((z1 8 (by decide)).trans hq4.2.2.2.2.2.1.1.1.1) (by omega) ((z1 1 (by decide)).trans ((g41 1 (by decide) (by decide)).trans d1)) d2 (fun k hk => by
              rw [zp.2.2.1 0 (by decide), g42, o1.2.1 0 (by decide)]; exact d5 k hk)
            have hb5 := h.2.2.2.1.1
            rw [z1 5 (by decide)] at nm eM
            obtain ⟨C5, VA5, PA5, LE5, eC5, hq5, s5, l5, f5⟩ := hq4.newP ht d3' ct d4 (by omega) ⟨by omega, by omega⟩ zp nm
            obtain ⟨C6, M8, c6', m8, h8r, r36, f6, s6, l6⟩ := hq5.last (M0 := M) h.2.2.2.1 (Or.inr ((nm.1 5 (by decide)).trans ((z1 5 (by decide)).trans g5))) ((nm.1 13 (by decide)).trans ((z1 13 (by decide)).trans (g41 13 (by decide) (by decide)))) ((nm.1 22 (by decide)).trans ((z1 22 (by decide)).trans (g41 22 (by decide) (by decide)))) ((nm.1 36 (by decide)).trans ((z1 36 (by decide)).trans g36))
            have hL5 := hq5.1.1
            obtain ⟨dn5, g5', hd5⟩ := hq5.2.1
            rw [cal_of eC5, if_pos hL5.o, bnd_eq, hL5.r3, drf_some, if_pos hd5.2.2.1.isO_, cal_of c6'] at hX1
            have e0 := eM M8 m8
            have hY2 : crR M1 (t : Int) 0 = some ((nv : Int), M8) := by
              unfold crR
              rw [bnd_eq, mS1, if_pos (by decide), bnd_eq, hM4, cal_of e5, z1 5 (by decide), cal_of e0]
            have fT : Fp (sFr b) C1 (cSetI C1 1406 b ((mSet M1 36 0).1 5 + 1)) := (Fp.I (S := fun q _ _ => q = 0) hL1.W _ _ _ rfl).fr (fun a z => by omega)
            have ff : Fp (sFr b) C C6 := ((fr1.tr fT).tr (f5.fr (fun a z => by unfold sNp at z; omega))).tr f6
            have zc : csz (cSetI C1 1406 b ((mSet M1 36 0).1 5 + 1)) = csz C1 := rfl
            have zd : csl (cSetI C1 1406 b ((mSet M1 36 0).1 5 + 1)) = csl C1 := rfl
            exact ⟨M8, C6, _, hY1.trans hY2, h8r, RmL.fr hz ff (by omega) (by omega), Or.inl ⟨hX1, r36⟩⟩
        · rw [if_neg ct, if_pos (by decide)] at hX1 hY1
          have := crR_no (x := (t : Int)) M1 (n := 2) (by decide)
          exact h1.excS (e := 1) hz fr1 (by omega) (by omega) hX1 (hY1.trans this) (sc36 M1 2) (mS1 _ _ _) (by decide)
      · rw [cal_of a1, if_pos (by decide)] at hX1
        rw [cal_of a2, if_pos (by decide)] at hY1
        have := crR_no (x := (t : Int)) M (n := 2) (by decide)
        exact h.exc (e := 1) hX1 (hY1.trans this) (sc36 M 2) (mS1 _ _ _) (by decide)
    · have r6 := h.pg ht
      obtain ⟨q, hq⟩ : ∃ q, cR C 1203 (b + 13 + 6 * t) = some q := by
        cases hc : cR C 1203 (b + 13 + 6 * t)
        · exact absurd ((h.cr ht).mp hc) c6
        · exact ⟨_, rfl⟩
      rw [hq, opt_some] at hX1
      rw [if_pos (by rw [w32_of (by omega) (by omega), show w32 (-1) = -1 from rfl]; exact c6)] at hY1
      have := crR_no (x := (t : Int)) M (n := 2) (by decide)
      exact h.exc (e := 1) hX1 (hY1.trans this) (sc36 M 2) (mS1 _ _ _) (by decide)
  · have hY1 := hY0 e
    rw [if_neg (fun z => z (by decide))] at hY1
    have := crR_no (x := x) M (n := 1) (by decide)
    refine h.exc (e := 2) ?_ (hY1.trans this) (sc36 M 1) (mS1 _ _ _) (by decide)
    unfold fX11_create
    rw [if_pos hL.o, calx_ofx (X11_titleOf_out hL hx (by omega))]
end CRE
