/-! A NEW PAGE; A PAGE BROUGHT OVER, in both -/
section NWP
variable {b kc : Nat} {M M' M1 Mz : Md} {C C' : Cd} {P : Nat → Prop} {S : Nat → Nat → Nat → Prop} {VA PA LE AA : Nat → Nat} {nv np na : Nat}
def mkpB (a0 : Nat) (a1 : Int) (a2 : Option Nat) (C1 : Cd) : Option (Int × Cd) :=
if isO C1 a0 14 then
if isO C1 a0 14 then cal (fX11_makeVersion a0 a2 (cI C1 1406 a0) C1) fun (r3 : Option Nat) (C2 : Cd) =>
if isO C2 a0 14 then bnd (cR C2 1401 a0) fun (z4 : Option Nat) =>
drf z4 fun (p5 : Nat) =>
if isO C2 p5 102 ∧ inR a1 (cn C2 p5) then bnd (cP C2 p5 (ix a1)) fun (z6 : Option Nat) =>
bnd (cNew C2 6) fun (C7 : Cd) =>
cal (fX3_init (csz C2) r3 C7) fun (r9 : Unit) (C8 : Cd) =>
drf z6 fun (p10 : Nat) =>
if isO C8 p10 12 then bnd (cSetR C8 1203 p10 (some (csz C2))) fun (C11 : Cd) =>
if isO C11 a0 14 then cal (fX11_noteTitleChange a0 a1 C11) fun (r13 : Unit) (C12 : Cd) =>
drf r3 fun (p14 : Nat) =>
if isO C12 p14 13 then
some (cI C12 1300 p14, C12)
else none
else none
else none
else none
else none
else none
else none
theorem X11_makePage_t {t : Int} {s : Option Nat} (ho : isO C b 14) : fX11_makePage b t s C = mkpB b t s (cSetI C 1406 b (cI C 1406 b + 1)) := by
  unfold fX11_makePage
  rw [if_pos ho, if_pos ho, bnd_eq]
  rfl
/-- the reference's state with a new page at a title -/
def ZpM (M Mz : Md) (t np : Nat) : Prop := (∀ j, j ≠ 7 → Mz.1 j = M.1 j) ∧ Mz.1 7 = (np : Int) + 1 ∧ (∀ k, k ≠ 6 → Mz.2 k = M.2 k) ∧ ∀ s, Mz.2 6 s = if s = t then (np : Int) else M.2 6 s
def sNp (b t q k a : Nat) : Prop := (q = 0 ∧ ((k = 1407 ∧ a = b) ∨ (k = 702 ∧ a < b + 854))) ∨ (q = 1 ∧ k = 1203 ∧ a = b + 13 + 6 * t)
theorem aRef_no {p : Int} : ∀ n, (∀ k, k < n → M.2 14 k ≠ p) → aRef M AA p n = none := by
  intro n
  induction n with
  | zero => intro _; rfl
  | succ n ih => intro h; unfold aRef; rw [if_neg (h n (Nat.lt_succ_self n)), ih (fun k hk => h k (by omega))]
theorem RH.newP (h : RH b M C VA PA LE AA nv np na) (W : Wf C) (hL : Lay b C) {t w A e' n : Nat} {tm : Int} {g : Nat → Int} (ht : t < 24) (hnv : nv < 120) (hz : ZpM M Mz t np) (hm : NvM Mz M1 (np : Int) tm g n nv) (htm : I32 tm) (hg : isTx g n = true) (hk : Tkv g n)
   (f : Fp (sNp b t) C C') (v1 : VerO C' w nv tm g n) (hw : csz C ≤ w) (v2 : cI C' 1407 b = (nv : Int) + 1) (v3 : PgA C' A 1 e' (fun _ => w)) (v4 : cR C' 601 A = some w) (v5 : cR C' 602 A = none) (v6 : cR C' 1203 (b + 13 + 6 * t) = some A) (hA0 : csz C ≤ A) (he : csz C ≤ e') :
   RH b M1 C' (fun v => if v = nv then w else VA v) (fun q => if q = np then A else PA q) (fun q => if q = np then e' else LE q) AA (nv + 1) (np + 1) na ∧ prs M1 (np : Int) (nv + 1) = (nv : Int) ∧ ∀ q, q ≠ (np : Int) → prs M1 q (nv + 1) = prs M q nv := by
  have hh := h
  obtain ⟨⟨a1, a2, a3⟩, ⟨b1, b2, b3⟩, ⟨c1, c2, c3⟩, ⟨d1, d2⟩, e1, f1, g1⟩ := h
  have hsz := hL.sz
  have hn := isTx_n hg
  have hm' := hm
  obtain ⟨z1, z7, z2, z6⟩ := hz
  have a1z : VI Mz nv := by
    unfold VI at a1 ⊢
    rw [z1 8 (by decide), z2 10 (by decide), z2 11 (by decide), z2 12 (by decide)]
    exact a1
  have a2z : TI Mz nv := fun v hv => by
    unfold tx tl
    rw [z2 9 (by decide), z2 10 (by decide)]
    exact a2 v hv
  obtain ⟨m1, m8, m2, mo, ⟨n10, n11, n12⟩, m9⟩ := hm
  have mz : ∀ v, v < nv → M1.2 10 v = M.2 10 v ∧ M1.2 11 v = M.2 11 v ∧ M1.2 12 v = M.2 12 v ∧ ∀ k, k < 30 → M1.2 9 (30 * v + k) = M.2 9 (30 * v + k) := fun v hv => by
    have y := mo v hv
    rw [z2 9 (by decide), z2 10 (by decide), z2 11 (by decide), z2 12 (by decide)] at y
    exact y
  have te : TmE M M1 nv := fun v hv => ⟨(mz v hv).2.1, (mz v hv).2.2.1⟩
  have onew : onp M1 (np : Int) nv = true := decide_eq_true n12
  have ooth : ∀ q : Int, q ≠ (np : Int) → ¬ onp M1 q nv = true := fun q hq z => hq ((onp_eq z).symm.trans n12)
  have c0 : cnt (onp M (np : Int)) nv = 0 := cnt_zero (fun k hk => decide_eq_false (fun z => by have := b3 k hk; omega))
  have cnew : cnt (onp M1 (np : Int)) (nv + 1) = 1 := by rw [cnt_succ, if_pos onew, cnt_onp_e te _ (Nat.le_refl _), c0]
  have coth : ∀ q : Int, q ≠ (np : Int) → cnt (onp M1 q) (nv + 1) = cnt (onp M q) nv := fun q hq => by rw [cnt_succ, if_neg (ooth q hq), cnt_onp_e te _ (Nat.le_refl _)]; rfl
  have lnew : vsl M1 (np : Int) (nv + 1) 0 = nv := by
    rw [vsl_on _ _ _ onew, cnt_onp_e te _ (Nat.le_refl _), c0]
    rfl
  have loth : ∀ q : Int, q ≠ (np : Int) → vsl M1 q (nv + 1) = vsl M q nv := fun q hq => by rw [vsl_off _ _ _ (ooth q hq), vsl_e te _ nv (Nat.le_refl _)]
  have poth : ∀ q : Int, q ≠ (np : Int) → prs M1 q (nv + 1) = prs M q nv := fun q hq => by rw [prs_succ, if_neg (fun z => ooth q hq z.1), prs_e te q nv (Nat.le_refl _)]
  have pnew : prs M1 (np : Int) (nv + 1) = (nv : Int) := by
    rcases prs_last M1 (np : Int) (nv + 1) with ⟨z, _⟩ | ⟨_, y⟩
    · omega
    · rw [y, cnew, lnew]
  obtain ⟨q1, q2⟩ := hm'.vi a1z a2z hnv (by omega) htm hg hk
  have r6 : M1.2 6 = Mz.2 6 := m2 6 (by decide)
  have aE : ∀ k, k ≤ na → ∀ q : Int, aRef M1 AA q k = aRef M AA q k := fun k _ q => aRef_congr k (fun k _ => by rw [m2 14 (by decide), z2 14 (by decide)])
  refine ⟨⟨⟨q1, q2, by rw [v2]; omega⟩, ⟨by rw [m1 7 (by decide), z7]; omega, by omega, fun v hv => ?_⟩, ⟨by rw [m1 13 (by decide), z1 13 (by decide)]; exact c1, c2, fun k hk => ?_⟩, ⟨fun s hs => ?_, fun s s' hs hs' e => ?_⟩, fun v hv => ?_, fun q hq => ?_, fun k hk => ?_⟩, pnew, poth⟩
  · rcases Nat.lt_or_ge v nv with z | z
    · rw [(mz v z).2.2.1]; have := b3 v z; omega
    · rw [show v = nv by omega, n12]; omega
  · rw [m2 14 (by decide), m2 15 (by decide), m2 16 (by decide), m1 5 (by decide), z2 14 (by decide), z2 15 (by decide), z2 16 (by decide), z1 5 (by decide)]
    obtain ⟨x1, x2, x3⟩ := c3 k hk
    exact ⟨⟨x1.1, by omega⟩, x2, by omega, by omega⟩
  · rw [r6, z6]
    by_cases c : s = t
    · rw [if_pos c, c]
      exact Or.inr ⟨np, by omega, rfl, by dsimp only; rw [if_pos rfl]; exact v6⟩
    · rw [if_neg c, f.fR (by omega) (by unfold sNp; omega)]
      rcases d1 s hs with z | ⟨p, z1, z2, z3⟩
      · exact Or.inl z
      · exact Or.inr ⟨p, by omega, z2, by dsimp only; rw [if_neg (by omega)]; exact z3⟩
  · rw [r6, z6, z6] at e
    rw [r6, z6]
    have y1 := hh.t6 hs
    have y2 := hh.t6 hs'
    by_cases c : s = t
    · by_cases c' : s' = t
      · exact Or.inr (c.trans c'.symm)
      · rw [if_pos c, if_neg c'] at e
        rw [if_pos c]; omega
    · rw [if_neg c] at e ⊢
      by_cases c' : s' = t
      · rw [if_pos c'] at e; omega
      · rw [if_neg c'] at e; exact d2 s s' hs hs' e
  · rcases Nat.lt_or_ge v nv with z | z
    · obtain ⟨x1, x2⟩ := e1 v z
      dsimp only
      have tle : tl M1 v = tl M v := by unfold tl; rw [(mz v z).1]
      rw [if_neg (by omega), (mz v z).2.1, tle]
      have x1' := x1
      obtain ⟨w1, w2, w3, w4, w5⟩ := x1
      have h10 := a1.2.2.2.2 v z
      refine ⟨(x1'.fp W f (by unfold sNp; omega) (by unfold sNp; omega) (by unfold sNp; omega) (by unfold sNp; omega) (by unfold sNp; omega) (by unfold sNp; omega) (by unfold sNp; omega) (by unfold sNp; omega)).ext (fun k hk => ((mz v z).2.2.2 k (by unfold tl at hk; omega)).symm), x2⟩
    · have e : v = nv := by omega
      subst e
      dsimp only
      rw [if_pos rfl, n11, show tl M1 v = n by unfold tl; rw [n10]; omega]
      exact ⟨v1.ext (fun k hk => (m9 k hk).symm), by omega⟩
  · by_cases c : q = np
    · subst c
      dsimp only
      rw [cnew, pnew, aE na (Nat.le_refl _), aRef_no na (fun k hk z => by have := (c3 k hk).1; omega), if_pos rfl, if_pos rfl, Int.toNat_natCast, if_pos rfl]
      refine ⟨Nat.succ_pos _, ⟨v3.1, v3.2.1, v3.2.2.ext (fun i hi => ?_)⟩, v4, v5, by omega, by omega⟩
      rw [show i = 0 by omega, lnew, if_pos rfl]
    · obtain ⟨x1, ⟨x2, x3, x4⟩, x5, x6, x7, x8⟩ := f1 q (by omega)
      have cq : (q : Int) ≠ (np : Int) := by omega
      dsimp only
      rw [coth _ cq, loth _ cq, poth _ cq, aE na (Nat.le_refl _), if_neg c, if_neg c]
      have zq := W _ x2.1
      have zql := W _ x4.1.1
      have zqe := W _ x4.2.2.2.2.1.1
      obtain ⟨hA2, _⟩ := ord_all M (q : Int) nv
      refine ⟨x1, ⟨f.ob W x2, (f.fR zq (by unfold sNp; omega)).trans x3, (x4.fp W f (by unfold sNp; omega) (by unfold sNp; omega) (by unfold sNp; omega)).ext (fun i hi => by rw [if_neg (by have := (hA2 i hi).1; omega)])⟩, ?_, (f.fR zq (by unfold sNp; omega)).trans x6, x7, x8⟩
      rw [f.fR zq (by unfold sNp; omega), x5]
      obtain ⟨v, hv1, hv2, _⟩ := hh.pres (show q < np by omega)
      rw [hv2, Int.toNat_natCast, if_neg (by omega)]
  · obtain ⟨x1, x2, x3, x4, x5⟩ := g1 k hk
    have y := (c3 k hk).2.2
    have z0 := W _ x1.1
    dsimp only
    rw [m2 14 (by decide), m2 15 (by decide), m2 16 (by decide), aE k (by omega), z2 14 (by decide), z2 15 (by decide), z2 16 (by decide), if_neg (by omega)]
    exact ⟨f.ob W x1, (f.fI z0 (by unfold sNp; omega)).trans x2, (f.fR z0 (by unfold sNp; omega)).trans x3, (f.fR z0 (by unfold sNp; omega)).trans x4, x5⟩
/-- a new page; the clock has gone on -/
theorem RQ.newP (h : RQ P b M C VA PA LE AA nv np na) {t : Nat} (ht : t < 24) {src cap n : Nat} {g : Nat → Int} (hs : TxV C src cap g n) (hg : isTx g n = true) (hk : Tkv g n) (hnv : nv < 120) (h5 : I32 (M.1 5)) (hz0 : ZpM M Mz t np) (hm : NvM Mz M1 (np : Int) (M.1 5) g n nv) :
   ∃ C' VA' PA' LE', mkpB b (t : Int) (some src) C = some ((nv : Int), C') ∧ RQ (fun s => P s ∨ s = t) b M1 C' VA' PA' LE' AA (nv + 1) (np + 1) na ∧ (csz C ≤ csz C' ∧ csz C' ≤ csz C + 7) ∧ (csl C ≤ csl C' ∧ csl C' ≤ csl C + 400) ∧ Fp (sNp b t) C C' := by
  obtain ⟨h1, h2, h3, h5', h6', h7, h8, h9⟩ := h
  have hL := h1.1
  have W := hL.W
  have hz := hL.sz
  have hn := isTx_n hg
  obtain ⟨a1, a2, a3⟩ := h7.1
  obtain ⟨lk, ct, rd, cd, us, hgs⟩ := h9.sets
  obtain ⟨C1, e1, v1, i1, f1, s1, l1⟩ := X11_makeVersion_ hL (t := M.1 5) hs a3
  have W1 := f1.wf
  have hL1 := hL.keep (f1.mono (fun q k a _ z => by unfold sVm at z; unfold Mu; omega))
  obtain ⟨C2, e2, p2, p601, p602, f2, s2, l2⟩ := X3_init_ W1 (v := csz C) v1.1
  have W2 := f2.wf
  have hL2 := hL1.keep (f2.mono (fun q k a _ z => z.elim))
  have f3 : Fp (fun q k a => q = 1 ∧ k = 1203 ∧ a = b + 13 + 6 * t) C2 (cSetR C2 1203 (b + 13 + 6 * t) (some (csz C1))) := Fp.R W2 _ _ _ ⟨rfl, rfl, rfl⟩
  have i3 : ∀ k a, cI (cSetR C2 1203 (b + 13 + 6 * t) (some (csz C1))) k a = cI C2 k a := fun _ _ => rfl
  have r3 : cR (cSetR C2 1203 (b + 13 + 6 * t) (some (csz C1))) 1203 (b + 13 + 6 * t) = some (csz C1) := cR_R1 _ _ _ _
  have s3 : csz (cSetR C2 1203 (b + 13 + 6 * t) (some (csz C1))) = csz C2 := rfl
  have l3 : csl (cSetR C2 1203 (b + 13 + 6 * t) (some (csz C1))) = csl C2 := rfl
  have hX0 : ∀ C3, C3 = cSetR C2 1203 (b + 13 + 6 * t) (some (csz C1)) → mkpB b (t : Int) (some src) C = (if isO C3 b 14 then cal (fX11_noteTitleChange b (t : Int) C3) fun (r13 : Unit) (C12 : Cd) =>
drf (some (csz C)) fun (p14 : Nat) =>
if isO C12 p14 13 then
some (cI C12 1300 p14, C12)
else none
else none) := by
    intro C3 e
    unfold mkpB
    rw [if_pos hL.o, if_pos hL.o, ← h3.2.1, cal_of e1, if_pos hL1.o, bnd_eq, hL1.r1, drf_some, if_pos ⟨hL1.ot, by rw [hL1.nt]; exact inR_n ht (by decide)⟩, bnd_eq, hL1.tt ht, bnd_eq, cal_of e2, drf_some, if_pos (hL2.to ht), bnd_eq, ← e]
  have hX := hX0 _ rfl
  clear hX0
  generalize cSetR C2 1203 (b + 13 + 6 * t) (some (csz C1)) = C3 at *
  have hL3 := hL2.keep (f3.mono (fun q k a _ z => by unfold Mu; omega))
  have W3 := hL3.W
  have f13 : Fp (sNp b t) C C3 := ((f1.mono (T := sNp b t) (fun q k a _ z => by unfold sVm at z; unfold sNp; omega)).tr (f2.mono (fun q k a _ z => z.elim))).tr (f3.mono (fun q k a _ z => Or.inr z))
  have c7 : ∀ k u, u < 24 → 701 ≤ k → k ≤ 707 → cI C3 k (b + 13 + 6 * u + 1) = cI C k (b + 13 + 6 * u + 1) := fun k u hu k1 k2 => (i3 k _).trans ((f2.fI (by have := f1.1; omega) (fun z => z)).trans (f1.fI (by omega) (by unfold sVm; omega)))
  obtain ⟨C4, e4, f4, s4, l4, n4⟩ := X11_noteTitleChange_ hL3 ht (rd := rd) (fun j hj => by
    obtain ⟨r, hr⟩ := hgs j hj
    rw [c7 705 j hj (by decide) (by decide)]
    exact hr.cd_.2.1)
  have f : Fp (sNp b t) C C4 := f13.tr (f4.mono (fun q k a _ z => by
    obtain ⟨z1, z2, u, z3, z4⟩ := z
    exact Or.inl ⟨z1, Or.inr ⟨z2, by omega⟩⟩))
  have x12 : csz C1 = csz C + 4 := s1
  have x13 : csz C2 = csz C1 + 3 := s2
  have n702 : ∀ {k a : Nat}, k ≠ 702 → ¬ sSt b 0 k a := fun hk z => hk z.nk.2
  have nq : ∀ {q k a : Nat}, q ≠ 0 → ¬ sSt b q k a := fun hq z => hq z.nk.1
  have nr : ∀ {q k a : Nat}, b + 854 ≤ a → ¬ (q = 1 ∧ k = 1203 ∧ a = b + 13 + 6 * t) := fun ha z => by omega
  have v1' : VerO C4 (csz C) nv (M.1 5) g n := ((v1.fp W1 f2 (fun z => z) (fun z => z) (fun z => z) (fun z => z) (fun z => z) (fun z => z) (fun z => z) (fun z => z)).fp W2 f3 (by omega) (by omega) (by omega) (by omega) (by omega) (by omega) (by omega) (by omega)).fp W3 f4 (n702 (by decide)) (n702 (by decide)) (nq (by decide)) (nq (by decide)) (nq (by decide)) (n702 (by decide)) (nq (by decide)) (nq (by decide))
  have zP : csz C1 < csz C2 := by omega
  have pg3 : PgA C4 (csz C1) 1 (csz C1 + 2) (fun _ => csz C) := ⟨f4.ob W3 (f3.ob W2 p2.1), (f4.fR (by omega) (nq (by decide))).trans ((f3.fR (by omega) (by omega)).trans p2.2.1), (p2.2.2.fp W2 f3 (by omega) (by omega) (by omega)).fp W3 f4 (n702 (by decide)) (nq (by decide)) (nq (by decide))⟩
  obtain ⟨kH, kp, ko⟩ := h7.newP W hL ht hnv hz0 hm h5 hg hk f v1' (Nat.le_refl _) ((f4.fI (by omega) (n702 (by decide))).trans ((i3 _ _).trans ((f2.fI (by omega) (fun z => z)).trans i1))) pg3 ((f4.fR (by omega) (nq (by decide))).trans ((f3.fR (by omega) (by omega)).trans p601)) ((f4.fR (by omega) (nq (by decide))).trans ((f3.fR (by omega) (by omega)).trans p602)) ((f4.fR (by omega) (nq (by decide))).trans r3) (by omega) (by omega)
  obtain ⟨z1, z7, z2, z6⟩ := hz0
  have m1 := hm.1
  have m2 := hm.2.2.1
  have hC : CorS b (sNp b t) := fun q k a z => by unfold sNp at z; omega
  obtain ⟨k1, k2, k3, k4, k5⟩ := RQ.core (M' := M1) h1 h2 h3 h5' h6' f hC (fun j hj => (m1 j (by omega)).trans (z1 j (by omega))) (fun k hk => (m2 k (by omega)).trans (z2 k (by omega)))
  have g6 : ∀ s, M1.2 6 s = if s = t then (np : Int) else M.2 6 s := fun s => by rw [m2 6 (by decide)]; exact z6 s
  have mm : ∀ k, (13 ≤ k) → M1.2 k = M.2 k := fun k hk => (m2 k (by omega)).trans (z2 k (by omega))
  have m22 : M1.1 22 = M.1 22 := (m1 22 (by decide)).trans (z1 22 (by decide))
  refine ⟨C4, _, _, _, ?_, ⟨k1, k2, k3, k4, k5, kH, ⟨fun s hs => ?_, ?_, ?_, ?_, ?_⟩, fun u hu => ?_⟩, ⟨f.1, by omega⟩, ⟨f.2.1, by have : csl C1 = csl C + 6 + 2 * n := l1; omega⟩, f⟩
  · rw [hX, if_pos hL3.o, cal_of e4, drf_some, if_pos v1'.1, v1'.2.1]
  · obtain ⟨r1, r2, r3⟩ := h8.1 s hs
    rw [mm 26 (by decide)]
    have ep : prAt M1 (nv + 1) s = if s = t then (nv : Int) else prAt M nv s := by
      unfold prAt
      rw [g6]
      by_cases c : s = t
      · rw [if_pos c, if_pos c, if_neg (by omega), kp]
      · rw [if_neg c, if_neg c]
        by_cases d : M.2 6 s = -1
        · rw [if_pos d, if_pos d]
        · rw [if_neg d, if_neg d]
          exact ko _ (by have := h7.t6 hs; omega)
    rw [ep]
    refine ⟨⟨r1.1, by omega⟩, fun z => ?_, fun z => ?_⟩
    · by_cases e : s = t
      · rw [if_pos e]; omega
      · rw [if_neg e]
        rcases z with z | z
        · exact r2 z
        · exact absurd z e
    · rw [if_neg (fun y => z (Or.inr y))]
      exact r3 (fun y => z (Or.inl y))
  · rw [mm 23 (by decide), m22]; exact h8.2.1
  · rw [mm 24 (by decide), m22]; exact h8.2.2.1
  · rw [mm 25 (by decide), m22]; exact h8.2.2.2.1
  · rw [mm 28 (by decide), m22]; exact h8.2.2.2.2
  · obtain ⟨r, hr⟩ := hgs u hu
    refine ⟨r, lk u, ct u, rd u, cd u, us u, hr.more (D := fun s => s = t) hu h8 (fun _ => False) (fun k hk => by rw [mm k (by omega)]) (mm 29 (by decide)) (mm 23 (by decide)) (mm 25 (by decide)) (fun z => ?_) (fun c hc => ⟨fun z => z.elim, fun _ => by rw [mm 24 (by decide)]⟩) (fun k q1 q2 q3 => ?_) (fun z => ?_) (fun z => ?_) (fun z => ?_)⟩
    · rw [g6]
      by_cases c : u = t
      · rw [if_pos c]; omega
      · rw [if_neg c]; exact z
    · exact f.fI (by omega) (by unfold sNp; omega)
    · exact z.fp W f (by unfold sNp; omega) (by unfold sNp; omega) (by unfold sNp; omega) (by unfold sNp; omega)
    · rw [n4 u hu]
      rcases z with z | ⟨k, z1, z2, z3⟩ | ⟨_, _, z, _⟩
      · rw [decide_eq_true z, Bool.true_or, if_pos rfl]
      · rw [← z2, z3, Bool.or_true, if_pos rfl]
      · exact z.elim
    · rw [n4 u hu, if_neg (fun y => z (by
        rw [Bool.or_eq_true] at y
        rcases y with w | w
        · exact Or.inl (of_decide_eq_true w)
        · exact Or.inr (Or.inl ⟨t, ht, rfl, w⟩)))]
      exact c7 702 u hu (by decide) (by decide)
end NWP
