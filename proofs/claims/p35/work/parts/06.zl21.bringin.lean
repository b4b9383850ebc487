/-! THE CALL bringIn -/
section BIN
variable {b kc : Nat} {M M' M1 M2 : Md} {C C' C1 : Cd} {P : Nat → Prop} {VA PA LE AA : Nat → Nat} {nv np na : Nat}
theorem RR.pageC (h : RR b kc M C) {x : Int} (hx : I32 x) : (∃ t q : Nat, x = (t : Int) ∧ t < 24 ∧ M.2 6 t ≠ -1 ∧ fX11_pageOf b x C = some (.inl (some q), C) ∧ cR C 1203 (b + 13 + 6 * t) = some q ∧ fX12_hasPage x M = some (1, M)) ∨ (fX11_pageOf b x C = some (.inr 2, cBump C) ∧ fX12_hasPage x M = some (0, M)) := by
  have hL := h.1.1
  by_cases c : 0 ≤ x ∧ x < 24
  · obtain ⟨t, rfl⟩ : ∃ t : Nat, x = (t : Int) := ⟨x.toNat, by omega⟩
    have ht : t < 24 := by omega
    rcases X12_hasPage_ (M := M) ht (h.pg ht) with ⟨e, p⟩ | ⟨e, p⟩
    · cases hc : cR C 1203 (b + 13 + 6 * t) with
      | none => exact absurd ((h.cr ht).mp hc) p
      | some q => exact Or.inl ⟨t, q, rfl, ht, p, X11_pageOf_in hL ht hc, hc, e⟩
    · have p' : M.2 6 t = -1 := Classical.byContradiction p
      exact Or.inr ⟨X11_pageOf_no hL ht ((h.cr ht).mpr p'), e⟩
  · exact Or.inr ⟨X11_pageOf_out hL hx c, X12_hasPage_out hx c⟩
def biR (M_67 : Md) (a1 a2 t0_67 : Int) : Option (Int × Md) :=
bnd (mSet M_67 36 t0_67) fun (M3 : Md) =>
bnd (fun (t0_92 : Int) (M_92 : Md) =>
(some (t0_92, M_92) : Option (Int × Md))) fun J92 =>
if ¬ w32 (M3.1 36) = 0 then
J92 0 M3
else
if inR a1 (mLen 6) then
cal (fX12_fromDraft (M3.2 6 (ix a1)) a2 M3) fun r5 M4 =>
J92 r5 M4
else none
theorem biR_no {x y : Int} (M : Md) {n : Nat} (hn : 0 < n ∧ n < 10) : biR M x y (n : Int) = some (0, mSet M 36 (n : Int)) := by
  unfold biR
  rw [bnd_eq, bnd_eq, mS1, if_pos (by rw [w32_n (by omega)]; omega)]
/-- what a title's page is, on both sides -/
theorem RQ.page (h : RQ P b M C VA PA LE AA nv np na) {t q : Nat} (ht : t < 24) (hq : cR C 1203 (b + 13 + 6 * t) = some q) : ∃ p, p < np ∧ M.2 6 t = (p : Int) ∧ q = PA p := by
  rcases h.2.2.2.2.2.1.2.2.2.1.1 t ht with z | ⟨p, z1, z2, z3⟩
  · rw [z.2] at hq; exact absurd hq (by intro z; injection z)
  · rw [z3] at hq; exact ⟨p, z1, z2, (Option.some.inj hq).symm⟩
theorem call_bringIn (h : RR b kc M C) (hk : kc ≤ 600) {x y : Int} (hx : I32 x) (hy : I32 y) : CallE b kc C cd1 (fX11_bringIn b x y C) (fX12_bringIn x y M) := by
  have hL := h.1.1
  have W := hL.W
  have hz := hL.sz
  have hb5 := h.2.2.2.1.1
  have hY0 : ∀ {r : Int}, fX12_hasPage x M = some (r, M) → fX12_bringIn x y M = (if ¬ w32 r = 0 then
cal (fX12_in y 1 (M.1 5) M) fun r7 M6 =>
if ¬ w32 r7 = 0 then
cal (fX12_mayAt x M6) fun r9 M8 =>
bnd (fun  (M_62 : Md) =>
biR M_62 x y 3) fun J62 =>
if w32 r9 = 0 then
J62 M8
else
cal (fX12_isText 0 0 (M8.1 1) M8) fun r11 M10 =>
if w32 r11 = 0 then
J62 M10
else
if ¬ w32 (M10.1 8) = w32 120 then
biR M10 x y 0
else
J62 M10
else
biR M6 x y 2
else
biR M x y 1) := fun {r} e => by
    unfold fX12_bringIn
    rw [cal_of e]
    rfl
  rcases h.pageC hx with ⟨t, q, rfl, ht, hne, eX, hq, eY⟩ | ⟨eX, eY⟩
  · have hY1 := hY0 eY
    rw [if_pos (by decide)] at hY1
    have hX1 : fX11_bringIn b (t : Int) y C = (if w32 y < w32 1 then
some (.inr 0, cBump C)
else
if isO C b 14 then
if w32 y ≤ w32 (cI C 1406 b) then
if isO C b 14 then bnd (cR C 1401 b) fun (z3 : Option Nat) =>
drf z3 fun (p4 : Nat) =>
if isO C p4 102 ∧ inR (t : Int) (cn C p4) then bnd (cP C p4 (ix (t : Int))) fun (z5 : Option Nat) =>
if isO C b 14 then cal (fX11_mayActAt b z5 C) fun (r7 : Int) (C6 : Cd) =>
bnd (fun  (C_61 : Cd) =>
some (.inr 1, cBump C_61)) fun J61 =>
if w32 r7 = 0 then
J61 C6
else
if isO C6 b 14 then bnd (cR C6 1403 b) fun (z8 : Option Nat) =>
drf z8 fun (p9 : Nat) =>
if isO C6 p9 11 then cal (fX8_isText p9 C6) fun (r11 : Int) (C10 : Cd) =>
if w32 r11 = 0 then
J61 C10
else
if isO C10 b 14 then
if w32 (cI C10 1407 b) < w32 120 then
if isO C10 b 14 then bnd (cR C10 1403 b) fun (z12 : Option Nat) =>
if isO C10 b 14 then cal (fX11_addVersion b (t : Int) (some q) z12 y C10) fun (r14 : Int) (C13 : Cd) =>
if isO C13 b 14 then bnd (cR C13 1403 b) fun (z15 : Option Nat) =>
drf z15 fun (p16 : Nat) =>
if isO C13 p16 11 then cal (fX8_clear p16 C13) fun (r18 : Unit) (C17 : Cd) =>
some (.inl r14, C17)
else none
else none
else none
else none
else
J61 C10
else none
else none
else none
else none
else none
else none
else
some (.inr 0, cBump C)
else none) := by
      unfold fX11_bringIn
      rw [if_pos hL.o, calx_of eX]
      rfl
    have wy : w32 y = y := w32_of hy.1 hy.2
    have e5 : cI C 1406 b = M.1 5 := h.2.2.1.2.1.symm
    rw [wy, show w32 1 = 1 from rfl, e5, w32_of (x := M.1 5) (by omega) (by omega)] at hX1
    rcases X12_in_ (x := y) (lo := 1) (hi := M.1 5) M hy (by decide) ⟨by omega, by omega⟩ with ⟨e2, p2⟩ | ⟨e2, p2⟩
    · rw [cal_of e2, if_pos (by decide)] at hY1
      rw [if_neg (by omega), if_pos hL.o, if_pos p2.2, if_pos hL.o, bnd_eq, hL.r1, drf_some, if_pos ⟨hL.ot, by rw [hL.nt]; exact inR_n ht (by decide)⟩, bnd_eq, hL.tt ht, if_pos hL.o] at hX1
      rcases h.may ht with ⟨a1, a2⟩ | ⟨a1, a2⟩
      · rw [cal_of a1, bnd_eq, if_neg (by decide), if_pos hL.o, bnd_eq, hL.r3, drf_some] at hX1
        rw [cal_of a2, bnd_eq, if_neg (by decide)] at hY1
        obtain ⟨dn, g, C1, M1, ⟨d1, d2, d3, d4, d5⟩, i1, i2, h1, f1, s1, l1, o1, q1⟩ := h.draft
        have hL1 := h1.1.1
        rw [if_pos d3.isO_, cal_of i1] at hX1
        rw [cal_of i2] at hY1
        have fr1 : Fp (sFr b) C C1 := f1.fr (fun _ z => z.elim)
        by_cases ct : isTx g dn = true
        · rw [if_pos ct, if_neg (by decide), if_pos hL1.o] at hX1
          rw [if_pos ct, if_neg (by decide)] at hY1
          have h3 : RR b kc (mSet M1 36 0) C1 := (h1.nil (Fp.rf hL1.W) (sc36 M1 0)).rb (by
            obtain ⟨⟨b1, b2⟩, b3, b4, b5⟩ := h1.2.2.2.1
            exact ⟨⟨b1, b2⟩, b3, b4, b5⟩)
          obtain ⟨hB, VA, PA, LE, AA, nv, np, na, hq3⟩ := h3.rq
          have hV := hq3.2.2.2.2.2.1.1.1
          have h8 : (mSet M1 36 0).1 8 = (nv : Int) := hV.1
          have h8' : M1.1 8 = (nv : Int) := (mS2 M1 (k := 36) (k' := 8) 0 (by decide)).symm.trans h8
          have n120 := hV.2.1
          have c1407 := hq3.2.2.2.2.2.1.1.2.2
          rw [c1407] at hX1
          rw [h8'] at hY1
          by_cases cv : nv = 120
          · rw [if_neg (by rw [cv]; decide)] at hX1
            rw [if_neg (fun z => z (by rw [cv]; rfl))] at hY1
            have := biR_no (x := (t : Int)) (y := y) M1 (n := 3) (by decide)
            exact h1.excS (e := 1) hz fr1 (by omega) (by omega) hX1 (hY1.trans this) (sc36 M1 3) (mS1 _ _ _) (by decide)
          · rw [if_pos (by rw [w32_n (by omega), show w32 120 = 120 from rfl]; omega), if_pos hL1.o, bnd_eq, hL1.r3, if_pos hL1.o] at hX1
            rw [if_pos (by rw [w32_n (by omega), show w32 120 = 120 from rfl]; omega)] at hY1
            obtain ⟨p, hp, h6, hqp⟩ := hq3.page (q := q) ht ((f1.fR (by omega) (fun z => z)).trans hq)
            have d3' : TxV C1 (b + 845) 30 g dn := d3.fp W f1 (fun z => z) (fun z => z) (fun z => z) (fun z => z)
            have g1 : ∀ j, j ≠ 36 → (mSet M1 36 0).1 j = M.1 j := fun j z1 => by rw [mS2 _ _ z1, q1]
            obtain ⟨M6, nm, eM⟩ := X12_fromDraft_ (M := mSet M1 36 0) (p := (p : Int)) (tm := y) (nv := nv) (dn := dn) (g := g) h8 (by omega) ((g1 1 (by decide)).trans d1) d2 (fun k hk => by
              show M1.2 0 k = g k
              rw [o1.2.1 0 (by decide)]; exact d5 k hk)
            obtain ⟨C5, VA5, LE5, D, eC5, hq5, _, s5, l5, f5, _⟩ := hq3.addV ht hp h6 d3' ct d4 (by omega) hy nm
            obtain ⟨C6, M8, c6', m8, h8r, r36, f6, s6, l6⟩ := hq5.last (M0 := M) h.2.2.2.1 (Or.inl ((nm.1 5 (by decide)).trans (g1 5 (by decide)))) ((nm.1 13 (by decide)).trans (g1 13 (by decide))) ((nm.1 22 (by decide)).trans (g1 22 (by decide))) ((nm.1 36 (by decide)).trans (mS1 _ _ _))
            have hL5 := hq5.1.1
            obtain ⟨dn5, g5', hd5⟩ := hq5.2.1
            rw [hqp, cal_of eC5, if_pos hL5.o, bnd_eq, hL5.r3, drf_some, if_pos hd5.2.2.1.isO_, cal_of c6'] at hX1
            have e0 := eM M8 m8
            have hY2 : biR M1 (t : Int) y 0 = some ((nv : Int), M8) := by
              unfold biR
              rw [bnd_eq, bnd_eq, mS1, if_neg (fun z => z (by decide)), if_pos (inM (n := 24) rfl ht (by decide)), ix_n (by omega), h6, cal_of e0]
            have hPA : b + 854 ≤ LE p := (hq3.2.2.2.2.2.1.2.2.2.2.2.1 p hp).2.2.2.2.2
            have ff : Fp (sFr b) C C6 := ((fr1).tr (f5.fr (fun a z => by unfold sAv at z; omega))).tr f6
            exact ⟨M8, C6, _, hY1.trans hY2, h8r, RmL.fr hz ff (by omega) (by omega), Or.inl ⟨hX1, r36⟩⟩
        · rw [if_neg ct, if_pos (by decide)] at hX1 hY1
          have := biR_no (x := (t : Int)) (y := y) M1 (n := 3) (by decide)
          exact h1.excS (e := 1) hz fr1 (by omega) (by omega) hX1 (hY1.trans this) (sc36 M1 3) (mS1 _ _ _) (by decide)
      · rw [cal_of a1, bnd_eq, if_pos (by decide)] at hX1
        rw [cal_of a2, bnd_eq, if_pos (by decide)] at hY1
        have := biR_no (x := (t : Int)) (y := y) M (n := 3) (by decide)
        exact h.exc (e := 1) hX1 (hY1.trans this) (sc36 M 3) (mS1 _ _ _) (by decide)
    · rw [cal_of e2, if_neg (fun z => z (by decide))] at hY1
      have := biR_no (x := (t : Int)) (y := y) M (n := 2) (by decide)
      refine h.exc (e := 0) ?_ (hY1.trans this) (sc36 M 2) (mS1 _ _ _) (by decide)
      rw [hX1]
      by_cases c : y < 1
      · rw [if_pos c]
      · rw [if_neg c, if_pos hL.o, if_neg (by omega)]
  · have hY1 := hY0 eY
    rw [if_neg (fun z => z (by decide))] at hY1
    have := biR_no (x := x) (y := y) M (n := 1) (by decide)
    refine h.exc (e := 2) ?_ (hY1.trans this) (sc36 M 1) (mS1 _ _ _) (by decide)
    unfold fX11_bringIn
    rw [if_pos hL.o, calx_ofx eX]
end BIN
