/-! CALLS: inLanguage, isOutdated, translate -/
section CAL4
variable {b kc : Nat} {M M' : Md} {C C' : Cd} {t : Nat}
theorem X12_asksIn_ {x l : Int} (hx : I32 x) (hl : I32 l) : ((0 ≤ x ∧ x < 24) ∧ (1 ≤ l ∧ l ≤ 2) ∧ fX12_asksIn x l M = some (1, mSet M 36 0)) ∨ ((0 ≤ x ∧ x < 24) ∧ ¬ (1 ≤ l ∧ l ≤ 2) ∧ fX12_asksIn x l M = some (0, mSet M 36 2)) ∨ (¬ (0 ≤ x ∧ x < 24) ∧ fX12_asksIn x l M = some (0, mSet M 36 1)) := by
  unfold fX12_asksIn
  rcases X12_isTitle_ (x := x) M hx with ⟨e, p⟩ | ⟨e, p⟩
  · rcases X12_in_ (x := l) (lo := 1) (hi := 2) M hl (by decide) (by decide) with ⟨e2, p2⟩ | ⟨e2, p2⟩
    · rw [cal_of e, bnd_eq, if_pos (by decide), cal_of e2, if_pos (by decide)]
      dsimp only
      rw [bnd_eq, bnd_eq, mS1, if_neg (fun z => z (by decide))]
      exact Or.inl ⟨by omega, p2, rfl⟩
    · rw [cal_of e, bnd_eq, if_pos (by decide), cal_of e2, if_neg (fun z => z (by decide))]
      dsimp only
      rw [bnd_eq, bnd_eq, mS1, if_pos (by decide)]
      exact Or.inr (Or.inl ⟨by omega, p2, rfl⟩)
  · rw [cal_of e, bnd_eq, if_neg (fun z => z (by decide))]
    dsimp only
    rw [bnd_eq, bnd_eq, mS1, if_pos (by decide)]
    exact Or.inr (Or.inr ⟨by omega, rfl⟩)
theorem X11_refuseOther_in {x : Int} (h : 1 ≤ x ∧ x ≤ 2) : fX11_refuseOtherLanguages b x C = some (.inl (), C) := by
  unfold fX11_refuseOtherLanguages
  rw [bnd_eq, if_neg (by rw [w32_of (x := x) (by omega) (by omega), show w32 1 = 1 from rfl]; omega), if_pos (by rw [w32_of (x := x) (by omega) (by omega), show w32 2 = 2 from rfl]; omega)]
theorem X11_refuseOther_out {x : Int} (hx : I32 x) (h : ¬ (1 ≤ x ∧ x ≤ 2)) : fX11_refuseOtherLanguages b x C = some (.inr 0, cBump C) := by
  unfold fX11_refuseOtherLanguages
  rw [bnd_eq]
  by_cases c : x < 1
  · rw [if_pos (by rw [w32_of hx.1 hx.2, show w32 1 = 1 from rfl]; omega)]
  · rw [if_neg (by rw [w32_of hx.1 hx.2, show w32 1 = 1 from rfl]; omega), if_neg (by rw [w32_of hx.1 hx.2, show w32 2 = 2 from rfl]; omega)]
/-- a translation that has a page -/
def trl (M : Md) (l t : Nat) : Int := if M.2 17 (24 * l + t) = -1 then -1 else if M.2 6 (M.2 17 (24 * l + t)).toNat = -1 then -1 else M.2 17 (24 * l + t)
theorem X12_translated_ {l : Nat} (hl : l < 2) (ht : t < 24) (h17 : -1 ≤ M.2 17 (24 * l + t) ∧ M.2 17 (24 * l + t) < 24) (h6 : ∀ s, s < 24 → -1 ≤ M.2 6 s ∧ M.2 6 s < 200) : fX12_translated (t : Int) ((l : Int) + 1) M = some (trl M l t, M) := by
  have e : (24 * (((l : Int) + 1) - 1)) + (t : Int) = ((24 * l + t : Nat) : Int) := by omega
  unfold fX12_translated trl
  rw [e, if_pos (inM (n := 48) rfl (by omega) (by decide)), ix_n (by omega), bnd_eq, bnd_eq, bnd_eq]
  by_cases c : M.2 17 (24 * l + t) = -1
  · rw [if_pos (by rw [c]), if_pos c]
  · rw [if_neg (by rw [w32_of (by omega) (by omega), show w32 (-1) = -1 from rfl]; exact c), if_neg c]
    obtain ⟨v, hv⟩ : ∃ v : Nat, M.2 17 (24 * l + t) = (v : Int) := ⟨(M.2 17 (24 * l + t)).toNat, by omega⟩
    rw [hv, if_pos (inM (n := 24) rfl (by omega) (by decide)), ix_n (by omega), Int.toNat_natCast]
    have q := h6 v (by omega)
    by_cases c2 : M.2 6 v = -1
    · rw [if_pos (by rw [c2]), if_pos c2]
    · rw [if_neg (by rw [w32_of (by omega) (by omega), show w32 (-1) = -1 from rfl]; exact c2), if_neg c2]
theorem trl_rng {l : Nat} (h17 : -1 ≤ M.2 17 (24 * l + t) ∧ M.2 17 (24 * l + t) < 24) : -1 ≤ trl M l t ∧ trl M l t < 24 := by
  unfold trl
  by_cases c : M.2 17 (24 * l + t) = -1
  · rw [if_pos c]; omega
  · rw [if_neg c]
    by_cases c2 : M.2 6 (M.2 17 (24 * l + t)).toNat = -1
    · rw [if_pos c2]; omega
    · rw [if_neg c2]; exact h17
/-- a title's page, as the class has it -/
theorem RR.cr (h : RR b kc M C) (ht : t < 24) : cR C 1203 (b + 13 + 6 * t) = none ↔ M.2 6 t = -1 := by
  obtain ⟨VA, PA, LE, AA, nv, np, na, hH, hK, hc⟩ := h.at_ ht
  rcases hc with z | ⟨p, p1, p2, p3⟩
  · exact ⟨fun _ => z.1, fun _ => z.2⟩
  · constructor
    · intro w; rw [p3] at w; cases w
    · intro w; omega
theorem call_inLanguage (h : RR b kc M C) {x l : Int} (hx : I32 x) (hl : I32 l) : CallE b kc C cd2 (fX11_inLanguage b x l C) (fX12_inLanguage x l M) := by
  have hL := h.1.1
  rcases X12_asksIn_ (M := M) hx hl with ⟨c, cl, e⟩ | ⟨c, cl, e⟩ | ⟨c, e⟩
  · obtain ⟨t, rfl⟩ : ∃ t : Nat, x = (t : Int) := ⟨x.toNat, by omega⟩
    have ht : t < 24 := by omega
    obtain ⟨_, _, h5⟩ := h.2.2.2.2.1 t ht
    have pg : ∀ s, s < 24 → -1 ≤ (mSet M 36 0).2 6 s ∧ (mSet M 36 0).2 6 s < 200 := fun s hs => h.pg hs
    -- a step of the class's loop
    have st : ∀ (L : Int → Cd → Option ((Int ⊕ Nat) × Cd)) (k : Nat), k < 2 → (drf (some (b + 13 + 6 * t)) fun (p5 : Nat) =>
if isO C p5 12 then bnd (cR C 1201 p5) fun (z6 : Option Nat) =>
drf z6 fun (p7 : Nat) =>
if isO C p7 100 ∧ inR ((k : Int) + 1) (cn C p7) then
bnd (cE C p7 (ix ((k : Int) + 1))) fun (x5_27 : Int) =>
bnd (fun  (C_51 : Cd) =>
L (((k : Int) + 1) + (-1)) C_51) fun J51 =>
if w32 x5_27 = w32 (-1) then
J51 C
else
if isO C b 14 then bnd (cR C 1401 b) fun (z8 : Option Nat) =>
drf z8 fun (p9 : Nat) =>
if isO C p9 102 ∧ inR x5_27 (cn C p9) then bnd (cP C p9 (ix x5_27)) fun (z10 : Option Nat) =>
drf z10 fun (p11 : Nat) =>
if isO C p11 12 then bnd (cR C 1203 p11) fun (z12 : Option Nat) =>
opt z12 (
J51 C) (fun (p13 : Nat) =>
some (.inl x5_27, C))
else none
else none
else none
else none
else none) = if trl M k t = -1 then L (k : Int) C else some (.inl (trl M k t), C) := by
      intro L k hk
      obtain ⟨⟨a1, a2⟩, a3⟩ := h5 k hk
      have ek : (k : Int) + 1 = ((k + 1 : Nat) : Int) := by omega
      rw [drf_some, if_pos (hL.to ht), bnd_eq, hL.tl ht, drf_some, ek, if_pos ⟨hL.lo ht, by rw [hL.ln ht]; exact inR_n (by omega) (by decide)⟩, bnd_eq, bnd_eq, ix_n (by omega), ← a1, show ((k + 1 : Nat) : Int) + (-1) = (k : Int) by omega]
      unfold trl
      by_cases c : M.2 17 (24 * k + t) = -1
      · rw [if_pos (by rw [c]), if_pos c, if_pos rfl]
      · rw [if_neg (by rw [w32_of (by omega) (by omega), show w32 (-1) = -1 from rfl]; exact c), if_neg c]
        obtain ⟨v, hv⟩ : ∃ v : Nat, M.2 17 (24 * k + t) = (v : Int) := ⟨(M.2 17 (24 * k + t)).toNat, by omega⟩
        have hv24 : v < 24 := by omega
        have cr := h.cr hv24
        rw [hv, if_pos hL.o, bnd_eq, hL.r1, drf_some, hL.nt, if_pos ⟨hL.ot, inR_n hv24 (by decide)⟩, bnd_eq, hL.tt hv24, drf_some, if_pos (hL.to hv24), bnd_eq, Int.toNat_natCast]
        by_cases c2 : M.2 6 v = -1
        · rw [if_pos c2, if_pos rfl, cr.mpr c2, opt_none]
        · rw [if_neg c2, if_neg (by omega)]
          cases hz : cR C 1203 (b + 13 + 6 * v) with
          | none => exact absurd (cr.mp hz) c2
          | some P => rw [opt_some]
    have t0 := X12_translated_ (M := mSet M 36 0) (l := 0) (by decide) ht (h5 0 (by decide)).1.2 pg
    have t1 := X12_translated_ (M := mSet M 36 0) (l := 1) (by decide) ht (h5 1 (by decide)).1.2 pg
    have tr0 : trl (mSet M 36 0) 0 t = trl M 0 t := rfl
    have tr1 : trl (mSet M 36 0) 1 t = trl M 1 t := rfl
    rw [tr0] at t0
    rw [tr1] at t1
    rw [show (((0 : Nat) : Int) + 1) = 1 from rfl] at t0
    rw [show (((1 : Nat) : Int) + 1) = 2 from rfl] at t1
    have g0 := trl_rng (M := M) (h5 0 (by decide)).1.2
    have g1 := trl_rng (M := M) (h5 1 (by decide)).1.2
    have wl1 : ∀ y : Int, -1 ≤ y → y < 24 → (w32 y = w32 (-1) ↔ y = -1) := fun y y1 y2 => by rw [w32_of (by omega) (by omega), show w32 (-1) = -1 from rfl]
    have cl' : l = 1 ∨ l = 2 := by omega
    rcases cl' with e1 | e1 <;> subst e1
    · refine h.ret (M' := mSet M 36 0) (y := if trl M 0 t = -1 then (t : Int) else trl M 0 t) ?_ ?_ (sc36 M 0) (mS1 _ _ _)
      · unfold fX11_inLanguage
        rw [if_pos hL.o, calx_of (X11_titleOf_in hL ht), if_pos hL.o, calx_of (X11_refuseOther_in (by decide)), bnd_eq]
        rw [show FU = 999998 + 1 + 1 from rfl, lpn_succ, if_neg (by decide)]
        refine (st _ 0 (by decide)).trans ?_
        by_cases z : trl M 0 t = -1
        · rw [if_pos z, if_pos z, lpn_succ, if_pos (by decide)]
        · rw [if_neg z, if_neg z]
      · unfold fX12_inLanguage
        rw [cal_of e, if_pos (by decide), cal_of t0, bnd_eq, bnd_eq]
        by_cases z : trl M 0 t = -1
        · rw [if_neg (fun y => y ((wl1 _ g0.1 g0.2).mpr z)), if_pos (by decide), if_pos z]
          dsimp only
          rw [bnd_eq, if_neg (fun y => y ((wl1 _ g0.1 g0.2).mpr z))]
        · rw [if_pos (fun y => z ((wl1 _ g0.1 g0.2).mp y)), if_neg z]
          dsimp only
          rw [bnd_eq, if_pos (fun y => z ((wl1 _ g0.1 g0.2).mp y))]
    · refine h.ret (M' := mSet M 36 0) (y := if trl M 1 t = -1 then (if trl M 0 t = -1 then (t : Int) else trl M 0 t) else trl M 1 t) ?_ ?_ (sc36 M 0) (mS1 _ _ _)
      · unfold fX11_inLanguage
        rw [if_pos hL.o, calx_of (X11_titleOf_in hL ht), if_pos hL.o, calx_of (X11_refuseOther_in (by decide)), bnd_eq]
        rw [show FU = 999997 + 1 + 1 + 1 from rfl, lpn_succ, if_neg (by decide)]
        refine (st _ 1 (by decide)).trans ?_
        by_cases z1 : trl M 1 t = -1
        · rw [if_pos z1, if_pos z1, lpn_succ, if_neg (by decide)]
          refine (st _ 0 (by decide)).trans ?_
          by_cases z : trl M 0 t = -1
          · rw [if_pos z, if_pos z, lpn_succ, if_pos (by decide)]
          · rw [if_neg z, if_neg z]
        · rw [if_neg z1, if_neg z1]
      · unfold fX12_inLanguage
        rw [cal_of e, if_pos (by decide), cal_of t1, bnd_eq, bnd_eq]
        by_cases z1 : trl M 1 t = -1
        · rw [if_neg (fun y => y ((wl1 _ g1.1 g1.2).mpr z1)), if_neg (fun y => y rfl), cal_of t0, if_pos z1]
          dsimp only
          rw [bnd_eq]
          by_cases z : trl M 0 t = -1
          · rw [if_neg (fun y => y ((wl1 _ g0.1 g0.2).mpr z)), if_pos z]
          · rw [if_pos (fun y => z ((wl1 _ g0.1 g0.2).mp y)), if_neg z]
        · rw [if_pos (fun y => z1 ((wl1 _ g1.1 g1.2).mp y)), if_neg z1]
          dsimp only
          rw [bnd_eq, if_pos (fun y => z1 ((wl1 _ g1.1 g1.2).mp y))]
  · obtain ⟨t, rfl⟩ : ∃ t : Nat, x = (t : Int) := ⟨x.toNat, by omega⟩
    refine h.exc (e := 0) (M' := mSet M 36 2) ?_ ?_ (sc36 M 2) (mS1 _ _ _) (by decide)
    · unfold fX11_inLanguage
      rw [if_pos hL.o, calx_of (X11_titleOf_in hL (by omega)), if_pos hL.o, calx_ofx (X11_refuseOther_out hl cl)]
    · unfold fX12_inLanguage
      rw [cal_of e, if_neg (fun z => z (by decide))]
  · refine h.exc (e := 2) (M' := mSet M 36 1) ?_ ?_ (sc36 M 1) (mS1 _ _ _) (by decide)
    · unfold fX11_inLanguage
      rw [if_pos hL.o, calx_ofx (X11_titleOf_out hL hx c)]
    · unfold fX12_inLanguage
      rw [cal_of e, if_neg (fun z => z (by decide))]
theorem call_isOutdated (h : RR b kc M C) {x l : Int} (hx : I32 x) (hl : I32 l) : CallE b kc C cd2 (fX11_isOutdated b x l C) (fX12_isOutdated x l M) := by
  have hL := h.1.1
  rcases X12_asksIn_ (M := M) hx hl with ⟨c, cl, e⟩ | ⟨c, cl, e⟩ | ⟨c, e⟩
  · obtain ⟨t, rfl⟩ : ∃ t : Nat, x = (t : Int) := ⟨x.toNat, by omega⟩
    have ht : t < 24 := by omega
    obtain ⟨k, rfl⟩ : ∃ k : Nat, l = (k : Int) + 1 := ⟨(l - 1).toNat, by omega⟩
    have hk : k < 2 := by omega
    obtain ⟨_, _, h5⟩ := h.2.2.2.2.1 t ht
    obtain ⟨⟨a1, a2⟩, a3⟩ := h5 k hk
    have ek : (k : Int) + 1 = ((k + 1 : Nat) : Int) := by omega
    have cX : fX11_isOutdated b (t : Int) ((k : Int) + 1) C = (if ¬ w32 (M.2 17 (24 * k + t)) = w32 (-1) then
bnd (cR C 1203 (b + 13 + 6 * t)) fun (z8 : Option Nat) =>
bnd (fun (t0_54 : Int) (C_54 : Cd) =>
retZX t0_54 C_54) fun J54 =>
bnd (fun  (C_49 : Cd) =>
J54 1 C_49) fun J49 =>
opt z8 (
J49 C) (fun (p9 : Nat) =>
if isO C (b + 13 + 6 * t) 12 then bnd (cR C 1203 (b + 13 + 6 * t)) fun (z10 : Option Nat) =>
drf z10 fun (p11 : Nat) =>
if isO C p11 6 then bnd (cR C 601 p11) fun (z12 : Option Nat) =>
drf z12 fun (p13 : Nat) =>
if isO C p13 13 then
if isO C (b + 13 + 6 * t) 12 then bnd (cR C 1202 (b + 13 + 6 * t)) fun (z14 : Option Nat) =>
drf z14 fun (p15 : Nat) =>
if isO C p15 100 ∧ inR (((k + 1 : Nat)) : Int) (cn C p15) then
if w32 (cI C 1300 p13) = w32 (cE C p15 (ix (((k + 1 : Nat)) : Int))) then
J54 0 C
else
J49 C
else none
else none
else none
else none
else none)
else some (.inl 0, C)) := by
      unfold fX11_isOutdated
      rw [if_pos hL.o, calx_of (X11_titleOf_in hL ht), if_pos hL.o, calx_of (X11_refuseOther_in cl), drf_some, if_pos (hL.to ht), bnd_eq, hL.tl ht, drf_some, ek, if_pos ⟨hL.lo ht, by rw [hL.ln ht]; exact inR_n (by omega) (by decide)⟩, ix_n (by omega), ← a1, if_pos (hL.to ht)]
    have cY : fX12_isOutdated (t : Int) ((k : Int) + 1) M = (if w32 (M.2 17 (24 * k + t)) = w32 (-1) then retZ 0 (mSet M 36 0)
else if w32 (M.2 6 t) = w32 (-1) then retZ 1 (mSet M 36 0)
else cal (fX12_presentAt (t : Int) (mSet M 36 0)) fun r4 M3 =>
if inR ((24 * k + t : Nat) : Int) (mLen 18) then
if w32 r4 = w32 (M3.2 18 (ix ((24 * k + t : Nat) : Int))) then
retZ 0 M3
else
retZ 1 M3
else none) := by
      have e3 : (24 * (((k : Int) + 1) - 1)) + (t : Int) = ((24 * k + t : Nat) : Int) := by omega
      unfold fX12_isOutdated
      rw [cal_of e, if_pos (by decide), bnd_eq, e3, if_pos (inM (n := 48) rfl (by omega) (by decide)), bnd_eq, bnd_eq, if_pos (inM (n := 24) rfl ht (by decide)), bnd_eq, ix_n (by omega), ix_n (by omega)]
      rfl
    by_cases c17 : M.2 17 (24 * k + t) = -1
    · refine h.ret (M' := mSet M 36 0) (y := 0) ?_ ?_ (sc36 M 0) (mS1 _ _ _)
      · rw [cX, if_neg (fun z => z (by rw [c17]))]
      · rw [cY, if_pos (by rw [c17])]; rfl
    · have n17 : ¬ w32 (M.2 17 (24 * k + t)) = w32 (-1) := by rw [w32_of (by omega) (by omega), show w32 (-1) = -1 from rfl]; exact c17
      obtain ⟨b1, b2⟩ := a3 c17
      rw [if_pos n17] at cX
      rw [if_neg n17] at cY
      obtain ⟨VA, PA, LE, AA, nv, np, na, hH, hK, hc⟩ := h.at_ ht
      obtain ⟨nv1, np1⟩ := hH.nv120
      rcases hc with ⟨c1, c2⟩ | ⟨p, p1, p2, p3⟩
      · refine h.ret (M' := mSet M 36 0) (y := 1) ?_ ?_ (sc36 M 0) (mS1 _ _ _)
        · rw [cX, bnd_eq, bnd_eq, bnd_eq, c2, opt_none]; rfl
        · rw [cY, if_pos (by rw [c1])]; rfl
      · obtain ⟨v, v1, v2, v3, v4⟩ := hH.pres p1
        obtain ⟨w1, w2⟩ := hH.2.2.2.2.1 v v1
        obtain ⟨f1, f2, f3⟩ := hH.2.2.2.2.2.1 p p1
        have ep := X12_presentAt_ (M := mSet M 36 0) (nv := nv) hH.1.1 ht (by show I32 (M.2 6 t); rw [p2]; exact ⟨by omega, by omega⟩)
        have epv : prAt (mSet M 36 0) nv t = (v : Int) := by
          unfold prAt
          rw [show (mSet M 36 0).2 6 t = (p : Int) from p2, if_neg (by omega), prs_same (sc36 M 0).vs]
          exact v2
        rw [epv] at ep
        rw [bnd_eq, bnd_eq, bnd_eq, p3, opt_some, if_pos (hL.to ht), bnd_eq, drf_some, if_pos f2.1, bnd_eq, v4, drf_some, if_pos w1.1, if_pos (hL.to ht), bnd_eq, hL.td ht, drf_some, if_pos ⟨hL.do_ ht, by rw [hL.dn ht]; exact inR_n (by omega) (by decide)⟩, ix_n (by omega), ← b1, w1.2.1] at cX
        rw [if_neg (by rw [p2, w32_n (by omega), show w32 (-1) = -1 from rfl]; omega), cal_of ep, if_pos (inM (n := 48) rfl (by omega) (by decide)), ix_n (by omega), show (mSet M 36 0).2 18 (24 * k + t) = M.2 18 (24 * k + t) from rfl] at cY
        by_cases cv : (v : Int) = M.2 18 (24 * k + t)
        · refine h.ret (M' := mSet M 36 0) (y := 0) ?_ ?_ (sc36 M 0) (mS1 _ _ _)
          · rw [cX, if_pos (by rw [cv])]; rfl
          · rw [cY, if_pos (by rw [cv])]; rfl
        · have nv' : ¬ w32 (v : Int) = w32 (M.2 18 (24 * k + t)) := by rw [w32_n (by omega), w32_of (by omega) (by omega)]; exact cv
          refine h.ret (M' := mSet M 36 0) (y := 1) ?_ ?_ (sc36 M 0) (mS1 _ _ _)
          · rw [cX, if_neg nv']; rfl
          · rw [cY, if_neg nv']; rfl
  · obtain ⟨t, rfl⟩ : ∃ t : Nat, x = (t : Int) := ⟨x.toNat, by omega⟩
    refine h.exc (e := 0) (M' := mSet M 36 2) ?_ ?_ (sc36 M 2) (mS1 _ _ _) (by decide)
    · unfold fX11_isOutdated
      rw [if_pos hL.o, calx_of (X11_titleOf_in hL (by omega)), if_pos hL.o, calx_ofx (X11_refuseOther_out hl cl)]
    · unfold fX12_isOutdated
      rw [cal_of e, if_neg (fun z => z (by decide))]
  · refine h.exc (e := 2) (M' := mSet M 36 1) ?_ ?_ (sc36 M 1) (mS1 _ _ _) (by decide)
    · unfold fX11_isOutdated
      rw [if_pos hL.o, calx_ofx (X11_titleOf_out hL hx c)]
    · unfold fX12_isOutdated
      rw [cal_of e, if_neg (fun z => z (by decide))]
end CAL4
