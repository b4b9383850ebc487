/-! CALLS THAT EXPAND: shownAnew, approvedAt -/
section CAL5
variable {b kc : Nat} {M M' : Md} {C C' : Cd}
def rowAt (acc : List Int) (j : Nat) : Int := if j < acc.length then acc.getD j 0 else -1
theorem mrow_at {acc : List Int} (hr : RowM M' 0 acc) {j : Nat} (hj : (j : Int) < 2147483648) : (if inR 0 (mLen 49) then bnd (fun (t0 : Int) (M : Md) => (some (t0, M) : Option (Int × Md))) fun J => if w32 (M'.2 49 (ix 0)) ≤ w32 (j : Int) then J (-1) M' else if inR (j : Int) (mLen 50) then J (M'.2 50 (ix (j : Int))) M' else none else none) = some (rowAt acc j, M') := by
  obtain ⟨r1, r2, r3, r4⟩ := hr
  have hl := r3.1
  unfold rowAt
  rw [if_pos (show inR 0 (mLen 49) from inM (d := 0) (n := 1700) rfl (by decide) (by decide)), bnd_eq, show ix 0 = 0 from rfl, r2]
  by_cases c : j < acc.length
  · have e := r4 j c
    rw [show 150 * 0 + j = j by omega] at e
    rw [if_neg (by rw [w32_n (by omega), w32_n (by omega)]; omega), if_pos (inM (n := 255000) rfl (by omega) (by decide)), ix_n (by omega), e, if_pos c]
  · rw [if_pos (by rw [w32_n (by omega), w32_n (by omega)]; omega), if_neg c]
theorem crow_at {acc : List Int} {a : Nat} (hr : RowV C a acc) {j : Nat} (hj : (j : Int) < 2147483648) : fX5_at a (j : Int) C = some (rowAt acc j, C) := by
  unfold rowAt
  have hl := hr.2.2.2.1.1
  by_cases c : j < acc.length
  · rw [if_pos c, X5_at_ hr c]
  · rw [if_neg c, X5_at_out hr.1.1 hr.2.1 (Or.inr (by omega)) (by omega) hj (by omega) (by omega)]
theorem call_shownAnew (h : RR b kc M C) (hk : kc ≤ 10000) {x i : Int} (hx : I32 x) (hi : I32 i) : CallE b kc C cd2 (fX11_shownAnew b x i C) (fX12_shownAnew x i M) := by
  have hL := h.1.1
  have bad : fX12_hasIndex x i M = some (0, mSet M 36 1) → (fX11_shownAnew b x i C = some (.inr 2, cBump C)) → CallE b kc C cd2 (fX11_shownAnew b x i C) (fX12_shownAnew x i M) := fun e hX => by
    refine h.exc hX (M' := mSet M 36 1) ?_ (sc36 M 1) (mS1 _ _ _) (by decide)
    unfold fX12_shownAnew
    rw [cal_of e, if_neg (fun z => z (by decide))]
  by_cases c : 0 ≤ x ∧ x < 24
  · obtain ⟨t, rfl⟩ : ∃ t : Nat, x = (t : Int) := ⟨x.toNat, by omega⟩
    have ht : t < 24 := by omega
    obtain ⟨VA, PA, LE, AA, nv, np, na, hH, hK, hc⟩ := h.at_ ht
    obtain ⟨nv1, np1⟩ := hH.nv120
    rcases hc with ⟨c1, c2⟩ | ⟨p, p1, p2, p3⟩
    · refine bad (X12_hasIndex_out hx hi (Or.inr (Or.inl ⟨t, rfl, ht, c1⟩))) ?_
      unfold fX11_shownAnew
      rw [if_pos hL.o, calx_ofx (X11_pageOf_no hL ht c2)]
    · by_cases ci : 0 ≤ i
      · obtain ⟨j, rfl⟩ : ∃ j : Nat, i = (j : Int) := ⟨i.toNat, by omega⟩
        obtain ⟨f1, f2, f3, f4, f5, f6⟩ := hH.2.2.2.2.2.1 p p1
        obtain ⟨v, v1, v2, v3, v4⟩ := hH.pres p1
        obtain ⟨w1, w2⟩ := hH.2.2.2.2.1 v v1
        obtain ⟨lk, ct, rd, cd, us, hg⟩ := h.sets
        have es : seen M nv na (-1) t = (v : Int) := by
          unfold seen
          rw [if_pos (Or.inl rfl)]
          unfold prAt
          rw [if_neg (by omega), p2]
          exact v2
        have m39 : (mSet (mSet M 36 0) 39 (-1)).1 39 = -1 := mS1 _ _ _
        have m36 : (mSet (mSet M 36 0) 39 (-1)).1 36 = 0 := (mS2 (mSet M 36 0) _ (by decide)).trans (mS1 M 36 0)
        have mo : ∀ j, (j ≤ 35 ∨ j = 71) → (mSet (mSet M 36 0) 39 (-1)).1 j = M.1 j := fun j hj => (mS2 (mSet M 36 0) _ (by omega)).trans (mS2 M _ (by omega))
        have m2e : (mSet (mSet M 36 0) 39 (-1)).2 = M.2 := rfl
        have e := X12_hasIndex_in (M := M) ht (by omega) (by omega) hi ci
        have ep := X12_presentAt_ (M := mSet (mSet M 36 0) 39 (-1)) (nv := nv) (hH.1.1.same ⟨fun j hj => mo j (by omega), fun k _ => rfl⟩) ht (by show I32 (M.2 6 t); rw [p2]; exact ⟨by omega, by omega⟩)
        have epv : prAt (mSet (mSet M 36 0) 39 (-1)) nv t = (v : Int) := by
          rw [prAt_same (M := M) ⟨fun j hj => mo j (by omega), fun k _ => rfl⟩]
          unfold prAt
          rw [if_neg (by omega), p2]
          exact v2
        rw [epv] at ep
        have cY : fX12_shownAnew (t : Int) (j : Int) M = cal (fX12_expand (t : Int) (v : Int) (mSet (mSet M 36 0) 39 (-1))) fun (r7 : Unit) (M6 : Md) => (if inR 0 (mLen 49) then bnd (fun (t0 : Int) (M : Md) => (some (t0, M) : Option (Int × Md))) fun J => if w32 (M6.2 49 (ix 0)) ≤ w32 (j : Int) then J (-1) M6 else if inR (j : Int) (mLen 50) then J (M6.2 50 (ix (j : Int))) M6 else none else none) := by
          unfold fX12_shownAnew
          rw [cal_of e, if_pos (by decide), bnd_eq, cal_of ep]
        generalize mSet (mSet M 36 0) 39 (-1) = M1 at *
        obtain ⟨C', M', acc, s', q1, q2, q3, q4, q5, q6, q7, q8, q9, q10, q11, q12⟩ := h.expand hk hH (ct := ct) (fun t ht => by obtain ⟨r, q⟩ := hg t ht; exact q.2.2.2.1.2.1) (fun t ht => by obtain ⟨r, q⟩ := hg t ht; exact q.2.2.2.2.1) (M1 := M1) (up := -1) mo (fun k _ => by rw [m2e]) m39 (by decide) ht (by omega)
        rw [es] at q1 q2
        rw [Int.toNat_natCast] at q1
        have hL' := q4.1
        refine ⟨M', C', rowAt acc j, ?_, h.quiet q3 (sX_qt h.1.2.1) (sX_hs hL) q4 q11, q5, Or.inl ⟨?_, (q8.1 36 (by decide)).trans m36⟩⟩
        · rw [cY, cal_of q2]
          exact mrow_at q9 hi.2
        · unfold fX11_shownAnew
          rw [if_pos hL.o, calx_of (X11_pageOf_in hL ht p3), if_pos hL.o, calx_of (X11_refuseBelowZero_in hi ci), if_pos hL.o, bnd_eq, hL.r0, drf_some, if_pos f2.1, bnd_eq, v4, drf_some, if_pos w1.1, bnd_eq, w1.2.2.2.1, drf_some, if_pos hL.oe, cal_of q1, if_pos hL'.o, bnd_eq, hL'.r0, drf_some, if_pos hL'.oe, bnd_eq, hL'.x7, drf_some, if_pos hL'.2.2.1.2.2.2.2.2.2.2.2.2.1, bnd_eq, hL'.x8, drf_some, if_pos q6.1.1, cal_of (crow_at q6 hi.2)]
      · refine bad (X12_hasIndex_out hx hi (Or.inr (Or.inr ⟨t, rfl, ht, by omega, by omega⟩))) ?_
        unfold fX11_shownAnew
        rw [if_pos hL.o, calx_of (X11_pageOf_in hL ht p3), if_pos hL.o, calx_ofx (X11_refuseBelowZero_out hi (by omega))]
  · refine bad (X12_hasIndex_out hx hi (Or.inl c)) ?_
    unfold fX11_shownAnew
    rw [if_pos hL.o, calx_ofx (X11_pageOf_out hL hx c)]
theorem mSet_set (M : Md) (j : Nat) (x y : Int) : mSet (mSet M j x) j y = mSet M j y := by
  refine Prod.ext (funext fun i => ?_) rfl
  by_cases c : i = j
  · subst c; rw [mS1, mS1]
  · rw [mS2 _ _ c, mS2 _ _ c, mS2 _ _ c]
/-- the last approval of a page: its version, its time -/
def lastA (M : Md) (p : Int) : Nat → Int × Int
  | 0 => (-1, -1)
  | n + 1 => if M.2 14 n = p then (M.2 16 n, M.2 15 n) else lastA M p n
theorem lastA_ref {AA : Nat → Nat} {p : Int} : ∀ n, (aRef M AA p n = none ∧ lastA M p n = (-1, -1)) ∨ ∃ k, k < n ∧ M.2 14 k = p ∧ aRef M AA p n = some (AA k) ∧ lastA M p n = (M.2 16 k, M.2 15 k) ∧ appr M p (M.2 15 k) n = M.2 16 k := by
  intro n
  induction n with
  | zero => exact Or.inl ⟨rfl, rfl⟩
  | succ n ih =>
    unfold aRef lastA appr
    by_cases c : M.2 14 n = p
    · rw [if_pos c, if_pos c]
      exact Or.inr ⟨n, Nat.lt_succ_self n, c, rfl, rfl, if_pos ⟨c, Int.le_refl _⟩⟩
    · rw [if_neg c, if_neg c]
      rcases ih with h | ⟨k, h1, h2, h3, h4, h5⟩
      · exact Or.inl h
      · exact Or.inr ⟨k, by omega, h2, h3, h4, by rw [if_neg (fun z => c z.1)]; exact h5⟩
theorem X12_approvedAt_ {t : Nat} {i : Int} {na : Nat} {p : Int} (ht : t < 24) (e : fX12_hasIndex (t : Int) i M = some (1, mSet M 36 0)) (h13 : M.1 13 = (na : Int)) (hna : na ≤ 512) (hA : ∀ k, k < na → I32 (M.2 14 k)) (h6 : M.2 6 t = p) (hp : I32 p) :
   fX12_approvedAt (t : Int) i M = (if ¬ w32 (lastA M p na).1 = w32 (-1) then cal (fX12_expand (t : Int) (lastA M p na).1 (mSet (mSet M 36 0) 39 (lastA M p na).2)) fun (r7 : Unit) (M6 : Md) => (if inR 0 (mLen 49) then bnd (fun (t0 : Int) (M : Md) => (some (t0, M) : Option (Int × Md))) fun J => if w32 (M6.2 49 (ix 0)) ≤ w32 i then J (-1) M6 else if inR i (mLen 50) then J (M6.2 50 (ix i)) M6 else none else none) else some (-1, mSet (mSet M 36 0) 39 (lastA M p na).2)) := by
  unfold fX12_approvedAt
  rw [cal_of e, if_pos (by decide), bnd_eq, bnd_eq]
  refine lpn_rule (P := fun mm (L : Int → Int → Md → Option (Int × Md)) => ∀ j, j ≤ na → na - j < mm → L (lastA M p j).1 (j : Int) (mSet (mSet M 36 0) 39 (lastA M p j).2) = _) (fun j _ h => absurd h (Nat.not_lt_zero _)) (fun mm L hLL j hj hm => ?_) FU 0 (Nat.zero_le _) (by unfold FU; omega)
  have m13 : (mSet (mSet M 36 0) 39 (lastA M p j).2).1 13 = (na : Int) := (mS2 (mSet M 36 0) _ (by decide)).trans ((mS2 M _ (by decide)).trans h13)
  rcases Nat.lt_or_ge j na with hlt | hge
  · have q := hLL (j + 1) (by omega) (by omega)
    have a1 := hA j hlt
    rw [lastA] at q
    rw [m13, if_neg (by rw [w32_n (by omega), w32_n (by omega)]; omega), if_pos (inM (n := 2000) rfl (by omega) (by decide)), if_pos (inM (n := 24) rfl ht (by decide)), bnd_eq, ix_n (by omega), ix_n (by omega)]
    have g14 : (mSet (mSet M 36 0) 39 (lastA M p j).2).2 14 j = M.2 14 j := rfl
    have g6 : (mSet (mSet M 36 0) 39 (lastA M p j).2).2 6 t = p := h6
    have g15 : (mSet (mSet M 36 0) 39 (lastA M p j).2).2 15 j = M.2 15 j := rfl
    rw [g14, g6, w32_of a1.1 a1.2, w32_of hp.1 hp.2]
    by_cases c : M.2 14 j = p
    · rw [if_pos c] at q
      rw [if_neg (fun z => z c), if_pos (inM (n := 2000) rfl (by omega) (by decide)), bnd_eq, if_pos (inM (n := 2000) rfl (by omega) (by decide)), bnd_eq, g15, mSet_set]
      exact q
    · rw [if_neg c] at q
      rw [if_pos c]
      exact q
  · have e : j = na := by omega
    subst e
    rw [m13, if_pos (Int.le_refl _)]
theorem call_approvedAt (h : RR b kc M C) (hk : kc ≤ 10000) {x i : Int} (hx : I32 x) (hi : I32 i) : CallE b kc C cd2 (fX11_approvedAt b x i C) (fX12_approvedAt x i M) := by
  have hL := h.1.1
  have bad : fX12_hasIndex x i M = some (0, mSet M 36 1) → (fX11_approvedAt b x i C = some (.inr 2, cBump C)) → CallE b kc C cd2 (fX11_approvedAt b x i C) (fX12_approvedAt x i M) := fun e hX => by
    refine h.exc hX (M' := mSet M 36 1) ?_ (sc36 M 1) (mS1 _ _ _) (by decide)
    unfold fX12_approvedAt
    rw [cal_of e, if_neg (fun z => z (by decide))]
  by_cases c : 0 ≤ x ∧ x < 24
  · obtain ⟨t, rfl⟩ : ∃ t : Nat, x = (t : Int) := ⟨x.toNat, by omega⟩
    have ht : t < 24 := by omega
    obtain ⟨VA, PA, LE, AA, nv, np, na, hH, hK, hc⟩ := h.at_ ht
    obtain ⟨nv1, np1⟩ := hH.nv120
    have h5 : M.1 5 < 2147483648 := by have := h.2.2.2.1.1.2; omega
    rcases hc with ⟨c1, c2⟩ | ⟨p, p1, p2, p3⟩
    · refine bad (X12_hasIndex_out hx hi (Or.inr (Or.inl ⟨t, rfl, ht, c1⟩))) ?_
      unfold fX11_approvedAt
      rw [if_pos hL.o, calx_ofx (X11_pageOf_no hL ht c2)]
    · by_cases ci : 0 ≤ i
      · obtain ⟨j, rfl⟩ : ∃ j : Nat, i = (j : Int) := ⟨i.toNat, by omega⟩
        obtain ⟨f1, f2, f3, f4, f5, f6⟩ := hH.2.2.2.2.2.1 p p1
        obtain ⟨lk, ct, rd, cd, us, hg⟩ := h.sets
        have e := X12_hasIndex_in (M := M) ht (by omega) (by omega) hi ci
        have cY := X12_approvedAt_ (na := na) (p := (p : Int)) ht e hH.2.2.1.1 hH.2.2.1.2.1 (fun k hk => by have := (hH.2.2.1.2.2 k hk).1; exact ⟨by omega, by omega⟩) p2 ⟨by omega, by omega⟩
        rcases lastA_ref (M := M) (AA := AA) (p := (p : Int)) na with ⟨l1, l2⟩ | ⟨k, l0, l1, l2, l3, l4⟩
        · rw [l2, if_neg (fun z => z rfl)] at cY
          refine h.ret (M' := mSet (mSet M 36 0) 39 (-1)) (y := -1) ?_ cY ((sc36 M 0).tr (ScO.set (by decide))) ((mS2 (mSet M 36 0) _ (by decide)).trans (mS1 M 36 0))
          unfold fX11_approvedAt
          rw [if_pos hL.o, calx_of (X11_pageOf_in hL ht p3), if_pos hL.o, calx_of (X11_refuseBelowZero_in hi ci), drf_some, if_pos f2.1, bnd_eq, f4, l1, opt_none]
        · obtain ⟨a1, a2, a3⟩ := hH.2.2.1.2.2 k l0
          obtain ⟨g1, g2, g3, g4, g5⟩ := hH.2.2.2.2.2.2 k l0
          rw [l3] at cY
          have es : seen M nv na (M.2 15 k) t = M.2 16 k := by
            unfold seen
            rw [if_neg (by omega), p2]
            exact l4
          have m39 : (mSet (mSet M 36 0) 39 (M.2 15 k)).1 39 = M.2 15 k := mS1 _ _ _
          have m36 : (mSet (mSet M 36 0) 39 (M.2 15 k)).1 36 = 0 := (mS2 (mSet M 36 0) _ (by decide)).trans (mS1 M 36 0)
          have mo : ∀ j, (j ≤ 35 ∨ j = 71) → (mSet (mSet M 36 0) 39 (M.2 15 k)).1 j = M.1 j := fun j hj => (mS2 (mSet M 36 0) _ (by omega)).trans (mS2 M _ (by omega))
          have m2e : (mSet (mSet M 36 0) 39 (M.2 15 k)).2 = M.2 := rfl
          generalize mSet (mSet M 36 0) 39 (M.2 15 k) = M1 at *
          rw [if_pos (by rw [w32_of (x := M.2 16 k) (by omega) (by omega), show w32 (-1) = -1 from rfl]; omega)] at cY
          obtain ⟨C', M', acc, s', q1, q2, q3, q4, q5, q6, q7, q8, q9, q10, q11, q12⟩ := h.expand hk hH (ct := ct) (fun t ht => by obtain ⟨r, q⟩ := hg t ht; exact q.2.2.2.1.2.1) (fun t ht => by obtain ⟨r, q⟩ := hg t ht; exact q.2.2.2.2.1) (M1 := M1) (up := M.2 15 k) mo (fun k _ => by rw [m2e]) m39 ⟨by omega, by omega⟩ ht (by omega)
          rw [es] at q1 q2
          have hL' := q4.1
          refine ⟨M', C', rowAt acc j, ?_, h.quiet q3 (sX_qt h.1.2.1) (sX_hs hL) q4 q11, q5, Or.inl ⟨?_, (q8.1 36 (by decide)).trans m36⟩⟩
          · rw [cY, cal_of q2]
            exact mrow_at q9 hi.2
          · unfold fX11_approvedAt
            rw [if_pos hL.o, calx_of (X11_pageOf_in hL ht p3), if_pos hL.o, calx_of (X11_refuseBelowZero_in hi ci), drf_some, if_pos f2.1, bnd_eq, f4, l2, opt_some, if_pos hL.o, bnd_eq, hL.r0, if_pos g1, bnd_eq, g3, if_pos g1, drf_some, if_pos hL.oe, g2, cal_of q1, if_pos hL'.o, bnd_eq, hL'.r0, drf_some, if_pos hL'.oe, bnd_eq, hL'.x7, drf_some, if_pos hL'.2.2.1.2.2.2.2.2.2.2.2.2.1, bnd_eq, hL'.x8, drf_some, if_pos q6.1.1, cal_of (crow_at q6 hi.2)]
      · refine bad (X12_hasIndex_out hx hi (Or.inr (Or.inr ⟨t, rfl, ht, by omega, by omega⟩))) ?_
        unfold fX11_approvedAt
        rw [if_pos hL.o, calx_of (X11_pageOf_in hL ht p3), if_pos hL.o, calx_ofx (X11_refuseBelowZero_out hi (by omega))]
  · refine bad (X12_hasIndex_out hx hi (Or.inl c)) ?_
    unfold fX11_approvedAt
    rw [if_pos hL.o, calx_ofx (X11_pageOf_out hL hx c)]
end CAL5
