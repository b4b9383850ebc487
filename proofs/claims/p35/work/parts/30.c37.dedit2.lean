/-! THE LAW'S DEEDS: edit, the deed itself -/
section DE2
variable {b kc N np t v pv : Nat} {E : Rw} {G G1 : Md} {C C1 C' : Cd} {T : Nat → List Nat} {q : Nat → Nat} {z base part : Int}
theorem ed_607n {x : Int} (dr : fW_drafts b part C = some (1, C1)) (ho : isO C1 b 14) (e : fX11_edit b (t : Int) base z C1 = some (.inr 1, C')) (J : Int → Rw → Cd → (Nat → Nat) → Option (Int × S3)) : fW_law_607 b (t : Int) base z part 1 x 0 J E C q = J 1 E C' q := by
  have dx := dox_1 (v := .inr 1) e (show 1 < 3 by decide) ho
  rw [show dxv (Sum.inr 1) = -13 from rfl] at dx
  unfold fW_law_607 fW_law_650 fW_law_657 fW_law_658
  rw [cal1_of dr, bnd_eq, bnd_eq, if_neg (by decide), cal1_of dx, bnd_eq, if_pos (by decide), if_pos (by decide)]; (try dsimp only); rw [if_neg (fun z => z rfl)]; (try dsimp only); rw [if_pos (by decide)]
theorem ed_607z {x : Int} (dr : fW_drafts b part C = some (1, C1)) (ho : isO C1 b 14) (e : fX11_edit b (t : Int) base z C1 = some (.inr 2, C')) (J : Int → Rw → Cd → (Nat → Nat) → Option (Int × S3)) : fW_law_607 b (t : Int) base z part 0 x 0 J E C q = J 1 E C' q := by
  have dx := dox_1 (v := .inr 2) e (show 2 < 3 by decide) ho
  rw [show dxv (Sum.inr 2) = -11 from rfl] at dx
  unfold fW_law_607 fW_law_650 fW_law_657 fW_law_658
  rw [cal1_of dr, bnd_eq, bnd_eq, if_neg (by decide), cal1_of dx, bnd_eq, if_neg (by decide)]; (try dsimp only); rw [if_neg (fun z => z rfl)]; (try dsimp only); rw [if_pos (by decide)]
theorem ed_607y {R : List Nat} {p : Int} (hL : LW N np T E G) (ht : t < 8) (h32 : N < 32) (hp : p = G.2 6 t) (dr : fW_drafts b part C = some (1, C1)) (ho : isO C1 b 14) (e : fX11_edit b (t : Int) base z C1 = some (.inl (N : Int), C')) (J : Int → Rw → Cd → (Nat → Nat) → Option (Int × S3)) : fW_law_607 b (t : Int) base z part 1 (encT R) 1 J E C q = J 1 (avE (wPut E 0 2 (G.1 5 + 1)) N p (G.1 5 + 1) R) C' q := by
  have i0 : inR 0 (wLen 0) := inW 4 wl_0 (by decide) (by decide) (by decide)
  have i2 : inR 2 (wLen 0) := inW 4 wl_0 (by decide) (by decide) (by decide)
  have it : inR (t : Int) (wLen 1) := inWn 8 wl_1 ht (by decide)
  have e00 : E 0 0 = (N : Int) := hL.1.1.1
  have e02 : E 0 2 = G.1 5 := hL.1.1.2.2.2.2.2.2
  have e1t : E 1 t - 1 = p := by rw [(hL.1.2.1 t ht).1, hp]; omega
  have dx := dox_1 (v := .inl (N : Int)) e trivial ho
  rw [show dxv (Sum.inl (N : Int)) = (N : Int) from rfl] at dx
  have ad : fW_adds p (G.1 5 + 1) (encT R) (wPut E 0 2 (G.1 5 + 1)) = some ((N : Int), avE (wPut E 0 2 (G.1 5 + 1)) N p (G.1 5 + 1) R) := W_adds (by rw [wP2 _ _ (by omega)]; exact e00) h32
  unfold fW_law_607 fW_law_650 fW_law_657 fW_law_658
  rw [cal1_of dr, bnd_eq, bnd_eq, if_neg (by decide), cal1_of dx, bnd_eq, if_pos (by decide), if_neg (by decide), if_pos i0, show ix 0 = 0 from rfl, e00]; (try dsimp only); rw [if_neg (fun z => z rfl)]; (try dsimp only); rw [if_neg (by decide), if_pos i2, if_pos i2, show ix 2 = 2 from rfl, e02, bnd_eq, if_pos it, if_pos i2, ix_n (n := t) (by omega), wP1, wP2 _ _ (show 1 ≠ 0 ∨ t ≠ 2 by omega), e1t, cal1_of ad]
theorem mrg_ok {M V P R : List Nat} {same : Bool} (hM : ∀ m ∈ M, okM m) (hP : ∀ m ∈ P, okM m) (h : mrg M V P same = some R) : ∀ m ∈ R, okM m := by
  unfold mrg at h
  split at h
  · cases h
    exact hM
  · exact mgW_ok hM hP h
theorem edX_ok {M V P R : List Nat} {same : Bool} (hM : ∀ m ∈ M, okM m) (hP : ∀ m ∈ P, okM m) (h : edX M V P same = some R) : ∀ m ∈ R, okM m := by
  unfold edX at h
  split at h
  · cases h
    exact hM
  · exact mgW_ok (fun m hm => hM m (List.mem_of_mem_take hm)) hP h
/-- an edit of a page's version, from the part on -/
theorem D_ed450 {D : List Nat} {j : Nat} (h : RR b kc G C) (hkc : kc ≤ 600) (hL : LW N np T E G) (ht : t < 8) (ok : okT D) (lD : D.length ≤ 5) (h32 : N < 32) (h3 : E 0 3 + 8 < 100000) (hpv : prAt G N t = (pv : Int)) (e : vofF G N t j = (v : Int)) (hj : j < 1000) (hz : -1 ≤ z ∧ z < 2) (J : Int → Rw → Cd → (Nat → Nat) → Option (Int × S3)) : DeedO b kc E C (fW_law_450 b 1 (t : Int) 1 (pv : Int) J (v : Int) z (encT D) E C q) J := by
  obtain ⟨C1, G1, d1, d2, d3, d4, d5⟩ := W_drafts h ok (by omega)
  have hL1 := hL.sc d3
  have ho := d2.1.1.o
  have e1 : vofF G1 N t j = (v : Int) := (vof_sm hL hL1 ht hj).trans e
  have hpv1 : prAt G1 N t = (pv : Int) := (prAt_sm hL hL1 ht).trans hpv
  obtain ⟨hv, hp, eV⟩ := ed_verAt d2 hL1 ht e1
  have pvN : pv < N := by
    rcases prAt_lt (N := N) hL1.1.2.1 ht with y | y <;> omega
  obtain ⟨rv, kv, ov, lv1, lv2⟩ := hL1.rep hv
  obtain ⟨rp, kp, op, lp1, lp2⟩ := hL1.rep pvN
  by_cases c : 1 + (scN (T v) : Int) ≤ z
  · obtain ⟨C2, G2, x1, x2, x3, x4⟩ := R_editNo d2 hkc hL1 ht (y := (v : Int)) (z := z) ⟨by omega, by omega⟩ ⟨by omega, by omega⟩ (Or.inr ⟨v, rfl, hv, eV, c⟩)
    obtain ⟨E2, s1, s2, s3, s4⟩ := x4.rest x2 h3
    refine ⟨E, C2, q, G2, E2, N, np, T, ?_, x2, s1, s2, (((IsR.sz d5).tr (IsR.rml x3)).mono (by omega) (by omega)), s3, by omega⟩
    exact (ed_450n hL hv ⟨c, by omega⟩ J).trans ((ed_475z J).trans (ed_607z d1 ho x1 _))
  · have X := R_editX d2 hkc hL1 ht hp hv eV (z := z) (by omega) d4 ok.1 (by omega) h32 h3
    rw [hpv1, Int.toNat_natCast] at X
    have okm := mnT_ok (z := z) kv ok.1
    have he : fW_law_450 b 1 (t : Int) 1 (pv : Int) J (v : Int) z (encT D) E C q = fW_law_580 b 1 (t : Int) J (v : Int) z (encT D) 1 (encT ((mnT (T v) D z).take 6)) (encO (edX (mnT (T v) D z) (T v) (T pv) (decide ((v : Int) = (pv : Int))))) (canX (edX (mnT (T v) D z) (T v) (T pv) (decide ((v : Int) = (pv : Int)))) (T pv)) E C q := (ed_450y hL hv ⟨by omega, by omega⟩ J).trans ((ed_475 hL hv ok lD (by omega) J).trans ((ed_508 hL hv pvN okm J).trans (ed_542 hL pvN (fun R hR => edX_ok okm kp hR) J)))
    by_cases l5 : (mnT (T v) D z).length ≤ 5
    · have ex : edX (mnT (T v) D z) (T v) (T pv) (decide ((v : Int) = (pv : Int))) = mrg (mnT (T v) D z) (T v) (T pv) (decide ((v : Int) = (pv : Int))) := by
        unfold edX mrg
        rw [take_5 l5]
      rw [ex] at he
      rcases X with ⟨C', G', hn, x1, x2, x3, x4⟩ | ⟨R, g1, g2⟩ | ⟨R, g1, r5, ⟨y1, y2⟩, C', G', E2, x1, x2, x3, x4, x5, x6, x7⟩
      · obtain ⟨E2, s1, s2, s3, s4⟩ := x4.rest x2 h3
        refine ⟨E, C', q, G', E2, N, np, T, ?_, x2, s1, s2, (((IsR.sz d5).tr (IsR.rml x3)).mono (by omega) (by omega)), s3, by omega⟩
        have c0 : canX (mrg (mnT (T v) D z) (T v) (T pv) (decide ((v : Int) = (pv : Int)))) (T pv) = 0 := by
          rcases hn with g1 | ⟨R, g1, r5, g3⟩
          · rw [g1]; rfl
          · rw [g1]
            show (if isTL (R.take 6) = true ∧ R.take 6 ≠ T pv then (1 : Int) else 0) = 0
            rw [take_5 r5, if_neg g3]
        rw [c0] at he
        refine he.trans ((ed_580g okm l5 (fun R hR => ⟨mrg_ok okm kp hR, ?_⟩) J).trans (ed_607n d1 ho x1 _))
        rcases hn with g1 | ⟨R2, g1, r5, g3⟩
        · rw [g1] at hR; cases hR
        · rw [g1] at hR; cases hR; exact r5
      · obtain ⟨E2, s1, s2, s3, s4⟩ := hL.rest h h3
        refine ⟨E, C, q, G, E2, N, np, T, ?_, h.rb (h.2.2.2.1.up ScO.rf), s1, s2, ((IsR.sz (Sz.rf C)).mono (by omega) (by omega)), s3, by omega⟩
        have okR := mrg_ok okm kp g1
        rw [g1] at he
        exact he.trans (ed_580s okm l5 okR g2 J)
      · have okR := mrg_ok okm kp g1
        refine ⟨avE (wPut E 0 2 (G1.1 5 + 1)) N (G1.2 6 t) (G1.1 5 + 1) R, C', q, G', E2, N + 1, np, _, ?_, x2, x4, x5, (((IsR.sz d5).tr (IsR.rml x3)).mono (by omega) (by omega)), x6, by omega⟩
        have c1 : canX (some R) (T pv) = 1 := by
          show (if isTL (R.take 6) = true ∧ R.take 6 ≠ T pv then (1 : Int) else 0) = 1
          rw [take_5 r5, if_pos ⟨y1, y2⟩]
        rw [g1, c1] at he
        have e2 := ed_580g (b := b) (t := t) (z := z) (E := E) (C := C) (q := q) (X := some R) (part := encT D) (base := (v : Int)) (f := 1) okm l5 (fun R2 hR => by cases hR; exact ⟨okR, r5⟩) J
        rw [show encO (some R) = encT (R.take 6) from rfl, take_5 r5] at he e2
        exact he.trans (e2.trans (ed_607y hL1 ht h32 rfl d1 ho x1 _))
    · obtain ⟨E2, s1, s2, s3, s4⟩ := hL.rest h h3
      exact ⟨E, C, q, G, E2, N, np, T, he.trans (ed_580m okm (by omega) J), h.rb (h.2.2.2.1.up ScO.rf), s1, s2, ((IsR.sz (Sz.rf C)).mono (by omega) (by omega)), s3, by omega⟩
theorem D_ed450N {D : List Nat} {r9 : Int} (h : RR b kc G C) (hkc : kc ≤ 600) (hL : LW N np T E G) (ht : t < 8) (ok : okT D) (lD : D.length ≤ 5) (h3 : E 0 3 + 8 < 100000) (hp : G.2 6 t = -1) (hz : -1 ≤ z ∧ z < 2) (J : Int → Rw → Cd → (Nat → Nat) → Option (Int × S3)) : DeedO b kc E C (fW_law_450 b 1 (t : Int) 0 r9 J 0 z (encT D) E C q) J := by
  obtain ⟨C1, G1, d1, d2, d3, d4, d5⟩ := W_drafts h ok (by omega)
  have hL1 := hL.sc d3
  have ho := d2.1.1.o
  have six := d3.2 6 (by decide) (by decide)
  obtain ⟨C2, G2, x1, x2, x3, x4⟩ := R_editNo d2 hkc hL1 ht (y := 0) (z := z) ⟨by omega, by omega⟩ ⟨by omega, by omega⟩ (Or.inl (isVer0 hL1 ht (by rw [six]; exact hp)))
  obtain ⟨E2, s1, s2, s3, s4⟩ := x4.rest x2 h3
  refine ⟨E, C2, q, G2, E2, N, np, T, ?_, x2, s1, s2, (((IsR.sz d5).tr (IsR.rml x3)).mono (by omega) (by omega)), s3, by omega⟩
  have e0 : fW_law_450 b 1 (t : Int) 0 r9 J 0 z (encT D) E C q = fW_law_475 b 1 (t : Int) r9 J 0 z (encT D) 0 E C q := by
    unfold fW_law_450 fW_law_474
    rw [bnd_eq, bnd_eq, if_pos (by decide)]
  exact e0.trans ((ed_475z J).trans (ed_607z d1 ho x1 _))
theorem D_420 {x17 : Nat} {Tn : List Nat} {t03 r9 : Int} (hx : x17 < 2147483648) (ok : okT Tn) (hl : Tn.length ≤ 5) (J : Int → Rw → Cd → (Nat → Nat) → Option (Int × S3)) (hD : ∀ (D : List Nat) (z : Int), okT D → D.length ≤ 5 → (-1 ≤ z ∧ z < 2) → DeedO b kc E C (fW_law_450 b 1 (t : Int) t03 r9 J base z (encT D) E C q) J) : DeedO b kc E C (fW_law_420 b 1 (x17 : Int) (t : Int) t03 r9 (encT Tn) J base E C q) J := by
  have ed : remI (divI (x17 : Int) 5) 3 = ((x17 / 5 % 3 : Nat) : Int) := by
    rw [show (5 : Int) = ((5 : Nat) : Int) from rfl, divI_N (by omega) (by decide) (by decide), show (3 : Int) = ((3 : Nat) : Int) from rfl, remI_N (by omega) (by omega) (by omega)]
  have l3 : x17 / 5 % 3 < 3 := Nat.mod_lt _ (by decide)
  generalize x17 / 5 % 3 = s at *
  have A := hD Tn ((s : Int) - 1) ok hl ⟨by omega, by omega⟩
  have B := hD [] ((s : Int) - 1) ⟨fun m hm => (by cases hm), fun z => absurd z (by decide)⟩ (by decide) ⟨by omega, by omega⟩
  rw [show encT [] = 1 from rfl] at B
  unfold fW_law_420 fW_law_444
  rw [ed, bnd_eq, bnd_eq, bnd_eq]
  by_cases c : w32 ((s : Int) - 1) < 0
  · rw [if_pos c]
    exact A
  · rw [if_neg c]
    by_cases d : w32 (remI (x17 : Int) 4) ≤ 0
    · rw [if_pos d]
      exact B
    · rw [if_neg d]
      exact A
theorem D_edit {k x17 : Nat} {Tn : List Nat} {t03 x23 : Int} (h : RR b kc G C) (hkc : kc ≤ 600) (hL : LW N np T E G) (ht : t < 8) (ok : okT Tn) (hl : Tn.length ≤ 5) (h32 : N < 32) (h3 : E 0 3 + 8 < 100000) (hx : x17 < 2147483648) (hk : k < 10) (hn : (G.2 6 t = -1 ∧ t03 = 0) ∨ (G.2 6 t ≠ -1 ∧ t03 = 1)) (J : Int → Rw → Cd → (Nat → Nat) → Option (Int × S3)) : DeedO b kc E C (fW_law_352 b 1 (k : Int) (x17 : Int) (t : Int) t03 (prAt G N t) (encT Tn) x23 J E C q) J := by
  have i0 : inR 0 (wLen 0) := inW 4 wl_0 (by decide) (by decide) (by decide)
  have e00 : E 0 0 = (N : Int) := hL.1.1.1
  have c32 : ¬ w32 32 ≤ w32 (N : Int) := by rw [w32_n (by omega), show w32 32 = 32 from rfl]; omega
  have c10 : ¬ w32 10 ≤ w32 (k : Int) := by rw [w32_n (by omega), show w32 10 = 10 from rfl]; omega
  unfold fW_law_352
  rw [bnd_eq, if_neg c10, if_pos i0, show ix 0 = 0 from rfl, e00, if_neg c32, bnd_eq]
  rcases hn with ⟨z1, z2⟩ | ⟨z1, z2⟩
  · rw [z2, if_pos (by decide)]
    show DeedO b kc E C (fW_law_406 b 1 (x17 : Int) (t : Int) 0 (prAt G N t) (encT Tn) J 0 E C q) J
    unfold fW_law_406
    rw [bnd_eq, if_pos (by decide)]
    exact D_420 hx ok hl J (fun D z okD lD hz => D_ed450N h hkc hL ht okD lD h3 z1 hz J)
  · rw [z2, if_neg (by decide), bnd_eq]
    have pr := h.prN hL.2.2.2.2.2.1 (show t < 24 by omega) z1
    have prg := (prAt_lt (N := N) hL.1.2.1 ht).resolve_left pr
    obtain ⟨pv, hpv⟩ : ∃ pv : Nat, prAt G N t = (pv : Int) := ⟨(prAt G N t).toNat, by omega⟩
    -- a base at a place
    have AT : ∀ j : Nat, j < 1000 → DeedO b kc E C (fW_law_399 (t : Int) (fun t0_406 E C q => fW_law_406 b 1 (x17 : Int) (t : Int) 1 (prAt G N t) (encT Tn) J t0_406 E C q) (j : Int) E C q) J := by
      intro j hj
      have vo := W_versionOf hL.1.1 hL.1.2.1 ht (place := j) hj
      unfold fW_law_399
      rw [cal1_of vo]
      show DeedO b kc E C (fW_law_406 b 1 (x17 : Int) (t : Int) 1 (prAt G N t) (encT Tn) J (vofF G N t j) E C q) J
      unfold fW_law_406
      rw [bnd_eq]
      by_cases c : j < nVers G N t
      · have ev : vofF G N t j = (vsl G (G.2 6 t) N j : Int) := by rw [vofF_at, if_pos c]
        obtain ⟨v1, v2, v3, v4⟩ := isVer h hL ht z1 c
        rw [ev, if_pos (by rw [w32_n (by omega)]; omega), hpv]
        exact D_420 hx ok hl J (fun D z okD lD hz => D_ed450 h hkc hL ht okD lD h32 h3 hpv ev hj hz J)
      · have ev : vofF G N t j = -1 := by rw [vofF_at, if_neg c]
        obtain ⟨j2, hj2, e2⟩ := pres_vof h hL ht z1
        rw [ev, if_neg (by decide), hpv]
        exact D_420 hx ok hl J (fun D z okD lD hz => D_ed450 h hkc hL ht okD lD h32 h3 hpv (e2.trans hpv) hj2 hz J)
    have ed : remI (divI (x17 : Int) 27) 4 = ((x17 / 27 % 4 : Nat) : Int) := by
      rw [show (27 : Int) = ((27 : Nat) : Int) from rfl, divI_N (by omega) (by decide) (by decide), show (4 : Int) = ((4 : Nat) : Int) from rfl, remI_N (by omega) (by omega) (by omega)]
    have l4 : x17 / 27 % 4 < 4 := Nat.mod_lt _ (by decide)
    by_cases c : w32 (remI (divI (x17 : Int) 9) 3) ≤ 0
    · rw [if_pos c, ed]
      exact AT _ (by omega)
    · rw [if_neg c]
      exact AT 0 (by decide)
end DE2
