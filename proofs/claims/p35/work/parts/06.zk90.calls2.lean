/-! CALLS THAT ONLY ASK: versions, versionAt, tokenAt, shown -/
section CAL2
variable {b kc : Nat} {M M' : Md} {C C' : Cd}
theorem RR.ret (h : RR b kc M C) {code : Nat → Int} {X : Option ((Int ⊕ Nat) × Cd)} {Y : Option (Int × Md)} {y : Int} (hX : X = some (.inl y, C)) (hY : Y = some (y, M')) (o : ScO M M') (h36 : M'.1 36 = 0) : CallE b kc C code X Y :=
  ⟨M', C, y, hY, h.nil (Fp.rf h.1.1.W) o, RmL.of h.1.1.sz (Fp.rf h.1.1.W) (S := fun _ _ _ => False) (fun _ _ z => z) (Nat.le_add_right _ _) (Nat.le_add_right _ _), Or.inl ⟨hX, h36⟩⟩
theorem sc36 (M : Md) (x : Int) : ScO M (mSet M 36 x) := ScO.set (by decide)
/-- what a title has -/
theorem RR.at_ (h : RR b kc M C) {t : Nat} (ht : t < 24) : ∃ VA PA LE AA nv np na, RH b M C VA PA LE AA nv np na ∧ RK M nv ∧ ((M.2 6 t = -1 ∧ cR C 1203 (b + 13 + 6 * t) = none) ∨ ∃ p, p < np ∧ M.2 6 t = (p : Int) ∧ cR C 1203 (b + 13 + 6 * t) = some (PA p)) := by
  obtain ⟨h1, h2, h3, h4, h6, h7, ⟨VA, PA, LE, AA, nv, np, na, h8, h9⟩, h10⟩ := h
  exact ⟨VA, PA, LE, AA, nv, np, na, h8, h9, h8.2.2.2.1.1 t ht⟩
theorem RH.nv120 {VA PA LE AA : Nat → Nat} {nv np na : Nat} (h : RH b M C VA PA LE AA nv np na) : nv ≤ 120 ∧ np ≤ nv := ⟨h.1.1.2.1, h.2.1.2.1⟩
theorem X12_hasPage_ {t : Nat} (ht : t < 24) (hp : -1 ≤ M.2 6 t ∧ M.2 6 t < 200) : BR (fX12_hasPage (t : Int) M) M (M.2 6 t ≠ -1) := by
  unfold fX12_hasPage
  rcases X12_isTitle_ (x := (t : Int)) M ⟨by omega, by omega⟩ with ⟨e, p⟩ | ⟨e, p⟩
  · rw [cal_of e, bnd_eq, bnd_eq, if_neg (by decide), if_pos (inM (n := 24) rfl ht (by decide)), ix_n (by omega), w32_of (x := M.2 6 t) (by omega) (by omega), show w32 (-1) = -1 from rfl]
    by_cases c : M.2 6 t = -1
    · rw [if_pos c]; exact Or.inr ⟨rfl, fun z => z c⟩
    · rw [if_neg c]; exact Or.inl ⟨rfl, c⟩
  · exact absurd ⟨by omega, by omega⟩ p
theorem X12_hasPage_out {x : Int} (hx : I32 x) (ho : ¬ (0 ≤ x ∧ x < 24)) : fX12_hasPage x M = some (0, M) := by
  unfold fX12_hasPage
  rcases X12_isTitle_ (x := x) M hx with ⟨e, p⟩ | ⟨e, p⟩
  · exact absurd ⟨p.1, by omega⟩ ho
  · rw [cal_of e, bnd_eq, bnd_eq, if_pos (by decide)]
    rfl
theorem X12_asksFor_ {x : Int} (hx : I32 x) : ((0 ≤ x ∧ x < 24) ∧ fX12_asksFor x M = some (1, mSet M 36 0)) ∨ (¬ (0 ≤ x ∧ x < 24) ∧ fX12_asksFor x M = some (0, mSet M 36 1)) := by
  unfold fX12_asksFor
  rcases X12_isTitle_ (x := x) M hx with ⟨e, p⟩ | ⟨e, p⟩
  · rw [cal_of e, bnd_eq, if_neg (by decide)]
    dsimp only
    rw [bnd_eq, bnd_eq, mS1, if_neg (fun z => z (by decide))]
    exact Or.inl ⟨by omega, rfl⟩
  · rw [cal_of e, bnd_eq, if_pos (by decide)]
    dsimp only
    rw [bnd_eq, bnd_eq, mS1, if_pos (by decide)]
    exact Or.inr ⟨by omega, rfl⟩
theorem X12_hasIndex_in {t : Nat} {i : Int} (ht : t < 24) (hp : -1 ≤ M.2 6 t ∧ M.2 6 t < 200) (hne : M.2 6 t ≠ -1) (hi : I32 i) (h0 : 0 ≤ i) : fX12_hasIndex (t : Int) i M = some (1, mSet M 36 0) := by
  unfold fX12_hasIndex
  rcases X12_hasPage_ (M := M) ht hp with ⟨e, p⟩ | ⟨e, p⟩
  · rw [cal_of e, bnd_eq, bnd_eq, if_neg (by decide), if_neg (by rw [w32_of hi.1 hi.2]; omega)]
    dsimp only
    rw [bnd_eq, bnd_eq, mS1, if_neg (fun z => z (by decide))]
    rfl
  · exact absurd hne p
theorem X12_hasIndex_out {x i : Int} (hx : I32 x) (hi : I32 i) (ho : ¬ (0 ≤ x ∧ x < 24) ∨ (∃ t : Nat, x = (t : Int) ∧ t < 24 ∧ M.2 6 t = -1) ∨ (∃ t : Nat, x = (t : Int) ∧ t < 24 ∧ (-1 ≤ M.2 6 t ∧ M.2 6 t < 200) ∧ i < 0)) : fX12_hasIndex x i M = some (0, mSet M 36 1) := by
  have fin : ∀ r : Int, fX12_hasPage x M = some (r, M) → (r = 0 ∨ (r = 1 ∧ i < 0)) → fX12_hasIndex x i M = some (0, mSet M 36 1) := by
    intro r e hr
    unfold fX12_hasIndex
    rw [cal_of e, bnd_eq, bnd_eq]
    rcases hr with hr | ⟨hr, hi0⟩
    · rw [hr, if_pos (by decide)]
      dsimp only
      rw [bnd_eq, bnd_eq, mS1, if_pos (by decide)]
      rfl
    · rw [hr, if_neg (by decide), if_pos (by rw [w32_of hi.1 hi.2]; omega)]
      dsimp only
      rw [bnd_eq, bnd_eq, mS1, if_pos (by decide)]
      rfl
  rcases ho with ho | ⟨t, e, ht, hp⟩ | ⟨t, e, ht, hp, h0⟩
  · exact fin 0 (X12_hasPage_out hx ho) (Or.inl rfl)
  · subst e
    rcases X12_hasPage_ (M := M) ht (by omega) with ⟨e, p⟩ | ⟨e, p⟩
    · exact absurd hp p
    · exact fin 0 e (Or.inl rfl)
  · subst e
    rcases X12_hasPage_ (M := M) ht hp with ⟨e, p⟩ | ⟨e, p⟩
    · exact fin 1 e (Or.inr ⟨rfl, h0⟩)
    · exact fin 0 e (Or.inl rfl)
theorem call_versions (h : RR b kc M C) {x : Int} (hx : I32 x) : CallE b kc C cd2 (fX11_versions b x C) (fX12_versions x M) := by
  have hL := h.1.1
  rcases X12_asksFor_ (M := M) hx with ⟨c, e⟩ | ⟨c, e⟩
  · obtain ⟨t, rfl⟩ : ∃ t : Nat, x = (t : Int) := ⟨x.toNat, by omega⟩
    have ht : t < 24 := by omega
    obtain ⟨VA, PA, LE, AA, nv, np, na, hH, hK, hc⟩ := h.at_ ht
    obtain ⟨nv1, np1⟩ := hH.nv120
    rcases hc with ⟨c1, c2⟩ | ⟨p, p1, p2, p3⟩
    · have hX : fX11_versions b (t : Int) C = some (.inl 0, C) := by
        unfold fX11_versions
        rw [if_pos hL.o, calx_of (X11_titleOf_in hL ht), drf_some, if_pos (hL.to ht), bnd_eq, bnd_eq, c2, opt_none]
      have hY : fX12_versions (t : Int) M = some (0, mSet M 36 0) := by
        unfold fX12_versions
        rw [cal_of e, bnd_eq, bnd_eq, if_neg (by decide), if_pos (inM (n := 24) rfl ht (by decide)), ix_n (by omega), show (mSet M 36 0).2 6 t = -1 from c1, if_pos rfl]
      exact h.ret hX hY (sc36 M 0) (mS1 _ _ _)
    · obtain ⟨f1, f2, f3, f4, f5, f6⟩ := hH.2.2.2.2.2.1 p p1
      have hX : fX11_versions b (t : Int) C = some (.inl (cnt (onp M (p : Int)) nv : Int), C) := by
        unfold fX11_versions
        rw [if_pos hL.o, calx_of (X11_titleOf_in hL ht), drf_some, if_pos (hL.to ht), bnd_eq, bnd_eq, p3, opt_some, if_pos f2.1, bnd_eq, f2.2.1, drf_some, if_pos f2.2.2.1, cal_of (AL_size_ f2.2.2)]
      have hVI : VI (mSet M 36 0) nv := hH.1.1
      have hY : fX12_versions (t : Int) M = some ((cnt (onp M (p : Int)) nv : Int), mSet M 36 0) := by
        have q := X12_versionsOf_ hVI (p := (p : Int)) ⟨by omega, by omega⟩
        unfold fX12_versions
        rw [cal_of e, bnd_eq, bnd_eq, if_neg (by decide), if_pos (inM (n := 24) rfl ht (by decide)), ix_n (by omega), show (mSet M 36 0).2 6 t = (p : Int) from p2, if_neg (by rw [w32_n (by omega), show w32 (-1) = -1 from rfl]; omega), if_pos (inM (n := 24) rfl ht (by decide)), cal_of q]
        rfl
      exact h.ret hX hY (sc36 M 0) (mS1 _ _ _)
  · have hX : fX11_versions b x C = some (.inr 2, cBump C) := by
      unfold fX11_versions
      rw [if_pos hL.o, calx_ofx (X11_titleOf_out hL hx c)]
    have hY : fX12_versions x M = some (0, mSet M 36 1) := by
      unfold fX12_versions
      rw [cal_of e, bnd_eq, bnd_eq, if_pos (by decide)]
    exact h.exc hX hY (sc36 M 1) (mS1 _ _ _) (by decide)
theorem call_versionAt (h : RR b kc M C) {x i : Int} (hx : I32 x) (hi : I32 i) : CallE b kc C cd2 (fX11_versionAt b x i C) (fX12_versionAt x i M) := by
  have hL := h.1.1
  by_cases c : 0 ≤ x ∧ x < 24
  · obtain ⟨t, rfl⟩ : ∃ t : Nat, x = (t : Int) := ⟨x.toNat, by omega⟩
    have ht : t < 24 := by omega
    obtain ⟨VA, PA, LE, AA, nv, np, na, hH, hK, hc⟩ := h.at_ ht
    obtain ⟨nv1, np1⟩ := hH.nv120
    rcases hc with ⟨c1, c2⟩ | ⟨p, p1, p2, p3⟩
    · have hX : fX11_versionAt b (t : Int) i C = some (.inr 2, cBump C) := by
        unfold fX11_versionAt
        rw [if_pos hL.o, calx_of (X11_titleOf_in hL ht), drf_some, if_pos (hL.to ht), bnd_eq, bnd_eq, c2, opt_none]
        dsimp only
        rw [opt_none]
      have hY : fX12_versionAt (t : Int) i M = some (0, mSet M 36 1) := by
        unfold fX12_versionAt
        rcases X12_hasPage_ (M := M) ht (by omega) with ⟨e, q⟩ | ⟨e, q⟩
        · exact absurd c1 q
        · rw [cal_of e, bnd_eq, bnd_eq, if_pos (by decide)]
          dsimp only
          rw [bnd_eq, if_neg (fun z => z rfl)]
          dsimp only
          rw [bnd_eq, bnd_eq, mS1, if_pos (by decide)]
      exact h.exc hX hY (sc36 M 1) (mS1 _ _ _) (by decide)
    · obtain ⟨f1, f2, f3, f4, f5, f6⟩ := hH.2.2.2.2.2.1 p p1
      have hn := cnt_le (onp M (p : Int)) nv
      have hv := vin_ord M (p : Int) nv i
      rcases X12_hasPage_ (M := M) ht (by omega) with ⟨e, q⟩ | ⟨e, q⟩
      · by_cases ci : 0 ≤ i ∧ i < (cnt (onp M (p : Int)) nv : Int)
        · obtain ⟨j, rfl⟩ : ∃ j : Nat, i = (j : Int) := ⟨i.toNat, by omega⟩
          rw [if_pos ci, Int.toNat_natCast] at hv
          have ho := (ord_all M (p : Int) nv).1 j (by omega)
          obtain ⟨v1, v2⟩ := hH.2.2.2.2.1 (vsl M (p : Int) nv j) ho.1
          have hX : fX11_versionAt b (t : Int) (j : Int) C = some (.inl (vsl M (p : Int) nv j : Int), C) := by
            unfold fX11_versionAt
            rw [if_pos hL.o, calx_of (X11_titleOf_in hL ht), drf_some, if_pos (hL.to ht), bnd_eq, bnd_eq, p3, opt_some, if_pos f2.1, cal_of (X3_versionAtIndex_in f2 (i := j) (by omega) v1.1)]
            dsimp only
            rw [opt_some, if_pos v1.1, v1.2.1]
          have hY : fX12_versionAt (t : Int) (j : Int) M = some ((vsl M (p : Int) nv j : Int), mSet M 36 0) := by
            have q2 := X12_versionIn_ hH.1.1 (p := (p : Int)) (x := (j : Int)) ⟨by omega, by omega⟩ ⟨by omega, by omega⟩
            rw [hv] at q2
            unfold fX12_versionAt
            rw [cal_of e, bnd_eq, bnd_eq, if_neg (by decide), if_neg (by rw [w32_n (by omega)]; omega), if_pos (inM (n := 24) rfl ht (by decide)), ix_n (by omega), p2, cal_of q2]
            dsimp only
            rw [bnd_eq, if_pos (by rw [w32_n (by omega), show w32 (-1) = -1 from rfl]; omega)]
            dsimp only
            rw [bnd_eq, bnd_eq, mS1, if_neg (fun z => z (by decide))]
          exact h.ret hX hY (sc36 M 0) (mS1 _ _ _)
        · rw [if_neg ci] at hv
          have hX : fX11_versionAt b (t : Int) i C = some (.inr 2, cBump C) := by
            unfold fX11_versionAt
            rw [if_pos hL.o, calx_of (X11_titleOf_in hL ht), drf_some, if_pos (hL.to ht), bnd_eq, bnd_eq, p3, opt_some, if_pos f2.1, cal_of (X3_versionAtIndex_out f2 hi (by omega))]
            dsimp only
            rw [opt_none]
          have hY : fX12_versionAt (t : Int) i M = some (0, mSet M 36 1) := by
            have q2 := X12_versionIn_ hH.1.1 (p := (p : Int)) (x := i) ⟨by omega, by omega⟩ hi
            rw [hv] at q2
            unfold fX12_versionAt
            rw [cal_of e, bnd_eq, bnd_eq, if_neg (by decide)]
            by_cases ci0 : i < 0
            · rw [if_pos (by rw [w32_of hi.1 hi.2]; omega)]
              dsimp only
              rw [bnd_eq, if_neg (fun z => z rfl)]
              dsimp only
              rw [bnd_eq, bnd_eq, mS1, if_pos (by decide)]
            · rw [if_neg (by rw [w32_of hi.1 hi.2]; omega), if_pos (inM (n := 24) rfl ht (by decide)), ix_n (by omega), p2, cal_of q2]
              dsimp only
              rw [bnd_eq, if_neg (fun z => z rfl)]
              dsimp only
              rw [bnd_eq, bnd_eq, mS1, if_pos (by decide)]
          exact h.exc hX hY (sc36 M 1) (mS1 _ _ _) (by decide)
      · exact absurd (by omega) q
  · have hX : fX11_versionAt b x i C = some (.inr 2, cBump C) := by
      unfold fX11_versionAt
      rw [if_pos hL.o, calx_ofx (X11_titleOf_out hL hx c)]
    have hY : fX12_versionAt x i M = some (0, mSet M 36 1) := by
      unfold fX12_versionAt
      rw [cal_of (X12_hasPage_out hx c), bnd_eq, bnd_eq, if_pos (by decide)]
      dsimp only
      rw [bnd_eq, if_neg (fun z => z rfl)]
      dsimp only
      rw [bnd_eq, bnd_eq, mS1, if_pos (by decide)]
    exact h.exc hX hY (sc36 M 1) (mS1 _ _ _) (by decide)
/-- the present version -/
theorem RH.pres {VA PA LE AA : Nat → Nat} {nv np na p : Nat} (h : RH b M C VA PA LE AA nv np na) (hp : p < np) : ∃ v, v < nv ∧ prs M (p : Int) nv = (v : Int) ∧ onp M (p : Int) v = true ∧ cR C 601 (PA p) = some (VA v) := by
  obtain ⟨f1, f2, f3, f4, f5, f6⟩ := h.2.2.2.2.2.1 p hp
  rcases prs_last M (p : Int) nv with ⟨z, _⟩ | ⟨z1, z2⟩
  · omega
  · have ho := (ord_all M (p : Int) nv).1 (cnt (onp M (p : Int)) nv - 1) (by omega)
    refine ⟨_, ho.1, z2, ho.2.1, ?_⟩
    rw [f3, z2, Int.toNat_natCast]
theorem call_tokenAt (h : RR b kc M C) {x i : Int} (hx : I32 x) (hi : I32 i) : CallE b kc C cd2 (fX11_tokenAt b x i C) (fX12_tokenAt x i M) := by
  have hL := h.1.1
  have bad : fX12_hasIndex x i M = some (0, mSet M 36 1) → (fX11_tokenAt b x i C = some (.inr 2, cBump C)) → CallE b kc C cd2 (fX11_tokenAt b x i C) (fX12_tokenAt x i M) := fun e hX => by
    refine h.exc hX (M' := mSet M 36 1) ?_ (sc36 M 1) (mS1 _ _ _) (by decide)
    unfold fX12_tokenAt
    rw [cal_of e, if_neg (fun z => z (by decide))]
  by_cases c : 0 ≤ x ∧ x < 24
  · obtain ⟨t, rfl⟩ : ∃ t : Nat, x = (t : Int) := ⟨x.toNat, by omega⟩
    have ht : t < 24 := by omega
    obtain ⟨VA, PA, LE, AA, nv, np, na, hH, hK, hc⟩ := h.at_ ht
    obtain ⟨nv1, np1⟩ := hH.nv120
    rcases hc with ⟨c1, c2⟩ | ⟨p, p1, p2, p3⟩
    · refine bad (X12_hasIndex_out hx hi (Or.inr (Or.inl ⟨t, rfl, ht, c1⟩))) ?_
      unfold fX11_tokenAt
      rw [if_pos hL.o, calx_ofx (X11_pageOf_no hL ht c2)]
    · by_cases ci : 0 ≤ i
      · obtain ⟨j, rfl⟩ : ∃ j : Nat, i = (j : Int) := ⟨i.toNat, by omega⟩
        obtain ⟨f1, f2, f3, f4, f5, f6⟩ := hH.2.2.2.2.2.1 p p1
        obtain ⟨v, v1, v2, v3, v4⟩ := hH.pres p1
        obtain ⟨w1, w2⟩ := hH.2.2.2.2.1 v v1
        have hT := w1.2.2.2.2.1
        have htl := tl_eq hH.1.1 v1
        have e := X12_hasIndex_in (M := M) ht (by omega) (by omega) hi ci
        have ep := X12_presentAt_ (M := mSet M 36 0) (nv := nv) hH.1.1 ht (by show I32 (M.2 6 t); rw [p2]; exact ⟨by omega, by omega⟩)
        have epv : prAt (mSet M 36 0) nv t = (v : Int) := by
          unfold prAt
          rw [show (mSet M 36 0).2 6 t = (p : Int) from p2, if_neg (by omega), prs_same (sc36 M 0).vs]
          exact v2
        rw [epv] at ep
        have cX : fX11_tokenAt b (t : Int) (j : Int) C = cal (fX8_codeAt (VA v + 1) (j : Int) C) fun (r11 : Int) (C10 : Cd) => some (.inl r11, C10) := by
          unfold fX11_tokenAt
          rw [if_pos hL.o, calx_of (X11_pageOf_in hL ht p3), if_pos hL.o, calx_of (X11_refuseBelowZero_in hi ci), drf_some, if_pos f2.1, bnd_eq, v4, drf_some, if_pos w1.1, bnd_eq, w1.2.2.2.1, drf_some, if_pos hT.isO_]
        have cY : fX12_tokenAt (t : Int) (j : Int) M = if w32 (M.2 10 v) ≤ w32 (j : Int) then some (-1, mSet M 36 0) else if inR ((30 * (v : Int)) + (j : Int)) (mLen 9) then some (M.2 9 (ix ((30 * (v : Int)) + (j : Int))), mSet M 36 0) else none := by
          unfold fX12_tokenAt
          rw [cal_of e, if_pos (by decide), cal_of ep, if_pos (inM (n := 120) rfl (by omega) (by decide)), bnd_eq, ix_n (by omega)]
          rfl
        have tl30 := (hH.1.1.2.2.2.2 v v1).2
        rw [htl] at cY
        have tlb : tl M v ≤ 30 := by omega
        by_cases cj : j < tl M v
        · refine h.ret (M' := mSet M 36 0) (y := tx M v j) ?_ ?_ (sc36 M 0) (mS1 _ _ _)
          · rw [cX, cal_of (hT.code cj)]
          · rw [cY, if_neg (by rw [w32_n (by omega), w32_n (by omega)]; omega), show (30 * (v : Int)) + (j : Int) = ((30 * v + j : Nat) : Int) by omega, if_pos (inM (n := 3600) rfl (by omega) (by decide)), ix_n (by omega)]
            rfl
        · refine h.ret (M' := mSet M 36 0) (y := -1) ?_ ?_ (sc36 M 0) (mS1 _ _ _)
          · rw [cX, cal_of (X8_codeAt_out hT.1 (by omega) (by omega) hi.2)]
          · rw [cY, if_pos (by rw [w32_n (by omega), w32_of hi.1 hi.2]; omega)]
      · refine bad (X12_hasIndex_out hx hi (Or.inr (Or.inr ⟨t, rfl, ht, by omega, by omega⟩))) ?_
        unfold fX11_tokenAt
        rw [if_pos hL.o, calx_of (X11_pageOf_in hL ht p3), if_pos hL.o, calx_ofx (X11_refuseBelowZero_out hi (by omega))]
  · refine bad (X12_hasIndex_out hx hi (Or.inl c)) ?_
    unfold fX11_tokenAt
    rw [if_pos hL.o, calx_ofx (X11_pageOf_out hL hx c)]
theorem call_shown (h : RR b kc M C) {x i : Int} (hx : I32 x) (hi : I32 i) : CallE b kc C cd2 (fX11_shown b x i C) (fX12_shown x i M) := by
  have hL := h.1.1
  have bad : fX12_hasIndex x i M = some (0, mSet M 36 1) → (fX11_shown b x i C = some (.inr 2, cBump C)) → CallE b kc C cd2 (fX11_shown b x i C) (fX12_shown x i M) := fun e hX => by
    refine h.exc hX (M' := mSet M 36 1) ?_ (sc36 M 1) (mS1 _ _ _) (by decide)
    unfold fX12_shown
    rw [cal_of e, bnd_eq, if_neg (fun z => z (by decide))]
  by_cases c : 0 ≤ x ∧ x < 24
  · obtain ⟨t, rfl⟩ : ∃ t : Nat, x = (t : Int) := ⟨x.toNat, by omega⟩
    have ht : t < 24 := by omega
    obtain ⟨VA, PA, LE, AA, nv, np, na, hH, hK, hc⟩ := h.at_ ht
    obtain ⟨nv1, np1⟩ := hH.nv120
    rcases hc with ⟨c1, c2⟩ | ⟨p, p1, p2, p3⟩
    · refine bad (X12_hasIndex_out hx hi (Or.inr (Or.inl ⟨t, rfl, ht, c1⟩))) ?_
      unfold fX11_shown
      rw [if_pos hL.o, calx_ofx (X11_pageOf_no hL ht c2)]
    · by_cases ci : 0 ≤ i
      · obtain ⟨j, rfl⟩ : ∃ j : Nat, i = (j : Int) := ⟨i.toNat, by omega⟩
        obtain ⟨r, lk, ct, rd, cd, us, hg⟩ := h.2.2.2.2.2.2.2 t ht
        obtain ⟨g1, g2, g3, g4, g5, g6, g7⟩ := hg
        have e := X12_hasIndex_in (M := M) ht (by omega) (by omega) hi ci
        have r150 := g3.2.2.2.1.1
        have cX : fX11_shown b (t : Int) (j : Int) C = cal (fX5_at (b + 13 + 6 * t + 2) (j : Int) C) fun (r14 : Int) (C13 : Cd) => some (.inl r14, C13) := by
          unfold fX11_shown
          rw [if_pos hL.o, calx_of (X11_pageOf_in hL ht p3), if_pos hL.o, calx_of (X11_refuseBelowZero_in hi ci), if_pos hL.o, bnd_eq, hL.r1, drf_some, if_pos ⟨hL.ot, by rw [hL.nt]; exact inR_n ht (by decide)⟩, bnd_eq, hL.tt ht, drf_some, if_pos (hL.to ht), bnd_eq, hL.tr ht, drf_some, if_pos (hL.ro ht), bnd_eq, hL.rr ht, drf_some, if_pos g3.ob]
        have cY : fX12_shown (t : Int) (j : Int) M = if w32 (M.2 27 t) = 0 then some (-1, mSet M 36 0) else if inR (t : Int) (mLen 30) then if w32 (M.2 30 t) ≤ w32 (j : Int) then some (-1, mSet M 36 0) else if inR ((150 * (t : Int)) + (j : Int)) (mLen 29) then some (M.2 29 (ix ((150 * (t : Int)) + (j : Int))), mSet M 36 0) else none else none := by
          unfold fX12_shown
          rw [cal_of e, bnd_eq, if_pos (by decide), if_pos (inM (n := 24) rfl ht (by decide)), bnd_eq, ix_n (by omega)]
          rfl
        rcases g1.2 with m | m
        · have hr := (g7 m).1
          refine h.ret (M' := mSet M 36 0) (y := -1) ?_ ?_ (sc36 M 0) (mS1 _ _ _)
          · subst hr
            rw [cX, cal_of (X5_at_out (len := 0) g3.ob g3.2.1 (Or.inr ci) hi.1 hi.2 (by decide) (by decide))]
          · rw [cY, m, if_pos (by decide)]
        · obtain ⟨q1, q2⟩ := (g6 m).1
          rw [m, if_neg (by decide), if_pos (inM (n := 24) rfl ht (by decide)), q1] at cY
          by_cases cj : j < r.length
          · refine h.ret (M' := mSet M 36 0) (y := r.getD j 0) ?_ ?_ (sc36 M 0) (mS1 _ _ _)
            · rw [cX, cal_of (X5_at_ g3 cj)]
            · rw [cY, if_neg (by rw [w32_n (by omega), w32_n (by omega)]; omega), show (150 * (t : Int)) + (j : Int) = ((150 * t + j : Nat) : Int) by omega, if_pos (inM (n := 3600) rfl (by omega) (by decide)), ix_n (by omega), q2 j cj]
          · refine h.ret (M' := mSet M 36 0) (y := -1) ?_ ?_ (sc36 M 0) (mS1 _ _ _)
            · rw [cX, cal_of (X5_at_out (len := (r.length : Int)) g3.ob g3.2.1 (Or.inr (by omega)) hi.1 hi.2 (by omega) (by omega))]
            · rw [cY, if_pos (by rw [w32_n (by omega), w32_of hi.1 hi.2]; omega)]
      · refine bad (X12_hasIndex_out hx hi (Or.inr (Or.inr ⟨t, rfl, ht, by omega, by omega⟩))) ?_
        unfold fX11_shown
        rw [if_pos hL.o, calx_of (X11_pageOf_in hL ht p3), if_pos hL.o, calx_ofx (X11_refuseBelowZero_out hi (by omega))]
  · refine bad (X12_hasIndex_out hx hi (Or.inl c)) ?_
    unfold fX11_shown
    rw [if_pos hL.o, calx_ofx (X11_pageOf_out hL hx c)]
end CAL2
