/-! THE CALL translate -/
section TRA
variable {b kc : Nat} {M M' : Md} {C C' : Cd}
theorem call_translate (h : RR b kc M C) {x y z : Int} (hx : I32 x) (hy : I32 y) (hz3 : I32 z) : CallE b kc C cd2 (fX11_translate b x y z C) (fX12_translate x y z M) := by
  have hL := h.1.1
  have W := hL.W
  have hz := hL.sz
  have wx : w32 x = x := w32_of hx.1 hx.2
  have wy : w32 y = y := w32_of hy.1 hy.2
  have wz : w32 z = z := w32_of hz3.1 hz3.2
  have ti := fun (u : Int) (hu : I32 u) => X12_isTitle_ (x := u) M hu
  have exc1 : fX11_translate b x y z C = some (.inr 2, cBump C) → fX12_translate x y z M = some (0, mSet M 36 1) → CallE b kc C cd2 (fX11_translate b x y z C) (fX12_translate x y z M) := fun a c => h.exc (e := 2) a c (sc36 M 1) (mS1 _ _ _) (by decide)
  have exc2 : fX11_translate b x y z C = some (.inr 0, cBump C) → fX12_translate x y z M = some (0, mSet M 36 2) → CallE b kc C cd2 (fX11_translate b x y z C) (fX12_translate x y z M) := fun a c => h.exc (e := 0) a c (sc36 M 2) (mS1 _ _ _) (by decide)
  rcases ti x hx with ⟨e1, p1⟩ | ⟨e1, p1⟩
  · rcases ti z hz3 with ⟨e3, p3⟩ | ⟨e3, p3⟩
    · obtain ⟨t, rfl⟩ : ∃ t : Nat, x = (t : Int) := ⟨x.toNat, by omega⟩
      obtain ⟨s, rfl⟩ : ∃ s : Nat, z = (s : Int) := ⟨z.toNat, by omega⟩
      have ht : t < 24 := by omega
      have hs : s < 24 := by omega
      obtain ⟨VA, PA, LE, AA, nv, np, na, hH, hK, hc⟩ := h.at_ ht
      obtain ⟨nv1, np1⟩ := hH.nv120
      have t6 := hH.t6 ht
      rcases hc with ⟨c1, c2⟩ | ⟨p, q1, q2, q3⟩
      · refine exc1 ?_ ?_
        · unfold fX11_translate
          rw [if_pos hL.o, calx_of (X11_titleOf_in hL hs), if_pos hL.o, calx_ofx (X11_pageOf_no hL ht c2)]
        · unfold fX12_translate
          rw [cal_of e1, bnd_eq, bnd_eq, if_neg (by decide), cal_of e3, if_neg (by decide), if_pos (inM (n := 24) rfl ht (by decide)), ix_n (by omega), if_neg (fun u => u (by rw [c1]))]
          dsimp only
          rw [bnd_eq, mS1, if_neg (by decide)]
      · have yes : ¬ w32 (M.2 6 t) = w32 (-1) := by rw [q2, w32_n (by omega), show w32 (-1) = -1 from rfl]; omega
        rcases X12_in_ (x := y) (lo := 1) (hi := 2) M hy (by decide) (by decide) with ⟨e2, p2⟩ | ⟨e2, p2⟩
        · by_cases cs : t = s
          · refine exc2 ?_ ?_
            · unfold fX11_translate
              rw [if_pos hL.o, calx_of (X11_titleOf_in hL hs), if_pos hL.o, calx_of (X11_pageOf_in hL ht q3), bnd_eq, if_neg (by rw [wy, show w32 1 = 1 from rfl]; omega), if_neg (by rw [wy, show w32 2 = 2 from rfl]; omega), if_neg (fun u => u (by rw [cs]))]
            · unfold fX12_translate
              rw [cal_of e1, bnd_eq, bnd_eq, if_neg (by decide), cal_of e3, if_neg (by decide), if_pos (inM (n := 24) rfl ht (by decide)), ix_n (by omega), if_pos yes, cal_of e2, bnd_eq, if_neg (by decide), if_neg (fun u => u (by rw [cs]))]
              dsimp only
              rw [bnd_eq, mS1, if_neg (by decide)]
          · obtain ⟨l, rfl⟩ : ∃ l : Nat, y = (l : Int) + 1 := ⟨(y - 1).toNat, by omega⟩
            have hl : l < 2 := by omega
            obtain ⟨v, v1, v2, v3, v4⟩ := hH.pres q1
            obtain ⟨w1, w2⟩ := hH.2.2.2.2.1 v v1
            obtain ⟨f1, f2, f3, f4, f5, f6⟩ := hH.2.2.2.2.2.1 p q1
            have ixl : ix ((l : Int) + 1) = l + 1 := ix_eq (by omega) (by omega)
            have inl : inR ((l : Int) + 1) 3 := by rw [show (l : Int) + 1 = ((l + 1 : Nat) : Int) by omega]; exact inR_n (by omega) (by decide)
            have ne : ¬ w32 (t : Int) = w32 (s : Int) := by rw [wx, wz]; omega
            have hX : fX11_translate b (t : Int) ((l : Int) + 1) (s : Int) C = some (.inl (cE C (b + 13 + 6 * t + 4) (l + 1)), cSetE (cSetE C (b + 13 + 6 * t + 4) (l + 1) (s : Int)) (b + 13 + 6 * t + 5) (l + 1) (v : Int)) := by
              unfold fX11_translate
              rw [if_pos hL.o, calx_of (X11_titleOf_in hL hs), if_pos hL.o, calx_of (X11_pageOf_in hL ht q3), bnd_eq, if_neg (by rw [wy, show w32 1 = 1 from rfl]; omega), if_neg (by rw [wy, show w32 2 = 2 from rfl]; omega), if_pos ne, if_pos hL.o, bnd_eq, hL.r1, drf_some, if_pos ⟨hL.ot, by rw [hL.nt]; exact inR_n ht (by decide)⟩, bnd_eq, hL.tt ht, drf_some, if_pos (hL.to ht), bnd_eq, hL.tl ht, drf_some, if_pos ⟨hL.lo ht, by rw [hL.ln ht]; exact inl⟩, bnd_eq, if_pos (hL.to ht), bnd_eq, drf_some, if_pos ⟨hL.lo ht, by rw [hL.ln ht]; exact inl⟩, bnd_eq, ixl]
              rw [if_pos (show isO (cSetE C (b + 13 + 6 * t + 4) (l + 1) (s : Int)) (b + 13 + 6 * t) 12 from hL.to ht), bnd_eq, show cR (cSetE C (b + 13 + 6 * t + 4) (l + 1) (s : Int)) 1202 (b + 13 + 6 * t) = some (b + 13 + 6 * t + 5) from hL.td ht, drf_some, if_pos (show isO (cSetE C (b + 13 + 6 * t + 4) (l + 1) (s : Int)) (PA p) 6 from f2.1), bnd_eq, show cR (cSetE C (b + 13 + 6 * t + 4) (l + 1) (s : Int)) 601 (PA p) = some (VA v) from v4, drf_some, if_pos (show isO (cSetE C (b + 13 + 6 * t + 4) (l + 1) (s : Int)) (VA v) 13 from w1.1), drf_some, if_pos ⟨show isO (cSetE C (b + 13 + 6 * t + 4) (l + 1) (s : Int)) (b + 13 + 6 * t + 5) 100 from hL.do_ ht, by rw [show cn (cSetE C (b + 13 + 6 * t + 4) (l + 1) (s : Int)) (b + 13 + 6 * t + 5) = 3 from hL.dn ht]; exact inl⟩, bnd_eq, show cI (cSetE C (b + 13 + 6 * t + 4) (l + 1) (s : Int)) 1300 (VA v) = (v : Int) from w1.2.1]
            have hvs : VSame M (mPut (mSet M 36 0) 17 (24 * l + t) (s : Int)) := ⟨fun j hj => (mS2 M _ (by omega) : (mSet M 36 0).1 j = M.1 j), fun k hk => (mPut_ne (mSet M 36 0) _ _ (by omega) : (mPut (mSet M 36 0) 17 (24 * l + t) (s : Int)).2 k = (mSet M 36 0).2 k)⟩
            have ep := X12_presentAt_ (M := mPut (mSet M 36 0) 17 (24 * l + t) (s : Int)) (nv := nv) (hH.1.1.same hvs) ht (by rw [mPut_ne (mSet M 36 0) _ _ (by decide)]; show I32 (M.2 6 t); rw [q2]; exact ⟨by omega, by omega⟩)
            have epv : prAt (mPut (mSet M 36 0) 17 (24 * l + t) (s : Int)) nv t = (v : Int) := by
              rw [prAt_same hvs]
              unfold prAt
              rw [if_neg (by omega), q2]
              exact v2
            rw [epv] at ep
            have e24 : (24 * ((l : Int) + 1 - 1)) + (t : Int) = ((24 * l + t : Nat) : Int) := by omega
            have hY : fX12_translate (t : Int) ((l : Int) + 1) (s : Int) M = some (M.2 17 (24 * l + t), mPut (mPut (mSet M 36 0) 17 (24 * l + t) (s : Int)) 18 (24 * l + t) (v : Int)) := by
              unfold fX12_translate
              rw [cal_of e1, bnd_eq, bnd_eq, if_neg (by decide), cal_of e3, if_neg (by decide), if_pos (inM (n := 24) rfl ht (by decide)), ix_n (by omega), if_pos yes, cal_of e2, bnd_eq, if_neg (by decide), if_pos ne]
              dsimp only
              rw [bnd_eq, mS1, if_pos (by decide), bnd_eq, e24, if_pos (inM (n := 48) rfl (show 24 * l + t < 48 by omega) (by decide)), bnd_eq, if_pos (inM (n := 48) rfl (show 24 * l + t < 48 by omega) (by decide)), bnd_eq, ix_n (n := 24 * l + t) (by omega), cal_of ep, if_pos (inM (n := 48) rfl (show 24 * l + t < 48 by omega) (by decide)), bnd_eq]
              rfl
            have f : Fp (fun q k a => q = 2 ∧ k = 0 ∧ (a = b + 13 + 6 * t + 4 ∨ a = b + 13 + 6 * t + 5)) C (cSetE (cSetE C (b + 13 + 6 * t + 4) (l + 1) (s : Int)) (b + 13 + 6 * t + 5) (l + 1) (v : Int)) := (Fp.E W _ _ _ ⟨rfl, rfl, Or.inl rfl⟩).sE ⟨rfl, rfl, Or.inr rfl⟩
            have z1 : csz (cSetE (cSetE C (b + 13 + 6 * t + 4) (l + 1) (s : Int)) (b + 13 + 6 * t + 5) (l + 1) (v : Int)) = csz C := rfl
            have z2 : csl (cSetE (cSetE C (b + 13 + 6 * t + 4) (l + 1) (s : Int)) (b + 13 + 6 * t + 5) (l + 1) (v : Int)) = csl C := rfl
            have m1 : ∀ j, ¬ (j = 36) → (mPut (mPut (mSet M 36 0) 17 (24 * l + t) (s : Int)) 18 (24 * l + t) (v : Int)).1 j = M.1 j := fun j a => mS2 M _ a
            have m2 : ∀ k, ¬ (k = 17 ∨ k = 18) → (mPut (mPut (mSet M 36 0) 17 (24 * l + t) (s : Int)) 18 (24 * l + t) (v : Int)).2 k = M.2 k := fun k a => (mPut_ne _ _ _ (by omega)).trans (mPut_ne (mSet M 36 0) _ _ (by omega))
            have r36 : (mPut (mPut (mSet M 36 0) 17 (24 * l + t) (s : Int)) 18 (24 * l + t) (v : Int)).1 36 = 0 := mS1 M 36 0
            have r17 : ∀ i, (mPut (mPut (mSet M 36 0) 17 (24 * l + t) (s : Int)) 18 (24 * l + t) (v : Int)).2 17 i = if i = 24 * l + t then (s : Int) else M.2 17 i := fun i => by
              rw [mPut_ne _ _ _ (by decide)]
              by_cases c : i = 24 * l + t
              · rw [if_pos c, c]; exact p2_1 _ _ _ _
              · rw [if_neg c]; exact p2_2 (k := 17) (k' := 17) (mSet M 36 0) _ (Or.inr c)
            have r18 : ∀ i, (mPut (mPut (mSet M 36 0) 17 (24 * l + t) (s : Int)) 18 (24 * l + t) (v : Int)).2 18 i = if i = 24 * l + t then (v : Int) else M.2 18 i := fun i => by
              by_cases c : i = 24 * l + t
              · rw [if_pos c, c]; exact p2_1 _ _ _ _
              · rw [if_neg c]; exact (p2_2 (k := 18) (k' := 18) _ _ (Or.inr c)).trans (by rw [mPut_ne (mSet M 36 0) _ _ (by decide)]; rfl)
            have kE4 : ∀ u i, u < 24 → cE (cSetE (cSetE C (b + 13 + 6 * t + 4) (l + 1) (s : Int)) (b + 13 + 6 * t + 5) (l + 1) (v : Int)) (b + 13 + 6 * u + 4) i = if u = t ∧ i = l + 1 then (s : Int) else cE C (b + 13 + 6 * u + 4) i := fun u i hu => by
              rw [cE_E2 _ _ (Or.inl (by omega)), cE_E3]
              by_cases c : u = t ∧ i = l + 1
              · rw [if_pos c, if_pos ⟨by omega, c.2⟩]
              · rw [if_neg c, if_neg (fun y => c ⟨by omega, y.2⟩)]
            have kE5 : ∀ u i, u < 24 → cE (cSetE (cSetE C (b + 13 + 6 * t + 4) (l + 1) (s : Int)) (b + 13 + 6 * t + 5) (l + 1) (v : Int)) (b + 13 + 6 * u + 5) i = if u = t ∧ i = l + 1 then (v : Int) else cE C (b + 13 + 6 * u + 5) i := fun u i hu => by
              rw [cE_E3, cE_E2 _ _ (Or.inl (by omega))]
              by_cases c : u = t ∧ i = l + 1
              · rw [if_pos c, if_pos ⟨by omega, c.2⟩]
              · rw [if_neg c, if_neg (fun y => c ⟨by omega, y.2⟩)]
            generalize mPut (mPut (mSet M 36 0) 17 (24 * l + t) (s : Int)) 18 (24 * l + t) (v : Int) = M2 at *
            generalize cSetE (cSetE C (b + 13 + 6 * t + 4) (l + 1) (s : Int)) (b + 13 + 6 * t + 5) (l + 1) (v : Int) = C2 at *
            have kRL : RLy b C2 := h.1.low f (fun q k a _ z => by skip; unfold Mu; omega) (by skip; omega) (by skip; omega) (by skip; omega) (by skip; omega) (fun _ => by skip; omega) (by skip; omega) (by skip; omega) (fun _ => by skip; omega) (by skip; omega) (by skip; omega) (fun _ _ => by skip; omega) (fun _ _ _ => by skip; omega)
            have kRD : ∃ dn g, RD b M2 C2 dn g := by
              obtain ⟨dn, g, hd⟩ := h.2.1
              exact ⟨dn, g, hd.low W f (by skip; omega) (by skip; omega) (by skip; omega) (by skip; omega) (m1 1 (by omega)) (m2 0 (by omega))⟩
            have kRS : RS b M2 C2 := h.2.2.1.low hL f (by skip; omega) (by skip; omega) (by skip; omega) (fun j hj => m1 j (by omega)) (Or.inl (m1 71 (by omega))) (Or.inl (m1 68 (by omega)))
            have kRB : RB (kc + 1) M2 := h.2.2.2.1.up1 (m1 5 (by omega)) (m1 13 (by omega)) (m1 22 (by omega))
            have kRM : ∀ j, j < 4 → RMo b M2 C2 j := fun j hj => (h.2.2.2.2.2.1 j hj).low hL hj f (by skip; omega) (by skip; omega) (by skip; omega) (fun k hk => m2 k (by omega))
            have kVS : VSame M M2 := ⟨fun j hj => m1 j (by omega), fun k hk => m2 k (by omega)⟩
            have kRK : ∀ nv, RK M nv → RK M2 nv := fun nv hk => hk.same kVS (m1 22 (by omega)) (fun k hk => m2 k (by omega))
            have kRG : RGs b M2 C2 := h.2.2.2.2.2.2.2.low hL f (fun _ _ _ _ _ => by skip; omega) (fun _ _ => by skip; omega) (fun _ _ => by skip; omega) (fun _ _ => by skip; omega) (fun _ _ => by skip; omega) (fun k hk => m2 k (by omega))
            have kRT : ∀ u, u < 24 → RTi b M2 C2 u := fun u hu => by
              obtain ⟨b1, b2, b3⟩ := h.2.2.2.2.1 u hu
              unfold RTi
              rw [m2 3 (by omega), m2 4 (by omega), f.fI (by omega) (by omega), f.fI (by omega) (by omega)]
              refine ⟨b1, b2, fun i hi => ?_⟩
              rw [r17, r18, kE4 u _ hu, kE5 u _ hu]
              by_cases c : u = t ∧ i = l
              · rw [if_pos (by omega), if_pos ⟨c.1, by omega⟩, if_pos (by omega), if_pos ⟨c.1, by omega⟩]
                exact ⟨⟨rfl, by omega, by omega⟩, fun _ => ⟨rfl, by omega, by omega⟩⟩
              · rw [if_neg (by omega), if_neg (by omega), if_neg (by omega), if_neg (by omega)]
                exact b3 i hi
            have hr : RR b (kc + 1) M2 C2 := h.part f (fun q k a z => by have := z.2.2; omega) kRL kRD kRS kRB kRT kRM kVS (Int.le_of_eq (m1 5 (by omega)).symm) (by omega) (fun _ _ => by omega) kRK kRG
            refine ⟨M2, C2, _, hY, hr, RmL.of hz f (fun _ _ => by omega) ?_ ?_, Or.inl ⟨?_, r36⟩⟩
            · rw [z1]; exact Nat.le_add_right _ _
            · rw [z2]; exact Nat.le_add_right _ _
            · rw [hX, ((h.2.2.2.2.1 t ht).2.2 l hl).1.1]
        · refine exc2 ?_ ?_
          · unfold fX11_translate
            rw [if_pos hL.o, calx_of (X11_titleOf_in hL hs), if_pos hL.o, calx_of (X11_pageOf_in hL ht q3), bnd_eq]
            by_cases c : y < 1
            · rw [if_pos (by rw [wy, show w32 1 = 1 from rfl]; exact c)]
            · rw [if_neg (by rw [wy, show w32 1 = 1 from rfl]; exact c), if_pos (by rw [wy, show w32 2 = 2 from rfl]; omega)]
          · unfold fX12_translate
            rw [cal_of e1, bnd_eq, bnd_eq, if_neg (by decide), cal_of e3, if_neg (by decide), if_pos (inM (n := 24) rfl ht (by decide)), ix_n (by omega), if_pos yes, cal_of e2, bnd_eq, if_pos (by decide)]
            dsimp only
            rw [bnd_eq, mS1, if_neg (by decide)]
    · refine exc1 ?_ ?_
      · unfold fX11_translate
        rw [if_pos hL.o, calx_ofx (X11_titleOf_out hL hz3 (by omega))]
      · unfold fX12_translate
        rw [cal_of e1, bnd_eq, bnd_eq, if_neg (by decide), cal_of e3, if_pos (by decide)]
        dsimp only
        rw [bnd_eq, mS1, if_neg (by decide)]
  · refine exc1 ?_ ?_
    · unfold fX11_translate
      rcases ti z hz3 with ⟨e3, p3⟩ | ⟨e3, p3⟩
      · obtain ⟨s, rfl⟩ : ∃ s : Nat, z = (s : Int) := ⟨z.toNat, by omega⟩
        rw [if_pos hL.o, calx_of (X11_titleOf_in hL (show s < 24 by omega)), if_pos hL.o, calx_ofx (X11_pageOf_out hL hx (by omega))]
      · rw [if_pos hL.o, calx_ofx (X11_titleOf_out hL hz3 (by omega))]
    · unfold fX12_translate
      rw [cal_of e1, bnd_eq, bnd_eq, if_pos (by decide)]
      dsimp only
      rw [bnd_eq, mS1, if_neg (by decide)]
end TRA
