/-! THE CALL empty -/
section EMP
variable {b kc : Nat} {M M' : Md} {C C' : Cd}
theorem mPut_self {M : Md} {k i : Nat} {x : Int} (h : M.2 k i = x) : mPut M k i x = M := by
  refine Prod.ext rfl (funext fun k' => ?_)
  by_cases c : k' = k
  · subst c
    funext i'
    by_cases d : i' = i
    · subst d; exact (p2_1 M k' i' x).trans h.symm
    · exact p2_2 (k := k') (k' := k') M x (Or.inr d)
  · exact mPut_ne M i x c
theorem X11_moduleOf_in (hL : Lay b C) {j : Nat} (hj : j < 4) : fX11_moduleOf b (j : Int) C = some (.inl (some (b + 157 + 3 * j)), C) := by
  have hM := hL.2.2.1.2.2.2.1
  unfold fX11_moduleOf
  rw [bnd_eq, if_neg (by rw [w32_n (by omega)]; omega), if_pos hL.o, bnd_eq, hL.r2, drf_some, if_pos hM.1, if_pos (by rw [hM.2, w32_n (n := j) (by omega), w32_n (n := 4) (by omega)]; omega), if_pos hL.o, bnd_eq, drf_some, if_pos ⟨hM.1, by rw [hM.2]; exact inR_n hj (by decide)⟩, bnd_eq, hL.mp hj]
theorem X11_moduleOf_out (hL : Lay b C) {x : Int} (hx : I32 x) (ho : ¬ (0 ≤ x ∧ x ≤ 3)) : fX11_moduleOf b x C = some (.inr 2, cBump C) := by
  have hM := hL.2.2.1.2.2.2.1
  have wx : w32 x = x := w32_of hx.1 hx.2
  unfold fX11_moduleOf
  rw [bnd_eq]
  by_cases c : x < 0
  · rw [if_pos (by rw [wx]; exact c)]
  · rw [if_neg (by rw [wx]; exact c), if_pos hL.o, bnd_eq, hL.r2, drf_some, if_pos hM.1, if_neg (by rw [hM.2, wx, w32_n (n := 4) (by omega)]; omega)]
theorem call_empty (h : RR b kc M C) {x : Int} (hx : I32 x) : CallE b kc C cd2 (fX11_empty b x C) (fX12_empty x M) := by
  have hL := h.1.1
  have W := hL.W
  have hz := hL.sz
  rcases X12_in_ (x := x) (lo := 0) (hi := 3) M hx (by decide) (by decide) with ⟨e, p⟩ | ⟨e, p⟩
  · obtain ⟨j, rfl⟩ : ∃ j : Nat, x = (j : Int) := ⟨x.toNat, by omega⟩
    have hj : j < 4 := by omega
    obtain ⟨ml, k1, ⟨k2, k3, k4⟩, k5⟩ := h.2.2.2.2.2.1 j hj
    have hX0 : fX11_empty b (j : Int) C = (if w32 (cI C 1002 (b + 157 + 3 * j)) ≤ 0 then some (.inl (cI C 1002 (b + 157 + 3 * j)), C) else cal (fX11_noteModuleChange b (j : Int) (cSetI C 1002 (b + 157 + 3 * j) 0)) fun (_ : Unit) (C5 : Cd) => some (.inl (cI C 1002 (b + 157 + 3 * j)), C5)) := by
      unfold fX11_empty
      rw [if_pos hL.o, calx_of (X11_moduleOf_in hL hj), drf_some, if_pos (hL.mo hj), bnd_eq, bnd_eq, if_pos (hL.mo hj), bnd_eq, if_pos (show isO (cSetI C 1002 (b + 157 + 3 * j) 0) b 14 from hL.o)]
    have hY0 : fX12_empty (j : Int) M = (if w32 (M.2 21 j) ≤ 0 then some (M.2 21 j, mPut (mSet M 36 0) 21 j 0) else some (M.2 21 j, mPut (mSet (mPut (mSet M 36 0) 21 j 0) 22 (M.1 22 + 1)) 25 j (M.1 22 + 1))) := by
      unfold fX12_empty
      rw [cal_of e, bnd_eq, if_neg (by decide)]
      dsimp only
      rw [bnd_eq, mS1, if_pos (by decide), if_pos (inM (n := 4) rfl hj (by decide)), bnd_eq, if_pos (inM (n := 4) rfl hj (by decide)), bnd_eq, bnd_eq, bnd_eq, if_pos (inM (n := 4) rfl hj (by decide)), bnd_eq, ix_n (n := j) (by omega), mS1]
      rfl
    rw [k2, w32_n (by omega)] at hX0
    rw [k1, w32_n (by omega)] at hY0
    by_cases c : ml = 0
    · subst c
      rw [if_pos (by decide)] at hX0 hY0
      rw [mPut_self (M := mSet M 36 0) (show M.2 21 j = 0 from k1)] at hY0
      exact h.ret hX0 hY0 (sc36 M 0) (mS1 _ _ _)
    · rw [if_neg (by omega)] at hX0 hY0
      obtain ⟨lk, ct, rd, cd, us, hg⟩ := h.sets
      have f1 : Fp (fun q k a => (q = 0 ∧ k = 1002 ∧ a = b + 157 + 3 * j) ∨ sSt b q k a) C (cSetI C 1002 (b + 157 + 3 * j) 0) := Fp.I W _ _ _ (Or.inl ⟨rfl, rfl, rfl⟩)
      have hL1 := hL.keep (f1.mono (fun q k a _ z => by unfold sSt at z; unfold Mu; omega))
      have u7 : ∀ u, u < 24 → cI C 707 (b + 13 + 6 * u + 1) = (us u : Int) ∧ us u < 16 := fun u hu => by obtain ⟨r, q⟩ := hg u hu; exact q.2.2.2.1.2.2.2.2
      obtain ⟨C2, e2, f2, s2, l2, n2⟩ := X11_noteModuleChange_ hL1 hj (us := us) (fun u hu => by rw [cI_I2 _ _ (Or.inl (by decide))]; exact u7 u hu)
      rw [cal_of e2] at hX0
      have f : Fp (fun q k a => (q = 0 ∧ k = 1002 ∧ a = b + 157 + 3 * j) ∨ sSt b q k a) C C2 := f1.tr (f2.mono (fun _ _ _ _ z => Or.inr z))
      have z1 : csz C2 = csz C := s2
      have z2 : csl C2 = csl C := l2
      have c1002 : cI C2 1002 (b + 157 + 3 * j) = 0 := (f2.fI (by have := hL1.sz; omega) (by unfold sSt; omega)).trans (cI_I1 _ _ _ _)
      have g702 : ∀ u, u < 24 → ∀ w : Nat, cI C 707 (b + 13 + 6 * u + 1) = (w : Int) → cI C2 702 (b + 13 + 6 * u + 1) = if w.testBit j = true then 1 else cI C 702 (b + 13 + 6 * u + 1) := fun u hu w hw => by
        have y := n2 u hu
        rw [cI_I2 _ _ (Or.inl (by decide))] at y
        have : w = us u := by have := (u7 u hu).1; omega
        rw [this]; exact y
      have m1 : ∀ i, ¬ (i = 36 ∨ i = 22) → (mPut (mSet (mPut (mSet M 36 0) 21 j 0) 22 (M.1 22 + 1)) 25 j (M.1 22 + 1)).1 i = M.1 i := fun i a => (mS2 (mPut (mSet M 36 0) 21 j 0) _ (by omega)).trans (mS2 M _ (by omega))
      have m22 : (mPut (mSet (mPut (mSet M 36 0) 21 j 0) 22 (M.1 22 + 1)) 25 j (M.1 22 + 1)).1 22 = M.1 22 + 1 := mS1 (mPut (mSet M 36 0) 21 j 0) 22 _
      have r36 : (mPut (mSet (mPut (mSet M 36 0) 21 j 0) 22 (M.1 22 + 1)) 25 j (M.1 22 + 1)).1 36 = 0 := by
        show (mSet (mPut (mSet M 36 0) 21 j 0) 22 (M.1 22 + 1)).1 36 = 0
        rw [mS2 _ _ (by decide)]
        exact mS1 M 36 0
      have m2 : ∀ k, ¬ (k = 21 ∨ k = 25) → (mPut (mSet (mPut (mSet M 36 0) 21 j 0) 22 (M.1 22 + 1)) 25 j (M.1 22 + 1)).2 k = M.2 k := fun k a => (mPut_ne _ _ _ (by omega)).trans (mPut_ne (mSet M 36 0) _ _ (by omega))
      have m25 : ∀ k, (mPut (mSet (mPut (mSet M 36 0) 21 j 0) 22 (M.1 22 + 1)) 25 j (M.1 22 + 1)).2 25 k = if k = j then M.1 22 + 1 else M.2 25 k := fun k => by
        by_cases q : k = j
        · rw [if_pos q, q]; exact p2_1 _ _ _ _
        · rw [if_neg q]; exact p2_2 (k := 25) (k' := 25) (mSet (mPut (mSet M 36 0) 21 j 0) 22 (M.1 22 + 1)) _ (Or.inr q)
      have m21 : ∀ k, (mPut (mSet (mPut (mSet M 36 0) 21 j 0) 22 (M.1 22 + 1)) 25 j (M.1 22 + 1)).2 21 k = if k = j then 0 else M.2 21 k := fun k => by
        rw [mPut_ne _ _ _ (by decide)]
        by_cases q : k = j
        · rw [if_pos q, q]; exact p2_1 (mSet M 36 0) 21 j 0
        · rw [if_neg q]; exact p2_2 (k := 21) (k' := 21) (mSet M 36 0) _ (Or.inr q)
      generalize mPut (mSet (mPut (mSet M 36 0) 21 j 0) 22 (M.1 22 + 1)) 25 j (M.1 22 + 1) = M2 at *
      have kRL : RLy b C2 := h.1.low f (fun q k a _ z => by unfold sSt at z; unfold Mu; omega) (by unfold sSt; omega) (by unfold sSt; omega) (by unfold sSt; omega) (by unfold sSt; omega) (fun _ => by unfold sSt; omega) (by unfold sSt; omega) (by unfold sSt; omega) (fun _ => by unfold sSt; omega) (by unfold sSt; omega) (by unfold sSt; omega) (fun _ _ => by unfold sSt; omega) (fun _ _ _ => by unfold sSt; omega)
      have kRD : ∃ dn g, RD b M2 C2 dn g := by
        obtain ⟨dn, g, hd⟩ := h.2.1
        exact ⟨dn, g, hd.low W f (by unfold sSt; omega) (by unfold sSt; omega) (by unfold sSt; omega) (by unfold sSt; omega) (m1 1 (by omega)) (m2 0 (by omega))⟩
      have kRS : RS b M2 C2 := h.2.2.1.low hL f (by unfold sSt; omega) (by unfold sSt; omega) (by unfold sSt; omega) (fun j hj => m1 j (by omega)) (Or.inl (m1 71 (by omega))) (Or.inl (m1 68 (by omega)))
      have kRT : ∀ t, t < 24 → RTi b M2 C2 t := fun t ht => (h.2.2.2.2.1 t ht).low hL ht f (by unfold sSt; omega) (by unfold sSt; omega) (by unfold sSt; omega) (by unfold sSt; omega) (fun k hk => m2 k (by omega))
      have kVS : VSame M M2 := ⟨fun j hj => m1 j (by omega), fun k hk => m2 k (by omega)⟩
      have kRB : RB (kc + 1) M2 := by
        obtain ⟨⟨b1, b2⟩, b3, b4, b5⟩ := h.2.2.2.1
        unfold RB
        rw [m1 5 (by omega), m1 13 (by omega), m22]
        exact ⟨⟨b1, by omega⟩, by omega, by omega, by omega⟩
      have kRM : ∀ i, i < 4 → RMo b M2 C2 i := fun i hi => by
        by_cases q : i = j
        · subst q
          exact ⟨0, by rw [m21, if_pos rfl]; rfl, ⟨c1002, by decide, fun k hk => absurd hk (Nat.not_lt_zero k)⟩, fun k hk => absurd hk (Nat.not_lt_zero k)⟩
        · obtain ⟨nl, y1, ⟨y2, y3, y4⟩, y5⟩ := h.2.2.2.2.2.1 i hi
          refine ⟨nl, by rw [m21, if_neg q]; exact y1, ⟨(f.fI (by omega) (by unfold sSt; omega)).trans y2, y3, fun k hk => ?_⟩, ?_⟩
          · rw [m2 19 (by omega), m2 20 (by omega), f.fE (by omega) (by unfold sSt; omega), f.fE (by omega) (by unfold sSt; omega)]; exact y4 k hk
          · rw [m2 19 (by omega), m2 20 (by omega)]; exact y5
      obtain ⟨kG, kK⟩ := h.modG (M' := M2) (C' := C2) hj m22 m25 (fun k hk => m2 k (by omega)) (fun k u hu a1 a2 a3 => f.fI (by omega) (by unfold sSt; omega)) (fun u r hu hr => hr.fp W f (by unfold sSt; omega) (by unfold sSt; omega) (by unfold sSt; omega) (by unfold sSt; omega)) g702
      have hr : RR b (kc + 1) M2 C2 := h.part f (fun q k a z => by unfold sSt at z; omega) kRL kRD kRS kRB kRT kRM kVS (Int.le_of_eq (m1 5 (by omega)).symm) (by unfold sSt; omega) (fun _ _ => by unfold sSt; omega) (fun nv hk => kK nv kVS hk) kG
      exact ⟨M2, C2, _, hY0, hr, RmL.of hz f (fun _ _ => by unfold sSt; omega) (by omega) (by omega), Or.inl ⟨hX0, r36⟩⟩
  · refine h.exc (e := 2) (M' := mSet M 36 1) ?_ ?_ (sc36 M 1) (mS1 _ _ _) (by decide)
    · unfold fX11_empty
      rw [if_pos hL.o, calx_ofx (X11_moduleOf_out hL hx p)]
    · unfold fX12_empty
      rw [cal_of e, bnd_eq, if_pos (by decide)]
      dsimp only
      rw [bnd_eq, mS1, if_neg (by decide)]
end EMP
