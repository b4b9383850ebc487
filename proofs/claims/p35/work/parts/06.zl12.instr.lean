/-! THE CALL instruct -/
section INS
variable {b kc : Nat} {M M' : Md} {C C' : Cd}
def insR (a1 a2 a3 t0 : Int) (M : Md) : Option (Int × Md) :=
cal (fX12_in a1 0 3 M) fun r2 M1 =>
bnd (fun (t0_94 : Int) (M_94 : Md) =>
bnd (mSet M_94 36 t0_94) fun (M3 : Md) =>
if w32 (M3.1 36) ≤ 0 then
if inR a1 (mLen 21) then
if inR ((16 * a1) + (M3.2 21 (ix a1))) (mLen 19) then bnd (mPut M3 19 (ix ((16 * a1) + (M3.2 21 (ix a1)))) a2) fun (M4 : Md) =>
if inR a1 (mLen 21) then
if inR ((16 * a1) + (M4.2 21 (ix a1))) (mLen 20) then bnd (mPut M4 20 (ix ((16 * a1) + (M4.2 21 (ix a1)))) a3) fun (M5 : Md) =>
if inR a1 (mLen 21) then
if inR a1 (mLen 21) then bnd (mPut M5 21 (ix a1) ((M5.2 21 (ix a1)) + 1)) fun (M6 : Md) =>
bnd (mSet M6 22 ((M6.1 22) + 1)) fun (M7 : Md) =>
if inR a1 (mLen 25) then bnd (mPut M7 25 (ix a1) (M7.1 22)) fun (M8 : Md) =>
if inR a1 (mLen 21) then
some (M8.2 21 (ix a1), M8)
else none
else none
else none
else none
else none
else none
else none
else none
else
some (0, M3)) fun J94 =>
if ¬ w32 r2 = 0 then
cal (fX12_in a2 0 8 M1) fun r10 M9 =>
bnd (fun  (M_74 : Md) =>
J94 2 M_74) fun J74 =>
if w32 r10 = 0 then
J74 M9
else
cal (fX12_in a3 0 t0 M9) fun r12 M11 =>
if ¬ w32 r12 = 0 then
if inR a1 (mLen 21) then
if ¬ w32 (M11.2 21 (ix a1)) = w32 16 then
J94 0 M11
else
J94 3 M11
else none
else
J74 M11
else
J94 1 M1
theorem sAt1z : sAt 1 0 = 999 ∧ sAt 1 1 = 8 ∧ sAt 1 2 = 0 ∧ sAt 1 3 = 0 ∧ sAt 1 4 = 0 ∧ sAt 1 5 = 0 ∧ sAt 1 6 = 15 ∧ sAt 1 7 = 15 ∧ sAt 1 8 = 0 := by decide
theorem X12_instruct_most {a1 a2 a3 : Int} (h2 : I32 a2) (M : Md) : ∃ t0, (0 ≤ t0 ∧ t0 ≤ 999) ∧ (∀ n : Nat, n < 9 → a2 = (n : Int) → t0 = sAt 1 n) ∧ fX12_instruct a1 a2 a3 M = insR a1 a2 a3 t0 M := by
  have w2 : w32 a2 = a2 := w32_of h2.1 h2.2
  obtain ⟨z0, z1, z2, z3, z4, z5, z6, z7, z8⟩ := sAt1z
  have w1 : w32 1 = 1 := rfl
  have w6 : w32 6 = 6 := rfl
  have w7 : w32 7 = 7 := rfl
  by_cases c0 : a2 = 0
  · refine ⟨999, by decide, fun n hn e => ?_, ?_⟩
    · have : n = 0 := by omega
      subst this; exact z0.symm
    · unfold fX12_instruct
      rw [bnd_eq, if_neg (fun z => z (by rw [w2]; exact c0))]
      rfl
  · by_cases c1 : a2 = 1
    · refine ⟨8, by decide, fun n hn e => ?_, ?_⟩
      · have : n = 1 := by omega
        subst this; exact z1.symm
      · unfold fX12_instruct
        rw [bnd_eq, if_pos (by rw [w2]; exact c0), if_neg (fun z => z (by rw [w2, w1]; exact c1))]
        rfl
    · by_cases c6 : a2 = 6
      · refine ⟨15, by decide, fun n hn e => ?_, ?_⟩
        · have : n = 6 := by omega
          subst this; exact z6.symm
        · unfold fX12_instruct
          rw [bnd_eq, if_pos (by rw [w2]; exact c0), if_pos (by rw [w2, w1]; exact c1), bnd_eq, if_pos (by rw [w2, w6]; exact c6)]
          rfl
      · by_cases c7 : a2 = 7
        · refine ⟨15, by decide, fun n hn e => ?_, ?_⟩
          · have : n = 7 := by omega
            subst this; exact z7.symm
          · unfold fX12_instruct
            rw [bnd_eq, if_pos (by rw [w2]; exact c0), if_pos (by rw [w2, w1]; exact c1), bnd_eq, if_neg (by rw [w2, w6]; exact c6), if_neg (fun z => z (by rw [w2, w7]; exact c7))]
            rfl
        · refine ⟨0, by decide, fun n hn e => ?_, ?_⟩
          · have hn' : n = 2 ∨ n = 3 ∨ n = 4 ∨ n = 5 ∨ n = 8 := by omega
            rcases hn' with q | q | q | q | q <;> subst q
            · exact z2.symm
            · exact z3.symm
            · exact z4.symm
            · exact z5.symm
            · exact z8.symm
          · unfold fX12_instruct
            rw [bnd_eq, if_pos (by rw [w2]; exact c0), if_pos (by rw [w2, w1]; exact c1), bnd_eq, if_neg (by rw [w2, w6]; exact c6), if_pos (by rw [w2, w7]; exact c7)]
            rfl
/-- a module takes one more -/
theorem X7_add_ (hL : Lay b C) {j ml : Nat} (hj : j < 4) (hm : cI C 1002 (b + 157 + 3 * j) = (ml : Int)) (hl : ml < 16) (k v : Int) :
   fX7_add (b + 157 + 3 * j) k v C = some ((), cSetI (cSetE (cSetE C (b + 157 + 3 * j + 1) ml k) (b + 157 + 3 * j + 2) ml v) 1002 (b + 157 + 3 * j) ((ml : Int) + 1)) := by
  obtain ⟨_, o1, r1, r2, ⟨o2, n2⟩, o3, n3⟩ := hL.2.2.2.2.2.1 j hj
  unfold fX7_add
  rw [if_pos o1, bnd_eq, hm, if_neg (by rw [w32_n (by omega), show w32 16 = 16 from rfl]; omega), if_pos o1, bnd_eq, if_pos o1, r1, drf_some, if_pos ⟨o2, by rw [n2]; exact inR_n hl (by decide)⟩, bnd_eq, ix_n (by omega)]
  have i1 : cI (cSetE C (b + 157 + 3 * j + 1) ml k) 1002 (b + 157 + 3 * j) = (ml : Int) := hm
  rw [if_pos (show isO (cSetE C (b + 157 + 3 * j + 1) ml k) (b + 157 + 3 * j) 10 from o1), bnd_eq, if_pos (show isO (cSetE C (b + 157 + 3 * j + 1) ml k) (b + 157 + 3 * j) 10 from o1), show cR (cSetE C (b + 157 + 3 * j + 1) ml k) 1001 (b + 157 + 3 * j) = some (b + 157 + 3 * j + 2) from r2, drf_some, i1, if_pos ⟨(show isO (cSetE C (b + 157 + 3 * j + 1) ml k) (b + 157 + 3 * j + 2) 100 from o3), (show inR (ml : Int) (cn C (b + 157 + 3 * j + 2)) by rw [n3]; exact inR_n hl (by decide))⟩, bnd_eq, ix_n (by omega)]
  have i2 : cI (cSetE (cSetE C (b + 157 + 3 * j + 1) ml k) (b + 157 + 3 * j + 2) ml v) 1002 (b + 157 + 3 * j) = (ml : Int) := hm
  rw [if_pos (show isO (cSetE (cSetE C (b + 157 + 3 * j + 1) ml k) (b + 157 + 3 * j + 2) ml v) (b + 157 + 3 * j) 10 from o1), if_pos (show isO (cSetE (cSetE C (b + 157 + 3 * j + 1) ml k) (b + 157 + 3 * j + 2) ml v) (b + 157 + 3 * j) 10 from o1), bnd_eq, i2]
theorem call_instruct (h : RR b kc M C) {x y v : Int} (hx : I32 x) (hy : I32 y) (hv : I32 v) : CallE b kc C cd1 (fX11_instruct b x y v C) (fX12_instruct x y v M) := by
  have hL := h.1.1
  have W := hL.W
  have hz := hL.sz
  obtain ⟨t0, ht0, ht1, eY⟩ := X12_instruct_most (a1 := x) (a3 := v) hy M
  rw [eY]
  rcases X12_in_ (x := x) (lo := 0) (hi := 3) M hx (by decide) (by decide) with ⟨e, p⟩ | ⟨e, p⟩
  · obtain ⟨j, rfl⟩ : ∃ j : Nat, x = (j : Int) := ⟨x.toNat, by omega⟩
    have hj : j < 4 := by omega
    obtain ⟨ml, k1, ⟨k2, k3, k4⟩, k5⟩ := h.2.2.2.2.2.1 j hj
    have hA := X11_isAmong_ (b := b) (C := C) (w := 1) (Or.inr rfl) hy hv
    rw [show (sLen 1 : Int) = 9 from rfl] at hA
    rcases hA with ⟨eX, q⟩ | ⟨eX, q⟩
    · obtain ⟨n, rfl⟩ : ∃ n : Nat, y = (n : Int) := ⟨y.toNat, by omega⟩
      rw [Int.toNat_natCast] at q
      have hn : n < 9 := by omega
      have hs := sAt1 n hn
      have et := ht1 n hn rfl
      have e2 : fX12_in (n : Int) 0 8 M = some (1, M) := (X12_in_ (x := (n : Int)) (lo := 0) (hi := 8) M hy (by decide) (by decide)).elim (fun z => z.1) (fun z => absurd ⟨by omega, by omega⟩ z.2)
      have e3 : fX12_in v 0 t0 M = some (1, M) := (X12_in_ (x := v) (lo := 0) (hi := t0) M hv (by decide) ⟨by omega, by omega⟩).elim (fun z => z.1) (fun z => absurd ⟨by omega, by omega⟩ z.2)
      by_cases c16 : ml = 16
      · refine h.exc (e := 1) (M' := mSet M 36 3) ?_ ?_ (sc36 M 3) (mS1 _ _ _) (by decide)
        · unfold fX11_instruct
          rw [if_pos hL.o, calx_of (X11_moduleOf_in hL hj), if_pos hL.o, cal_of eX, if_pos (by decide), drf_some, if_pos (hL.mo hj), k2, if_neg (by rw [c16]; decide)]
        · unfold insR
          rw [cal_of e, bnd_eq, if_pos (by decide), cal_of e2, bnd_eq, if_neg (by decide), cal_of e3, if_pos (by decide), if_pos (inM (n := 4) rfl hj (by decide)), ix_n (n := j) (by omega), k1, if_neg (fun z => z (by rw [c16]; rfl))]
          dsimp only
          rw [bnd_eq, mS1, if_neg (by decide)]
      · have hml : ml < 16 := by omega
        obtain ⟨_, o1, r1, r2, ⟨o2, n2⟩, o3, n3⟩ := hL.2.2.2.2.2.1 j hj
        have eAdd := X7_add_ hL hj k2 hml (n : Int) v
        obtain ⟨lk, ct, rd, cd, us, hg⟩ := h.sets
        have hY0 : insR (j : Int) (n : Int) v t0 M = some ((ml : Int) + 1, mPut (mSet (mPut (mPut (mPut (mSet M 36 0) 19 (16 * j + ml) (n : Int)) 20 (16 * j + ml) v) 21 j ((ml : Int) + 1)) 22 (M.1 22 + 1)) 25 j (M.1 22 + 1)) := by
          have a1 : (mSet M 36 0).2 21 j = (ml : Int) := k1
          have a2 : (mPut (mSet M 36 0) 19 (16 * j + ml) (n : Int)).2 21 j = (ml : Int) := (congrFun (mPut_ne _ _ _ (by decide)) j).trans k1
          have a3 : (mPut (mPut (mSet M 36 0) 19 (16 * j + ml) (n : Int)) 20 (16 * j + ml) v).2 21 j = (ml : Int) := (congrFun (mPut_ne _ _ _ (by decide)) j).trans a2
          have ei : (16 * (j : Int) + (ml : Int)) = ((16 * j + ml : Nat) : Int) := by omega
          unfold insR
          rw [cal_of e, bnd_eq, if_pos (by decide), cal_of e2, bnd_eq, if_neg (by decide), cal_of e3, if_pos (by decide), if_pos (inM (n := 4) rfl hj (by decide)), ix_n (n := j) (by omega), k1, if_pos (by rw [w32_n (by omega), show w32 16 = 16 from rfl]; omega)]
          dsimp only
          rw [bnd_eq, mS1, if_pos (by decide), if_pos (inM (n := 4) rfl hj (by decide)), a1, ei, if_pos (inM (n := 64) rfl (by omega) (by decide)), bnd_eq, if_pos (inM (n := 4) rfl hj (by decide)), ix_n (n := 16 * j + ml) (by omega), a2, ei, if_pos (inM (n := 64) rfl (by omega) (by decide)), bnd_eq, if_pos (inM (n := 4) rfl hj (by decide)), if_pos (inM (n := 4) rfl hj (by decide)), bnd_eq, ix_n (n := 16 * j + ml) (by omega), a3, bnd_eq, if_pos (inM (n := 4) rfl hj (by decide)), bnd_eq, if_pos (inM (n := 4) rfl hj (by decide)), mS1]
          rw [show (mPut (mPut (mPut (mSet M 36 0) 19 (16 * j + ml) (n : Int)) 20 (16 * j + ml) v) 21 j ((ml : Int) + 1)).1 22 = M.1 22 from mS2 M (k := 36) (k' := 22) 0 (by decide)]
          rw [show (mPut (mSet (mPut (mPut (mPut (mSet M 36 0) 19 (16 * j + ml) (n : Int)) 20 (16 * j + ml) v) 21 j ((ml : Int) + 1)) 22 (M.1 22 + 1)) 25 j (M.1 22 + 1)).2 21 j = (ml : Int) + 1 from (congrFun (mPut_ne _ _ _ (by decide)) j).trans (p2_1 (mPut (mPut (mSet M 36 0) 19 (16 * j + ml) (n : Int)) 20 (16 * j + ml) v) 21 j _)]
        -- the class
        have f1 : Fp (fun q k a => ((q = 0 ∧ k = 1002 ∧ a = b + 157 + 3 * j) ∨ (q = 2 ∧ (a = b + 157 + 3 * j + 1 ∨ a = b + 157 + 3 * j + 2))) ∨ sSt b q k a) C (cSetI (cSetE (cSetE C (b + 157 + 3 * j + 1) ml (n : Int)) (b + 157 + 3 * j + 2) ml v) 1002 (b + 157 + 3 * j) ((ml : Int) + 1)) :=
          (((Fp.rf W).sE (Or.inl (Or.inr ⟨rfl, Or.inl rfl⟩))).sE (Or.inl (Or.inr ⟨rfl, Or.inr rfl⟩))).sI (Or.inl (Or.inl ⟨rfl, rfl, rfl⟩))
        have c1 : cI (cSetI (cSetE (cSetE C (b + 157 + 3 * j + 1) ml (n : Int)) (b + 157 + 3 * j + 2) ml v) 1002 (b + 157 + 3 * j) ((ml : Int) + 1)) 1002 (b + 157 + 3 * j) = (ml : Int) + 1 := cI_I1 _ _ _ _
        have g1 : ∀ i, cE (cSetI (cSetE (cSetE C (b + 157 + 3 * j + 1) ml (n : Int)) (b + 157 + 3 * j + 2) ml v) 1002 (b + 157 + 3 * j) ((ml : Int) + 1)) (b + 157 + 3 * j + 1) i = if i = ml then (n : Int) else cE C (b + 157 + 3 * j + 1) i := fun i => by
          show cE (cSetE (cSetE C (b + 157 + 3 * j + 1) ml (n : Int)) (b + 157 + 3 * j + 2) ml v) (b + 157 + 3 * j + 1) i = _
          rw [cE_E2 _ _ (Or.inl (by omega))]
          by_cases z : i = ml
          · rw [if_pos z, z]; exact cE_E1 _ _ _ _
          · rw [if_neg z]; exact cE_E2 _ _ (Or.inr z)
        have g2 : ∀ i, cE (cSetI (cSetE (cSetE C (b + 157 + 3 * j + 1) ml (n : Int)) (b + 157 + 3 * j + 2) ml v) 1002 (b + 157 + 3 * j) ((ml : Int) + 1)) (b + 157 + 3 * j + 2) i = if i = ml then v else cE C (b + 157 + 3 * j + 2) i := fun i => by
          show cE (cSetE (cSetE C (b + 157 + 3 * j + 1) ml (n : Int)) (b + 157 + 3 * j + 2) ml v) (b + 157 + 3 * j + 2) i = _
          by_cases z : i = ml
          · rw [if_pos z, z]; exact cE_E1 _ _ _ _
          · rw [if_neg z, cE_E2 _ _ (Or.inr z)]; exact cE_E2 _ _ (Or.inl (by omega))
        have u1 : ∀ k a, ¬ (k = 1002) → cI (cSetI (cSetE (cSetE C (b + 157 + 3 * j + 1) ml (n : Int)) (b + 157 + 3 * j + 2) ml v) 1002 (b + 157 + 3 * j) ((ml : Int) + 1)) k a = cI C k a := fun k a hk => cI_I2 _ _ (Or.inl hk)
        have zz : csz (cSetI (cSetE (cSetE C (b + 157 + 3 * j + 1) ml (n : Int)) (b + 157 + 3 * j + 2) ml v) 1002 (b + 157 + 3 * j) ((ml : Int) + 1)) = csz C := rfl
        have zl : csl (cSetI (cSetE (cSetE C (b + 157 + 3 * j + 1) ml (n : Int)) (b + 157 + 3 * j + 2) ml v) 1002 (b + 157 + 3 * j) ((ml : Int) + 1)) = csl C := rfl
        generalize cSetI (cSetE (cSetE C (b + 157 + 3 * j + 1) ml (n : Int)) (b + 157 + 3 * j + 2) ml v) 1002 (b + 157 + 3 * j) ((ml : Int) + 1) = C1 at *
        have hL1 := hL.keep (f1.mono (fun q k a _ z => by unfold sSt at z; unfold Mu; omega))
        have u7 : ∀ u, u < 24 → cI C 707 (b + 13 + 6 * u + 1) = (us u : Int) ∧ us u < 16 := fun u hu => by obtain ⟨r, q⟩ := hg u hu; exact q.2.2.2.1.2.2.2.2
        obtain ⟨C2, e4, f2, s2, l2, n2'⟩ := X11_noteModuleChange_ hL1 hj (us := us) (fun u hu => by rw [u1 _ _ (by decide)]; exact u7 u hu)
        have f : Fp (fun q k a => ((q = 0 ∧ k = 1002 ∧ a = b + 157 + 3 * j) ∨ (q = 2 ∧ (a = b + 157 + 3 * j + 1 ∨ a = b + 157 + 3 * j + 2))) ∨ sSt b q k a) C C2 := f1.tr (f2.mono (fun _ _ _ _ z => Or.inr z))
        have z1 : csz C2 = csz C := s2.trans zz
        have z2 : csl C2 = csl C := l2.trans zl
        have hz1 : b + 854 ≤ csz C1 := by omega
        have c1002 : cI C2 1002 (b + 157 + 3 * j) = (ml : Int) + 1 := (f2.fI (by omega) (by unfold sSt; omega)).trans c1
        have hX : fX11_instruct b (j : Int) (n : Int) v C = some (.inl ((ml : Int) + 1), C2) := by
          unfold fX11_instruct
          rw [if_pos hL.o, calx_of (X11_moduleOf_in hL hj), if_pos hL.o, cal_of eX, if_pos (by decide), drf_some, if_pos (hL.mo hj), k2, if_pos (by rw [w32_n (by omega), show w32 16 = 16 from rfl]; omega), if_pos (hL.mo hj), cal_of eAdd, if_pos hL1.o, cal_of e4, if_pos (f2.ob hL1.W (hL1.mo hj)), c1002]
        have g702 : ∀ u, u < 24 → ∀ w : Nat, cI C 707 (b + 13 + 6 * u + 1) = (w : Int) → cI C2 702 (b + 13 + 6 * u + 1) = if w.testBit j = true then 1 else cI C 702 (b + 13 + 6 * u + 1) := fun u hu w hw => by
          have y := n2' u hu
          rw [u1 _ _ (by decide)] at y
          have : w = us u := by have := (u7 u hu).1; omega
          rw [this]; exact y
        have m1 : ∀ i, ¬ (i = 36 ∨ i = 22) → (mPut (mSet (mPut (mPut (mPut (mSet M 36 0) 19 (16 * j + ml) (n : Int)) 20 (16 * j + ml) v) 21 j ((ml : Int) + 1)) 22 (M.1 22 + 1)) 25 j (M.1 22 + 1)).1 i = M.1 i := fun i a => (mS2 (mPut (mPut (mPut (mSet M 36 0) 19 (16 * j + ml) (n : Int)) 20 (16 * j + ml) v) 21 j ((ml : Int) + 1)) _ (by omega)).trans (mS2 M _ (by omega))
        have m22 : (mPut (mSet (mPut (mPut (mPut (mSet M 36 0) 19 (16 * j + ml) (n : Int)) 20 (16 * j + ml) v) 21 j ((ml : Int) + 1)) 22 (M.1 22 + 1)) 25 j (M.1 22 + 1)).1 22 = M.1 22 + 1 := mS1 (mPut (mPut (mPut (mSet M 36 0) 19 (16 * j + ml) (n : Int)) 20 (16 * j + ml) v) 21 j ((ml : Int) + 1)) 22 _
        have r36 : (mPut (mSet (mPut (mPut (mPut (mSet M 36 0) 19 (16 * j + ml) (n : Int)) 20 (16 * j + ml) v) 21 j ((ml : Int) + 1)) 22 (M.1 22 + 1)) 25 j (M.1 22 + 1)).1 36 = 0 := by
          show (mSet (mPut (mPut (mPut (mSet M 36 0) 19 (16 * j + ml) (n : Int)) 20 (16 * j + ml) v) 21 j ((ml : Int) + 1)) 22 (M.1 22 + 1)).1 36 = 0
          rw [mS2 _ _ (by decide)]
          exact mS1 M 36 0
        have m2 : ∀ k, ¬ (k = 19 ∨ k = 20 ∨ k = 21 ∨ k = 25) → (mPut (mSet (mPut (mPut (mPut (mSet M 36 0) 19 (16 * j + ml) (n : Int)) 20 (16 * j + ml) v) 21 j ((ml : Int) + 1)) 22 (M.1 22 + 1)) 25 j (M.1 22 + 1)).2 k = M.2 k := fun k a => (mPut_ne _ _ _ (by omega)).trans ((mPut_ne (mPut (mPut (mSet M 36 0) 19 (16 * j + ml) (n : Int)) 20 (16 * j + ml) v) _ _ (by omega)).trans ((mPut_ne (mPut (mSet M 36 0) 19 (16 * j + ml) (n : Int)) _ _ (by omega)).trans (mPut_ne (mSet M 36 0) _ _ (by omega))))
        have m25 : ∀ k, (mPut (mSet (mPut (mPut (mPut (mSet M 36 0) 19 (16 * j + ml) (n : Int)) 20 (16 * j + ml) v) 21 j ((ml : Int) + 1)) 22 (M.1 22 + 1)) 25 j (M.1 22 + 1)).2 25 k = if k = j then M.1 22 + 1 else M.2 25 k := fun k => by
          by_cases q : k = j
          · rw [if_pos q, q]; exact p2_1 _ _ _ _
          · rw [if_neg q, p2_2 (k := 25) (k' := 25) (mSet (mPut (mPut (mPut (mSet M 36 0) 19 (16 * j + ml) (n : Int)) 20 (16 * j + ml) v) 21 j ((ml : Int) + 1)) 22 (M.1 22 + 1)) _ (Or.inr q)]
            show (mPut (mPut (mPut (mSet M 36 0) 19 (16 * j + ml) (n : Int)) 20 (16 * j + ml) v) 21 j ((ml : Int) + 1)).2 25 k = _
            rw [mPut_ne _ _ _ (by decide), mPut_ne _ _ _ (by decide), mPut_ne _ _ _ (by decide)]
            rfl
        have m21 : ∀ k, (mPut (mSet (mPut (mPut (mPut (mSet M 36 0) 19 (16 * j + ml) (n : Int)) 20 (16 * j + ml) v) 21 j ((ml : Int) + 1)) 22 (M.1 22 + 1)) 25 j (M.1 22 + 1)).2 21 k = if k = j then (ml : Int) + 1 else M.2 21 k := fun k => by
          rw [mPut_ne _ _ _ (by decide)]
          show (mPut (mPut (mPut (mSet M 36 0) 19 (16 * j + ml) (n : Int)) 20 (16 * j + ml) v) 21 j ((ml : Int) + 1)).2 21 k = _
          by_cases q : k = j
          · rw [if_pos q, q]; exact p2_1 _ _ _ _
          · rw [if_neg q, p2_2 (k := 21) (k' := 21) _ _ (Or.inr q), mPut_ne _ _ _ (by decide), mPut_ne _ _ _ (by decide)]
            rfl
        have m20 : ∀ k, (mPut (mSet (mPut (mPut (mPut (mSet M 36 0) 19 (16 * j + ml) (n : Int)) 20 (16 * j + ml) v) 21 j ((ml : Int) + 1)) 22 (M.1 22 + 1)) 25 j (M.1 22 + 1)).2 20 k = if k = 16 * j + ml then v else M.2 20 k := fun k => by
          rw [mPut_ne _ _ _ (by decide)]
          show (mPut (mPut (mPut (mSet M 36 0) 19 (16 * j + ml) (n : Int)) 20 (16 * j + ml) v) 21 j ((ml : Int) + 1)).2 20 k = _
          rw [mPut_ne _ _ _ (by decide)]
          by_cases q : k = 16 * j + ml
          · rw [if_pos q, q]; exact p2_1 _ _ _ _
          · rw [if_neg q, p2_2 (k := 20) (k' := 20) _ _ (Or.inr q), mPut_ne _ _ _ (by decide)]
            rfl
        have m19 : ∀ k, (mPut (mSet (mPut (mPut (mPut (mSet M 36 0) 19 (16 * j + ml) (n : Int)) 20 (16 * j + ml) v) 21 j ((ml : Int) + 1)) 22 (M.1 22 + 1)) 25 j (M.1 22 + 1)).2 19 k = if k = 16 * j + ml then (n : Int) else M.2 19 k := fun k => by
          rw [mPut_ne _ _ _ (by decide)]
          show (mPut (mPut (mPut (mSet M 36 0) 19 (16 * j + ml) (n : Int)) 20 (16 * j + ml) v) 21 j ((ml : Int) + 1)).2 19 k = _
          rw [mPut_ne _ _ _ (by decide), mPut_ne _ _ _ (by decide)]
          by_cases q : k = 16 * j + ml
          · rw [if_pos q, q]; exact p2_1 _ _ _ _
          · rw [if_neg q, p2_2 (k := 19) (k' := 19) _ _ (Or.inr q)]
            rfl
        generalize mPut (mSet (mPut (mPut (mPut (mSet M 36 0) 19 (16 * j + ml) (n : Int)) 20 (16 * j + ml) v) 21 j ((ml : Int) + 1)) 22 (M.1 22 + 1)) 25 j (M.1 22 + 1) = M2 at *
        have kRL : RLy b C2 := h.1.low f (fun q k a _ z => by unfold sSt at z; unfold Mu; omega) (by unfold sSt; omega) (by unfold sSt; omega) (by unfold sSt; omega) (by unfold sSt; omega) (fun _ => by unfold sSt; omega) (by unfold sSt; omega) (by unfold sSt; omega) (fun _ => by unfold sSt; omega) (by unfold sSt; omega) (by unfold sSt; omega) (fun _ _ => by unfold sSt; omega) (fun _ _ _ => by unfold sSt; omega)
        have kRD : ∃ dn g, RD b M2 C2 dn g := by
          obtain ⟨dn, g, hd⟩ := h.2.1
          exact ⟨dn, g, hd.low W f (by unfold sSt; omega) (by unfold sSt; omega) (by unfold sSt; omega) (by unfold sSt; omega) (m1 1 (by omega)) (m2 0 (by omega))⟩
        have kRS : RS b M2 C2 := h.2.2.1.low hL f (by unfold sSt; omega) (by unfold sSt; omega) (by unfold sSt; omega) (fun j hj => m1 j (by omega)) (Or.inl (m1 71 (by omega))) (Or.inl (m1 68 (by omega)))
        have kRT : ∀ t, t < 24 → RTi b M2 C2 t := fun t ht => (h.2.2.2.2.1 t ht).low hL ht f (by unfold sSt; omega) (by unfold sSt; omega) (by unfold sSt; omega) (by unfold sSt; omega) (fun k hk => m2 k (by omega))
        have kVS : VSame M M2 := ⟨fun j hj => m1 j (by omega), fun k hk => m2 k (by omega)⟩
        have kRB : RB (kc + 1) M2 := by
          obtain ⟨⟨b1, b2⟩, b3, b4, b5⟩ := h.2.2.2.1
          unfold RB
          rw [m1 5 (by omega), m1 13 (by omega), m22]
          exact ⟨⟨b1, by omega⟩, by omega, by omega, by omega⟩
        have kRM : ∀ i, i < 4 → RMo b M2 C2 i := fun i hi => by
          by_cases q' : i = j
          · subst q'
            refine ⟨ml + 1, by rw [m21, if_pos rfl]; omega, ⟨by rw [c1002]; omega, by omega, fun k hk => ?_⟩, fun k hk => ?_⟩
            · dsimp only
              rw [m19, m20, f2.fE (by omega) (by unfold sSt; omega), f2.fE (by omega) (by unfold sSt; omega), g1, g2]
              by_cases z : k = ml
              · rw [if_pos z, if_pos z, if_pos (by omega), if_pos (by omega)]; exact ⟨rfl, rfl⟩
              · rw [if_neg z, if_neg z, if_neg (by omega), if_neg (by omega)]; exact k4 k (by omega)
            · rw [m19, m20]
              by_cases z : k = ml
              · rw [if_pos (by omega), if_pos (by omega)]; exact ⟨⟨by omega, by omega⟩, by omega, by omega⟩
              · rw [if_neg (by omega), if_neg (by omega)]; exact k5 k (by omega)
          · obtain ⟨nl, y1, ⟨y2, y3, y4⟩, y5⟩ := h.2.2.2.2.2.1 i hi
            refine ⟨nl, by rw [m21, if_neg q']; exact y1, ⟨(f.fI (by omega) (by unfold sSt; omega)).trans y2, y3, fun k hk => ?_⟩, fun k hk => ?_⟩
            · dsimp only
              rw [m19, m20, if_neg (by omega), if_neg (by omega), f.fE (by omega) (by unfold sSt; omega), f.fE (by omega) (by unfold sSt; omega)]; exact y4 k hk
            · rw [m19, m20, if_neg (by omega), if_neg (by omega)]; exact y5 k hk
        obtain ⟨kG, kK⟩ := h.modG (M' := M2) (C' := C2) hj m22 m25 (fun k hk => m2 k (by omega)) (fun k u hu a1 a2 a3 => f.fI (by omega) (by unfold sSt; omega)) (fun u r hu hr => hr.fp W f (by unfold sSt; omega) (by unfold sSt; omega) (by unfold sSt; omega) (by unfold sSt; omega)) g702
        have hr : RR b (kc + 1) M2 C2 := h.part f (fun q k a z => by unfold sSt at z; omega) kRL kRD kRS kRB kRT kRM kVS (Int.le_of_eq (m1 5 (by omega)).symm) (by unfold sSt; omega) (fun _ _ => by unfold sSt; omega) (fun nv hk => kK nv kVS hk) kG
        exact ⟨M2, C2, _, hY0, hr, RmL.of hz f (fun _ _ => by unfold sSt; omega) (by omega) (by omega), Or.inl ⟨hX, r36⟩⟩
    · refine h.exc (e := 0) (M' := mSet M 36 2) ?_ ?_ (sc36 M 2) (mS1 _ _ _) (by decide)
      · unfold fX11_instruct
        rw [if_pos hL.o, calx_of (X11_moduleOf_in hL hj), if_pos hL.o, cal_of eX, if_neg (fun z => z (by decide))]
      · unfold insR
        rw [cal_of e, bnd_eq, if_pos (by decide)]
        rcases X12_in_ (x := y) (lo := 0) (hi := 8) M hy (by decide) (by decide) with ⟨e2, p2⟩ | ⟨e2, p2⟩
        · obtain ⟨n, rfl⟩ : ∃ n : Nat, y = (n : Int) := ⟨y.toNat, by omega⟩
          have et := ht1 n (by omega) rfl
          rcases X12_in_ (x := v) (lo := 0) (hi := t0) M hv (by decide) ⟨by omega, by omega⟩ with ⟨e3, p3⟩ | ⟨e3, p3⟩
          · exact absurd ⟨p2.1, by omega, p3.1, by rw [Int.toNat_natCast]; omega⟩ q
          · rw [cal_of e2, bnd_eq, if_neg (by decide), cal_of e3, if_neg (fun z => z (by decide))]
            dsimp only
            rw [bnd_eq, mS1, if_neg (by decide)]
        · rw [cal_of e2, bnd_eq, if_pos (by decide)]
          dsimp only
          rw [bnd_eq, mS1, if_neg (by decide)]
  · refine h.exc (e := 2) (M' := mSet M 36 1) ?_ ?_ (sc36 M 1) (mS1 _ _ _) (by decide)
    · unfold fX11_instruct
      rw [if_pos hL.o, calx_ofx (X11_moduleOf_out hL hx p)]
    · unfold insR
      rw [cal_of e, bnd_eq, if_neg (fun z => z (by decide))]
      dsimp only
      rw [bnd_eq, mS1, if_neg (by decide)]
end INS
