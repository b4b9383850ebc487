/-! WHAT THE CLASS'S FUNCTIONS GIVE, by a number; modules -/
section GV2
variable {b : Nat} {C : Cd} {E : Env} {VA : Nat → Nat} {up : Int} {s : ASt} {R ra f : Nat} {pl : List Nat} {acc : List Int}
theorem Lay.mo (h : Lay b C) {j : Nat} (hj : j < 4) : isO C (b + 157 + 3 * j) 10 := (h.2.2.2.2.2.1 j hj).2.1
theorem Lay.mi (h : Lay b C) {j : Nat} (hj : j < 4) : cR C 1000 (b + 157 + 3 * j) = some (b + 157 + 3 * j + 1) := (h.2.2.2.2.2.1 j hj).2.2.1
theorem Lay.mv (h : Lay b C) {j : Nat} (hj : j < 4) : cR C 1001 (b + 157 + 3 * j) = some (b + 157 + 3 * j + 2) := (h.2.2.2.2.2.1 j hj).2.2.2.1
theorem Lay.mio (h : Lay b C) {j : Nat} (hj : j < 4) : isO C (b + 157 + 3 * j + 1) 100 := (h.2.2.2.2.2.1 j hj).2.2.2.2.1.1
theorem Lay.min (h : Lay b C) {j : Nat} (hj : j < 4) : cn C (b + 157 + 3 * j + 1) = 16 := (h.2.2.2.2.2.1 j hj).2.2.2.2.1.2
theorem Lay.mvo (h : Lay b C) {j : Nat} (hj : j < 4) : isO C (b + 157 + 3 * j + 2) 100 := (h.2.2.2.2.2.1 j hj).2.2.2.2.2.1
theorem Lay.mvn (h : Lay b C) {j : Nat} (hj : j < 4) : cn C (b + 157 + 3 * j + 2) = 16 := (h.2.2.2.2.2.1 j hj).2.2.2.2.2.2
theorem Lay.mp (h : Lay b C) {j : Nat} (hj : j < 4) : cP C (b + 3) (ix (j : Int)) = some (b + 157 + 3 * j) := by
  rw [ix_n (by omega)]; exact (h.2.2.2.2.2.1 j hj).1
theorem SeC.of {C' : Cd} (h : SeC b C s) (e : ∀ k, 703 ≤ k → k ≤ 707 → cI C' k (b + 10) = cI C k (b + 10)) : SeC b C' s :=
  ⟨⟨(e 703 (by decide) (by decide)).trans h.1.1, h.1.2⟩, ⟨(e 704 (by decide) (by decide)).trans h.2.1.1, h.2.1.2⟩, ⟨(e 705 (by decide) (by decide)).trans h.2.2.1.1, h.2.2.1.2⟩, ⟨(e 706 (by decide) (by decide)).trans h.2.2.2.1.1, h.2.2.2.1.2⟩, ⟨(e 707 (by decide) (by decide)).trans h.2.2.2.2.1, h.2.2.2.2.2⟩⟩
theorem or_8 {x v : Nat} (hs : x < 256) (hv : v < 8) : x ||| 2 ^ v < 256 := by
  have h2 : (2 : Nat) ^ v < 2 ^ 8 := Nat.pow_lt_pow_right (by decide) hv
  exact Nat.or_lt_two_pow (n := 8) hs h2
theorem or_4 {x v : Nat} (hs : x < 16) (hv : v < 4) : x ||| 2 ^ v < 16 := by
  have h2 : (2 : Nat) ^ v < 2 ^ 4 := Nat.pow_lt_pow_right (by decide) hv
  exact Nat.or_lt_two_pow (n := 4) hs h2
theorem uSe_0 {x : Nat} : x ||| 0 = x := Nat.or_zero x
theorem numL_rng {r : List Int} (h : okr r) : -1 ≤ numL r ∧ numL r < 1000 := by
  unfold numL
  by_cases c : 0 < r.length ∧ r.getD 0 0 < 1000
  · rw [if_pos c]
    have := h.2 _ (getD_mem c.1)
    omega
  · rw [if_neg c]; omega
theorem XS.dy11 (h : XS b C E VA up s R) (hc : CurR b C E s ra) : ra = b + 11 ∨ DyC b C ra := by
  rcases hc with e | ⟨cf, cp, c1, c2, c3, c4, c5⟩
  · exact Or.inl e
  · have hn := h.2.2.2.2.2.2.1.2.1
    exact Or.inr ⟨cf, cp, by omega, by have := h.n30 c1; omega, c5⟩
theorem sG.x (h : ra = b + 11 ∨ DyC b C ra) {q k a : Nat} (z : sG b ra q k a) : sX b (DyC b C) q k a := by
  rcases z with z | ⟨z1, z2, z3, z4⟩ | ⟨z1, z2, z3⟩ | ⟨z1, z2⟩
  · rcases z with ⟨z1, z2, z3⟩ | ⟨z1, z2⟩
    · refine Or.inl ⟨z1, Or.inr (Or.inr (Or.inl ⟨z2, ?_⟩))⟩
      rw [z3]; exact h
    · refine Or.inr (Or.inr (Or.inl ⟨z1, ?_⟩))
      rcases h with y | y
      · exact Or.inr (Or.inr (Or.inl (by omega)))
      · exact Or.inr (Or.inr (Or.inr (Or.inl ⟨ra, y, z2⟩)))
  · exact Or.inl ⟨z1, Or.inr (Or.inl ⟨z2, by omega, z4⟩)⟩
  · exact Or.inl ⟨z1, Or.inl ⟨z2, by omega, by omega⟩⟩
  · exact Or.inr (Or.inr (Or.inl ⟨z1, Or.inl z2⟩))
/-- given: the row, the sets -/
def Gvn (b : Nat) (C : Cd) (ra : Nat) (s' : ASt) (acc' : List Int) (C' : Cd) : Prop := RowV C' ra acc' ∧ Fp (sG b ra) C C' ∧ csz C' = csz C ∧ csl C' = csl C ∧ SeC b C' s'
theorem set_24 {x y : Nat} (hx : x < 16777216) (hy : y < 16777216) : orI (x : Int) (y : Int) = ((x ||| y : Nat) : Int) := orI_N (by omega) (by omega)
theorem X1_giveExists_ (h : XS b C E VA up s R) (hc : CurR b C E s ra) {r : Nat} (hA : RunF b C r f ra) (hra : RowV C ra acc) {x : Int} (hx : -1 ≤ x ∧ x < 1000) :
   ∃ C', fX1_giveExists (b + 1) (some (b + 333 + r)) x C = some ((), C') ∧ (if 0 ≤ x ∧ x < 24 then Gvn b C ra (uSe s 0 0 (2 ^ x.toNat) 0 0) (apl acc (if eSn E x.toNat = -1 then 0 else 1)) C' else Gvn b C ra s (apl acc 0) C') := by
  obtain ⟨hr, hf41, h900, h901⟩ := hA
  have hL := h.1
  have hU := hL.uo hr
  have hz := hL.sz
  have hSe := h.2.2.2.2.2.1
  have hE := h.2.2.2.2.2.2.2.2
  have h411 := h.2.2.2.2.2.2.1.2.2.2.2.2
  have hcur := h.dy11 hc
  have c0 := h.cur0 hc
  by_cases c : 0 ≤ x ∧ x < 24
  · suffices hh : ∃ C', fX1_giveExists (b + 1) (some (b + 333 + r)) x C = some ((), C') ∧ Gvn b C ra (uSe s 0 0 (2 ^ x.toNat) 0 0) (apl acc (if eSn E x.toNat = -1 then 0 else 1)) C' by
      obtain ⟨C', a1, a2⟩ := hh
      exact ⟨C', a1, by rw [if_pos c]; exact a2⟩
    obtain ⟨xn, rfl⟩ : ∃ n : Nat, x = (n : Int) := ⟨x.toNat, by omega⟩
    unfold fX1_giveExists
    rw [bnd_eq, bnd_eq, if_neg (by rw [w32_n (by omega)]; omega), if_neg (by rw [w32_n (by omega), show w32 24 = 24 from rfl]; omega)]
    dsimp only
    have hset := orI_set hSe.2.2.1.2 (v := xn) (by omega)
    rw [Int.toNat_natCast, bnd_eq, if_neg (by decide), if_pos hL.oe, bnd_eq, drf_eq hL.x7, if_pos hL.od, if_pos hL.od, bnd_eq, hSe.2.2.1.1, hset]
    generalize hD : cSetI C 705 (b + 10) ((aRd s ||| 2 ^ xn : Nat) : Int) = D
    have fD : Fp (sG b ra) C D := by rw [← hD]; exact (Fp.rf hL.W).sI (Or.inr (Or.inl ⟨rfl, rfl, by decide, by decide⟩))
    have fDx := fD.mono (T := sX b (DyC b C)) (fun _ _ _ _ z => z.x hcur)
    have hLD := hL.keep (fDx.mono (fun _ _ _ _ z => z.mu))
    have hta := (hE D fDx).2.1 xn (by omega)
    have u1 : isO D (b + 333 + r) 9 := by rw [← hD]; exact hU
    have u2 : cR D 901 (b + 333 + r) = some ra := by rw [← hD]; exact h901
    have u3 : cI D 411 (b + 1) = up := by rw [← hD, cI_I2 _ _ (Or.inl (by decide))]; exact h411
    have rD : RowV D ra acc := by
      rw [← hD]
      exact hra.fp hL.W (Fp.I (S := fun q k a => q = 0 ∧ k = 705) hL.W _ _ _ ⟨rfl, rfl⟩) (by omega) (by omega) (by omega) (by omega)
    have sD : cI D 705 (b + 10) = ((aRd s ||| 2 ^ xn : Nat) : Int) := by rw [← hD]; exact cI_I1 _ _ _ _
    have sD2 : ∀ k, k ≠ 705 → cI D k (b + 10) = cI C k (b + 10) := fun k hk => by rw [← hD]; exact cI_I2 _ _ (Or.inl hk)
    have fin : ∀ y : Int, 0 ≤ y ∧ y < 10000 → ∃ C', fX5_add ra y D = some ((), C') ∧ Gvn b C ra (uSe s 0 0 (2 ^ xn) 0 0) (apl acc y) C' := by
      intro y hy
      obtain ⟨C', e, r1, f1, s1, l1⟩ := X5_add_ hLD.W rD hy.1 hy.2
      have zz : ∀ k, 703 ≤ k → k ≤ 707 → cI C' k (b + 10) = cI D k (b + 10) := fun k k1 k2 => f1.fI (by have := hLD.sz; omega) (by unfold sRow; omega)
      refine ⟨C', e, r1, fD.tr2 f1 (fun _ _ _ _ z => Or.inl z), s1.trans (by rw [← hD]; rfl), l1.trans (by rw [← hD]; rfl), ?_⟩
      refine ⟨⟨?_, ?_⟩, ⟨?_, ?_⟩, ⟨?_, ?_⟩, ⟨?_, ?_⟩, ⟨?_, ?_⟩⟩
      · rw [zz 703 (by decide) (by decide), sD2 703 (by decide), hSe.1.1]; show _ = ((aLk s ||| 0 : Nat) : Int); rw [uSe_0]
      · show aLk s ||| 0 < _; rw [uSe_0]; exact hSe.1.2
      · rw [zz 704 (by decide) (by decide), sD2 704 (by decide), hSe.2.1.1]; show _ = ((aCt s ||| 0 : Nat) : Int); rw [uSe_0]
      · show aCt s ||| 0 < _; rw [uSe_0]; exact hSe.2.1.2
      · rw [zz 705 (by decide) (by decide), sD]; rfl
      · exact or_24 hSe.2.2.1.2 (by omega)
      · rw [zz 706 (by decide) (by decide), sD2 706 (by decide), hSe.2.2.2.1.1]; show _ = ((aCd s ||| 0 : Nat) : Int); rw [uSe_0]
      · show aCd s ||| 0 < _; rw [uSe_0]; exact hSe.2.2.2.1.2
      · rw [zz 707 (by decide) (by decide), sD2 707 (by decide), hSe.2.2.2.2.1]; show _ = ((aUs s ||| 0 : Nat) : Int); rw [uSe_0]
      · show aUs s ||| 0 < _; rw [uSe_0]; exact hSe.2.2.2.2.2
    dsimp only
    rw [drf_some, if_pos u1, bnd_eq, bnd_eq, bnd_eq, if_neg (by decide), if_pos hLD.oe, if_pos hLD.oe, u3, cal_of hta]
    unfold tRef
    by_cases c2 : eSn E xn = -1
    · obtain ⟨C', e, g⟩ := fin 0 (by omega)
      rw [if_pos c2, if_pos c2, opt_none]
      refine ⟨C', ?_, g⟩
      dsimp only
      rw [drf_eq u2, if_pos rD.ob, cal_of e]
    · obtain ⟨C', e, g⟩ := fin 1 (by omega)
      rw [if_neg c2, if_neg c2, opt_some]
      refine ⟨C', ?_, g⟩
      dsimp only
      rw [drf_eq u2, if_pos rD.ob, cal_of e]
  · suffices hh : ∃ C', fX1_giveExists (b + 1) (some (b + 333 + r)) x C = some ((), C') ∧ Gvn b C ra s (apl acc 0) C' by
      obtain ⟨C', a1, a2⟩ := hh
      exact ⟨C', a1, by rw [if_neg c]; exact a2⟩
    obtain ⟨C', e, r1, f1, s1, l1⟩ := X5_add_ hL.W hra (x := 0) (by omega) (by omega)
    refine ⟨C', ?_, r1, f1.mono (fun _ _ _ _ z => Or.inl z), s1, l1, hSe.of (fun k k1 k2 => f1.fI (by omega) (by unfold sRow; omega))⟩
    have tail : (bnd (fun  (C_35 : Cd) =>
drf (some (b + 333 + r)) fun (p1 : Nat) =>
if isO C_35 p1 9 then bnd (cR C_35 901 p1) fun (z2 : Option Nat) =>
bnd (fun (t0_60 : Int) (C_60 : Cd) =>
drf z2 fun (p3 : Nat) =>
if isO C_60 p3 8 then cal (fX5_add p3 t0_60 C_60) fun (r5 : Unit) (C4 : Cd) =>
some ((), C4)
else none) fun J60 =>
bnd (fun  (C_59 : Cd) =>
J60 0 C_59) fun J59 =>
if w32 0 = 0 then
J59 C_35
else
if isO C_35 (b + 1) 4 then
if isO C_35 (b + 1) 4 then cal (fX1_textAt (b + 1) x (cI C_35 411 (b + 1)) C_35) fun (r7 : Option Nat) (C6 : Cd) =>
opt r7 (
J59 C6) (fun (p8 : Nat) =>
J60 1 C6)
else none
else none
else none) fun J35 =>
if w32 0 = 0 then
J35 C
else
if isO C (b + 1) 4 then bnd (cR C 407 (b + 1)) fun (z9 : Option Nat) =>
drf z9 fun (p10 : Nat) =>
if isO C p10 7 then
if isO C p10 7 then bnd (cSetI C 705 p10 (orI (cI C 705 p10) (shlI 1 x))) fun (C11 : Cd) =>
J35 C11
else none
else none
else none) = some ((), C') := by
      rw [bnd_eq, if_pos (by decide)]
      dsimp only
      rw [drf_some, if_pos hU, bnd_eq, bnd_eq, bnd_eq, if_pos (by decide)]
      dsimp only
      rw [drf_eq h901, if_pos hra.ob, cal_of e]
    unfold fX1_giveExists
    rw [bnd_eq, bnd_eq]
    by_cases c2 : x < 0
    · rw [if_pos (by rw [w32_of (by omega) (by omega)]; exact c2)]
      exact tail
    · rw [if_neg (by rw [w32_of (by omega) (by omega)]; exact c2), if_pos (by rw [w32_of (x := x) (by omega) (by omega), show w32 24 = 24 from rfl]; omega)]
      exact tail
theorem X1_countedMembers_ (h : XS b C E VA up s R) (hc : CurR b C E s ra) (hra : RowV C ra acc) {x : Int} (hx : -1 ≤ x ∧ x < 1000) :
   ∃ C', (if 0 ≤ x ∧ x < 8 then fX1_countedMembers (b + 1) x C = some ((eMb E x.toNat : Int), C') ∧ Gvn b C ra (uSe s 0 0 0 (2 ^ x.toNat) 0) acc C' else fX1_countedMembers (b + 1) x C = some (0, C') ∧ C' = C) := by
  have hL := h.1
  have hz := hL.sz
  have hSe := h.2.2.2.2.2.1
  have hE := h.2.2.2.2.2.2.2.2
  have hcur := h.dy11 hc
  have c0 := h.cur0 hc
  unfold fX1_countedMembers
  rw [bnd_eq, w32_of (x := x) (by omega) (by omega), show w32 8 = 8 from rfl]
  by_cases c : 0 ≤ x ∧ x < 8
  · obtain ⟨xn, rfl⟩ : ∃ n : Nat, x = (n : Int) := ⟨x.toNat, by omega⟩
    have hset := orI_set (s := aCd s) (v := xn) (by have := hSe.2.2.2.1.2; omega) (by omega)
    rw [if_neg (by omega), if_pos (by omega), if_pos hL.oe, bnd_eq, drf_eq hL.x7, if_pos hL.od, if_pos hL.od, bnd_eq, hSe.2.2.2.1.1, hset]
    generalize hD : cSetI C 706 (b + 10) ((aCd s ||| 2 ^ xn : Nat) : Int) = D
    have fD : Fp (sG b ra) C D := by rw [← hD]; exact (Fp.rf hL.W).sI (Or.inr (Or.inl ⟨rfl, rfl, by decide, by decide⟩))
    have fDx := fD.mono (T := sX b (DyC b C)) (fun _ _ _ _ z => z.x hcur)
    have hLD := hL.keep (fDx.mono (fun _ _ _ _ z => z.mu))
    have hmb := (hE D fDx).2.2.1 xn (by omega)
    have rD : RowV D ra acc := by
      rw [← hD]
      exact hra.fp hL.W (Fp.I (S := fun q k a => q = 0 ∧ k = 706) hL.W _ _ _ ⟨rfl, rfl⟩) (by omega) (by omega) (by omega) (by omega)
    have sD : cI D 706 (b + 10) = ((aCd s ||| 2 ^ xn : Nat) : Int) := by rw [← hD]; exact cI_I1 _ _ _ _
    have sD2 : ∀ k, k ≠ 706 → cI D k (b + 10) = cI C k (b + 10) := fun k hk => by rw [← hD]; exact cI_I2 _ _ (Or.inl hk)
    refine ⟨D, ?_⟩
    rw [if_pos c, Int.toNat_natCast, if_pos hLD.oe, bnd_eq, hLD.x0, cal_of hmb]
    refine ⟨rfl, rD, fD, by rw [← hD]; rfl, by rw [← hD]; rfl, ?_⟩
    refine ⟨⟨?_, ?_⟩, ⟨?_, ?_⟩, ⟨?_, ?_⟩, ⟨?_, ?_⟩, ⟨?_, ?_⟩⟩
    · rw [sD2 703 (by decide), hSe.1.1]; show _ = ((aLk s ||| 0 : Nat) : Int); rw [uSe_0]
    · show aLk s ||| 0 < _; rw [uSe_0]; exact hSe.1.2
    · rw [sD2 704 (by decide), hSe.2.1.1]; show _ = ((aCt s ||| 0 : Nat) : Int); rw [uSe_0]
    · show aCt s ||| 0 < _; rw [uSe_0]; exact hSe.2.1.2
    · rw [sD2 705 (by decide), hSe.2.2.1.1]; show _ = ((aRd s ||| 0 : Nat) : Int); rw [uSe_0]
    · show aRd s ||| 0 < _; rw [uSe_0]; exact hSe.2.2.1.2
    · rw [sD]; rfl
    · exact or_8 hSe.2.2.2.1.2 (by omega)
    · rw [sD2 707 (by decide), hSe.2.2.2.2.1]; show _ = ((aUs s ||| 0 : Nat) : Int); rw [uSe_0]
    · show aUs s ||| 0 < _; rw [uSe_0]; exact hSe.2.2.2.2.2
  · refine ⟨C, ?_⟩
    rw [if_neg c]
    by_cases c2 : x < 0
    · rw [if_pos c2]
      exact ⟨rfl, rfl⟩
    · rw [if_neg c2, if_neg (by omega)]
      exact ⟨rfl, rfl⟩
end GV2
