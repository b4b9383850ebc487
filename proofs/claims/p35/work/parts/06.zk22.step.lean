/-! THE CLASS'S STEPS, the plain tokens -/
def S1 (b U ra q k a : Nat) : Prop := (q = 0 ∧ k = 902 ∧ a = U) ∨ sRow ra q k a ∨ (q = 0 ∧ a = b + 10 ∧ 703 ≤ k ∧ k ≤ 707)
theorem orI_set {s v : Nat} (hs : s < 16777216) (hv : v < 24) : orI (s : Int) (shlI 1 (v : Int)) = ((s ||| 2 ^ v : Nat) : Int) := by
  have h2 : (2 : Nat) ^ v < 2 ^ 24 := Nat.pow_lt_pow_right (by decide) hv
  rw [two_N (by omega), orI_N (by omega) (by omega)]
theorem or_24 {s v : Nat} (hs : s < 16777216) (hv : v < 24) : s ||| 2 ^ v < 16777216 := by
  have h2 : (2 : Nat) ^ v < 2 ^ 24 := Nat.pow_lt_pow_right (by decide) hv
  exact Nat.or_lt_two_pow (n := 24) hs h2
section STP
variable {b : Nat} {C : Cd} {r f ra t n i : Nat} {g : Nat → Int} {acc : List Int}
/-- where a run stands -/
def RunAt (b : Nat) (C : Cd) (r f ra i : Nat) : Prop := r < 512 ∧ f < 41 ∧ cR C 900 (b + 333 + r) = some (b + 169 + 4 * f) ∧ cR C 901 (b + 333 + r) = some ra ∧ cI C 902 (b + 333 + r) = (i : Int)
theorem Lay.uo (h : Lay b C) {r : Nat} (hr : r < 512) : isO C (b + 333 + r) 9 := (h.2.2.2.2.2.2.2.1 r hr).2
theorem Lay.up (h : Lay b C) {r : Nat} (hr : r < 512) : cP C (b + 5) r = some (b + 333 + r) := (h.2.2.2.2.2.2.2.1 r hr).1
theorem Lay.ou (h : Lay b C) : isO C (b + 5) 105 := h.2.2.1.2.2.2.2.2.1.1
theorem Lay.nu (h : Lay b C) : cn C (b + 5) = 512 := h.2.2.1.2.2.2.2.2.1.2
theorem Lay.of (h : Lay b C) : isO C (b + 4) 104 := h.2.2.1.2.2.2.2.1.1
theorem Lay.nf (h : Lay b C) : cn C (b + 4) = 41 := h.2.2.1.2.2.2.2.1.2
theorem Lay.os (h : Lay b C) : isO C (b + 8) 100 := h.2.2.1.2.2.2.2.2.2.2.1.1
theorem Lay.ns (h : Lay b C) : cn C (b + 8) = 8 := h.2.2.1.2.2.2.2.2.2.2.1.2
theorem Lay.op (h : Lay b C) : isO C (b + 9) 100 := h.2.2.1.2.2.2.2.2.2.2.2.1.1
theorem Lay.np (h : Lay b C) : cn C (b + 9) = 30 := h.2.2.1.2.2.2.2.2.2.2.2.1.2
theorem Lay.od (h : Lay b C) : isO C (b + 10) 7 := h.2.2.1.2.2.2.2.2.2.2.2.2.1
theorem Lay.fo (h : Lay b C) {f : Nat} (hf : f < 41) : isO C (b + 169 + 4 * f) 5 := (h.2.2.2.2.2.2.1 f hf).2.1
theorem Lay.fp_ (h : Lay b C) {f : Nat} (hf : f < 41) : cP C (b + 4) f = some (b + 169 + 4 * f) := (h.2.2.2.2.2.2.1 f hf).1
theorem Lay.fa (h : Lay b C) {f : Nat} (hf : f < 41) : cR C 500 (b + 169 + 4 * f) = some (b + 169 + 4 * f + 1) := (h.2.2.2.2.2.2.1 f hf).2.2.1
theorem Lay.fr (h : Lay b C) {f : Nat} (hf : f < 41) : cR C 501 (b + 169 + 4 * f) = some (b + 169 + 4 * f + 2) := (h.2.2.2.2.2.2.1 f hf).2.2.2.1
theorem Lay.fb (h : Lay b C) {f : Nat} (hf : f < 41) : cR C 502 (b + 169 + 4 * f) = some (b + 169 + 4 * f + 3) := (h.2.2.2.2.2.2.1 f hf).2.2.2.2.1
theorem Lay.fao (h : Lay b C) {f : Nat} (hf : f < 41) : isO C (b + 169 + 4 * f + 1) 100 := (h.2.2.2.2.2.2.1 f hf).2.2.2.2.2.1.1
theorem Lay.fan (h : Lay b C) {f : Nat} (hf : f < 41) : cn C (b + 169 + 4 * f + 1) = 10 := (h.2.2.2.2.2.2.1 f hf).2.2.2.2.2.1.2
theorem Lay.fro (h : Lay b C) {f : Nat} (hf : f < 41) : isO C (b + 169 + 4 * f + 2) 106 := (h.2.2.2.2.2.2.1 f hf).2.2.2.2.2.2.1.1
theorem Lay.frn (h : Lay b C) {f : Nat} (hf : f < 41) : cn C (b + 169 + 4 * f + 2) = 30 := (h.2.2.2.2.2.2.1 f hf).2.2.2.2.2.2.1.2
theorem Lay.fbo (h : Lay b C) {f : Nat} (hf : f < 41) : isO C (b + 169 + 4 * f + 3) 101 := (h.2.2.2.2.2.2.1 f hf).2.2.2.2.2.2.2.1
theorem Lay.fbn (h : Lay b C) {f : Nat} (hf : f < 41) : cn C (b + 169 + 4 * f + 3) = 30 := (h.2.2.2.2.2.2.1 f hf).2.2.2.2.2.2.2.2
theorem step_word (hL : Lay b C) (hA : RunAt b C r f ra i) (h504 : cR C 504 (b + 169 + 4 * f) = some t) (hT : Stl C t g n) (hi : i < n) (ek : g i / 1000 = 0) (hR : RowV C ra acc) :
   ∃ C', fX1_stepOn (b + 1) (some (b + 333 + r)) C = some ((), C') ∧ RowV C' ra (apl acc (g i % 1000)) ∧ cI C' 902 (b + 333 + r) = (i : Int) + 1 ∧ Fp (S1 b (b + 333 + r) ra) C C' ∧ csz C' = csz C ∧ csl C' = csl C ∧ (∀ k, 703 ≤ k → k ≤ 707 → cI C' k (b + 10) = cI C k (b + 10)) := by
  obtain ⟨hr, hf, h900, h901, h902⟩ := hA
  have hU := hL.uo hr
  have hF := hL.fo hf
  have hTo := hT.1.isO_
  have htk := hT.1.tks i hi
  have hn := hT.1.n90
  have hV := hT.1.value hi
  have hK := hT.1.kind hi
  have hUz := hL.W _ hU.1
  have hfz := hL.W _ hL.od.1
  obtain ⟨C1, e1, r1, f1, s1, l1⟩ := X5_add_ hL.W hR (x := g i % 1000) (by omega) (by omega)
  have i1 : cI C1 902 (b + 333 + r) = (i : Int) := (f1.fI hUz (by unfold sRow; omega)).trans h902
  have u1 := f1.ob hL.W hU
  have f2 : Fp (S1 b (b + 333 + r) ra) C (cSetI C1 902 (b + 333 + r) ((i : Int) + 1)) := (f1.mono (fun _ _ _ _ z => Or.inr (Or.inl z))).sI (Or.inl ⟨rfl, rfl, rfl⟩)
  refine ⟨cSetI C1 902 (b + 333 + r) ((i : Int) + 1), ?_, r1.fp f1.wf (Fp.I (S := fun q k a => q = 0 ∧ k = 902) f1.wf _ _ _ ⟨rfl, rfl⟩) (by omega) (by omega) (by omega) (by omega), cI_I1 _ _ _ _, f2, s1, l1, fun k k1 k2 => ?_⟩
  ·
    unfold fX1_stepOn
    rw [drf_some, if_pos hU, bnd_eq, drf_eq h900, if_pos hF, bnd_eq, if_pos hU, bnd_eq, drf_eq h504, if_pos hTo, h902, cal_of hV, if_pos hTo, cal_of hK, bnd_eq, bnd_eq, ek]
    rw [if_pos (by decide), if_pos hU, bnd_eq, drf_eq h901, if_pos hR.ob, cal_of e1]
    dsimp only
    rw [if_pos u1, if_pos u1, bnd_eq, i1]
  · rw [cI_I2 _ _ (Or.inl (by omega))]
    exact f1.fI hfz (by unfold sRow; omega)
theorem step_link (hL : Lay b C) (hA : RunAt b C r f ra i) (h504 : cR C 504 (b + 169 + 4 * f) = some t) (hT : Stl C t g n) (hi : i < n) (ek : g i / 1000 = 1 ∨ g i / 1000 = 12) (hv : g i % 1000 < 24) (hR : RowV C ra acc) {lk : Nat} (hlk : cI C 703 (b + 10) = (lk : Int)) (hlk2 : lk < 16777216) :
   ∃ C', fX1_stepOn (b + 1) (some (b + 333 + r)) C = some ((), C') ∧ RowV C' ra (apl acc (1000 + g i % 1000)) ∧ cI C' 902 (b + 333 + r) = (i : Int) + 1 ∧ Fp (S1 b (b + 333 + r) ra) C C' ∧ csz C' = csz C ∧ csl C' = csl C ∧ cI C' 703 (b + 10) = ((lk ||| 2 ^ (g i % 1000).toNat : Nat) : Int) ∧ (∀ k, 704 ≤ k → k ≤ 707 → cI C' k (b + 10) = cI C k (b + 10)) := by
  obtain ⟨hr, hf, h900, h901, h902⟩ := hA
  have hU := hL.uo hr
  have hF := hL.fo hf
  have hTo := hT.1.isO_
  have htk := hT.1.tks i hi
  have hn := hT.1.n90
  have hV := hT.1.value hi
  have hK := hT.1.kind hi
  have hUz := hL.W _ hU.1
  have hfz := hL.W _ hL.od.1
  have ev : g i % 1000 = (((g i % 1000).toNat : Nat) : Int) := by omega
  have f0 : Fp (S1 b (b + 333 + r) ra) C (cSetI C 703 (b + 10) ((lk ||| 2 ^ (g i % 1000).toNat : Nat) : Int)) := (Fp.rf hL.W).sI (Or.inr (Or.inr ⟨rfl, rfl, by omega, by omega⟩))
  have hR0 : RowV (cSetI C 703 (b + 10) ((lk ||| 2 ^ (g i % 1000).toNat : Nat) : Int)) ra acc := hR.fp hL.W (Fp.I (S := fun q k a => q = 0 ∧ k = 703) hL.W _ _ _ ⟨rfl, rfl⟩) (by omega) (by omega) (by omega) (by omega)
  have hset : orI (cI C 703 (b + 10)) (shlI 1 (g i % 1000)) = ((lk ||| 2 ^ (g i % 1000).toNat : Nat) : Int) := by
    rw [hlk, ev]
    have h := orI_set (s := lk) (v := (g i % 1000).toNat) hlk2 (by omega)
    rw [h, Int.toNat_natCast]
  obtain ⟨C1, e1, r1, f1, s1, l1⟩ := X5_add_ f0.wf hR0 (x := 1000 + g i % 1000) (by omega) (by omega)
  have f1' : Fp (S1 b (b + 333 + r) ra) C C1 := f0.tr2 f1 (fun _ _ _ _ z => Or.inr (Or.inl z))
  have i1 : cI C1 902 (b + 333 + r) = (i : Int) := ((f1.fI (C := cSetI C 703 (b + 10) _) hUz (by unfold sRow; omega)).trans (cI_I2 _ _ (Or.inl (by decide)))).trans h902
  have u1 := f1'.ob hL.W hU
  have f2 : Fp (S1 b (b + 333 + r) ra) C (cSetI C1 902 (b + 333 + r) ((i : Int) + 1)) := f1'.sI (Or.inl ⟨rfl, rfl, rfl⟩)
  have hx7 := hL.x7
  refine ⟨cSetI C1 902 (b + 333 + r) ((i : Int) + 1), ?_, r1.fp f1.wf (Fp.I (S := fun q k a => q = 0 ∧ k = 902) f1.wf _ _ _ ⟨rfl, rfl⟩) (by omega) (by omega) (by omega) (by omega), cI_I1 _ _ _ _, f2, s1, l1, ?_, fun k k1 k2 => ?_⟩
  · have tail : ∀ X : Option (Unit × Cd), X = (if isO C (b + 1) 4 then bnd (cR C 407 (b + 1)) fun (z11 : Option Nat) =>
drf z11 fun (p12 : Nat) =>
if isO C p12 7 then
if isO C p12 7 then bnd (cSetI C 703 p12 (orI (cI C 703 p12) (shlI 1 (g i % 1000)))) fun (C13 : Cd) =>
if isO C13 (b + 333 + r) 9 then bnd (cR C13 901 (b + 333 + r)) fun (z14 : Option Nat) =>
drf z14 fun (p15 : Nat) =>
if isO C13 p15 8 then cal (fX5_add p15 (1000 + g i % 1000) C13) fun (r17 : Unit) (C16 : Cd) =>
if isO C16 (b + 333 + r) 9 then
if isO C16 (b + 333 + r) 9 then bnd (cSetI C16 902 (b + 333 + r) ((cI C16 902 (b + 333 + r)) + 1)) fun (C10 : Cd) =>
some ((), C10)
else none
else none
else none
else none
else none
else none
else none) → X = some ((), cSetI C1 902 (b + 333 + r) ((i : Int) + 1)) := by
      intro X hX
      rw [hX, if_pos hL.oe, bnd_eq, drf_eq hx7, if_pos hL.od, if_pos hL.od, bnd_eq, hset, if_pos (show isO (cSetI C 703 (b + 10) _) (b + 333 + r) 9 from hU), bnd_eq, drf_eq (show cR (cSetI C 703 (b + 10) _) 901 (b + 333 + r) = some ra from h901), if_pos hR0.ob, cal_of e1, if_pos u1, if_pos u1, bnd_eq, i1]
    refine tail _ ?_
    unfold fX1_stepOn
    rw [drf_some, if_pos hU, bnd_eq, drf_eq h900, if_pos hF, bnd_eq, if_pos hU, bnd_eq, drf_eq h504, if_pos hTo, h902, cal_of hV, if_pos hTo, cal_of hK, bnd_eq, bnd_eq]
    rcases ek with ek | ek
    · rw [ek, if_neg (by decide), if_pos (by decide)]
    · rw [ek, if_neg (by decide), if_neg (by decide), if_neg (by decide), if_neg (by decide), if_neg (by decide), if_neg (by decide), if_neg (by decide), if_neg (by decide), if_neg (by decide), if_neg (by decide), if_neg (by decide), if_neg (by decide), if_pos (by decide)]
  · rw [cI_I2 _ _ (Or.inl (by decide)), f1.fI (C := cSetI C 703 (b + 10) _) hfz (by unfold sRow; omega)]
    exact cI_I1 _ _ _ _
  · rw [cI_I2 _ _ (Or.inl (by omega)), f1.fI (C := cSetI C 703 (b + 10) _) hfz (by unfold sRow; omega)]
    exact cI_I2 _ _ (Or.inl (by omega))
theorem step_cat (hL : Lay b C) (hA : RunAt b C r f ra i) (h504 : cR C 504 (b + 169 + 4 * f) = some t) (hT : Stl C t g n) (hi : i < n) (ek : g i / 1000 = 11) (hv : g i % 1000 < 8) (hR : RowV C ra acc) {ct : Nat} (hct : cI C 704 (b + 10) = (ct : Int)) (hct2 : ct < 256) :
   ∃ C', fX1_stepOn (b + 1) (some (b + 333 + r)) C = some ((), C') ∧ RowV C' ra acc ∧ cI C' 902 (b + 333 + r) = (i : Int) + 1 ∧ Fp (S1 b (b + 333 + r) ra) C C' ∧ csz C' = csz C ∧ csl C' = csl C ∧ cI C' 704 (b + 10) = ((ct ||| 2 ^ (g i % 1000).toNat : Nat) : Int) ∧ (∀ k, k ≠ 704 → k ≠ 902 → cI C' k (b + 10) = cI C k (b + 10)) := by
  obtain ⟨hr, hf, h900, h901, h902⟩ := hA
  have hU := hL.uo hr
  have hF := hL.fo hf
  have hTo := hT.1.isO_
  have htk := hT.1.tks i hi
  have hn := hT.1.n90
  have hV := hT.1.value hi
  have hK := hT.1.kind hi
  have hUz := hL.W _ hU.1
  have hfz := hL.W _ hL.od.1
  have ev : g i % 1000 = (((g i % 1000).toNat : Nat) : Int) := by omega
  have hset : orI (cI C 704 (b + 10)) (shlI 1 (g i % 1000)) = ((ct ||| 2 ^ (g i % 1000).toNat : Nat) : Int) := by
    rw [hct, ev]
    have h := orI_set (s := ct) (v := (g i % 1000).toNat) (by omega) (by omega)
    rw [h, Int.toNat_natCast]
  have f2 : Fp (S1 b (b + 333 + r) ra) C (cSetI (cSetI C 704 (b + 10) ((ct ||| 2 ^ (g i % 1000).toNat : Nat) : Int)) 902 (b + 333 + r) ((i : Int) + 1)) := ((Fp.rf hL.W).sI (Or.inr (Or.inr ⟨rfl, rfl, by omega, by omega⟩))).sI (Or.inl ⟨rfl, rfl, rfl⟩)
  have f3 : Fp (fun q k a => q = 0 ∧ (k = 704 ∨ k = 902)) C (cSetI (cSetI C 704 (b + 10) ((ct ||| 2 ^ (g i % 1000).toNat : Nat) : Int)) 902 (b + 333 + r) ((i : Int) + 1)) := ((Fp.rf hL.W).sI ⟨rfl, Or.inl rfl⟩).sI ⟨rfl, Or.inr rfl⟩
  refine ⟨_, ?_, hR.fp hL.W f3 (by omega) (by omega) (by omega) (by omega), cI_I1 _ _ _ _, f2, rfl, rfl, ?_, fun k k1 k2 => f3.fI hfz (by omega)⟩
  ·
    unfold fX1_stepOn
    rw [drf_some, if_pos hU, bnd_eq, drf_eq h900, if_pos hF, bnd_eq, if_pos hU, bnd_eq, drf_eq h504, if_pos hTo, h902, cal_of hV, if_pos hTo, cal_of hK, bnd_eq, bnd_eq, ek]
    rw [if_neg (by decide), if_neg (by decide), if_neg (by decide), if_neg (by decide), if_neg (by decide), if_neg (by decide), if_neg (by decide), if_neg (by decide), if_neg (by decide), if_neg (by decide), if_neg (by decide), if_pos (by decide), if_pos hL.oe, bnd_eq, drf_eq hL.x7, if_pos hL.od, if_pos hL.od, bnd_eq, hset]
    dsimp only
    rw [if_pos (show isO (cSetI C 704 (b + 10) _) (b + 333 + r) 9 from hU), if_pos (show isO (cSetI C 704 (b + 10) _) (b + 333 + r) 9 from hU), bnd_eq]
    rw [cI_I2 _ _ (Or.inl (by decide)), h902]
  · rw [cI_I2 _ _ (Or.inl (by decide))]
    exact cI_I1 _ _ _ _
/-- what gives nothing is gone over -/
theorem step_skip (hL : Lay b C) (hA : RunAt b C r f ra i) (h504 : cR C 504 (b + 169 + 4 * f) = some t) (hT : Stl C t g n) (hi : i < n) (ek : g i / 1000 = 5 ∨ g i / 1000 = 6 ∨ g i / 1000 = 7 ∨ g i / 1000 = 10 ∨ g i / 1000 = 13) :
   fX1_stepOn (b + 1) (some (b + 333 + r)) C = some ((), cSetI C 902 (b + 333 + r) ((i : Int) + 1)) := by
  obtain ⟨hr, hf, h900, h901, h902⟩ := hA
  have hU := hL.uo hr
  have hF := hL.fo hf
  have hTo := hT.1.isO_
  have htk := hT.1.tks i hi
  have hn := hT.1.n90
  have hV := hT.1.value hi
  have hK := hT.1.kind hi
  have hUz := hL.W _ hU.1
  have hfz := hL.W _ hL.od.1
  unfold fX1_stepOn
  rw [drf_some, if_pos hU, bnd_eq, drf_eq h900, if_pos hF, bnd_eq, if_pos hU, bnd_eq, drf_eq h504, if_pos hTo, h902, cal_of hV, if_pos hTo, cal_of hK, bnd_eq, bnd_eq]
  rcases ek with ek | ek | ek | ek | ek
  · rw [ek, if_neg (by decide), if_neg (by decide), if_neg (by decide), if_neg (by decide), if_neg (by decide), if_pos (by decide)]
    dsimp only
    rw [if_pos hU, if_pos hU, bnd_eq, h902]
  · rw [ek, if_neg (by decide), if_neg (by decide), if_neg (by decide), if_neg (by decide), if_neg (by decide), if_neg (by decide), if_pos (by decide)]
    dsimp only
    rw [if_pos hU, if_pos hU, bnd_eq, h902]
  · rw [ek, if_neg (by decide), if_neg (by decide), if_neg (by decide), if_neg (by decide), if_neg (by decide), if_neg (by decide), if_neg (by decide), if_pos (by decide)]
    dsimp only
    rw [if_pos hU, if_pos hU, bnd_eq, h902]
  · rw [ek, if_neg (by decide), if_neg (by decide), if_neg (by decide), if_neg (by decide), if_neg (by decide), if_neg (by decide), if_neg (by decide), if_neg (by decide), if_neg (by decide), if_neg (by decide), if_pos (by decide)]
    dsimp only
    rw [if_pos hU, if_pos hU, bnd_eq, h902]
  · rw [ek, if_neg (by decide), if_neg (by decide), if_neg (by decide), if_neg (by decide), if_neg (by decide), if_neg (by decide), if_neg (by decide), if_neg (by decide), if_neg (by decide), if_neg (by decide), if_neg (by decide), if_neg (by decide), if_neg (by decide)]
    dsimp only
    rw [if_pos hU, if_pos hU, bnd_eq, h902]
/-- ONLYIN and NOTIN: into the content, or behind it -/
theorem step_in (hL : Lay b C) (hA : RunAt b C r f ra i) (h504 : cR C 504 (b + 169 + 4 * f) = some t) (hT : Stl C t g n) (hi : i < n) (ek : g i / 1000 = 8 ∨ g i / 1000 = 9) {d : Nat} (hd : cI C 506 (b + 169 + 4 * f) = (d : Int)) (hd2 : d < 100) :
   fX1_stepOn (b + 1) (some (b + 333 + r)) C = some ((), cSetI (cSetI C 902 (b + 333 + r) (if (g i / 1000 = 8 ∧ 0 < d) ∨ (g i / 1000 = 9 ∧ d = 0) then (i : Int) else (fE g n i : Int))) 902 (b + 333 + r) ((if (g i / 1000 = 8 ∧ 0 < d) ∨ (g i / 1000 = 9 ∧ d = 0) then (i : Int) else (fE g n i : Int)) + 1)) := by
  obtain ⟨hr, hf, h900, h901, h902⟩ := hA
  have hU := hL.uo hr
  have hF := hL.fo hf
  have hTo := hT.1.isO_
  have htk := hT.1.tks i hi
  have hn := hT.1.n90
  have hV := hT.1.value hi
  have hK := hT.1.kind hi
  have hUz := hL.W _ hU.1
  have hfz := hL.W _ hL.od.1
  have hE : fX8_endAt t (i : Int) C = some ((fE g n i : Int), C) := by rw [X8_endAt_in hT.1.1 hi, hT.2 i hi]
  have hwd : w32 (d : Int) = (d : Int) := w32_n (by omega)
  rcases ek with ek | ek <;> by_cases c : 0 < d
  · rw [show (if (g i / 1000 = 8 ∧ 0 < d) ∨ (g i / 1000 = 9 ∧ d = 0) then (i : Int) else (fE g n i : Int)) = (i : Int) from if_pos (by omega)]
    unfold fX1_stepOn
    rw [drf_some, if_pos hU, bnd_eq, drf_eq h900, if_pos hF, bnd_eq, if_pos hU, bnd_eq, drf_eq h504, if_pos hTo, h902, cal_of hV, if_pos hTo, cal_of hK, bnd_eq, bnd_eq, ek, if_neg (by decide), if_neg (by decide), if_neg (by decide), if_neg (by decide), if_neg (by decide), if_neg (by decide), if_neg (by decide), if_neg (by decide), if_pos (by decide), if_pos hU, bnd_eq, drf_eq h900, if_pos hF, bnd_eq, hd, hwd, if_neg (show ¬ (d : Int) ≤ 0 by omega)]
    try dsimp only
    rw [if_pos hU, bnd_eq]
    try dsimp only
    rw [if_pos (show isO (cSetI C 902 _ _) (b + 333 + r) 9 from hU), if_pos (show isO (cSetI C 902 _ _) (b + 333 + r) 9 from hU), bnd_eq, cI_I1]
  · rw [show (if (g i / 1000 = 8 ∧ 0 < d) ∨ (g i / 1000 = 9 ∧ d = 0) then (i : Int) else (fE g n i : Int)) = (fE g n i : Int) from if_neg (by omega)]
    unfold fX1_stepOn
    rw [drf_some, if_pos hU, bnd_eq, drf_eq h900, if_pos hF, bnd_eq, if_pos hU, bnd_eq, drf_eq h504, if_pos hTo, h902, cal_of hV, if_pos hTo, cal_of hK, bnd_eq, bnd_eq, ek, if_neg (by decide), if_neg (by decide), if_neg (by decide), if_neg (by decide), if_neg (by decide), if_neg (by decide), if_neg (by decide), if_neg (by decide), if_pos (by decide), if_pos hU, bnd_eq, drf_eq h900, if_pos hF, bnd_eq, hd, hwd, if_pos (show (d : Int) ≤ 0 by omega), if_pos hTo, cal_of hE]
    try dsimp only
    rw [if_pos hU, bnd_eq]
    try dsimp only
    rw [if_pos (show isO (cSetI C 902 _ _) (b + 333 + r) 9 from hU), if_pos (show isO (cSetI C 902 _ _) (b + 333 + r) 9 from hU), bnd_eq, cI_I1]
  · rw [show (if (g i / 1000 = 8 ∧ 0 < d) ∨ (g i / 1000 = 9 ∧ d = 0) then (i : Int) else (fE g n i : Int)) = (fE g n i : Int) from if_neg (by omega)]
    unfold fX1_stepOn
    rw [drf_some, if_pos hU, bnd_eq, drf_eq h900, if_pos hF, bnd_eq, if_pos hU, bnd_eq, drf_eq h504, if_pos hTo, h902, cal_of hV, if_pos hTo, cal_of hK, bnd_eq, bnd_eq, ek, if_neg (by decide), if_neg (by decide), if_neg (by decide), if_neg (by decide), if_neg (by decide), if_neg (by decide), if_neg (by decide), if_neg (by decide), if_neg (by decide), if_pos (by decide), if_pos hU, bnd_eq, drf_eq h900, if_pos hF, bnd_eq, hd, hwd, if_neg (show ¬ (d : Int) ≤ 0 by omega), if_pos hTo, cal_of hE]
    try dsimp only
    rw [if_pos hU, bnd_eq]
    try dsimp only
    rw [if_pos (show isO (cSetI C 902 _ _) (b + 333 + r) 9 from hU), if_pos (show isO (cSetI C 902 _ _) (b + 333 + r) 9 from hU), bnd_eq, cI_I1]
  · rw [show (if (g i / 1000 = 8 ∧ 0 < d) ∨ (g i / 1000 = 9 ∧ d = 0) then (i : Int) else (fE g n i : Int)) = (i : Int) from if_pos (by omega)]
    unfold fX1_stepOn
    rw [drf_some, if_pos hU, bnd_eq, drf_eq h900, if_pos hF, bnd_eq, if_pos hU, bnd_eq, drf_eq h504, if_pos hTo, h902, cal_of hV, if_pos hTo, cal_of hK, bnd_eq, bnd_eq, ek, if_neg (by decide), if_neg (by decide), if_neg (by decide), if_neg (by decide), if_neg (by decide), if_neg (by decide), if_neg (by decide), if_neg (by decide), if_neg (by decide), if_pos (by decide), if_pos hU, bnd_eq, drf_eq h900, if_pos hF, bnd_eq, hd, hwd, if_pos (show (d : Int) ≤ 0 by omega)]
    try dsimp only
    rw [if_pos hU, bnd_eq]
    try dsimp only
    rw [if_pos (show isO (cSetI C 902 _ _) (b + 333 + r) 9 from hU), if_pos (show isO (cSetI C 902 _ _) (b + 333 + r) 9 from hU), bnd_eq, cI_I1]
end STP
