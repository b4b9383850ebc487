/-! WHAT THE CLASS'S FUNCTIONS GIVE: lists, modules -/
section GV3
variable {b : Nat} {C : Cd} {E : Env} {VA : Nat → Nat} {up : Int} {s : ASt} {R ra f : Nat} {pl : List Nat} {acc : List Int}
theorem bitCount_ {S : Nat} (h : S < 16777216) : fbitCount (S : Int) C = some ((nBits S 32 : Int), C) := by
  unfold fbitCount
  rw [w32_n (by omega), if_pos (by omega), Int.toNat_natCast]
theorem X1_giveList_ (h : XS b C E VA up s R) (hc : CurR b C E s ra) {r : Nat} (hA : RunF b C r f ra) (hra : RowV C ra acc) {S : Nat} (hS : S < 16777216) :
   ∃ C', fX1_giveList (b + 1) (some (b + 333 + r)) (S : Int) C = some ((), C') ∧ Gvn b C ra (uSe s S 0 0 0 0) (lsA S 24 0 acc) C' := by
  obtain ⟨hr, hf41, h900, h901⟩ := hA
  have hL := h.1
  have hU := hL.uo hr
  have hz := hL.sz
  have hSe := h.2.2.2.2.2.1
  have c0 := h.cur0 hc
  have hset := set_24 hSe.1.2 hS
  unfold fX1_giveList
  rw [if_pos hL.oe, bnd_eq, drf_eq hL.x7, if_pos hL.od, if_pos hL.od, bnd_eq, hSe.1.1, hset, bnd_eq]
  generalize hD : cSetI C 703 (b + 10) ((aLk s ||| S : Nat) : Int) = D
  have fD : Fp (sG b ra) C D := by rw [← hD]; exact (Fp.rf hL.W).sI (Or.inr (Or.inl ⟨rfl, rfl, by decide, by decide⟩))
  have rD : RowV D ra acc := by
    rw [← hD]
    exact hra.fp hL.W (Fp.I (S := fun q k a => q = 0 ∧ k = 703) hL.W _ _ _ ⟨rfl, rfl⟩) (by omega) (by omega) (by omega) (by omega)
  have u1 : isO D (b + 333 + r) 9 := by rw [← hD]; exact hU
  have u2 : cR D 901 (b + 333 + r) = some ra := by rw [← hD]; exact h901
  have sD : cI D 703 (b + 10) = ((aLk s ||| S : Nat) : Int) := by rw [← hD]; exact cI_I1 _ _ _ _
  have sD2 : ∀ k, k ≠ 703 → cI D k (b + 10) = cI C k (b + 10) := fun k hk => by rw [← hD]; exact cI_I2 _ _ (Or.inl hk)
  have WD : Wf D := fD.wf
  have zD : csz D = csz C ∧ csl D = csl C := by rw [← hD]; exact ⟨rfl, rfl⟩
  refine Exists.elim (lpn_rule (P := fun mm (L : Int → Cd → Option (Unit × Cd)) => ∀ (i : Nat) (a1 : List Int) (C1 : Cd), i ≤ 24 → 24 - i < mm → RowV C1 ra a1 → Fp (sRow ra) D C1 → csz C1 = csz D → csl C1 = csl D → ∃ C', L (i : Int) C1 = some ((), C') ∧ RowV C' ra (lsA S (24 - i) i a1) ∧ Fp (sRow ra) D C' ∧ csz C' = csz D ∧ csl C' = csl D) (fun i _ _ _ h => absurd h (Nat.not_lt_zero _)) (fun mm L hLL i a1 C1 hi hm hr1 f1 s1 l1 => ?_) FU 0 acc D (Nat.zero_le _) (by unfold FU; omega) rD (Fp.rf WD) rfl rfl) (fun C' q => ⟨C', q.1, q.2.1, fD.tr2 q.2.2.1 (fun _ _ _ _ z => Or.inl z), q.2.2.2.1.trans zD.1, q.2.2.2.2.trans zD.2, ?_⟩)
  · rcases Nat.lt_or_ge i 24 with hlt | hge
    · have e24 : 24 - i = (24 - (i + 1)) + 1 := by omega
      have hh := X11_has_ (s := S) (e := i) (C := C1) (by omega) (by omega)
      have u1' := f1.ob WD u1
      have u2' : cR C1 901 (b + 333 + r) = some ra := (f1.fR (WD _ u1.1) (by unfold sRow; omega)).trans u2
      rw [if_neg (by rw [show w32 24 = 24 from rfl, w32_n (by omega)]; omega), cal_of hh, e24, lsA]
      by_cases c : S.testBit i = true
      · obtain ⟨C2, e2, r2, f2, s2, l2⟩ := X5_add_ f1.wf hr1 (x := 1000 + (i : Int)) (by omega) (by omega)
        obtain ⟨C', e3, r3, f3⟩ := hLL (i + 1) _ C2 hlt (by omega) r2 (f1.tr f2) (s2.trans s1) (l2.trans l1)
        refine ⟨C', ?_, ?_, f3⟩
        · rw [if_pos c, bnd_eq, if_neg (by decide), drf_some, if_pos u1', bnd_eq, drf_eq u2', if_pos hr1.ob, cal_of e2]
          exact e3
        · rw [if_pos c]; exact r3
      · obtain ⟨C', e3, r3, f3⟩ := hLL (i + 1) a1 C1 hlt (by omega) hr1 f1 s1 l1
        refine ⟨C', ?_, ?_, f3⟩
        · rw [if_neg c, bnd_eq, if_pos (by decide)]
          exact e3
        · rw [if_neg c]; exact r3
    · have e : i = 24 := by omega
      subst e
      rw [if_pos (by decide)]
      exact ⟨C1, rfl, hr1, f1, s1, l1⟩
  · have zz : ∀ k, 703 ≤ k → k ≤ 707 → cI C' k (b + 10) = cI D k (b + 10) := fun k k1 k2 => q.2.2.1.fI (by rw [zD.1]; omega) (by unfold sRow; omega)
    refine ⟨⟨?_, ?_⟩, ⟨?_, ?_⟩, ⟨?_, ?_⟩, ⟨?_, ?_⟩, ⟨?_, ?_⟩⟩
    · rw [zz 703 (by decide) (by decide), sD]; rfl
    · exact Nat.or_lt_two_pow (n := 24) hSe.1.2 hS
    · rw [zz 704 (by decide) (by decide), sD2 704 (by decide), hSe.2.1.1]; show _ = ((aCt s ||| 0 : Nat) : Int); rw [uSe_0]
    · show aCt s ||| 0 < _; rw [uSe_0]; exact hSe.2.1.2
    · rw [zz 705 (by decide) (by decide), sD2 705 (by decide), hSe.2.2.1.1]; show _ = ((aRd s ||| 0 : Nat) : Int); rw [uSe_0]
    · show aRd s ||| 0 < _; rw [uSe_0]; exact hSe.2.2.1.2
    · rw [zz 706 (by decide) (by decide), sD2 706 (by decide), hSe.2.2.2.1.1]; show _ = ((aCd s ||| 0 : Nat) : Int); rw [uSe_0]
    · show aCd s ||| 0 < _; rw [uSe_0]; exact hSe.2.2.2.1.2
    · rw [zz 707 (by decide) (by decide), sD2 707 (by decide), hSe.2.2.2.2.1]; show _ = ((aUs s ||| 0 : Nat) : Int); rw [uSe_0]
    · show aUs s ||| 0 < _; rw [uSe_0]; exact hSe.2.2.2.2.2
/-- what modules are -/
def MoP (E : Env) : Prop := ∀ j, j < 4 → eMl E j ≤ 16 ∧ ∀ k, k < eMl E j → (0 ≤ eMi E j k ∧ eMi E j k ≤ 8) ∧ 0 ≤ eMv E j k ∧ eMv E j k < 1000
theorem X7_instructionAt_ (hL : Lay b C) {j at_ : Nat} (hj : j < 4) (hM : ModC C (b + 157 + 3 * j) (eMi E j) (eMv E j) (eMl E j)) (ha : at_ < 100000) : fX7_instructionAt (b + 157 + 3 * j) (at_ : Int) C = some (if at_ < eMl E j then eMi E j at_ else -1, C) := by
  obtain ⟨m1, m2, m3⟩ := hM
  unfold fX7_instructionAt
  rw [bnd_eq, bnd_eq, if_neg (by rw [w32_n (by omega)]; omega), if_pos (hL.mo hj), m1]
  by_cases c : at_ < eMl E j
  · rw [if_neg (by rw [w32_n (by omega), w32_n (by omega)]; omega), if_pos (hL.mo hj), bnd_eq, drf_eq (hL.mi hj), if_pos (hL.mio hj), hL.min hj, if_neg (by rw [w32_n (by omega), w32_n (by omega)]; omega), if_pos (hL.mo hj), bnd_eq, drf_eq (hL.mi hj), if_pos ⟨hL.mio hj, by rw [hL.min hj]; exact inR_n (by omega) (by omega)⟩, ix_n (by omega), (m3 at_ c).1, if_pos c]
  · rw [if_pos (by rw [w32_n (by omega), w32_n (by omega)]; omega), if_neg c]
theorem X7_valueAt_ (hL : Lay b C) {j at_ : Nat} (hj : j < 4) (hM : ModC C (b + 157 + 3 * j) (eMi E j) (eMv E j) (eMl E j)) (ha : at_ < 100000) : fX7_valueAt (b + 157 + 3 * j) (at_ : Int) C = some (if at_ < eMl E j then eMv E j at_ else -1, C) := by
  obtain ⟨m1, m2, m3⟩ := hM
  unfold fX7_valueAt
  rw [bnd_eq, bnd_eq, if_neg (by rw [w32_n (by omega)]; omega), if_pos (hL.mo hj), m1]
  by_cases c : at_ < eMl E j
  · rw [if_neg (by rw [w32_n (by omega), w32_n (by omega)]; omega), if_pos (hL.mo hj), bnd_eq, drf_eq (hL.mv hj), if_pos (hL.mvo hj), hL.mvn hj, if_neg (by rw [w32_n (by omega), w32_n (by omega)]; omega), if_pos (hL.mo hj), bnd_eq, drf_eq (hL.mv hj), if_pos ⟨hL.mvo hj, by rw [hL.mvn hj]; exact inR_n (by omega) (by omega)⟩, ix_n (by omega), (m3 at_ c).2, if_pos c]
  · rw [if_pos (by rw [w32_n (by omega), w32_n (by omega)]; omega), if_neg c]
theorem X1_stackAt_in (hL : Lay b C) {i : Nat} (hi : i < 8) : fX1_stackAt (b + 1) (i : Int) C = some (cE C (b + 8) i, C) := by
  unfold fX1_stackAt
  rw [bnd_eq, bnd_eq, if_neg (by rw [w32_n (by omega)]; omega), if_pos hL.oe, bnd_eq, drf_eq hL.x5, if_pos hL.os, hL.ns, if_neg (by rw [w32_n (by omega), w32_n (by omega)]; omega), if_pos hL.oe, bnd_eq, drf_eq hL.x5, if_pos ⟨hL.os, by rw [hL.ns]; exact inR_n hi (by omega)⟩, ix_n (by omega)]
theorem X1_stackAt_m1 : fX1_stackAt (b + 1) (-1) C = some (-1, C) := by
  unfold fX1_stackAt
  rw [bnd_eq, bnd_eq, if_pos (by decide)]
theorem X1_takenBy_ (k : Int) (h : k = -1 ∨ (0 ≤ k ∧ k ≤ 8)) : fX1_takenBy (b + 1) k C = some (if 2 ≤ k ∧ k ≤ 5 then 2 else if 7 ≤ k then 1 else 0, C) := by
  have h3 : k = -1 ∨ k = 0 ∨ k = 1 ∨ k = 2 ∨ k = 3 ∨ k = 4 ∨ k = 5 ∨ k = 6 ∨ k = 7 ∨ k = 8 := by omega
  rcases h3 with e | e | e | e | e | e | e | e | e | e <;> subst e <;> rfl
theorem X1_combined_ {k x y : Int} (hk : k = 2 ∨ k = 3 ∨ k = 4 ∨ k = 5) (hx : 0 ≤ x ∧ x < 1000) (hy : 0 ≤ y ∧ y < 1000) : fX1_combined (b + 1) k x y C = some (op2 k x y, C) ∧ 0 ≤ op2 k x y ∧ op2 k x y < 1000 := by
  have hxy : 0 ≤ x * y ∧ x * y ≤ 999 * 999 := ⟨Int.mul_nonneg hx.1 hy.1, Int.mul_le_mul (by omega) (by omega) hy.1 (by omega)⟩
  rcases hk with e | e | e | e <;> subst e
  · refine ⟨?_, ?_⟩
    · unfold fX1_combined op2
      rw [if_pos (by decide), if_pos rfl, remI_of (by omega) (by omega) (by omega) (by omega)]
    · unfold op2
      rw [if_pos rfl]; omega
  · refine ⟨?_, ?_⟩
    · unfold fX1_combined op2
      rw [if_neg (by decide), if_pos (by decide), if_neg (by decide), if_pos rfl, remI_of (by omega) (by omega) (by omega) (by omega)]
    · unfold op2
      rw [if_neg (by decide), if_pos rfl]; omega
  · refine ⟨?_, ?_⟩
    · unfold fX1_combined op2
      rw [if_neg (by decide), if_neg (by decide), if_pos (by decide), if_neg (by decide), if_neg (by decide), if_pos rfl, remI_of hxy.1 (by omega) (by omega) (by omega)]
    · unfold op2
      rw [if_neg (by decide), if_neg (by decide), if_pos rfl]; omega
  · refine ⟨?_, ?_⟩
    · unfold fX1_combined op2
      rw [if_neg (by decide), if_neg (by decide), if_neg (by decide), if_neg (by decide), if_neg (by decide), if_neg (by decide), bnd_eq, w32_of (by omega) (by omega), w32_of (by omega) (by omega)]
      by_cases c : x < y
      · rw [if_neg (by omega), if_pos c]
      · rw [if_pos (by omega), if_neg c]
    · unfold op2
      rw [if_neg (by decide), if_neg (by decide), if_neg (by decide)]
      by_cases c : x < y
      · rw [if_pos c]; omega
      · rw [if_neg c]; omega
end GV3
