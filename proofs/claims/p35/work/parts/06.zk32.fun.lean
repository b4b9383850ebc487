/-! THE CLASS'S FUNCTIONS -/
section FUN
variable {b : Nat} {C : Cd} {E : Env} {VA : Nat → Nat} {up : Int} {s : ASt} {R ra f : Nat} {pl : List Nat} {acc : List Int}
theorem Gvn.put (hL : Lay b C) (hc0 : ra = b + 11 ∨ b + 854 ≤ ra) {C1 : Cd} {s1 : ASt} {a1 : List Int} (h : Gvn b C ra s1 a1 C1) {x : Int} (hx : 0 ≤ x ∧ x < 10000) : ∃ C', fX5_add ra x C1 = some ((), C') ∧ Gvn b C ra s1 (apl a1 x) C' := by
  obtain ⟨g1, g2, g3, g4, g5⟩ := h
  obtain ⟨C', e, r1, f1, q1, l1⟩ := X5_add_ g2.wf g1 hx.1 hx.2
  have hz := hL.sz
  exact ⟨C', e, r1, g2.tr2 f1 (fun _ _ _ _ z => Or.inl z), q1.trans g3, l1.trans g4, g5.of (fun k _ _ => f1.fI (by rw [g3]; omega) (by unfold sRow; omega))⟩
theorem Gvn.rf (hL : Lay b C) (hSe : SeC b C s) (hra : RowV C ra acc) : Gvn b C ra s acc C := ⟨hra, Fp.rf hL.W, rfl, rfl, hSe⟩
theorem Gvn.ask (hL : Lay b C) (hc0 : ra = b + 11 ∨ b + 854 ≤ ra) (hSe : SeC b C s) (hra : RowV C ra acc) (v : Int) : Gvn b C ra s acc (cSetI C 414 (b + 1) v) :=
  ⟨hra.fp hL.W (Fp.I (S := fun q k a => q = 0 ∧ k = 414) hL.W _ _ _ ⟨rfl, rfl⟩) (by omega) (by omega) (by omega) (by omega), (Fp.rf hL.W).sI (Or.inr (Or.inr (Or.inl ⟨rfl, rfl, rfl⟩))), rfl, rfl, hSe.of (fun k _ _ => cI_I2 _ _ (Or.inr (by omega)))⟩
/-- what a function of the class does, as the evaluator says -/
def FunOk (b : Nat) (C : Cd) (ra : Nat) (s : ASt) (f : Nat) (pl : List Nat) (acc : List Int) (X : Option (Int × Cd)) (o : Nat × List Int × ASt) : Prop :=
  (o.1 = 0 → ∃ C', X = some (1, C') ∧ Gvn b C ra o.2.2 o.2.1 C') ∧
  (∀ j, o.1 = j + 1 → ∃ C', X = some (0, C') ∧ Gvn b C ra o.2.2 acc C' ∧ cI C' 414 (b + 1) = (pl.getD j 0 : Int) ∧ j < pl.length ∧ aPs s f (pl.getD j 0) = 0)
theorem funOk_done {X : Option (Int × Cd)} {a' : List Int} {s' : ASt} (h : ∃ C', X = some (1, C') ∧ Gvn b C ra s' a' C') : FunOk b C ra s f pl acc X (0, a', s') := ⟨fun _ => h, fun j hj => absurd hj (by show ¬ 0 = j + 1; omega)⟩
theorem funOk_need {X : Option (Int × Cd)} {jn : Nat} {a' : List Int} {s' : ASt} (h : ∃ C', X = some (0, C') ∧ Gvn b C ra s' acc C' ∧ cI C' 414 (b + 1) = (pl.getD jn 0 : Int) ∧ jn < pl.length ∧ aPs s f (pl.getD jn 0) = 0) : FunOk b C ra s f pl acc X (jn + 1, a', s') :=
  ⟨fun hj => absurd hj (by show ¬ jn + 1 = 0; omega), fun j hj => by
    have e : jn = j := by
      have : jn + 1 = j + 1 := hj
      omega
    subst e
    exact h⟩
theorem X1_giveModule_ (h : XS b C E VA up s R) (hc : CurR b C E s ra) (hf : f < aNf s) (hP : PlC b C pl) (hPS : PlS E s f pl) {r : Nat} (hA : RunF b C r f ra) (hra : RowV C ra acc) (hMo : MoP E) {x : Int} (hx : -1 ≤ x ∧ x < 1000) {o : Nat × List Int × ASt}
   (ho : (if 0 ≤ x ∧ x < 4 then
        (if mex E x.toNat (argv s f pl) 50 0 [] = -99 then none
         else if mex E x.toNat (argv s f pl) 50 0 [] ≤ -100 then some ((-100 - mex E x.toNat (argv s f pl) 50 0 []).toNat, acc, uSe s 0 0 0 0 (2 ^ x.toNat))
         else some (0, apl acc (mex E x.toNat (argv s f pl) 50 0 []), uSe s 0 0 0 0 (2 ^ x.toNat)))
      else some (0, apl acc 9004, s)) = some o) : FunOk b C ra s f pl acc (fX1_giveModule (b + 1) (some (b + 333 + r)) x C) o := by
  obtain ⟨hr, hf41, h900, h901⟩ := hA
  have hL := h.1
  have hU := hL.uo hr
  have hz := hL.sz
  have hSe := h.2.2.2.2.2.1
  have hcur := h.dy11 hc
  have c0 := h.cur0 hc
  have tail : ∀ (C1 : Cd) (s1 : ASt) (v : Int), Gvn b C ra s1 acc C1 → 0 ≤ v ∧ v < 10000 → ∃ C', (if ¬ w32 v = w32 (-2) then
drf (some (b + 333 + r)) fun (p1 : Nat) =>
if isO C1 p1 9 then bnd (cR C1 901 p1) fun (z2 : Option Nat) =>
drf z2 fun (p3 : Nat) =>
if isO C1 p3 8 then cal (fX5_add p3 v C1) fun (r5 : Unit) (C4 : Cd) =>
some ((1 : Int), C4)
else none
else none
else
some (0, C1)) = some (1, C') ∧ Gvn b C ra s1 (apl acc v) C' := by
    intro C1 s1 v hg hv
    obtain ⟨C', e, g⟩ := hg.put hL c0 hv
    refine ⟨C', ?_, g⟩
    have u1 := hg.2.1.ob hL.W hU
    have u2 : cR C1 901 (b + 333 + r) = some ra := (hg.2.1.fR (hL.W _ hU.1) (by unfold sG sRow; omega)).trans h901
    rw [if_pos (by rw [w32_of (x := v) (by omega) (by omega), show w32 (-2) = -2 from rfl]; omega), drf_some, if_pos u1, bnd_eq, drf_eq u2, if_pos hg.1.ob, cal_of e]
  unfold fX1_giveModule
  refine (?_ : FunOk b C ra s f pl acc (bnd _ _) o)
  rw [bnd_eq]
  by_cases c : 0 ≤ x ∧ x < 4
  · rw [if_pos c] at ho
    obtain ⟨xn, rfl⟩ : ∃ n : Nat, x = (n : Int) := ⟨x.toNat, by omega⟩
    rw [Int.toNat_natCast] at ho
    have hxn : xn < 4 := by omega
    have hset := orI_set (s := aUs s) (v := xn) (by have := hSe.2.2.2.2.2; omega) (by omega)
    by_cases c99 : mex E xn (argv s f pl) 50 0 [] = -99
    · rw [if_pos c99] at ho; cases ho
    · rw [if_neg c99] at ho
      have d1 : mex E xn (argv s f pl) 50 0 [] ≤ -100 → mex E xn (argv s f pl) 50 0 [] < -99 := fun z => by omega
      have d2 : ¬ mex E xn (argv s f pl) 50 0 [] ≤ -100 → -99 < mex E xn (argv s f pl) 50 0 [] := fun z => by omega
      generalize hD : cSetI C 707 (b + 10) ((aUs s ||| 2 ^ xn : Nat) : Int) = D
      have fD : Fp (sG b ra) C D := by rw [← hD]; exact (Fp.rf hL.W).sI (Or.inr (Or.inl ⟨rfl, rfl, by decide, by decide⟩))
      have sD : cI D 707 (b + 10) = ((aUs s ||| 2 ^ xn : Nat) : Int) := by rw [← hD]; exact cI_I1 _ _ _ _
      have sD2 : ∀ k, k ≠ 707 → cI D k (b + 10) = cI C k (b + 10) := fun k hk => by rw [← hD]; exact cI_I2 _ _ (Or.inl hk)
      have seD : SeC b D (uSe s 0 0 0 0 (2 ^ xn)) := by
        refine ⟨⟨?_, ?_⟩, ⟨?_, ?_⟩, ⟨?_, ?_⟩, ⟨?_, ?_⟩, ⟨?_, ?_⟩⟩
        · rw [sD2 703 (by decide), hSe.1.1]; show _ = ((aLk s ||| 0 : Nat) : Int); rw [uSe_0]
        · show aLk s ||| 0 < _; rw [uSe_0]; exact hSe.1.2
        · rw [sD2 704 (by decide), hSe.2.1.1]; show _ = ((aCt s ||| 0 : Nat) : Int); rw [uSe_0]
        · show aCt s ||| 0 < _; rw [uSe_0]; exact hSe.2.1.2
        · rw [sD2 705 (by decide), hSe.2.2.1.1]; show _ = ((aRd s ||| 0 : Nat) : Int); rw [uSe_0]
        · show aRd s ||| 0 < _; rw [uSe_0]; exact hSe.2.2.1.2
        · rw [sD2 706 (by decide), hSe.2.2.2.1.1]; show _ = ((aCd s ||| 0 : Nat) : Int); rw [uSe_0]
        · show aCd s ||| 0 < _; rw [uSe_0]; exact hSe.2.2.2.1.2
        · rw [sD]; rfl
        · exact or_4 hSe.2.2.2.2.2 hxn
      obtain ⟨hD1, hcD, fxD, dyD⟩ := h.plain hc (r := 0) (by decide) hra (fD.mono (fun _ _ _ _ z => z.s2)) (s' := uSe s 0 0 0 0 (2 ^ xn)) ⟨rfl, rfl, rfl, rfl, rfl⟩ seD
      have rD : RowV D ra acc := by
        rw [← hD]
        exact hra.fp hL.W (Fp.I (S := fun q k a => q = 0 ∧ k = 707) hL.W _ _ _ ⟨rfl, rfl⟩) (by omega) (by omega) (by omega) (by omega)
      have hPD : PlC b D pl := by rw [← hD]; exact ⟨(cI_I2 _ _ (Or.inl (by decide))).trans hP.1, hP.2.1, hP.2.2.1, hP.2.2.2⟩
      have gD : Gvn b C ra (uSe s 0 0 0 0 (2 ^ xn)) acc D := ⟨rD, fD, by rw [← hD]; rfl, by rw [← hD]; rfl, seD⟩
      obtain ⟨m1, m2⟩ := X1_outOf_ (s := uSe s 0 0 0 0 (2 ^ xn)) hD1 hcD hf hPD hPS rD hMo hxn c99
      have pD : cP D (b + 3) (ix (xn : Int)) = some (b + 157 + 3 * xn) := by rw [← hD]; exact hL.mp hxn
      have u1 : isO D (b + 333 + r) 9 := by rw [← hD]; exact hU
      have u3 : cR D 900 (b + 333 + r) = some (b + 169 + 4 * f) := by rw [← hD]; exact h900
      have hLD := hD1.1
      rw [if_neg (by rw [w32_n (by omega)]; omega), if_pos hL.oe, bnd_eq, drf_eq hL.x1, if_pos hL.om, hL.nm, if_neg (by rw [w32_n (by omega), w32_n (by omega)]; omega), if_pos hL.oe, bnd_eq, drf_eq hL.x7, if_pos hL.od, if_pos hL.od, bnd_eq, hSe.2.2.2.2.1, hset, hD, if_pos hLD.oe, bnd_eq, drf_eq hLD.x1, if_pos ⟨hLD.om, by rw [hLD.nm]; exact inR_n hxn (by omega)⟩, bnd_eq, drf_some, if_pos u1, bnd_eq, if_pos hLD.oe, pD, u3]
      by_cases cn : mex E xn (argv s f pl) 50 0 [] ≤ -100
      · rw [if_pos cn] at ho
        obtain ⟨C', jn, q1, q2, q3, q4, q5, q6, q7, q8⟩ := m2 (d1 cn)
        have q1' : mex E xn (argv s f pl) 50 0 [] = -100 - ((jn + 1 : Nat) : Int) := q1
        rw [q1', show (-100 - (-100 - ((jn + 1 : Nat) : Int))).toNat = jn + 1 by omega] at ho
        injection ho with ho
        subst ho
        refine funOk_need ⟨C', ?_, ⟨?_, fD.tr2 q6 (fun _ _ _ _ z => z.g), q7.trans gD.2.2.1, q8.trans gD.2.2.2.1, seD.of (fun k _ _ => q6.fI (by rw [gD.2.2.1]; omega) (by unfold sMo; omega))⟩, q5, q2, q3⟩
        · rw [cal_of q4]
          dsimp only
          rw [if_neg (by decide)]
        · exact rD.fp fD.wf q6 (by unfold sMo; omega) (by unfold sMo; omega) (by unfold sMo; omega) (by unfold sMo; omega)
      · rw [if_neg cn] at ho
        injection ho with ho
        subst ho
        obtain ⟨C', q1, q2, q3, q4, q5, q6⟩ := m1 (d2 cn)
        have gC : Gvn b C ra (uSe s 0 0 0 0 (2 ^ xn)) acc C' := ⟨rD.fp fD.wf q2 (by unfold sMo; omega) (by unfold sMo; omega) (by unfold sMo; omega) (by unfold sMo; omega), fD.tr2 q2 (fun _ _ _ _ z => z.g), q3.trans gD.2.2.1, q4.trans gD.2.2.2.1, seD.of (fun k _ _ => q2.fI (by rw [gD.2.2.1]; omega) (by unfold sMo; omega))⟩
        obtain ⟨C2, e2, g2⟩ := tail C' _ _ gC ⟨q5, q6⟩
        refine funOk_done ⟨C2, ?_, g2⟩
        rw [cal_of q1]
        exact e2
  · rw [if_neg c] at ho
    injection ho with ho
    subst ho
    obtain ⟨C2, e2, g2⟩ := tail C s 9004 (Gvn.rf hL hSe hra) (by decide)
    refine funOk_done ⟨C2, ?_, g2⟩
    by_cases c2 : x < 0
    · rw [if_pos (by rw [w32_of (by omega) (by omega)]; exact c2)]
      exact e2
    · rw [if_neg (by rw [w32_of (by omega) (by omega)]; exact c2), if_pos hL.oe, bnd_eq, drf_eq hL.x1, if_pos hL.om, hL.nm, if_pos (by rw [w32_n (by omega), w32_of (x := x) (by omega) (by omega)]; omega)]
      exact e2
end FUN
