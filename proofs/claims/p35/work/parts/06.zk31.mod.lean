/-! THE CLASS DOES A MODULE -/
section MOD
variable {b : Nat} {C : Cd} {E : Env} {VA : Nat → Nat} {up : Int} {s : ASt} {R ra f : Nat} {pl : List Nat} {acc : List Int}
def sMo (b q k a : Nat) : Prop := (q = 2 ∧ a = b + 8) ∨ (q = 0 ∧ k = 414 ∧ a = b + 1)
theorem sMo.g {q k a : Nat} (h : sMo b q k a) : sG b ra q k a := by
  rcases h with ⟨h1, h2⟩ | ⟨h1, h2, h3⟩
  · exact Or.inr (Or.inr (Or.inr ⟨h1, h2⟩))
  · exact Or.inr (Or.inr (Or.inl ⟨h1, h3, h2⟩))
theorem Arb.head {r : Nat → Int} {x : Int} {st : List Int} (h : Arb r (x :: st)) : r st.length = x := h.1
theorem mex_ge {m : Nat} {arg : Nat → Int} {d at_ : Nat} {st : List Int} (h : eMl E m ≤ at_) : mex E m arg (d + 1) at_ st = 9004 := by
  unfold mex; rw [if_pos h]
theorem mex_lt {m : Nat} {arg : Nat → Int} {d at_ : Nat} {st : List Int} (h : ¬ eMl E m ≤ at_) : mex E m arg (d + 1) at_ st = (if eMi E m at_ = 0 then (if 8 ≤ st.length then 9004 else mex E m (arg) d (at_ + 1) (eMv E m at_ :: st))
    else if eMi E m at_ = 1 then (if 8 ≤ st.length then 9004 else if arg (eMv E m at_).toNat ≤ -99 then arg (eMv E m at_).toNat else mex E m (arg) d (at_ + 1) (arg (eMv E m at_).toNat :: st))
    else if eMi E m at_ ≤ 5 then match st with
      | y :: x :: r => mex E m (arg) d (at_ + 1) (op2 (eMi E m at_) x y :: r)
      | _ => 9004
    else if eMi E m at_ = 6 then mex E m (arg) d (eMv E m at_).toNat st
    else match st with
      | [] => 9004
      | x :: r => if eMi E m at_ = 8 then x else mex E m (arg) d (if x = 0 then (eMv E m at_).toNat else at_ + 1) r) := by
  conv => lhs; unfold mex
  rw [if_neg h]
  rcases st with _ | ⟨y, _ | ⟨x, r⟩⟩ <;> rfl
set_option maxHeartbeats 20000000 in
theorem X1_outOf_ (h : XS b C E VA up s R) (hc : CurR b C E s ra) (hf : f < aNf s) (hP : PlC b C pl) (hPS : PlS E s f pl) (hra : RowV C ra acc) (hMo : MoP E) {j : Nat} (hj : j < 4) (hne : mex E j (argv s f pl) 50 0 [] ≠ -99) :
   (-99 < mex E j (argv s f pl) 50 0 [] → ∃ C', fX1_outOf (b + 1) (some (b + 157 + 3 * j)) (some (b + 169 + 4 * f)) C = some (mex E j (argv s f pl) 50 0 [], C') ∧ Fp (sMo b) C C' ∧ csz C' = csz C ∧ csl C' = csl C ∧ 0 ≤ mex E j (argv s f pl) 50 0 [] ∧ mex E j (argv s f pl) 50 0 [] < 10000) ∧
   (mex E j (argv s f pl) 50 0 [] < -99 → ∃ C' jn, mex E j (argv s f pl) 50 0 [] = -100 - ((jn + 1 : Nat) : Int) ∧ jn < pl.length ∧ aPs s f (pl.getD jn 0) = 0 ∧ fX1_outOf (b + 1) (some (b + 157 + 3 * j)) (some (b + 169 + 4 * f)) C = some (-2, C') ∧ cI C' 414 (b + 1) = (pl.getD jn 0 : Int) ∧ Fp (sMo b) C C' ∧ csz C' = csz C ∧ csl C' = csl C) := by
  have hcur := h.dy11 hc
  have c0 := h.cur0 hc
  have hn41 := h.2.2.2.2.2.2.1.2.1
  have hSe := h.2.2.2.2.2.1
  unfold fX1_outOf
  rw [bnd_eq]
  refine (lpn_rule (P := fun mm (L : Int → Int → Int → Cd → Option (Int × Cd)) => ∀ (d at_ : Nat) (st : List Int) (C1 : Cd), d ≤ 50 → 50 - d < mm → st.length ≤ 8 → (∀ x ∈ st, 0 ≤ x ∧ x < 1000) → at_ < 100000 - 2 * (50 - d) → Arb (cE C1 (b + 8)) st → Fp (fun q k a => q = 2 ∧ a = b + 8) C C1 → csz C1 = csz C → csl C1 = csl C → mex E j (argv s f pl) (50 - d) at_ st ≠ -99 →
    (-99 < mex E j (argv s f pl) (50 - d) at_ st → ∃ C', L (st.length : Int) (at_ : Int) (d : Int) C1 = some (mex E j (argv s f pl) (50 - d) at_ st, C') ∧ Fp (sMo b) C C' ∧ csz C' = csz C ∧ csl C' = csl C ∧ 0 ≤ mex E j (argv s f pl) (50 - d) at_ st ∧ mex E j (argv s f pl) (50 - d) at_ st < 10000) ∧
    (mex E j (argv s f pl) (50 - d) at_ st < -99 → ∃ C' jn, mex E j (argv s f pl) (50 - d) at_ st = -100 - ((jn + 1 : Nat) : Int) ∧ jn < pl.length ∧ aPs s f (pl.getD jn 0) = 0 ∧ L (st.length : Int) (at_ : Int) (d : Int) C1 = some (-2, C') ∧ cI C' 414 (b + 1) = (pl.getD jn 0 : Int) ∧ Fp (sMo b) C C' ∧ csz C' = csz C ∧ csl C' = csl C))
    (fun d _ _ _ _ h => absurd h (Nat.not_lt_zero _)) (fun mm L hLL d at_ st C1 hd hm hst8 hst hat hA f1 s1 l1 hne => ?_) FU) 0 0 [] C (Nat.zero_le _) (by unfold FU; omega) (by decide) (fun x hx => absurd hx List.not_mem_nil) (by decide) trivial (Fp.rf h.1.W) rfl rfl hne
  have fin : Fp (sMo b) C C1 := f1.mono (fun _ _ _ _ z => Or.inl z)
  rcases Nat.lt_or_ge d 50 with hlt | hge
  · have e50 : 50 - d = (50 - (d + 1)) + 1 := by omega
    rw [e50] at hne ⊢
    -- the state here
    have fS2 : Fp (S2 b (b + 333 + 0) ra) C C1 := f1.mono (fun _ _ _ _ z => Or.inr (Or.inr ⟨z.1, Or.inl z.2⟩))
    have hz := h.1.sz
    have se1 : ∀ k, cI C1 k (b + 10) = cI C k (b + 10) := fun k => f1.fI (by omega) (by omega)
    obtain ⟨h1, hc1, fx1, dy1⟩ := h.plain hc (r := 0) (by decide) hra fS2 (s' := s) ⟨rfl, rfl, rfl, rfl, rfl⟩ (hSe.of (fun k _ _ => se1 k))
    have hL1 := h1.1
    have hMC := (h.2.2.2.2.2.2.2.2 C1 fx1).2.2.2 j hj
    have hP1 : PlC b C1 pl := ⟨(f1.fI (by omega) (by omega)).trans hP.1, hP.2.1, hP.2.2.1, fun i hi => (f1.fE (by omega) (by omega) i).trans (hP.2.2.2 i hi)⟩
    have hins := X7_instructionAt_ hL1 hj hMC (at_ := at_) (by omega)
    have hval := X7_valueAt_ hL1 hj hMC (at_ := at_) (by omega)
    have hmo := hL1.mo hj
    have hoe := hL1.oe
    have hos := hL1.os
    have hns := hL1.ns
    have hup : ∃ u, fX1_stackAt (b + 1) ((st.length : Int) - 1) C1 = some (u, C1) ∧ (∀ x st', st = x :: st' → u = x) := by
      cases st with
      | nil => exact ⟨-1, X1_stackAt_m1, fun x st' e => by cases e⟩
      | cons x st' =>
        refine ⟨cE C1 (b + 8) st'.length, ?_, fun y st'' e => ?_⟩
        · rw [show ((((x :: st').length : Nat) : Int) - 1) = (st'.length : Int) by show ((st'.length + 1 : Nat) : Int) - 1 = _; omega]
          have : st'.length + 1 ≤ 8 := hst8
          exact X1_stackAt_in hL1 (by omega)
        · injection e with e1 e2
          subst e1 e2
          exact hA.1
    obtain ⟨u, hu1, hu2⟩ := hup
    by_cases cat : at_ < eMl E j
    · rw [if_pos cat] at hins hval
      rw [if_neg (by rw [w32_n (by omega), show w32 50 = 50 from rfl]; omega), drf_some, if_pos hmo, cal_of hins, if_pos hmo, cal_of hval]
      have hmm := (hMo j hj).2 at_ cat
      have hvn : eMv E j at_ = (((eMv E j at_).toNat : Nat) : Int) := by omega
      have htk := X1_takenBy_ (b := b) (C := C1) (eMi E j at_) (Or.inr hmm.1)
      rw [if_pos hoe, cal_of htk, bnd_eq, if_pos hoe, cal_of hu1, bnd_eq]
      -- going on with a number put
      have go : ∀ (x : Int) (st' : List Int), st'.length < 8 → (∀ y ∈ st', 0 ≤ y ∧ y < 1000) → (0 ≤ x ∧ x < 1000) → Arb (cE C1 (b + 8)) st' → mex E j (argv s f pl) (50 - (d + 1) + 1) at_ st = mex E j (argv s f pl) (50 - (d + 1)) (at_ + 1) (x :: st') → ∀ X : Option (Int × Cd), X = L ((st'.length : Int) + 1) ((at_ : Int) + 1) ((d : Int) + 1) (cSetE C1 (b + 8) st'.length x) →
         (-99 < mex E j (argv s f pl) (50 - (d + 1) + 1) at_ st → ∃ C', X = some (mex E j (argv s f pl) (50 - (d + 1) + 1) at_ st, C') ∧ Fp (sMo b) C C' ∧ csz C' = csz C ∧ csl C' = csl C ∧ 0 ≤ mex E j (argv s f pl) (50 - (d + 1) + 1) at_ st ∧ mex E j (argv s f pl) (50 - (d + 1) + 1) at_ st < 10000) ∧
         (mex E j (argv s f pl) (50 - (d + 1) + 1) at_ st < -99 → ∃ C' jn, mex E j (argv s f pl) (50 - (d + 1) + 1) at_ st = -100 - ((jn + 1 : Nat) : Int) ∧ jn < pl.length ∧ aPs s f (pl.getD jn 0) = 0 ∧ X = some (-2, C') ∧ cI C' 414 (b + 1) = (pl.getD jn 0 : Int) ∧ Fp (sMo b) C C' ∧ csz C' = csz C ∧ csl C' = csl C) := by
        intro x st' hl hok hx hA' em X hX
        rw [em] at hne ⊢
        rw [hX]
        exact hLL (d + 1) (at_ + 1) (x :: st') (cSetE C1 (b + 8) st'.length x) hlt (by omega) hl (fun y hy => by
          rcases List.mem_cons.mp hy with e | e
          · rw [e]; exact hx
          · exact hok y e) (by omega) ⟨cE_E1 _ _ _ _, hA'.keep (fun i hi => cE_E2 _ _ (Or.inr (by omega)))⟩ (f1.sE ⟨rfl, rfl⟩) s1 l1 hne
      have stp : ∀ (at2 : Nat) (st' : List Int), st'.length ≤ 8 → (∀ y ∈ st', 0 ≤ y ∧ y < 1000) → at2 ≤ at_ + 1 ∨ at2 < 1000 → Arb (cE C1 (b + 8)) st' → mex E j (argv s f pl) (50 - (d + 1) + 1) at_ st = mex E j (argv s f pl) (50 - (d + 1)) at2 st' → ∀ X : Option (Int × Cd), X = L (st'.length : Int) (at2 : Int) ((d : Int) + 1) C1 →
         (-99 < mex E j (argv s f pl) (50 - (d + 1) + 1) at_ st → ∃ C', X = some (mex E j (argv s f pl) (50 - (d + 1) + 1) at_ st, C') ∧ Fp (sMo b) C C' ∧ csz C' = csz C ∧ csl C' = csl C ∧ 0 ≤ mex E j (argv s f pl) (50 - (d + 1) + 1) at_ st ∧ mex E j (argv s f pl) (50 - (d + 1) + 1) at_ st < 10000) ∧
         (mex E j (argv s f pl) (50 - (d + 1) + 1) at_ st < -99 → ∃ C' jn, mex E j (argv s f pl) (50 - (d + 1) + 1) at_ st = -100 - ((jn + 1 : Nat) : Int) ∧ jn < pl.length ∧ aPs s f (pl.getD jn 0) = 0 ∧ X = some (-2, C') ∧ cI C' 414 (b + 1) = (pl.getD jn 0 : Int) ∧ Fp (sMo b) C C' ∧ csz C' = csz C ∧ csl C' = csl C) := by
        intro at2 st' hl hok hat2 hA' em X hX
        rw [em] at hne ⊢
        rw [hX]
        exact hLL (d + 1) at2 st' C1 hlt (by omega) hl hok (by omega) hA' f1 s1 l1 hne
      have fault : mex E j (argv s f pl) (50 - (d + 1) + 1) at_ st = 9004 → ∀ X : Option (Int × Cd), X = some (9004, C1) →
         (-99 < mex E j (argv s f pl) (50 - (d + 1) + 1) at_ st → ∃ C', X = some (mex E j (argv s f pl) (50 - (d + 1) + 1) at_ st, C') ∧ Fp (sMo b) C C' ∧ csz C' = csz C ∧ csl C' = csl C ∧ 0 ≤ mex E j (argv s f pl) (50 - (d + 1) + 1) at_ st ∧ mex E j (argv s f pl) (50 - (d + 1) + 1) at_ st < 10000) ∧
         (mex E j (argv s f pl) (50 - (d + 1) + 1) at_ st < -99 → ∃ C' jn, mex E j (argv s f pl) (50 - (d + 1) + 1) at_ st = -100 - ((jn + 1 : Nat) : Int) ∧ jn < pl.length ∧ aPs s f (pl.getD jn 0) = 0 ∧ X = some (-2, C') ∧ cI C' 414 (b + 1) = (pl.getD jn 0 : Int) ∧ Fp (sMo b) C C' ∧ csz C' = csz C ∧ csl C' = csl C) := by
        intro em X hX
        rw [em]
        exact ⟨fun _ => ⟨C1, hX, fin, s1, l1, by decide, by decide⟩, fun z => absurd z (by decide)⟩
      have h09 : eMi E j at_ = 0 ∨ eMi E j at_ = 1 ∨ (eMi E j at_ = 2 ∨ eMi E j at_ = 3 ∨ eMi E j at_ = 4 ∨ eMi E j at_ = 5) ∨ eMi E j at_ = 6 ∨ eMi E j at_ = 7 ∨ eMi E j at_ = 8 := by omega
      have em0 := mex_lt (m := j) (arg := argv s f pl) (d := 50 - (d + 1)) (at_ := at_) (st := st) (E := E) (by omega)
      rcases h09 with k0 | k1 | k2 | k6 | k7 | k8
      · -- PUSH
        rw [if_pos k0] at em0
        rw [k0]
        by_cases c8 : 8 ≤ st.length
        · rw [if_pos c8] at em0
          refine fault em0 _ ?_
          simp (disch := omega) only [isO, ↓bnd_eq, ↓reduceIte, ↓drf_some, ↓cal_some, ↓calx_inl, ↓calx_inr, ↓opt_some, ↓opt_none, w32_of, ix_of, inR, le_t, le_f, lt_t, lt_f, eq_t, eq_f, and_self, true_and, and_true, false_and, and_false, not_true_eq_false, not_false_eq_true, or_true, true_or, or_false, false_or, Bool.false_eq_true, hoe, ↓drf_eq hL1.x5, hos, hns, Int.sub_zero]
        · rw [if_neg c8] at em0
          refine go (eMv E j at_) st (by omega) hst hmm.2 hA em0 _ ?_
          simp (disch := omega) only [isO, ↓bnd_eq, ↓reduceIte, ↓drf_some, ↓cal_some, ↓calx_inl, ↓calx_inr, ↓opt_some, ↓opt_none, w32_of, ix_of, inR, le_t, le_f, lt_t, lt_f, eq_t, eq_f, and_self, true_and, and_true, false_and, and_false, not_true_eq_false, not_false_eq_true, or_true, true_or, or_false, false_or, Bool.false_eq_true, hoe, ↓drf_eq hL1.x5, hos, hns, Int.sub_zero, Int.toNat_natCast]
      · -- ARG
        rw [if_neg (by omega), if_pos k1] at em0
        rw [k1]
        by_cases c8 : 8 ≤ st.length
        · rw [if_pos c8] at em0
          refine fault em0 _ ?_
          simp (disch := omega) only [isO, ↓bnd_eq, ↓reduceIte, ↓drf_some, ↓cal_some, ↓calx_inl, ↓calx_inr, ↓opt_some, ↓opt_none, w32_of, ix_of, inR, le_t, le_f, lt_t, lt_f, eq_t, eq_f, and_self, true_and, and_true, false_and, and_false, not_true_eq_false, not_false_eq_true, or_true, true_or, or_false, false_or, Bool.false_eq_true, hoe, ↓drf_eq hL1.x5, hos, hns, Int.sub_zero]
        · rw [if_neg c8] at em0
          have ev2 : eMv E j at_ + 2 = (((eMv E j at_).toNat + 2 : Nat) : Int) := by omega
          -- the two numbers that the class looks up and leaves
          have hst1 : ∃ w, fX1_stackAt (b + 1) (st.length : Int) C1 = some (w, C1) := ⟨_, X1_stackAt_in hL1 (by omega)⟩
          obtain ⟨w, hw⟩ := hst1
          have hcb : ∃ w2, fX1_combined (b + 1) 1 w u C1 = some (w2, C1) := by
            unfold fX1_combined
            rw [if_neg (by decide), if_neg (by decide), if_neg (by decide), bnd_eq]
            by_cases c : w32 u ≤ w32 w
            · rw [if_pos c]; exact ⟨_, rfl⟩
            · rw [if_neg c]; exact ⟨_, rfl⟩
          obtain ⟨w2, hw2⟩ := hcb
          cases hq : prt s f pl ((eMv E j at_).toNat + 2) with
          | none =>
            exfalso
            have ha : argv s f pl (eMv E j at_).toNat = -99 := by unfold argv; rw [hq]
            rw [ha] at em0
            exact hne (em0.trans (if_pos (by decide)))
          | some o =>
            cases o with
            | none =>
              have ha : argv s f pl (eMv E j at_).toNat = -100 - (((eMv E j at_).toNat + 2 : Nat) : Int) := by unfold argv; rw [hq]
              rw [ha] at em0
              have em1 := em0.trans (if_pos (by show (-100 - (((eMv E j at_).toNat + 2 : Nat) : Int)) ≤ -99; omega))
              obtain ⟨p1, p2, p3, p4⟩ := part_need h1 hf hP1 hPS hq
              have em2 : mex E j (argv s f pl) (50 - (d + 1) + 1) at_ st = -100 - (((eMv E j at_).toNat + 2 : Nat) : Int) := em1
              rw [em2]
              refine ⟨fun z => by omega, fun _ => ⟨cSetI C1 414 (b + 1) (pl.getD ((eMv E j at_).toNat + 2 - 1) 0 : Int), (eMv E j at_).toNat + 1, by omega, by omega, p4, ?_, cI_I1 _ _ _ _, fin.sI (Or.inr ⟨rfl, rfl, rfl⟩), s1, l1⟩⟩
              rw [← ev2] at p3
              simp (disch := omega) only [isO, ↓bnd_eq, ↓reduceIte, ↓drf_some, ↓cal_some, ↓calx_inl, ↓calx_inr, ↓opt_some, ↓opt_none, w32_of, ix_of, inR, le_t, le_f, lt_t, lt_f, eq_t, eq_f, and_self, true_and, and_true, false_and, and_false, not_true_eq_false, not_false_eq_true, or_true, true_or, or_false, false_or, Bool.false_eq_true, hoe, ↓drf_eq hL1.x5, hos, hns, Int.sub_zero, ↓cal_of hw, ↓cal_of hw2, ↓cal_of p3]
            | some rr =>
              have ha : argv s f pl (eMv E j at_).toNat = if numL rr = -1 then 0 else numL rr := by unfold argv; rw [hq]
              rw [ha] at em0
              obtain ⟨a, p1, p2, p3⟩ := part_have h1 hc1 hf hP1 hPS (by omega) hq
              rw [← ev2] at p1
              have hnr := numL_rng p2.2.2.2.1
              have hnm := X5_number_ p2
              have hab := p2.ob
              by_cases cm : numL rr = -1
              · have em1 : mex E j (argv s f pl) (50 - (d + 1) + 1) at_ st = mex E j (argv s f pl) (50 - (d + 1)) (at_ + 1) (0 :: st) := by
                  rw [if_pos cm, if_neg (show ¬ ((0 : Int) ≤ -99) by decide)] at em0
                  exact em0
                refine go 0 st (by omega) hst (by decide) hA em1 _ ?_
                simp (disch := omega) only [isO, ↓bnd_eq, ↓reduceIte, ↓drf_some, ↓cal_some, ↓calx_inl, ↓calx_inr, ↓opt_some, ↓opt_none, w32_of, ix_of, inR, le_t, le_f, lt_t, lt_f, eq_t, eq_f, and_self, true_and, and_true, false_and, and_false, not_true_eq_false, not_false_eq_true, or_true, true_or, or_false, false_or, Bool.false_eq_true, hoe, ↓drf_eq hL1.x5, hos, hns, Int.sub_zero, Int.toNat_natCast, ↓cal_of hw, ↓cal_of hw2, ↓cal_of p1, hab, ↓cal_of hnm, cm]
              · have em1 : mex E j (argv s f pl) (50 - (d + 1) + 1) at_ st = mex E j (argv s f pl) (50 - (d + 1)) (at_ + 1) (numL rr :: st) := by
                  rw [if_neg cm, if_neg (show ¬ numL rr ≤ -99 by omega)] at em0
                  exact em0
                refine go (numL rr) st (by omega) hst (by omega) hA em1 _ ?_
                simp (disch := omega) only [isO, ↓bnd_eq, ↓reduceIte, ↓drf_some, ↓cal_some, ↓calx_inl, ↓calx_inr, ↓opt_some, ↓opt_none, w32_of, ix_of, inR, le_t, le_f, lt_t, lt_f, eq_t, eq_f, and_self, true_and, and_true, false_and, and_false, not_true_eq_false, not_false_eq_true, or_true, true_or, or_false, false_or, Bool.false_eq_true, hoe, ↓drf_eq hL1.x5, hos, hns, Int.sub_zero, Int.toNat_natCast, ↓cal_of hw, ↓cal_of hw2, ↓cal_of p1, hab, ↓cal_of hnm]
      · -- two numbers
        rw [if_neg (by omega), if_neg (by omega), if_pos (by omega)] at em0
        have ht2 : (if 2 ≤ eMi E j at_ ∧ eMi E j at_ ≤ 5 then (2 : Int) else if 7 ≤ eMi E j at_ then 1 else 0) = 2 := if_pos (by omega)
        rw [ht2]
        cases st with
        | nil =>
          refine fault em0 _ ?_
          simp (disch := omega) only [isO, ↓bnd_eq, ↓reduceIte, ↓drf_some, ↓cal_some, ↓calx_inl, ↓calx_inr, ↓opt_some, ↓opt_none, w32_of, ix_of, inR, le_t, le_f, lt_t, lt_f, eq_t, eq_f, and_self, true_and, and_true, false_and, and_false, not_true_eq_false, not_false_eq_true, or_true, true_or, or_false, false_or, Bool.false_eq_true, List.length_nil]
        | cons y st1 =>
          cases st1 with
          | nil =>
            refine fault em0 _ ?_
            have el : (([y] : List Int).length : Int) = 1 := rfl
            rw [el]
            simp (disch := omega) only [isO, ↓bnd_eq, ↓reduceIte, ↓drf_some, ↓cal_some, ↓calx_inl, ↓calx_inr, ↓opt_some, ↓opt_none, w32_of, ix_of, inR, le_t, le_f, lt_t, lt_f, eq_t, eq_f, and_self, true_and, and_true, false_and, and_false, not_true_eq_false, not_false_eq_true, or_true, true_or, or_false, false_or, Bool.false_eq_true]
          | cons x st2 =>
            have el : (((y :: x :: st2).length : Nat) : Int) = (st2.length : Int) + 2 := by show ((st2.length + 1 + 1 : Nat) : Int) = _; omega
            have hl2 : st2.length + 2 ≤ 8 := hst8
            have hu := hu2 y _ rfl
            have hx := hst x (List.mem_cons_of_mem _ List.mem_cons_self)
            have hy := hst y List.mem_cons_self
            have hs2 := X1_stackAt_in hL1 (i := st2.length) (by omega)
            rw [show cE C1 (b + 8) st2.length = x from hA.2.1] at hs2
            obtain ⟨q1, q2⟩ := X1_combined_ (b := b) (C := C1) k2 hx hy
            have e2 : (st2.length : Int) + 2 - 2 = (st2.length : Int) := by omega
            rw [el, hu, e2]
            refine go (op2 (eMi E j at_) x y) st2 (by omega) (fun z hz => hst z (List.mem_cons_of_mem _ (List.mem_cons_of_mem _ hz))) q2 hA.2.2 em0 _ ?_
            simp (disch := omega) only [isO, ↓bnd_eq, ↓reduceIte, ↓drf_some, ↓cal_some, ↓calx_inl, ↓calx_inr, ↓opt_some, ↓opt_none, w32_of, ix_of, inR, le_t, le_f, lt_t, lt_f, eq_t, eq_f, and_self, true_and, and_true, false_and, and_false, not_true_eq_false, not_false_eq_true, or_true, true_or, or_false, false_or, Bool.false_eq_true, hoe, ↓drf_eq hL1.x5, hos, hns, Int.toNat_natCast, ↓cal_of hs2, ↓cal_of q1]
      · -- JUMP
        rw [if_neg (by omega), if_neg (by omega), if_neg (by omega), if_pos k6] at em0
        rw [k6]
        refine stp (eMv E j at_).toNat st hst8 hst (by omega) hA em0 _ ?_
        rw [← hvn]
        simp (disch := omega) only [isO, ↓bnd_eq, ↓reduceIte, ↓drf_some, ↓cal_some, ↓calx_inl, ↓calx_inr, ↓opt_some, ↓opt_none, w32_of, ix_of, inR, le_t, le_f, lt_t, lt_f, eq_t, eq_f, and_self, true_and, and_true, false_and, and_false, not_true_eq_false, not_false_eq_true, or_true, true_or, or_false, false_or, Bool.false_eq_true, Int.sub_zero]
      · -- ZERO
        rw [if_neg (by omega), if_neg (by omega), if_neg (by omega), if_neg (by omega)] at em0
        rw [k7]
        cases st with
        | nil =>
          refine fault em0 _ ?_
          simp (disch := omega) only [isO, ↓bnd_eq, ↓reduceIte, ↓drf_some, ↓cal_some, ↓calx_inl, ↓calx_inr, ↓opt_some, ↓opt_none, w32_of, ix_of, inR, le_t, le_f, lt_t, lt_f, eq_t, eq_f, and_self, true_and, and_true, false_and, and_false, not_true_eq_false, not_false_eq_true, or_true, true_or, or_false, false_or, Bool.false_eq_true, List.length_nil]
        | cons x st1 =>
          have em1 := em0.trans (show _ = _ from if_neg (by omega))
          have el : (((x :: st1).length : Nat) : Int) = (st1.length : Int) + 1 := by show ((st1.length + 1 : Nat) : Int) = _; omega
          have hl1 : st1.length + 1 ≤ 8 := hst8
          have hu := hu2 x _ rfl
          have hx := hst x List.mem_cons_self
          have e2 : (st1.length : Int) + 1 - 1 = (st1.length : Int) := by omega
          rw [el, hu]
          by_cases c : x = 0
          · rw [if_pos c] at em1
            refine stp (eMv E j at_).toNat st1 (by omega) (fun z hz => hst z (List.mem_cons_of_mem _ hz)) (by omega) hA.2 em1 _ ?_
            rw [← hvn]
            simp (disch := omega) only [isO, ↓bnd_eq, ↓reduceIte, ↓drf_some, ↓cal_some, ↓calx_inl, ↓calx_inr, ↓opt_some, ↓opt_none, w32_of, ix_of, inR, le_t, le_f, lt_t, lt_f, eq_t, eq_f, and_self, true_and, and_true, false_and, and_false, not_true_eq_false, not_false_eq_true, or_true, true_or, or_false, false_or, Bool.false_eq_true, e2, c]
          · rw [if_neg c] at em1
            refine stp (at_ + 1) st1 (by omega) (fun z hz => hst z (List.mem_cons_of_mem _ hz)) (Or.inl (Nat.le_refl _)) hA.2 em1 _ ?_
            simp (disch := omega) only [isO, ↓bnd_eq, ↓reduceIte, ↓drf_some, ↓cal_some, ↓calx_inl, ↓calx_inr, ↓opt_some, ↓opt_none, w32_of, ix_of, inR, le_t, le_f, lt_t, lt_f, eq_t, eq_f, and_self, true_and, and_true, false_and, and_false, not_true_eq_false, not_false_eq_true, or_true, true_or, or_false, false_or, Bool.false_eq_true, e2]
            rfl
      · -- OUT
        rw [if_neg (by omega), if_neg (by omega), if_neg (by omega), if_neg (by omega)] at em0
        rw [k8]
        cases st with
        | nil =>
          refine fault em0 _ ?_
          simp (disch := omega) only [isO, ↓bnd_eq, ↓reduceIte, ↓drf_some, ↓cal_some, ↓calx_inl, ↓calx_inr, ↓opt_some, ↓opt_none, w32_of, ix_of, inR, le_t, le_f, lt_t, lt_f, eq_t, eq_f, and_self, true_and, and_true, false_and, and_false, not_true_eq_false, not_false_eq_true, or_true, true_or, or_false, false_or, Bool.false_eq_true, List.length_nil]
        | cons x st1 =>
          have em1 := em0.trans (show _ = _ from if_pos k8)
          have el : (((x :: st1).length : Nat) : Int) = (st1.length : Int) + 1 := by show ((st1.length + 1 : Nat) : Int) = _; omega
          have hl1 : st1.length + 1 ≤ 8 := hst8
          have hu := hu2 x _ rfl
          have hx := hst x List.mem_cons_self
          rw [em1]
          refine ⟨fun _ => ⟨C1, ?_, fin, s1, l1, hx.1, by omega⟩, fun z => by omega⟩
          rw [el, hu]
          simp (disch := omega) only [isO, ↓bnd_eq, ↓reduceIte, ↓drf_some, ↓cal_some, ↓calx_inl, ↓calx_inr, ↓opt_some, ↓opt_none, w32_of, ix_of, inR, le_t, le_f, lt_t, lt_f, eq_t, eq_f, and_self, true_and, and_true, false_and, and_false, not_true_eq_false, not_false_eq_true, or_true, true_or, or_false, false_or, Bool.false_eq_true]
    · rw [if_neg cat] at hins hval
      rw [if_neg (by rw [w32_n (by omega), show w32 50 = 50 from rfl]; omega), drf_some, if_pos hmo, cal_of hins, if_pos hmo, cal_of hval]
      have em : mex E j (argv s f pl) (50 - (d + 1) + 1) at_ st = 9004 := mex_ge (by omega)
      rw [em]
      refine ⟨fun _ => ⟨C1, ?_, fin, s1, l1, by decide, by decide⟩, fun z => absurd z (by decide)⟩
      have htk := X1_takenBy_ (b := b) (C := C1) (-1) (Or.inl rfl)
      rw [if_pos hoe, cal_of htk, bnd_eq, if_pos hoe, cal_of hu1, bnd_eq, if_pos rfl]
  · have e : d = 50 := by omega
    subst e
    have em : mex E j (argv s f pl) (50 - 50) at_ st = 9004 := rfl
    rw [em]
    refine ⟨fun _ => ⟨C1, ?_, fin, s1, l1, by decide, by decide⟩, fun z => absurd z (by decide)⟩
    rw [if_pos (by decide)]
end MOD
