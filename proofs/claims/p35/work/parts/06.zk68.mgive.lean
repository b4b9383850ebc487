/-! THE REFERENCE GIVES -/
section MGI
/-- behind what is given: a part that is wanted is begun -/
def giveT (a1 : Int) (x2_6 : Int) (M_182 : Md) : Option (Unit × Md) :=
bnd (fun  (M_254 : Md) =>
some ((), M_254)) fun J254 =>
if w32 (M_182.1 71) ≤ 0 then
J254 M_182
else
bnd (((32 * a1) + (M_182.1 71)) - 1) fun (x5_200 : Int) =>
cal (fX12_newRow M_182) fun r3 M2 =>
if inR x5_200 (mLen 58) then bnd (mPut M2 58 (ix x5_200) r3) fun (M4 : Md) =>
cal (fX12_task 2 a1 0 0 x2_6 M4) fun r6 M5 =>
if inR a1 (mLen 53) then
if inR x5_200 (mLen 56) then
if inR x5_200 (mLen 57) then
if inR x5_200 (mLen 58) then
cal (fX12_task 0 (M5.2 53 (ix a1)) (M5.2 56 (ix x5_200)) (M5.2 57 (ix x5_200)) (M5.2 58 (ix x5_200)) M5) fun r8 M7 =>
J254 M7
else none
else none
else none
else none
else none
/-- a part that is chosen -/
def giveC (x2_6 : Int) (J182 : Md → Option (Unit × Md)) (t0_116 : Int) (M_116 : Md) : Option (Unit × Md) :=
bnd (fun  (M_132 : Md) =>
J182 M_132) fun J132 =>
if ¬ w32 (M_116.1 71) = 0 then
J132 M_116
else
cal (fX12_appendRow x2_6 t0_116 M_116) fun r18 M17 =>
J132 M17
def giveD (a1 x3_13 x2_6 : Int) (J182 : Md → Option (Unit × Md)) (t0_86 : Int) (M_86 : Md) : Option (Unit × Md) :=
if w32 (M_86.1 71) ≤ 0 then
bnd (fun (t0_112 : Int) (M_112 : Md) =>
cal (fX12_partOf a1 (x3_13 + t0_112) M_112) fun r20 M19 =>
giveC x2_6 J182 r20 M19) fun J112 =>
if w32 t0_86 = 0 then
J112 3 M_86
else
J112 2 M_86
else
giveC x2_6 J182 1 M_86
theorem give_eq (a1 : Int) (M : Md) : fX12_give a1 M = (if inR a1 (mLen 54) then
bnd (M.2 54 (ix a1)) fun (x2_6 : Int) =>
if inR a1 (mLen 52) then
bnd (M.2 52 (ix a1)) fun (x3_13 : Int) =>
bnd (mSet M 71 0) fun (M1 : Md) =>
bnd (fun (t0_34 : Int) (M_34 : Md) =>
bnd (giveT a1 x2_6) fun J182 =>
bnd (fun  (M_135 : Md) =>
if ¬ w32 x3_13 = w32 2 then
if ¬ w32 (M_135.1 71) = 0 then
J182 M_135
else
cal (fX12_numberOf t0_34 M_135) fun r10 M9 =>
cal (fX12_giveByNumber a1 r10 M9) fun r12 M11 =>
J182 M11
else
cal (fX12_sumOf a1 M_135) fun r14 M13 =>
bnd (fun  (M_161 : Md) =>
J182 M_161) fun J161 =>
if ¬ w32 (M13.1 71) = 0 then
J161 M13
else
cal (fX12_append x2_6 r14 M13) fun r16 M15 =>
J161 M15) fun J135 =>
if w32 2 ≤ w32 x3_13 then
J135 M_34
else
if ¬ w32 (M_34.1 71) = 0 then
J135 M_34
else
bnd (fun (t0_63 : Int) (M_63 : Md) =>
bnd (giveD a1 x3_13 x2_6 J182) fun J86 =>
if ¬ w32 x3_13 = 0 then
cal (fX12_areSame t0_34 t0_63 M_63) fun r22 M21 =>
J86 r22 M21
else
cal (fX12_hasOther t0_34 M_63) fun r24 M23 =>
J86 r24 M23) fun J63 =>
if ¬ w32 x3_13 = w32 1 then
J63 1 M_34
else
cal (fX12_partOf a1 2 M_34) fun r26 M25 =>
J63 r26 M25) fun J34 =>
if ¬ w32 x3_13 = w32 2 then
cal (fX12_partOf a1 1 M1) fun r28 M27 =>
J34 r28 M27
else
J34 1 M1
else none
else none) := rfl
variable {M : Md} {E : Env} {k f fr row : Nat} {s : ASt} {pl : List Nat} {acc : List Int} {kd x : Int}
def GvJ (M : Md) (row : Nat) (acc : List Int) (pl : List Nat) (J : Md → Option (Unit × Md)) (X : Option (Unit × Md)) (o : Nat × List Int × ASt) : Prop :=
  ∃ M', X = J M' ∧ GiO row M M' ∧ SeM M' o.2.2 ∧ ((o.1 = 0 ∧ RowM M' row o.2.1 ∧ M'.1 71 = 0) ∨ (o.1 ≠ 0 ∧ o.1 ≤ pl.length ∧ RowM M' row acc ∧ M'.1 71 = (o.1 : Int)))
theorem GvJ.before {M0 : Md} {J : Md → Option (Unit × Md)} {X : Option (Unit × Md)} {o : Nat × List Int × ASt} (h : GvJ M row acc pl J X o) (g : GiO row M0 M) : GvJ M0 row acc pl J X o := by
  obtain ⟨M', h1, h2, h3⟩ := h
  exact ⟨M', h1, g.tr h2, h3⟩
/-- which part is given -/
def pkp (s : ASt) (f : Nat) (pl : List Nat) (c : Nat) (acc : List Int) : Option (Nat × List Int × ASt) := match prt s f pl c with
  | none => none
  | some none => some (c, acc, s)
  | some (some r) => some (0, aal acc r, s)
theorem give_want (J : Md → Option (Unit × Md)) {c : Nat} (hc : 1 ≤ c) (hl : c ≤ pl.length) (hr : RowM M row acc) (hSe : SeM M s) : GvJ M row acc pl J (J (mSet M 71 (c : Int))) (c, acc, s) :=
  ⟨_, rfl, GiO.set (by decide), hSe.keep (fun j _ _ => mS2 _ _ (by omega)), Or.inr ⟨by show c ≠ 0; omega, hl, hr, mS1 _ _ _⟩⟩
theorem give_pick (h : FnS M k s f pl) (h71 : M.1 71 = 0) (hne : ∀ j, j < pl.length → M.2 58 (32 * k + j) ≠ (row : Int)) (hrow : row ≠ 1) (hr : RowM M row acc) (hSe : SeM M s) (J : Md → Option (Unit × Md)) {c : Nat} (hc : 1 ≤ c ∧ c < 10) {o : Nat × List Int × ASt} (ho : pkp s f pl c acc = some o) :
   GvJ M row acc pl J (cal (fX12_partOf (k : Int) (c : Int) M) fun r20 M19 => giveC (row : Int) J r20 M19) o := by
  obtain ⟨p1, p2⟩ := X12_partOf_ h (j := c) ⟨hc.1, by omega⟩
  have h30 := h.2.2.1
  unfold pkp at ho
  cases hq : prt s f pl c with
  | none => rw [hq] at ho; cases ho
  | some q =>
    rw [hq] at ho
    cases q with
    | none =>
      injection ho with ho
      subst ho
      obtain ⟨q1, q2⟩ := p2 hq
      have ew : wnt M c = mSet M 71 (c : Int) := if_pos h71
      rw [cal_of q2, ew]
      unfold giveC
      rw [bnd_eq, if_pos (by rw [mS1, w32_n (by omega)]; omega)]
      exact give_want J hc.1 q1 hr hSe
    | some r =>
      injection ho with ho
      subst ho
      obtain ⟨d, q1, q2, q3⟩ := p1 r hq
      have hd : row ≠ d := by
        rcases q3 with z | ⟨z1, z2⟩
        · omega
        · intro e
          exact hne (c - 1) (by omega) (by rw [z2, e])
      obtain ⟨M2, e2, r2, o2⟩ := X12_appendRow_ hd hr q2
      rw [cal_of q1]
      unfold giveC
      rw [bnd_eq, if_neg (fun z => z (by rw [h71]; rfl)), cal_of e2]
      exact ⟨M2, rfl, o2.gi, hSe.keep (fun j _ _ => congrFun o2.1 j), Or.inl ⟨rfl, r2, by rw [o2.1]; exact h71⟩⟩
theorem GvM.j {X : Option (Unit × Md)} {o : Nat × List Int × ASt} (h : GvM M row acc pl X o) (J : Md → Option (Unit × Md)) : GvJ M row acc pl J (cal X fun _ M11 => J M11) o := by
  obtain ⟨M', h1, h2⟩ := h
  exact ⟨M', cal_of h1 _, h2⟩
set_option maxHeartbeats 4000000 in
theorem X12_give_J (h : FnS M k s f pl) (hH : FnH M k fr row kd) (hne : ∀ j, j < pl.length → M.2 58 (32 * k + j) ≠ (row : Int)) (hrow : row ≠ 1) (hr : RowM M row acc) (hSe : SeM M s) (hE : EnM M E) (hP : EnP E) (hkd : 0 ≤ kd ∧ kd ≤ 6) {o : Nat × List Int × ASt} (ho : gv E s f pl kd acc = some o) :
   GvJ M row acc pl (giveT (k : Int) (row : Int)) (fX12_give (k : Int) M) o := by
  have hk := h.1
  have h30 := h.2.2.1
  have wk : w32 kd = kd := w32_of (by omega) (by omega)
  have o1 : GiO row M (mSet M 71 0) := GiO.set (by decide)
  have h1 : FnS (mSet M 71 0) k s f pl := ⟨h.1, h.2.1, h.2.2.1, h.2.2.2.1, Or.inl (mS1 _ _ _), h.2.2.2.2.2⟩
  have h711 : (mSet M 71 0).1 71 = 0 := mS1 _ _ _
  have hH1 : FnH (mSet M 71 0) k fr row kd := hH
  have hr1 : RowM (mSet M 71 0) row acc := hr
  have hS1 : SeM (mSet M 71 0) s := hSe.keep (fun j _ _ => mS2 _ _ (by omega))
  have hE1 : EnM (mSet M 71 0) E := hE.step o1.ex
  have hne1 : ∀ j, j < pl.length → (mSet M 71 0).2 58 (32 * k + j) ≠ (row : Int) := hne
  rw [give_eq, if_pos (in_700 hk rfl), ix_n (by omega), hH.2.2, bnd_eq, if_pos (in_700 hk rfl), hH.1, bnd_eq, bnd_eq]
  generalize mSet M 71 0 = M1 at *
  refine GvJ.before ?_ o1
  unfold gv at ho
  by_cases k2 : kd = 2
  · subst k2
    rw [if_pos rfl] at ho
    obtain ⟨s1, s2⟩ := X12_sumOf_ h1 h711
    rw [bnd_eq, if_neg (fun z => z rfl)]
    dsimp only
    rw [bnd_eq, bnd_eq, if_pos (Int.le_refl _)]
    dsimp only
    rw [if_neg (fun z => z rfl)]
    cases hg : gsm s f pl pl.length 1 0 with
    | none => rw [hg] at ho; cases ho
    | some q =>
      obtain ⟨j, a⟩ := q
      rw [hg] at ho
      cases j with
      | zero =>
        injection ho with ho
        subst ho
        obtain ⟨M2, e2, r2, o2⟩ := X12_append_ (x := a % 1000) hr1 (Int.emod_nonneg _ (by decide)) (by have := Int.emod_lt_of_pos a (show (0 : Int) < 1000 by decide); omega)
        rw [cal_of (s1 a hg), bnd_eq, if_neg (fun z => z (by rw [h711]; rfl)), cal_of e2]
        exact ⟨M2, rfl, o2.gi, hS1.keep (fun j _ _ => congrFun o2.1 j), Or.inl ⟨rfl, r2, by rw [o2.1]; exact h711⟩⟩
      | succ j =>
        injection ho with ho
        subst ho
        obtain ⟨q1, y, q2⟩ := s2 j a hg
        rw [cal_of q2, bnd_eq, if_pos (by rw [mS1, w32_n (by omega)]; omega)]
        exact give_want _ (by omega) q1 hr1 hS1
  · rw [if_neg k2] at ho
    have w2 : ¬ w32 kd = w32 2 := by rw [wk, show w32 2 = 2 from rfl]; exact k2
    obtain ⟨p1, p2⟩ := X12_partOf_ h1 (j := 1) ⟨Nat.le_refl 1, by decide⟩
    rw [bnd_eq, if_pos w2, show (1 : Int) = ((1 : Nat) : Int) from rfl]
    cases hq : prt s f pl 1 with
    | none => rw [hq] at ho; cases ho
    | some q =>
      cases q with
      | none =>
        rw [hq] at ho
        injection ho with ho
        subst ho
        obtain ⟨q1, q2⟩ := p2 hq
        have ew : wnt M1 1 = mSet M1 71 ((1 : Nat) : Int) := if_pos h711
        have w71 : ¬ w32 ((mSet M1 71 ((1 : Nat) : Int)).1 71) = 0 := by rw [mS1]; decide
        rw [cal_of q2, ew]
        dsimp only
        rw [bnd_eq, bnd_eq]
        by_cases c : w32 2 ≤ w32 kd
        · rw [if_pos c]
          dsimp only
          rw [if_pos w2, if_pos w71]
          exact give_want _ (Nat.le_refl 1) q1 hr1 hS1
        · rw [if_neg c, if_pos w71]
          dsimp only
          rw [if_pos w2, if_pos w71]
          exact give_want _ (Nat.le_refl 1) q1 hr1 hS1
      | some r1 =>
        rw [hq] at ho
        obtain ⟨d1, q1, q2, q3⟩ := p1 r1 hq
        have w71 : ¬ ¬ w32 (M1.1 71) = 0 := fun z => z (by rw [h711]; rfl)
        have w71' : w32 (M1.1 71) ≤ 0 := by rw [h711]; decide
        rw [cal_of q1]
        dsimp only
        rw [bnd_eq, bnd_eq]
        by_cases k0 : kd = 0
        · subst k0
          have ho2 : pkp s f pl (if anyO r1 = true then 2 else 3) acc = some o := ho
          rw [if_neg (by decide), if_neg w71, bnd_eq, if_pos (by decide)]
          dsimp only
          rw [bnd_eq, if_neg (fun z => z rfl), cal_of (X12_hasOther_ q2)]
          unfold giveD
          rw [if_pos w71', bnd_eq]
          by_cases c : anyO r1 = true
          · rw [if_pos c] at ho2
            rw [if_pos c, if_neg (show ¬ w32 1 = 0 by decide)]
            exact give_pick h1 h711 hne1 hrow hr1 hS1 _ ⟨by decide, by decide⟩ ho2
          · rw [if_neg c] at ho2
            rw [if_neg c, if_pos (show w32 0 = 0 by decide)]
            exact give_pick h1 h711 hne1 hrow hr1 hS1 _ ⟨by decide, by decide⟩ ho2
        · by_cases k1 : kd = 1
          · subst k1
            obtain ⟨p3, p4⟩ := X12_partOf_ h1 (j := 2) ⟨by decide, by decide⟩
            rw [if_neg (by decide), if_neg w71, bnd_eq, if_neg (fun z => z rfl), show (2 : Int) = ((2 : Nat) : Int) from rfl]
            cases hq2 : prt s f pl 2 with
            | none =>
              exfalso
              have e : (match prt s f pl 2 with
        | none => none
        | some none => some (2, acc, s)
        | some (some r2) => match prt s f pl (if r1 = r2 then 3 else 4) with
          | none => none
          | some none => some (if r1 = r2 then 3 else 4, acc, s)
          | some (some r) => some (0, aal acc r, s)) = some o := ho
              rw [hq2] at e
              cases e
            | some z2 =>
              have e : (match prt s f pl 2 with
        | none => none
        | some none => some (2, acc, s)
        | some (some r2) => match prt s f pl (if r1 = r2 then 3 else 4) with
          | none => none
          | some none => some (if r1 = r2 then 3 else 4, acc, s)
          | some (some r) => some (0, aal acc r, s)) = some o := ho
              rw [hq2] at e
              cases z2 with
              | none =>
                injection e with e
                subst e
                obtain ⟨t1, t2⟩ := p4 hq2
                have ew : wnt M1 2 = mSet M1 71 ((2 : Nat) : Int) := if_pos h711
                have r2' : RowM (mSet M1 71 ((2 : Nat) : Int)) d1 r1 := q2
                have r0' : RowM (mSet M1 71 ((2 : Nat) : Int)) 1 [] := h1.2.2.2.1
                rw [cal_of t2, ew]
                dsimp only
                rw [bnd_eq, if_pos (by decide), show (1 : Int) = ((1 : Nat) : Int) from rfl, cal_of (X12_areSame_ r2' r0')]
                unfold giveD
                rw [if_neg (by rw [mS1]; decide)]
                unfold giveC
                rw [bnd_eq, if_pos (by rw [mS1]; decide)]
                exact give_want _ (by decide) t1 hr1 hS1
              | some r2 =>
                obtain ⟨d2, t1, t2, t3⟩ := p3 r2 hq2
                have ho2 : pkp s f pl (if r1 = r2 then 3 else 4) acc = some o := e
                rw [cal_of t1]
                dsimp only
                rw [bnd_eq, if_pos (by decide), cal_of (X12_areSame_ q2 t2)]
                unfold giveD
                rw [if_pos w71', bnd_eq]
                by_cases c : r1 = r2
                · rw [if_pos c] at ho2
                  rw [if_pos c, if_neg (show ¬ w32 1 = 0 by decide)]
                  exact give_pick h1 h711 hne1 hrow hr1 hS1 _ ⟨by decide, by decide⟩ ho2
                · rw [if_neg c] at ho2
                  rw [if_neg c, if_pos (show w32 0 = 0 by decide)]
                  exact give_pick h1 h711 hne1 hrow hr1 hS1 _ ⟨by decide, by decide⟩ ho2
          · have ho2 : gvB E s f pl kd acc (numL r1) = some o := by
              have e := ho
              dsimp only at e
              rw [if_neg k0, if_neg k1] at e
              exact e
            have hn := numL_rng q2.2.2.1
            rw [if_pos (by rw [wk, show w32 2 = 2 from rfl]; omega)]
            dsimp only
            rw [if_pos w2, if_neg w71, cal_of (X12_numberOf_ q2)]
            have hk4 : kd = 3 ∨ kd = 4 ∨ kd = 5 ∨ kd = 6 := by omega
            rcases hk4 with c | c | c | c
            · subst c; exact (giveBy_3 hk hH1 hr1 hS1 h711 hE1 hn ho2).j _
            · subst c; exact (giveBy_4 hk hH1 hr1 hS1 h711 hE1 hP.2.1 hn ho2).j _
            · subst c; exact (giveBy_5 hk hH1 hr1 hS1 h711 hE1 hP.2.1 hn ho2).j _
            · subst c; exact (giveBy_6 h1 hH1 hr1 hS1 h711 hE1 hP.2.2 hn ho2).j _
/-- a wanted part is begun -/
theorem giveT_need (hk : k < 700) (hH : FnH M k fr row kd) {jn rw_ D : Nat} (hjn : jn < 30) (h71 : M.1 71 = ((jn + 1 : Nat) : Int)) (h48 : M.1 48 = (rw_ : Int)) (hrw : rw_ < 1700) (h59 : M.1 59 = (D : Int)) (hD : D + 1 < 4000) {p c : Int} (h56 : M.2 56 (32 * k + jn) = p) (h57 : M.2 57 (32 * k + jn) = c) :
   ∃ M', giveT (k : Int) (row : Int) M = some ((), M') ∧ M'.1 48 = (rw_ : Int) + 1 ∧ M'.1 59 = (D : Int) + 1 + 1 ∧ TkM M' D 2 (k : Int) 0 0 (row : Int) ∧ TkM M' (D + 1) 0 (fr : Int) p c (rw_ : Int) ∧ M'.2 58 (32 * k + jn) = (rw_ : Int) ∧ RowM M' rw_ [] ∧
    (∀ j, j ≠ 48 → j ≠ 59 → M'.1 j = M.1 j) ∧ (∀ q, q ≠ 49 → q ≠ 58 → (q < 60 ∨ 64 < q) → M'.2 q = M.2 q) ∧ (∀ i, i ≠ rw_ → M'.2 49 i = M.2 49 i) ∧ (∀ i, i ≠ 32 * k + jn → M'.2 58 i = M.2 58 i) ∧ ∀ q i, 60 ≤ q → q ≤ 64 → i ≠ D → i ≠ D + 1 → M'.2 q i = M.2 q i := by
  unfold giveT
  have e0 : (32 * (k : Int)) + ((jn + 1 : Nat) : Int) - 1 = ((32 * k + jn : Nat) : Int) := by omega
  obtain ⟨n1, n2⟩ := X12_newRow_ h48 hrw
  rw [bnd_eq, h71, if_neg (by rw [w32_n (by omega)]; omega), e0, bnd_eq, cal_of n1, if_pos (in_22400 (by omega) rfl), bnd_eq, ix_n (by omega)]
  have hM4 : ∀ M4, M4 = mPut (mSet (mPut M 49 rw_ 0) 48 ((rw_ : Int) + 1)) 58 (32 * k + jn) (rw_ : Int) → (M4.1 48 = (rw_ : Int) + 1) ∧ (∀ j, j ≠ 48 → M4.1 j = M.1 j) ∧ (∀ q, q ≠ 49 → q ≠ 58 → M4.2 q = M.2 q) ∧ (∀ i, i ≠ rw_ → M4.2 49 i = M.2 49 i) ∧ (∀ i, i ≠ 32 * k + jn → M4.2 58 i = M.2 58 i) ∧ M4.2 58 (32 * k + jn) = (rw_ : Int) ∧ RowM M4 rw_ [] := by
    intro M4 e
    subst e
    refine ⟨mS1 (mPut M 49 rw_ 0) 48 _, fun j hj => mS2 (mPut M 49 rw_ 0) _ hj, fun q a b => ?_, fun i hi => ?_, fun i hi => ?_, p2_1 _ _ _ _, ?_⟩
    · rw [mPut_ne _ _ _ b]; exact mPut_ne _ _ _ a
    · rw [p2_2 _ _ (Or.inl (by decide))]; exact p2_2 (k := 49) (k' := 49) M _ (Or.inr hi)
    · rw [p2_2 _ _ (Or.inr hi)]; exact congrFun (mPut_ne (k := 49) (k' := 58) M rw_ 0 (by decide)) i
    · exact ⟨n2.1, by rw [p2_2 _ _ (Or.inl (by decide))]; exact n2.2.1, n2.2.2.1, fun k hk => absurd hk (Nat.not_lt_zero _)⟩
  generalize mPut (mSet (mPut M 49 rw_ 0) 48 ((rw_ : Int) + 1)) 58 (32 * k + jn) (rw_ : Int) = M4 at *
  obtain ⟨a1, a2, a3, a4, a5, a6, a7⟩ := hM4 M4 rfl
  obtain ⟨M5, t1, t2, t3, t4⟩ := X12_task_ (M := M4) (d := D) ((a2 59 (by decide)).trans h59) (by omega) 2 (k : Int) 0 0 (row : Int)
  have b53 : M5.2 53 k = (fr : Int) := by rw [t4.2.1 53 (by decide), a3 53 (by decide) (by decide)]; exact hH.2.1
  have b56 : M5.2 56 (32 * k + jn) = p := by rw [t4.2.1 56 (by decide), a3 56 (by decide) (by decide)]; exact h56
  have b57 : M5.2 57 (32 * k + jn) = c := by rw [t4.2.1 57 (by decide), a3 57 (by decide) (by decide)]; exact h57
  have b58 : M5.2 58 (32 * k + jn) = (rw_ : Int) := by rw [t4.2.1 58 (by decide)]; exact a6
  obtain ⟨M7, u1, u2, u3, u4⟩ := X12_task_ (M := M5) (d := D + 1) (t2.trans (by omega)) hD 0 (fr : Int) p c (rw_ : Int)
  rw [cal_of t1, if_pos (in_700 hk rfl), if_pos (in_22400 (by omega) rfl), if_pos (in_22400 (by omega) rfl), if_pos (in_22400 (by omega) rfl), ix_n (by omega), b53, b56, b57, b58, cal_of u1]
  refine ⟨M7, rfl, ?_, ?_, ?_, u3, ?_, ?_, fun j x1 x2 => ?_, fun q x1 x2 x3 => ?_, fun i hi => ?_, fun i hi => ?_, fun q i x1 x2 x3 x4 => ?_⟩
  · rw [u4.1 48 (by decide), t4.1 48 (by decide)]; exact a1
  · rw [u2]; omega
  · obtain ⟨y1, y2, y3, y4, y5⟩ := t3
    exact ⟨by rw [u4.2.2 _ _ (by omega)]; exact y1, by rw [u4.2.2 _ _ (by omega)]; exact y2, by rw [u4.2.2 _ _ (by omega)]; exact y3, by rw [u4.2.2 _ _ (by omega)]; exact y4, by rw [u4.2.2 _ _ (by omega)]; exact y5⟩
  · rw [u4.2.1 58 (by decide)]; exact b58
  · exact ⟨a7.1, by rw [u4.2.1 49 (by decide), t4.2.1 49 (by decide)]; exact a7.2.1, a7.2.2.1, fun k hk => absurd hk (Nat.not_lt_zero _)⟩
  · rw [u4.1 j x2, t4.1 j x2]; exact a2 j x1
  · rw [u4.2.1 q x3, t4.2.1 q x3]; exact a3 q x1 x2
  · rw [u4.2.1 49 (by decide), t4.2.1 49 (by decide)]; exact a4 i hi
  · rw [u4.2.1 58 (by decide), t4.2.1 58 (by decide)]; exact a5 i hi
  · rw [u4.2.2 q i x4, t4.2.2 q i x3, a3 q (by omega) (by omega)]
theorem giveT_done (h71 : M.1 71 = 0) : giveT (k : Int) (row : Int) M = some ((), M) := by
  unfold giveT
  rw [bnd_eq, h71, if_pos (by decide)]
end MGI
