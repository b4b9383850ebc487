/-! ROWS OF NUMBERS as lists, on both sides -/
def apl (r : List Int) (x : Int) : List Int := if r.length < 150 then r ++ [x] else r
def aal (r q : List Int) : List Int := q.foldl apl r
def wsum : List Int → Int
  | [] => 0
  | x :: r => (if x < 1000 then x else 0) + wsum r
def okr (r : List Int) : Prop := r.length ≤ 150 ∧ ∀ x ∈ r, 0 ≤ x ∧ x < 10000
def numL (r : List Int) : Int := if 0 < r.length ∧ r.getD 0 0 < 1000 then r.getD 0 0 else -1
theorem wsum_app (r q : List Int) : wsum (r ++ q) = wsum r + wsum q := by
  induction r with
  | nil => show wsum q = 0 + wsum q; omega
  | cons x r ih => show (if x < 1000 then x else 0) + wsum (r ++ q) = (if x < 1000 then x else 0) + wsum r + wsum q; rw [ih]; omega
theorem apl_ok {r : List Int} {x : Int} (h : okr r) (h0 : 0 ≤ x) (h1 : x < 10000) : okr (apl r x) := by
  unfold apl
  by_cases c : r.length < 150
  · rw [if_pos c]
    refine ⟨by rw [List.length_append]; show r.length + 1 ≤ 150; omega, fun y hy => ?_⟩
    rcases List.mem_append.mp hy with z | z
    · exact h.2 y z
    · rw [List.mem_singleton.mp z]; exact ⟨h0, h1⟩
  · rw [if_neg c]; exact h
theorem okr_nil : okr [] := ⟨by decide, fun x hx => absurd hx List.not_mem_nil⟩
theorem aal_ok {q : List Int} : ∀ {r : List Int}, okr r → (∀ x ∈ q, 0 ≤ x ∧ x < 10000) → okr (aal r q) := by
  induction q with
  | nil => intro r h _; exact h
  | cons x q ih =>
    intro r h hq
    have hx := hq x (List.mem_cons_self)
    exact ih (apl_ok h hx.1 hx.2) (fun y hy => hq y (List.mem_cons_of_mem _ hy))
theorem getD_app_lt {r : List Int} {x : Int} {k : Nat} (h : k < r.length) : (r ++ [x]).getD k 0 = r.getD k 0 := by
  rw [List.getD_eq_getElem?_getD, List.getD_eq_getElem?_getD, List.getElem?_append_left h]
theorem getD_app_eq {r : List Int} {x : Int} : (r ++ [x]).getD r.length 0 = x := by
  rw [List.getD_eq_getElem?_getD, List.getElem?_append_right (Nat.le_refl _), Nat.sub_self]
  rfl
theorem getD_mem {r : List Int} {k : Nat} (h : k < r.length) : r.getD k 0 ∈ r := by
  rw [List.getD_eq_getElem?_getD, List.getElem?_eq_getElem h]
  exact List.getElem_mem h
theorem wsum_rng {r : List Int} (h : ∀ x ∈ r, 0 ≤ x ∧ x < 10000) : 0 ≤ wsum r ∧ wsum r ≤ 1000 * (r.length : Int) := by
  induction r with
  | nil => exact ⟨Int.le_refl _, by decide⟩
  | cons x r ih =>
    have a := ih (fun y hy => h y (List.mem_cons_of_mem _ hy))
    have b := h x (List.mem_cons_self)
    show 0 ≤ (if x < 1000 then x else 0) + wsum r ∧ (if x < 1000 then x else 0) + wsum r ≤ 1000 * ((r.length + 1 : Nat) : Int)
    by_cases c : x < 1000
    · rw [if_pos c]; omega
    · rw [if_neg c]; omega
def RowV (C : Cd) (a : Nat) (r : List Int) : Prop := RwA C a ∧ cI C 801 a = (r.length : Int) ∧ cI C 802 a = wsum r ∧ okr r ∧ ∀ k, k < r.length → cE C (a + 1) k = r.getD k 0
def sRow (a i k b : Nat) : Prop := (i = 0 ∧ (k = 801 ∨ k = 802) ∧ b = a) ∨ (i = 2 ∧ b = a + 1)
theorem RowV.fp {S : Nat → Nat → Nat → Prop} {C C' : Cd} {a : Nat} {r : List Int} (W : Wf C) (h : Fp S C C') (ha : RowV C a r) (s0 : ¬ S 1 800 a) (s1 : ¬ S 0 801 a) (s2 : ¬ S 0 802 a) (s3 : ¬ S 2 0 (a + 1)) : RowV C' a r := by
  obtain ⟨h1, h2, h3, h4, h5⟩ := ha
  have hz := W a h1.1.1
  have hz1 := W (a + 1) h1.2.2.1.1
  exact ⟨h1.fp W h s0, (h.fI hz s1).trans h2, (h.fI hz s2).trans h3, h4, fun k hk => (h.fE hz1 s3 k).trans (h5 k hk)⟩
section LR
variable {C : Cd} {a o : Nat} {r q : List Int}
theorem X5_add_ (W : Wf C) {x : Int} (h : RowV C a r) (h0 : 0 ≤ x) (h1 : x < 10000) : ∃ C', fX5_add a x C = some ((), C') ∧ RowV C' a (apl r x) ∧ Fp (sRow a) C C' ∧ csz C' = csz C ∧ csl C' = csl C := by
  obtain ⟨a1, a2, a3, a4, a5⟩ := h
  by_cases c : r.length < 150
  · have e := X5_add_lt (v := x) a1 a2 (by omega) (by omega) (by omega) (by omega)
    rw [Int.toNat_natCast, a3] at e
    have ea : apl r x = r ++ [x] := if_pos c
    have ok := apl_ok a4 h0 h1
    rw [ea] at ok
    refine ⟨_, e, ?_, (((Fp.rf W).sE (Or.inr ⟨rfl, rfl⟩)).sI (Or.inl ⟨rfl, Or.inl rfl, rfl⟩)).sI (Or.inl ⟨rfl, Or.inr rfl, rfl⟩), rfl, rfl⟩
    rw [ea]
    refine ⟨a1, ?_, ?_, ok, fun k hk => ?_⟩
    · rw [cI_I2 _ _ (Or.inl (by decide)), cI_I1, List.length_append]
      show _ = ((r.length + 1 : Nat) : Int)
      omega
    · rw [cI_I1, wsum_app]
      show _ = wsum r + ((if x < 1000 then x else 0) + 0)
      omega
    · rw [List.length_append] at hk
      have hk' : k < r.length + 1 := hk
      show cE (cSetE C (a + 1) r.length x) (a + 1) k = _
      by_cases c2 : k = r.length
      · subst c2
        rw [cE_E1, getD_app_eq]
      · rw [cE_E2 _ _ (Or.inr c2), getD_app_lt (by omega)]
        exact a5 k (by omega)
  · have e := X5_add_ge (v := x) a1 a2 (by have := a4.1; omega)
    refine ⟨C, e, ?_, Fp.rf W, rfl, rfl⟩
    rw [show apl r x = r from if_neg c]
    exact ⟨a1, a2, a3, a4, a5⟩
theorem X5_at_ (h : RowV C a r) {k : Nat} (hk : k < r.length) : fX5_at a (k : Int) C = some (r.getD k 0, C) := by
  obtain ⟨a1, a2, a3, a4, a5⟩ := h
  have e := X5_at_in (i := (k : Int)) a1 a2 (by omega) (by omega) (by have := a4.1; omega)
  rw [e, Int.toNat_natCast, a5 k hk]
theorem RowV.ob (h : RowV C a r) : isO C a 8 := h.1.1
theorem X5_addAll_ (W : Wf C) (hao : a ≠ o) (h : RowV C a r) (hq : RowV C o q) : ∃ C', fX5_addAll a (some o) C = some ((), C') ∧ RowV C' a (aal r q) ∧ Fp (sRow a) C C' ∧ csz C' = csz C ∧ csl C' = csl C := by
  unfold fX5_addAll
  rw [bnd_eq]
  have hql := hq.2.2.2.1.1
  have key := lpn_rule (z := fun (_ : Int) (_ : Cd) => (none : Option (Unit × Cd))) (body := fun L2 (v2_2 : Int) (C_2 : Cd) =>
drf (some o) fun (p1 : Nat) =>
if isO C_2 p1 8 then
if w32 (cI C_2 801 p1) ≤ w32 v2_2 then
some ((), C_2)
else
if isO C_2 p1 8 then cal (fX5_at p1 v2_2 C_2) fun (r3 : Int) (C2 : Cd) =>
if isO C2 a 8 then cal (fX5_add a r3 C2) fun (r5 : Unit) (C4 : Cd) =>
L2 (v2_2 + 1) C4
else none
else none
else none) (P := fun mm (L : Int → Cd → Option (Unit × Cd)) => ∀ (k : Nat) (C1 : Cd) (r1 : List Int), k ≤ q.length → q.length - k < mm → Wf C1 → RowV C1 a r1 → RowV C1 o q → ∃ C', L (k : Int) C1 = some ((), C') ∧ RowV C' a (aal r1 (q.drop k)) ∧ Fp (sRow a) C1 C' ∧ csz C' = csz C1 ∧ csl C' = csl C1) (fun k _ _ _ h => absurd h (Nat.not_lt_zero _)) (fun mm L hL k C1 r1 hk hm W1 h1 hq1 => ?_) FU 0 C r (Nat.zero_le _) (by unfold FU; omega) W h hq
  · exact key
  · dsimp only
    rw [drf_some, if_pos hq1.ob, hq1.2.1]
    rcases Nat.lt_or_ge k q.length with hlt | hge
    · have hx := hq1.2.2.2.1.2 _ (getD_mem hlt)
      obtain ⟨C2, e2, h2, f2, s2, l2⟩ := X5_add_ W1 (x := q.getD k 0) h1 hx.1 hx.2
      have hq2 : RowV C2 o q := hq1.fp W1 f2 (fun z => by unfold sRow at z; omega) (fun z => by unfold sRow at z; omega) (fun z => by unfold sRow at z; omega) (fun z => by unfold sRow at z; omega)
      obtain ⟨C3, e3, h3, f3, s3, l3⟩ := hL (k + 1) C2 _ hlt (by omega) f2.wf h2 hq2
      refine ⟨C3, ?_, ?_, f2.tr f3, s3.trans s2, l3.trans l2⟩
      · rw [if_neg (by rw [w32_n (by omega), w32_n (by omega)]; omega), if_pos hq1.ob, cal_of (X5_at_ hq1 hlt), if_pos h1.ob, cal_of e2]
        exact e3
      · have ed : q.drop k = q.getD k 0 :: q.drop (k + 1) := by
          rw [List.drop_eq_getElem_cons hlt, List.getD_eq_getElem?_getD, List.getElem?_eq_getElem hlt]
          rfl
        rw [ed]
        exact h3
    · have e : k = q.length := by omega
      subst e
      rw [if_pos (Int.le_refl _), List.drop_length]
      exact ⟨C1, rfl, h1, Fp.rf W1, rfl, rfl⟩
theorem X5_number_ (h : RowV C a r) : fX5_number a C = some (numL r, C) := by
  obtain ⟨a1, a2, a3, a4, a5⟩ := h
  unfold numL
  by_cases c : 0 < r.length
  · have hx := a4.2 _ (getD_mem c)
    have e := X5_number_1 (x := r.getD 0 0) a1 a2 (by omega) (by have := a4.1; omega) (a5 0 c) (by omega) (by omega)
    rw [e]
    by_cases c2 : r.getD 0 0 < 1000
    · rw [if_pos c2, if_pos ⟨c, c2⟩]
    · rw [if_neg c2, if_neg (fun z => c2 z.2)]
  · rw [if_neg (fun z => c z.1)]
    exact X5_number_0 a1.1 (by rw [a2]; omega)
theorem X5_clear_' (W : Wf C) (h : RwA C a) : ∃ C', fX5_clear a C = some ((), C') ∧ RowV C' a [] ∧ Fp (sRow a) C C' ∧ csz C' = csz C ∧ csl C' = csl C := by
  refine ⟨_, X5_clear h.1, ⟨h, ?_, cI_I1 _ _ _ _, okr_nil, fun k hk => absurd hk (Nat.not_lt_zero _)⟩, ((Fp.rf W).sI (Or.inl ⟨rfl, Or.inl rfl, rfl⟩)).sI (Or.inl ⟨rfl, Or.inr rfl, rfl⟩), rfl, rfl⟩
  rw [cI_I2 _ _ (Or.inl (by decide)), cI_I1]
  rfl
def anyO (r : List Int) : Bool := r.any (fun x => decide (x ≠ 0))
theorem X5_hasOther_ (h : RowV C a r) : fX5_hasOtherThanZero a C = some (if anyO r = true then 1 else 0, C) := by
  have hl := h.2.2.2.1.1
  unfold fX5_hasOtherThanZero
  rw [bnd_eq]
  have key := lpn_rule (z := fun (_ : Int) (_ : Cd) => (none : Option (Int × Cd))) (body := fun L2 (v1_2 : Int) (C_2 : Cd) =>
if isO C_2 a 8 then
if w32 (cI C_2 801 a) ≤ w32 v1_2 then
some (0, C_2)
else
if isO C_2 a 8 then cal (fX5_at a v1_2 C_2) fun (r2 : Int) (C1 : Cd) =>
if w32 r2 = 0 then
L2 (v1_2 + 1) C1
else
some (1, C1)
else none
else none) (P := fun mm (L : Int → Cd → Option (Int × Cd)) => ∀ k : Nat, k ≤ r.length → r.length - k < mm → L (k : Int) C = some (if anyO (r.drop k) = true then 1 else 0, C)) (fun k _ h => absurd h (Nat.not_lt_zero _)) (fun mm L hL k hk hm => ?_) FU 0 (Nat.zero_le _) (by unfold FU; omega)
  · exact key
  · dsimp only
    rw [if_pos h.ob, h.2.1]
    rcases Nat.lt_or_ge k r.length with hlt | hge
    · have hx := h.2.2.2.1.2 _ (getD_mem hlt)
      have ed : r.drop k = r.getD k 0 :: r.drop (k + 1) := by
        rw [List.drop_eq_getElem_cons hlt, List.getD_eq_getElem?_getD, List.getElem?_eq_getElem hlt]
        rfl
      rw [if_neg (by rw [w32_n (by omega), w32_n (by omega)]; omega), if_pos h.ob, cal_of (X5_at_ h hlt), ed, w32_of (by omega) (by omega)]
      by_cases c : r.getD k 0 = 0
      · rw [if_pos c]
        have e2 : anyO (r.getD k 0 :: r.drop (k + 1)) = anyO (r.drop (k + 1)) := by
          show (decide (r.getD k 0 ≠ 0) || anyO (r.drop (k + 1))) = _
          rw [decide_eq_false (fun z => z c), Bool.false_or]
        rw [e2]
        exact hL (k + 1) hlt (by omega)
      · rw [if_neg c]
        have e2 : anyO (r.getD k 0 :: r.drop (k + 1)) = true := by
          show (decide (r.getD k 0 ≠ 0) || anyO (r.drop (k + 1))) = _
          rw [decide_eq_true c, Bool.true_or]
        rw [e2, ite_tt]
    · have e : k = r.length := by omega
      subst e
      rw [if_pos (Int.le_refl _), List.drop_length]
      rfl
theorem ext_getD {r q : List Int} (hl : r.length = q.length) (h : ∀ k, k < r.length → r.getD k 0 = q.getD k 0) : r = q := by
  apply List.ext_getElem hl
  intro k h1 h2
  have e := h k h1
  rw [List.getD_eq_getElem?_getD, List.getD_eq_getElem?_getD, List.getElem?_eq_getElem h1, List.getElem?_eq_getElem h2] at e
  exact e
theorem X5_sameAs_ (h : RowV C a r) (hq : RowV C o q) : fX5_sameAs a (some o) C = some (if r = q then 1 else 0, C) := by
  have hl := h.2.2.2.1.1
  have hl2 := hq.2.2.2.1.1
  unfold fX5_sameAs
  rw [drf_some, if_pos hq.ob, if_pos h.ob, h.2.1, hq.2.1, w32_n (by omega), w32_n (by omega)]
  by_cases c : q.length = r.length
  · rw [if_pos (by omega), bnd_eq]
    have key := lpn_rule (z := fun (_ : Int) (_ : Cd) => (none : Option (Int × Cd))) (body := fun L15 (v2_15 : Int) (C_15 : Cd) =>
if isO C_15 a 8 then
if w32 (cI C_15 801 a) ≤ w32 v2_15 then
some (1, C_15)
else
if isO C_15 a 8 then cal (fX5_at a v2_15 C_15) fun (r3 : Int) (C2 : Cd) =>
if isO C2 o 8 then cal (fX5_at o v2_15 C2) fun (r5 : Int) (C4 : Cd) =>
if w32 r3 = w32 r5 then
L15 (v2_15 + 1) C4
else
some (0, C4)
else none
else none
else none) (P := fun mm (L : Int → Cd → Option (Int × Cd)) => ∀ k : Nat, k ≤ r.length → r.length - k < mm → (∀ j, j < k → r.getD j 0 = q.getD j 0) → L (k : Int) C = some (if r = q then 1 else 0, C)) (fun k _ h => absurd h (Nat.not_lt_zero _)) (fun mm L hL k hk hm hpre => ?_) FU 0 (Nat.zero_le _) (by unfold FU; omega) (fun j hj => absurd hj (Nat.not_lt_zero _))
    · exact key
    · dsimp only
      rw [if_pos h.ob, h.2.1]
      rcases Nat.lt_or_ge k r.length with hlt | hge
      · have hx := h.2.2.2.1.2 _ (getD_mem hlt)
        have hy := hq.2.2.2.1.2 _ (getD_mem (show k < q.length by omega))
        rw [if_neg (by rw [w32_n (by omega), w32_n (by omega)]; omega), if_pos h.ob, cal_of (X5_at_ h hlt), if_pos hq.ob, cal_of (X5_at_ hq (by omega)), w32_of (by omega) (by omega), w32_of (by omega) (by omega)]
        by_cases c2 : r.getD k 0 = q.getD k 0
        · rw [if_pos c2]
          exact hL (k + 1) hlt (by omega) (fun j hj => by
            rcases Nat.lt_or_ge j k with z | z
            · exact hpre j z
            · have e : j = k := by omega
              rw [e]; exact c2)
        · rw [if_neg c2, if_neg (fun z => c2 (by rw [z]))]
      · have e : k = r.length := by omega
        subst e
        rw [if_pos (Int.le_refl _), if_pos (ext_getD c.symm hpre)]
  · rw [if_neg (by omega), if_neg (fun z => c (by rw [z]))]
end LR
