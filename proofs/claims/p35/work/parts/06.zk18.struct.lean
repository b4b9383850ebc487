/-! HOW A TEXT IS NESTED -/
/-- what is open ahead of a place, the innermost first -/
def stk (g : Nat → Int) : Nat → List Int
  | 0 => []
  | i + 1 => aft (g i / 1000) (stk g i)
theorem stk_succ (g : Nat → Int) (i : Nat) : stk g (i + 1) = aft (g i / 1000) (stk g i) := rfl
/-- a text, place by place -/
def TxOK (g : Nat → Int) (n : Nat) : Prop := (1 ≤ n ∧ n ≤ 30) ∧ stk g n = [] ∧ ∀ j, j < n → fitB n (g j / 1000) ((stk g j).headD (-1)) (decide (0 < j) && opB (g (j - 1) / 1000)) = true
theorem chk_ok {g : Nat → Int} {n : Nat} : ∀ m i, i + m = n → chk g n i (stk g i) m = true → stk g n = [] ∧ ∀ j, i ≤ j → j < n → fitB n (g j / 1000) ((stk g j).headD (-1)) (decide (0 < j) && opB (g (j - 1) / 1000)) = true := by
  intro m
  induction m with
  | zero =>
    intro i hi h
    rw [Nat.add_zero] at hi
    subst hi
    exact ⟨List.isEmpty_iff.mp h, fun j a b => by omega⟩
  | succ m ih =>
    intro i hi h
    unfold chk at h
    rw [Bool.and_eq_true] at h
    obtain ⟨h1, h2⟩ := ih (i + 1) (by omega) h.2
    refine ⟨h1, fun j a b => ?_⟩
    rcases Nat.lt_or_ge i j with z | z
    · exact h2 j z b
    · have e : j = i := by omega
      subst e
      exact h.1
theorem isTx_ok {g : Nat → Int} {n : Nat} (h : isTx g n = true) : TxOK g n := by
  unfold isTx at h
  rw [Bool.and_eq_true, decide_eq_true_iff] at h
  obtain ⟨h1, h2⟩ := chk_ok n 0 (Nat.zero_add _) h.2
  exact ⟨h.1, h1, fun j hj => h2 j (Nat.zero_le _) hj⟩
theorem aft_op {k : Int} (h : opB k = true) (st : List Int) : aft k st = k :: st := by unfold aft; rw [if_pos h]
theorem aft_cl (st : List Int) : aft 7 st = st.tail := rfl
theorem aft_no {k : Int} (h : ¬ opB k = true) (h7 : ¬ k = 7) (st : List Int) : aft k st = st := by unfold aft; rw [if_neg h, if_neg h7]
theorem dlt_op {k : Int} (h : opB k = true) : dlt k = 1 := by unfold dlt; rw [if_pos h]
theorem dlt_cl : dlt 7 = -1 := rfl
theorem dlt_no {k : Int} (h : ¬ opB k = true) (h7 : ¬ k = 7) : dlt k = 0 := by unfold dlt; rw [if_neg h, if_neg h7]
theorem fit_cl {n : Nat} {a : Int} {b : Bool} (h : fitB n 7 a b = true) : a ≠ -1 := by
  intro e
  subst e
  exact absurd (show false = true from h) Bool.false_ne_true
/-- the search for an end, in a text -/
theorem fEg_stk {g : Nat → Int} {n : Nat} (h : TxOK g n) (part : Bool) (base : List Int) (hb : base ≠ []) : ∀ m i pre, i + m = n → stk g i = pre ++ base →
    fEg g part (pre.length : Int) i m < n ∧ stk g (fEg g part (pre.length : Int) i m) = base ∧ (g (fEg g part (pre.length : Int) i m) / 1000 = 7 ∨ part = true ∧ mkB (g (fEg g part (pre.length : Int) i m) / 1000) = true) ∧
    ∀ j, i ≤ j → j < fEg g part (pre.length : Int) i m → ∃ q, stk g j = q ++ base ∧ (q = [] → ¬ (g j / 1000 = 7 ∨ part = true ∧ mkB (g j / 1000) = true)) := by
  intro m
  induction m with
  | zero =>
    intro i pre hi hs
    rw [Nat.add_zero] at hi
    subst hi
    rw [h.2.1] at hs
    have := congrArg List.length hs
    rw [List.length_append] at this
    have h2 : 0 < base.length := List.length_pos_iff.mpr hb
    simp at this
    omega
  | succ m ih =>
    intro i pre hi hs
    by_cases c : (pre.length : Int) = 0 ∧ (g i / 1000 = 7 ∨ part = true ∧ mkB (g i / 1000) = true)
    · have e : fEg g part (pre.length : Int) i (m + 1) = i := by rw [fEg, if_pos c]
      have ep : pre = [] := List.length_eq_zero_iff.mp (by omega)
      rw [e]
      refine ⟨by omega, by rw [hs, ep]; rfl, c.2, fun j a b => by omega⟩
    · have e : fEg g part (pre.length : Int) i (m + 1) = fEg g part ((pre.length : Int) + dlt (g i / 1000)) (i + 1) m := by rw [fEg, if_neg c]
      rw [e]
      have fit := h.2.2 i (by omega)
      have hs1 := stk_succ g i
      have key : ∀ pre' : List Int, (pre'.length : Int) = (pre.length : Int) + dlt (g i / 1000) → stk g (i + 1) = pre' ++ base →
        fEg g part ((pre.length : Int) + dlt (g i / 1000)) (i + 1) m < n ∧ stk g (fEg g part ((pre.length : Int) + dlt (g i / 1000)) (i + 1) m) = base ∧ (g (fEg g part ((pre.length : Int) + dlt (g i / 1000)) (i + 1) m) / 1000 = 7 ∨ part = true ∧ mkB (g (fEg g part ((pre.length : Int) + dlt (g i / 1000)) (i + 1) m) / 1000) = true) ∧
          ∀ j, i ≤ j → j < fEg g part ((pre.length : Int) + dlt (g i / 1000)) (i + 1) m → ∃ q, stk g j = q ++ base ∧ (q = [] → ¬ (g j / 1000 = 7 ∨ part = true ∧ mkB (g j / 1000) = true)) := by
        intro pre' hl hst
        obtain ⟨a1, a2, a3, a4⟩ := ih (i + 1) pre' (by omega) hst
        rw [hl] at a1 a2 a3 a4
        refine ⟨a1, a2, a3, fun j b1 b2 => ?_⟩
        rcases Nat.lt_or_ge i j with z | z
        · exact a4 j z b2
        · have e : j = i := by omega
          subst e
          exact ⟨pre, hs, fun q r => c ⟨by rw [q]; rfl, r⟩⟩
      by_cases q : opB (g i / 1000) = true
      · refine key (g i / 1000 :: pre) ?_ ?_
        · rw [dlt_op q]
          show ((pre.length + 1 : Nat) : Int) = _
          omega
        · rw [hs1, aft_op q, hs]; rfl
      · by_cases q7 : g i / 1000 = 7
        · cases pre with
          | nil => exact absurd ⟨rfl, Or.inl q7⟩ c
          | cons x pre =>
            refine key pre ?_ ?_
            · rw [q7, dlt_cl]
              show (pre.length : Int) = ((pre.length + 1 : Nat) : Int) + -1
              omega
            · rw [hs1, q7, aft_cl, hs]; rfl
        · refine key pre ?_ ?_
          · rw [dlt_no q q7, Int.add_zero]
          · rw [hs1, aft_no q q7, hs]
theorem opB_mk {k : Int} (h : opB k = true) : mkB k = false := by
  rcases opB_cases h with e | e | e | e | e | e <;> subst e <;> rfl
/-- an opener's end -/
theorem cl_op {g : Nat → Int} {n p : Nat} (h : TxOK g n) (hp : p < n) (ho : opB (g p / 1000) = true) :
    p < fE g n p ∧ fE g n p < n ∧ g (fE g n p) / 1000 = 7 ∧ stk g (fE g n p) = g p / 1000 :: stk g p ∧ stk g (fE g n p + 1) = stk g p ∧ ∀ j, p < j → j < fE g n p → ∃ q, stk g j = q ++ (g p / 1000 :: stk g p) ∧ (q = [] → ¬ g j / 1000 = 7) := by
  have e := fEg_stk h false (g p / 1000 :: stk g p) (by simp) (n - (p + 1)) (p + 1) [] (by omega) (by rw [stk_succ, aft_op ho]; rfl)
  have e2 : fE g n p = fEg g false (([] : List Int).length : Int) (p + 1) (n - (p + 1)) := by unfold fE; rw [opB_mk ho]; rfl
  rw [← e2] at e
  obtain ⟨a1, a2, a3, a4⟩ := e
  have a5 : g (fE g n p) / 1000 = 7 := a3.elim id (fun z => absurd z.1 Bool.false_ne_true)
  refine ⟨fE_gt g n p, a1, a5, a2, ?_, fun j b1 b2 => ?_⟩
  · rw [stk_succ, a5, aft_cl, a2]; rfl
  · obtain ⟨q, q1, q2⟩ := a4 j b1 b2
    exact ⟨q, q1, fun z r => q2 z (Or.inl r)⟩
theorem mkB_cases {k : Int} (h : mkB k = true) : k = 5 ∨ k = 6 := of_decide_eq_true h
theorem mk_op {k : Int} (h : mkB k = true) : ¬ opB k = true := by
  rcases mkB_cases h with e | e <;> subst e <;> decide
/-- a mark stands in a CALL or a FUNC -/
theorem mk_in {g : Nat → Int} {n p : Nat} (h : TxOK g n) (hp : p < n) (hm : mkB (g p / 1000) = true) : ∃ r, stk g p = 2 :: r ∨ stk g p = 4 :: r := by
  have fit := h.2.2 p hp
  generalize (decide (0 < p) && opB (g (p - 1) / 1000)) = bb at fit
  cases hs : stk g p with
  | nil =>
    rw [hs] at fit
    rcases mkB_cases hm with e | e <;> rw [e] at fit
    · exact absurd (show false = true from fit) Bool.false_ne_true
    · exact absurd (show false = true from fit) Bool.false_ne_true
  | cons x r =>
    rw [hs] at fit
    have fit2 : fitB n (g p / 1000) x bb = true := fit
    have : x = 2 ∨ x = 4 := by
      unfold fitB at fit2
      rcases mkB_cases hm with e | e <;> rw [e] at fit2
      · by_cases c : x = 10
        · subst c; exact absurd (show false = true from fit2) Bool.false_ne_true
        · rw [if_neg c, if_pos rfl] at fit2
          exact of_decide_eq_true fit2
      · by_cases c : x = 10
        · subst c; exact absurd (show false = true from fit2) Bool.false_ne_true
        · rw [if_neg c, if_neg (by decide), if_pos rfl] at fit2
          exact Or.inl (of_decide_eq_true fit2)
    rcases this with e | e
    · exact ⟨r, Or.inl (by rw [e])⟩
    · exact ⟨r, Or.inr (by rw [e])⟩
/-- a part's end -/
theorem cl_mk {g : Nat → Int} {n p : Nat} (h : TxOK g n) (hp : p < n) (hm : mkB (g p / 1000) = true) :
    p < fE g n p ∧ fE g n p < n ∧ (g (fE g n p) / 1000 = 7 ∨ mkB (g (fE g n p) / 1000) = true) ∧ stk g (fE g n p) = stk g p ∧ ∀ j, p < j → j < fE g n p → ∃ q, stk g j = q ++ stk g p ∧ (q = [] → ¬ (g j / 1000 = 7 ∨ mkB (g j / 1000) = true)) := by
  have h7 : ¬ g p / 1000 = 7 := by rcases mkB_cases hm with e | e <;> omega
  obtain ⟨r, hr⟩ := mk_in h hp hm
  have e := fEg_stk h true (stk g p) (by rcases hr with z | z <;> rw [z] <;> simp) (n - (p + 1)) (p + 1) [] (by omega) (by rw [stk_succ, aft_no (mk_op hm) h7]; rfl)
  have e2 : fE g n p = fEg g true (([] : List Int).length : Int) (p + 1) (n - (p + 1)) := by unfold fE; rw [hm]; rfl
  rw [← e2] at e
  obtain ⟨a1, a2, a3, a4⟩ := e
  refine ⟨fE_gt g n p, a1, a3.elim Or.inl (fun z => Or.inr z.2), a2, fun j b1 b2 => ?_⟩
  obtain ⟨q, q1, q2⟩ := a4 j b1 b2
  exact ⟨q, q1, fun z r => q2 z (r.elim Or.inl (fun y => Or.inr ⟨rfl, y⟩))⟩
/-- behind a CALL or a FUNC stands a mark, or its end -/
theorem first_mk {g : Nat → Int} {n p : Nat} (h : TxOK g n) (hp : p < n) (ho : g p / 1000 = 2 ∨ g p / 1000 = 4) : g (p + 1) / 1000 = 7 ∨ mkB (g (p + 1) / 1000) = true := by
  have hop : opB (g p / 1000) = true := by rcases ho with e | e <;> rw [e] <;> rfl
  have hc := cl_op h hp hop
  have hn : p + 1 < n := by omega
  have fit := h.2.2 (p + 1) hn
  rw [stk_succ, aft_op hop, Nat.add_sub_cancel, hop, decide_eq_true (Nat.succ_pos p), Bool.true_and] at fit
  have fit2 : fitB n (g (p + 1) / 1000) (g p / 1000) true = true := fit
  by_cases c7 : g (p + 1) / 1000 = 7
  · exact Or.inl c7
  · by_cases cm : mkB (g (p + 1) / 1000) = true
    · exact Or.inr cm
    · exfalso
      have c5 : ¬ g (p + 1) / 1000 = 5 := fun e => cm (by rw [e]; rfl)
      have c6 : ¬ g (p + 1) / 1000 = 6 := fun e => cm (by rw [e]; rfl)
      have n1 : ¬ n = 1 := by omega
      unfold fitB at fit2
      rcases ho with e | e <;> rw [e, if_neg (by decide), if_neg c5, if_neg c6, if_neg c7] at fit2
      · by_cases c13 : g (p + 1) / 1000 = 13
        · rw [if_pos c13] at fit2; exact absurd fit2 (by decide)
        · by_cases c12 : g (p + 1) / 1000 = 12
          · rw [if_neg c13, if_pos c12] at fit2; exact n1 (of_decide_eq_true fit2)
          · rw [if_neg c13, if_neg c12] at fit2; exact absurd fit2 (by decide)
      · by_cases c13 : g (p + 1) / 1000 = 13
        · rw [if_pos c13] at fit2; exact absurd fit2 (by decide)
        · by_cases c12 : g (p + 1) / 1000 = 12
          · rw [if_neg c13, if_pos c12] at fit2; exact n1 (of_decide_eq_true fit2)
          · rw [if_neg c13, if_neg c12] at fit2; exact absurd fit2 (by decide)
/-- the end of a part is the end of its CALL or FUNC, or the next mark there -/
theorem part_end {g : Nat → Int} {n c p : Nat} (h : TxOK g n) (hc : c < n) (ho : opB (g c / 1000) = true) (hcp : c < p) (hpc : p < fE g n c) (hm : mkB (g p / 1000) = true) (hs : stk g p = g c / 1000 :: stk g c) :
    fE g n p ≤ fE g n c ∧ (fE g n p < fE g n c → mkB (g (fE g n p) / 1000) = true) ∧ stk g (fE g n p) = g c / 1000 :: stk g c := by
  obtain ⟨a1, a2, a3, a4, a5, a6⟩ := cl_op h hc ho
  obtain ⟨b1, b2, b3, b4, b5⟩ := cl_mk h (by omega) hm
  have e1 : stk g (fE g n p) = g c / 1000 :: stk g c := b4.trans hs
  have e2 : fE g n p ≤ fE g n c := by
    rcases Nat.lt_or_ge (fE g n c) (fE g n p) with z | z
    · exfalso
      obtain ⟨q, q1, q2⟩ := b5 (fE g n c) hpc z
      rw [a4, hs] at q1
      have ql := congrArg List.length q1
      rw [List.length_append] at ql
      have : q = [] := List.length_eq_zero_iff.mp (by omega)
      exact q2 this (Or.inl a3)
    · exact z
  refine ⟨e2, fun z => ?_, e1⟩
  rcases b3 with y | y
  · exfalso
    obtain ⟨q, q1, q2⟩ := a6 (fE g n p) (by omega) z
    rw [e1] at q1
    have ql := congrArg List.length q1
    rw [List.length_append] at ql
    have : q = [] := List.length_eq_zero_iff.mp (by omega)
    exact q2 this y
  · exact y
